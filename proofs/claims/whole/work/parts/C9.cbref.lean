/-! ===== the reference reads conditions: faults ===== -/
def MDs (T : Int → Int) (e : Int) (Q : Int → Me → Prop) : Option (Int × Int) → Int → Int → Int → Int → Prop
  | none, o, p, n, f => 1 ≤ o → o ≤ 6 → 0 ≤ n → n ≤ p → p ≤ e → ∀ (W : List Int) (M : Me), (W.length : Int) ≤ p → 6 < hdW W → RS T e p o n W M → cdW n M → (∀ M', FRr M M' → M' 76 16 = f → Q 0 M') → G40 Q M
  | some _, o, p, n, f => 1 ≤ o → o ≤ 6 → 0 ≤ n → n ≤ p → p ≤ e → ∀ (A B W : List Int) (M : Me), jW 11 n A → jW 12 n B → (A.length : Int) + B.length + W.length + 1 ≤ p → RS T e p o n (A ++ (B ++ (1048576 * 13 :: W))) M → cdW n M → (∀ M', FRr M M' → M' 76 16 = f → Q 0 M') → G40 Q M
theorem jW.len {op n : Int} {A : List Int} (h : jW op n A) : A.length ≤ 1 := by
  rcases h with h | ⟨i, h, -⟩ <;> rw [h] <;> simp
theorem jW.mono {op n n1 : Int} {A : List Int} (h : jW op n A) (hn : n ≤ n1) : jW op n1 A := by
  rcases h with h | ⟨i, h, i0, i1⟩
  · exact Or.inl h
  · exact Or.inr ⟨i, h, i0, by omega⟩
theorem hd_W2 {n : Int} {B W : List Int} (hn : n ≤ 250) (hB : jW 12 n B) : hdW (B ++ (1048576 * 13 :: W)) = 12 ∨ hdW (B ++ (1048576 * 13 :: W)) = 13 := by
  rcases hB with h | ⟨i, h, i0, i1⟩
  · rw [h]; exact Or.inr rfl
  · rw [h]
    have : hdW ([1048576 * 12 + i] ++ (1048576 * 13 :: W)) = (1048576 * 12 + i) / 1048576 := rfl
    rw [this]; omega
theorem hd_W {n : Int} {A B W : List Int} (hn : n ≤ 250) (hA : jW 11 n A) (hB : jW 12 n B) : 11 ≤ hdW (A ++ (B ++ (1048576 * 13 :: W))) ∧ hdW (A ++ (B ++ (1048576 * 13 :: W))) ≤ 13 := by
  rcases hA with h | ⟨i, h, i0, i1⟩
  · rw [h]
    have := hd_W2 (W := W) hn hB
    simp only [List.nil_append]; omega
  · rw [h]
    have : hdW ([1048576 * 11 + i] ++ (B ++ (1048576 * 13 :: W))) = (1048576 * 11 + i) / 1048576 := rfl
    rw [this]; omega
theorem CO.new (L M : Me) (n : Int) (W : List Int) : CO L n n W M := fun i x y => by omega
theorem CO.cdW {L M M' : Me} {n n1 : Int} {W : List Int} (h : CO L n n1 W M') (x : Fx n M M') (hc : cdW n M) (ok : ∀ i, n ≤ i → i < n1 → (0 ≤ L 5 i ∧ L 5 i ≤ 12) ∧ 0 ≤ L 6 i ∧ L 6 i < 1048576) : cdW n1 M' := fun i i0 i1 => by
  by_cases q : i < n
  · rw [x.2 i q]; exact hc i i0 q
  · have k := ok i (by omega) i1
    rcases h i (by omega) i1 with ⟨V, e1, e2⟩ | ⟨-, -, -, e1⟩
    · rcases e2 with e2 | ⟨-, -, e2, e3, -⟩ <;> omega
    · omega
theorem cdW.same {M M' : Me} {n : Int} (h : cdW n M) (g : ∀ i, M' 89 i = M 89 i) : cdW n M' := fun i a b => by rw [g i]; exact h i a b
theorem w_jumps {T : Int → Int} {e p o n op : Int} {W : List Int} {M : Me} {Q : Int → Me → Prop} (h : RS T e p o n W M) (hc : cdW n M) (hl : W.length < 250) (hop : op = 11 ∨ op = 12) (n0 : 0 ≤ n) (n1 : n < 250) (hp : 0 ≤ p ∧ p ≤ 260)
    (hQ : ∀ M', RS T e (p + 1) o (n + 1) ((1048576 * op + n) :: W) M' → cdW (n + 1) M' → FRr M M' → Q 0 M') : Calls 1 mX12_jumps [.inr 76, .inl op] M Q :=
  q_jumps (L := fun _ _ => op) (a := n) ⟨h, CO.new _ M n W⟩ hl hop n0 (Int.le_refl _) n1 hp rfl (fun M' c x => hQ M' c.1 (c.2.cdW x hc (fun i _ _ => ⟨⟨by omega, by omega⟩, by omega, by omega⟩)) x.1)
theorem Cb.ref {T : Int → Int} {e : Int} {Q : Int → Me → Prop} (hS : Sg (Sx T e) e) (he : e ≤ 240) {k : Option (Int × Int)} {o p n f : Int} (h : Cb (Sx T e) k o p n f) : MDs T e Q k o p n f := by
  have e0 : pk (some (0, 0)) = 0 := by decide
  refine Cb.ind (P := fun k o p n f => MDs T e Q k o p n f) ?_ ?_ ?_ ?_ ?_ ?_ ?_ ?_ ?_ ?_ h
  · intro o p n h1 h2
    simp only [MDs]
    intro o1 o6 n0 np pe W M hW hd r hc hQ
    have p0 : 0 ≤ p := by omega
    refine s_X12_readsCondition_40 M (q_hereS r p0 ⟨fun _ => ?_, fun z => absurd h1 z⟩)
    exact s_X12_readsCondition_58 M (q_hereS r p0 ⟨fun z => absurd h1 z, fun _ => q_opens r (by omega) (by omega) (by omega) (by omega) (fun z => by exfalso; omega) (fun _ => ⟨fun z => absurd rfl z, fun _ => hQ _ (FRr.p76 M _ (by omega)) (mput_same ..)⟩)⟩)
  · intro o p n f h1 h2 h3 ih
    simp only [MDs] at ih ⊢
    intro o1 o6 n0 np pe W M hW hd r hc hQ
    have p0 : 0 ≤ p := by omega
    have hp := hS.2 p (by omega)
    refine s_X12_readsCondition_40 M (q_hereS r p0 ⟨fun _ => ?_, fun z => absurd h1 z⟩)
    refine s_X12_readsCondition_58 M (q_hereS r p0 ⟨fun z => absurd h1 z, fun _ => q_opens r (by omega) (by omega) (by omega) (by omega) (fun _ M1 r1 f1 g1 => ⟨fun _ => ?_, fun z => by exfalso; omega⟩) (fun z => by exfalso; omega)⟩)
    exact ih (by omega) (by omega) n0 (by omega) (by omega) (1048576 * 10 :: W) M1 (by simp only [List.length_cons]; omega) (by show (6 : Int) < 1048576 * 10 / 1048576; omega) r1 (hc.same g1) (fun M' f' g' => hQ M' (f1.tr f') g')
  · intro o p n h1 h2
    simp only [MDs]
    intro o1 o6 n0 np pe W M hW hd r hc hQ
    have p0 : 0 ≤ p := by omega
    have m58 : Go (km 6 mX12_readsCondition Q) 58 [some (.inr 76)] [] M := s_X12_readsCondition_58 M (q_hereS r p0 ⟨fun _ => q_opens r (by omega) (by omega) (by omega) (by omega) (fun z => by exfalso; omega) (fun _ => ⟨fun z => absurd rfl z, fun _ => hQ _ (FRr.p76 M _ (by omega)) (mput_same ..)⟩), fun z => by exfalso; omega⟩)
    exact s_X12_readsCondition_40 M (q_hereS r p0 ⟨fun _ => m58, fun _ => q_hereS r p0 ⟨fun z => absurd h1 z, fun _ => m58⟩⟩)
  · intro o p n f h1 h2 h3 ih
    simp only [MDs] at ih ⊢
    intro o1 o6 n0 np pe W M hW hd r hc hQ
    have p0 : 0 ≤ p := by omega
    have hp := hS.2 p (by omega)
    have m58 : Go (km 6 mX12_readsCondition Q) 58 [some (.inr 76)] [] M := by
      refine s_X12_readsCondition_58 M (q_hereS r p0 ⟨fun _ => q_opens r (by omega) (by omega) (by omega) (by omega) (fun _ M1 r1 f1 g1 => ⟨fun _ => ?_, fun z => by exfalso; omega⟩) (fun z => by exfalso; omega), fun z => by exfalso; omega⟩)
      exact ih (by omega) (by omega) n0 (by omega) (by omega) [] [] W M1 (Or.inl rfl) (Or.inl rfl) (by simp only [List.length_nil]; omega) r1 (hc.same g1) (fun M' f' g' => hQ M' (f1.tr f') g')
    exact s_X12_readsCondition_40 M (q_hereS r p0 ⟨fun _ => m58, fun _ => q_hereS r p0 ⟨fun z => absurd h1 z, fun _ => m58⟩⟩)
  · intro L o p n p1 n1 tP tW h1 h2 h3 h4
    simp only [MDs]
    intro o1 o6 n0 np pe W M hW hd r hc hQ
    have p0 : 0 ≤ p := by omega
    have hp := hS.2 p (by omega)
    have l3 := h3.le hS
    have ih := Cz.ref (Q := Q) (a := n) hS he n0 h3
    simp only [MCs] at ih
    have m58 : Go (km 6 mX12_readsCondition Q) 58 [some (.inr 76)] [] M := by
      refine s_X12_readsCondition_58 M (q_hereS r p0 ⟨fun _ => q_opens r (by omega) (by omega) (by omega) (by omega) (fun _ M1 r1 f1 g1 => ⟨fun _ => ?_, fun z => by exfalso; omega⟩) (fun z => by exfalso; omega), fun z => by exfalso; omega⟩)
      refine ih (by omega) (by omega) (Int.le_refl _) (by omega) [] [] W M1 (Or.inl rfl) (Or.inl rfl) (by simp only [List.length_nil]; omega) ⟨r1, CO.new _ M1 n _⟩ (fun M2 A B hA hB hl c2 x2 a1 a2 => ?_)
      have p10 : 0 ≤ p1 := by omega
      refine s_X12_readsCondition_92 M2 (q_hereS c2.1 p10 ⟨fun _ => q_hereS c2.1 p10 ⟨fun z => absurd z a1, fun _ => q_hereS c2.1 p10 ⟨fun z => absurd z a2, fun _ => ?_⟩⟩, fun z => absurd z h4⟩)
      rw [c2.1.2.1]
      exact q_wrong (by omega) (by omega) ⟨Or.inl rfl, hQ _ ((f1.tr x2.1).tr (FRr.p76 M2 _ (by omega))) (mput_same ..)⟩
    exact s_X12_readsCondition_40 M (q_hereS r p0 ⟨fun _ => m58, fun _ => q_hereS r p0 ⟨fun z => absurd h1 z, fun _ => m58⟩⟩)
  · intro o p n f h1 h2 h3
    simp only [MDs]
    intro o1 o6 n0 np pe W M hW hd r hc hQ
    have p0 : 0 ≤ p := by omega
    refine s_X12_readsCondition_40 M (q_hereS r p0 ⟨fun z => absurd z h1, fun _ => q_hereS r p0 ⟨fun _ => ?_, fun z => absurd z h2⟩⟩)
    exact e_X12_readsCompared (q_sumB hS he h3 (by omega) o6 n0 np pe hW (by omega) r (fun M1 f1 g1 => ⟨fun z => absurd rfl z, fun _ => ⟨fun z => absurd rfl z, fun _ => hQ M1 f1 g1⟩⟩))
  · intro L o p n p1 n1 h1 h2 h3 h4
    simp only [MDs]
    intro o1 o6 n0 np pe W M hW hd r hc hQ
    have p0 : 0 ≤ p := by omega
    have l3 := h3.le hS
    refine s_X12_readsCondition_40 M (q_hereS r p0 ⟨fun z => absurd z h1, fun _ => q_hereS r p0 ⟨fun _ => ?_, fun z => absurd z h2⟩⟩)
    refine e_X12_readsCompared (q_sum hS he h3 (by omega) o6 n0 np hW (by omega) r (fun M1 r1 x1 => ⟨fun _ => ?_, fun z => by exfalso; omega⟩))
    have p10 : 0 ≤ p1 := by omega
    refine q_hereS r1 p10 ⟨fun _ => q_hereS r1 p10 ⟨fun _ => q_hereS r1 p10 ⟨fun _ => ?_, fun z => by exfalso; omega⟩, fun z => by exfalso; omega⟩, fun z => by exfalso; omega⟩
    refine s_X12_readsCompared_53 _ M1 ⟨fun z => absurd rfl z, fun _ => ?_⟩
    rw [r1.2.1]
    exact q_wrong (by omega) (by omega) ⟨Or.inl rfl, fun z => absurd rfl z, fun _ => hQ _ (x1.1.tr (FRr.p76 M1 _ (by omega))) (mput_same ..)⟩
  · intro L o p n p1 n1 f h1 h2 h3 h4 h5
    simp only [MDs]
    intro o1 o6 n0 np pe W M hW hd r hc hQ
    have p0 : 0 ≤ p := by omega
    have l3 := h3.le hS
    have hp1 := hS.2 p1 (by omega)
    have ho := opc_C h4
    refine s_X12_readsCondition_40 M (q_hereS r p0 ⟨fun z => absurd z h1, fun _ => q_hereS r p0 ⟨fun _ => ?_, fun z => absurd z h2⟩⟩)
    refine e_X12_readsCompared (q_sum hS he h3 (by omega) o6 n0 np hW (by omega) r (fun M1 r1 x1 => ⟨fun _ => ?_, fun z => by exfalso; omega⟩))
    have p10 : 0 ≤ p1 := by omega
    have m53 : ∀ x : Int, x ≠ -1 → Go (km 5 mX12_readsCompared (fun r84 M84 => ((r84 ≠ 0 → Go (km 6 mX12_readsCondition Q) 92 [some (.inr 76)] [] M84) ∧ (r84 = 0 → Q 0 M84)))) 53 [some (.inr 76), some (.inl x)] [] M1 := fun x hx => by
      refine s_X12_readsCompared_53 _ M1 ⟨fun _ => ?_, fun z => absurd z hx⟩
      refine s_X12_readsCompared_68 _ M1 ?_
      rw [r1.2.1]
      have hf := FRr.p76 M1 (j := 14) (p1 + 1) (by omega)
      have r2 : RS T e (p1 + 1) o n1 W (mput M1 76 14 (p1 + 1)) := by
        obtain ⟨y0, y1, y2, y3, y4, y5, y6⟩ := r1
        refine RS.mv (W := W) ⟨y0, y1, y2, y3, y4, y5, y6⟩ hf (mput_same ..) ?_ ?_ ?_ y5 (stO_congr W (fun j _ _ => mput_ne _ _ _ _ (by decide)) y6)
        · rw [mput_ni _ _ _ _ (by decide)]; exact y2
        · rw [mput_ni _ _ _ _ (by decide)]; exact y3
        · rw [mput_ni _ _ _ _ (by decide)]; exact y4
      exact ⟨by unfold cn; omega, q_sumB hS he h5 (by omega) o6 (by omega) (by omega) (by omega) (by omega) (by omega) r2 (fun M2 f2 g2 => ⟨fun z => absurd rfl z, fun _ => ⟨fun z => absurd rfl z, fun _ => hQ M2 ((x1.1.tr hf).tr f2) g2⟩⟩)⟩
    exact q_hereS r1 p10 ⟨fun _ => q_hereS r1 p10 ⟨fun _ => q_hereS r1 p10 ⟨fun _ => by exfalso; omega, fun _ => m53 9 (by decide)⟩, fun _ => m53 8 (by decide)⟩, fun _ => m53 7 (by decide)⟩
  · intro o p n f h1 ih
    simp only [MDs] at ih ⊢
    intro o1 o6 n0 np pe A B W M hA hB hl r hc hQ
    have hh := hd_W (W := W) (show n ≤ 250 by omega) hA hB
    exact ih o1 o6 n0 np pe _ M (by simp only [List.length_append, List.length_cons]; omega) (by omega) r hc hQ
  · intro L o p n p1 n1 f h1 h2 h3 ih2
    simp only [MDs] at ih2 ⊢
    intro o1 o6 n0 np pe A B W M hA hB hl r hc hQ
    have l1 := h1.le hS
    have hp1 := hS.2 p1 (by omega)
    have hh := hd_W (W := W) (show n ≤ 250 by omega) hA hB
    have lA := hA.len; have lB := hB.len
    have ih1 := Cz.ref (Q := Q) (a := n) hS he n0 h1
    simp only [MCs] at ih1
    refine ih1 o1 o6 (Int.le_refl _) np _ M (by simp only [List.length_append, List.length_cons]; omega) (by omega) ⟨r, CO.new _ M n _⟩ (fun M1 c1 x1 => ?_)
    have hc1 := c1.2.cdW x1 hc (h1.ok hS o1 o6 n0 (by omega))
    refine e_stop c1.1 (by simp only [List.length_append, List.length_cons]; omega) (by omega) ?_
    have p10 : 0 ≤ p1 := by omega
    have hd13 : hdW (1048576 * 13 :: W) = 13 := rfl
    rcases h2 with h2 | h2
    · refine s_X12_readsCondition_92 M1 (q_hereS c1.1 p10 ⟨fun _ => q_hereS c1.1 p10 ⟨fun _ => ?_, fun z => absurd h2 z⟩, fun z => by exfalso; omega⟩)
      refine s_X12_readsCondition_180 M1 (q_hereS c1.1 p10 ⟨fun _ => Calls.of (by decide) (Nat.le_of_ble_eq_true rfl) ?_, fun z => by exfalso; omega⟩)
      refine w_jA (hA.mono (n1 := n1) (by omega)) c1.1 hc1 (by simp only [List.length_append, List.length_cons]; omega) (Or.inl rfl) (by omega) (fun M2 r2 hc2 f2 => ?_)
      have hh2 := hd_W2 (W := W) (show n ≤ 250 by omega) hB
      refine l_stop r2 (by simp only [List.length_append, List.length_cons]; omega) (by omega) (Or.inl rfl) ?_
      refine q_hereS r2 p10 ⟨fun z => absurd h2 z, fun _ => ?_⟩
      refine w_jumps r2 hc2 (by simp only [List.length_append, List.length_cons]; omega) (Or.inl rfl) (by omega) (by omega) (by omega) (fun M3 r3 hc3 f3 => ?_)
      exact ih2 o1 o6 (by omega) (by omega) (by omega) [1048576 * 11 + n1] B W M3 (Or.inr ⟨n1, rfl, by omega, by omega⟩) (hB.mono (by omega)) (by simp only [List.length_cons, List.length_nil]; omega) r3 hc3 (fun M' f' g' => hQ M' (((x1.1.tr f2).tr f3).tr f') g')
    · refine s_X12_readsCondition_92 M1 (q_hereS c1.1 p10 ⟨fun _ => q_hereS c1.1 p10 ⟨fun z => by exfalso; omega, fun _ => q_hereS c1.1 p10 ⟨fun _ => ?_, fun z => absurd h2 z⟩⟩, fun z => by exfalso; omega⟩)
      refine s_X12_readsCondition_180 M1 (q_hereS c1.1 p10 ⟨fun z => absurd h2 z, fun _ => Calls.of (by decide) (Nat.le_of_ble_eq_true rfl) ?_⟩)
      refine w_jA (hA.mono (n1 := n1) (by omega)) c1.1 hc1 (by simp only [List.length_append, List.length_cons]; omega) (Or.inl rfl) (by omega) (fun M2 r2 hc2 f2 => ?_)
      refine w_jA (hB.mono (n1 := n1) (by omega)) r2 hc2 (by simp only [List.length_cons]; omega) (by omega) (by omega) (fun M3 r3 hc3 f3 => ?_)
      refine l_stop r3 (by simp only [List.length_cons]; omega) (by rw [hd13]; decide) (by rw [hd13]; decide) ?_
      refine q_hereS r3 p10 ⟨fun _ => ?_, fun z => by exfalso; omega⟩
      refine w_jumps r3 hc3 (by simp only [List.length_cons]; omega) (Or.inr rfl) (by omega) (by omega) (by omega) (fun M4 r4 hc4 f4 => ?_)
      exact ih2 o1 o6 (by omega) (by omega) (by omega) [] [1048576 * 12 + n1] W M4 (Or.inl rfl) (Or.inr ⟨n1, rfl, by omega, by omega⟩) (by simp only [List.length_cons, List.length_nil]; omega) r4 hc4 (fun M' f' g' => hQ M' ((((x1.1.tr f2).tr f3).tr f4).tr f') g')
