/-! ===== the reference reads conditions: what it comes to ===== -/
def tg2 : Option (Int × Int) → Int → Int → Prop
  | none, _, _ => True
  | some (tP, tW), n, n' => n < tP ∧ tP ≤ n' ∧ tW = n'
theorem Cz.tg {S : Int → Int} {L : Me} {e : Int} (hS : Sg S e) {k : Option (Int × Int)} {o p n p' n' : Int} (h : Cz S L k o p n p' n') : tg2 k n n' := by
  refine Cz.ind (P := fun k o p n p' n' => tg2 k n n') ?_ ?_ ?_ ?_ ?_ ?_ h
  · intros; trivial
  · intros; trivial
  · intros; trivial
  · intro o p n p1 n1 h1 _ _ _
    have := h1.le hS
    exact ⟨by omega, by omega, rfl⟩
  · intro o p n p1 n1 tP tW p' n' h1 _ _ _ _ _ ih
    have := h1.le hS
    simp only [tg2] at ih ⊢; omega
  · intro o p n p1 n1 tP tW p' n' h1 _ _ _ _ _ ih
    have := h1.le hS
    simp only [tg2] at ih ⊢; omega
abbrev G92 (Q : Int → Me → Prop) (M : Me) : Prop := Go (km 6 mX12_readsCondition Q) 92 [some (.inr 76)] [] M
abbrev G40 (Q : Int → Me → Prop) (M : Me) : Prop := Go (km 6 mX12_readsCondition Q) 40 [some (.inr 76)] [] M
def MCs (T : Int → Int) (e : Int) (L : Me) (a : Int) (Q : Int → Me → Prop) : Option (Int × Int) → Int → Int → Int → Int → Int → Prop
  | none, o, p, n, p', n' => 1 ≤ o → o ≤ 6 → a ≤ n → n ≤ p → ∀ (W : List Int) (M : Me), (W.length : Int) ≤ p → 6 < hdW W → CS T e L a p o n W M → (∀ M', CS T e L a p' o n' W M' → Fx a M M' → EP (G92 Q) M') → G40 Q M
  | some (tP, tW), o, p, n, p', n' => 1 ≤ o → o ≤ 6 → a ≤ n → n ≤ p → ∀ (A B W : List Int) (M : Me), jA L a 11 tP n A → jA L a 12 tW n B → (A.length : Int) + B.length + W.length + 1 ≤ p → CS T e L a p o n (A ++ (B ++ (1048576 * 13 :: W))) M →
    (∀ (M' : Me) (A' B' : List Int), jA L a 11 n' n' A' → jA L a 12 n' n' B' → (A'.length : Int) + B'.length + W.length + 1 ≤ p' → CS T e L a p' o n' (A' ++ (B' ++ (1048576 * 13 :: W))) M' → Fx a M M' → Sx T e p' ≠ 38 → Sx T e p' ≠ 124 → G92 Q M') → G40 Q M
theorem jA.mono {L : Me} {a op t n n1 : Int} {A : List Int} (h : jA L a op t n A) (hn : n ≤ n1) : jA L a op t n1 A := by
  rcases h with h | ⟨i, h, i0, i1, h5, h6⟩
  · exact Or.inl h
  · exact Or.inr ⟨i, h, i0, by omega, h5, h6⟩
theorem hd_J2 {L : Me} {a t n : Int} {B W : List Int} (a0 : 0 ≤ a) (hn : n ≤ 250) (hB : jA L a 12 t n B) : hdW (B ++ (1048576 * 13 :: W)) = 12 ∨ hdW (B ++ (1048576 * 13 :: W)) = 13 := by
  rcases hB with h | ⟨i, h, i0, i1, -⟩
  · rw [h]; exact Or.inr rfl
  · rw [h]
    have : hdW ([1048576 * 12 + i] ++ (1048576 * 13 :: W)) = (1048576 * 12 + i) / 1048576 := rfl
    rw [this]; omega
theorem hd_J {L : Me} {a t t' n : Int} {A B W : List Int} (a0 : 0 ≤ a) (hn : n ≤ 250) (hA : jA L a 11 t n A) (hB : jA L a 12 t' n B) : 11 ≤ hdW (A ++ (B ++ (1048576 * 13 :: W))) ∧ hdW (A ++ (B ++ (1048576 * 13 :: W))) ≤ 13 := by
  rcases hA with h | ⟨i, h, i0, i1, -⟩
  · rw [h]
    have := hd_J2 (W := W) a0 hn hB
    simp only [List.nil_append]; omega
  · rw [h]
    have : hdW ([1048576 * 11 + i] ++ (B ++ (1048576 * 13 :: W))) = (1048576 * 11 + i) / 1048576 := rfl
    rw [this]; omega
theorem CS.opn {T : Int → Int} {e p o n a p' o' x : Int} {W : List Int} {L M M' : Me} (h : CS T e L a p o n W M) (r : RS T e p' o' n (x :: W) M') (g : ∀ i, M' 89 i = M 89 i) : CS T e L a p' o' n (x :: W) M' := ⟨r, h.2.sub (fun w hw => List.mem_cons_of_mem _ hw) g⟩
theorem q_compared {T : Int → Int} {e a o p n p1 n1 p' n2 : Int} {L : Me} {Q : Int → Me → Prop} (hS : Sg (Sx T e) e) (he : e ≤ 240) (a0 : 0 ≤ a) (h3 : Pz (Sx T e) L (some (0, 0)) o p n p1 n1) (h4 : isC (Sx T e p1)) (h5 : Pz (Sx T e) L (some (0, 0)) o (p1 + 1) n1 p' n2) (h6 : L 5 n2 = opc (Sx T e p1)) (h7 : L 6 n2 = 0)
    (o0 : 0 ≤ o) (o6 : o ≤ 6) (an : a ≤ n) (np : n ≤ p) {W : List Int} {M : Me} (hW : (W.length : Int) ≤ p) (hd : 6 < hdW W) (r : CS T e L a p o n W M)
    (hQ : ∀ M', CS T e L a p' o (n2 + 1) W M' → Fx a M M' → EP (fun M2 => Q 1 M2) M') : Calls 5 mX12_readsCompared [.inr 76] M Q := by
  have e0 : pk (some (0, 0)) = 0 := by decide
  have l3 := h3.le hS
  have l5 := h5.le hS
  have hp1 := hS.2 p1 (by omega)
  have ho := opc_C h4
  refine e_X12_readsCompared (q_sum hS he h3 o0 o6 (by omega) np hW (by omega) r.1 (fun M1 r1 x1 => ⟨fun _ => ?_, fun z => by exfalso; omega⟩))
  have m53 : Go (km 5 mX12_readsCompared Q) 53 [some (.inr 76), some (.inl (opc (Sx T e p1)))] [] M1 := by
    refine s_X12_readsCompared_53 _ M1 ⟨fun _ => ?_, fun z => by exfalso; omega⟩
    refine s_X12_readsCompared_68 _ M1 ?_
    rw [r1.2.1]
    have hf := FRr.p76 M1 (j := 14) (p1 + 1) (by omega)
    have r2 : RS T e (p1 + 1) o n1 W (mput M1 76 14 (p1 + 1)) := by
      obtain ⟨y0, y1, y2, y3, y4, y5, y6⟩ := r1
      refine RS.mv (W := W) ⟨y0, y1, y2, y3, y4, y5, y6⟩ hf (mput_same ..) ?_ ?_ ?_ y5 (stO_congr W (fun j _ _ => mput_ne _ _ _ _ (by decide)) y6)
      · rw [mput_ni _ _ _ _ (by decide)]; exact y2
      · rw [mput_ni _ _ _ _ (by decide)]; exact y3
      · rw [mput_ni _ _ _ _ (by decide)]; exact y4
    refine ⟨by unfold cn; omega, q_sum hS he h5 o0 o6 (by omega) (by omega) (by omega) (by omega) r2 (fun M2 r3 x2 => ⟨fun _ => ?_, fun z => by exfalso; omega⟩)⟩
    refine q_notes (L := L) r3 (by omega) (by omega) (by omega) h6 h7 (fun M3 r4 x3 _ => ?_)
    have xx : Ex L M n M3 (n2 + 1) := ((x1.tr (Ex.nil hf (fun i => mput_ne _ _ _ _ (by decide))) (by omega)).tr x2 (by omega)).tr x3 (by omega)
    exact Calls.of (by decide) (Nat.le_of_ble_eq_true rfl) (hQ M3 ⟨r4, r.2.ex xx⟩ (Fx.ex xx an) _ (fun M' h' => h'))
  have pz : 0 ≤ p1 := by omega
  have m7 : Sx T e p1 = 60 → Go (km 5 mX12_readsCompared Q) 53 [some (.inr 76), some (.inl 7)] [] M1 := fun z => by rw [z] at m53; exact m53
  have m8 : Sx T e p1 = 62 → Go (km 5 mX12_readsCompared Q) 53 [some (.inr 76), some (.inl 8)] [] M1 := fun z => by rw [z] at m53; exact m53
  have m9 : Sx T e p1 = 61 → Go (km 5 mX12_readsCompared Q) 53 [some (.inr 76), some (.inl 9)] [] M1 := fun z => by rw [z] at m53; exact m53
  exact q_hereS r1 pz ⟨fun z => q_hereS r1 pz ⟨fun y => q_hereS r1 pz ⟨fun x => by exfalso; omega, m9⟩, m8⟩, m7⟩
theorem Cz.ref {T : Int → Int} {e : Int} {L : Me} {a : Int} {Q : Int → Me → Prop} (hS : Sg (Sx T e) e) (he : e ≤ 240) (a0 : 0 ≤ a) {k : Option (Int × Int)} {o p n p' n' : Int} (h : Cz (Sx T e) L k o p n p' n') : MCs T e L a Q k o p n p' n' := by
  refine Cz.ind (P := fun k o p n p' n' => MCs T e L a Q k o p n p' n') ?_ ?_ ?_ ?_ ?_ ?_ h
  · intro o p n p' n1 h1 h2 h3 h4 h5 ih
    simp only [MCs] at ih ⊢
    intro o1 o6 an np W M hW hd c hQ
    have l3 := h3.le hS
    have hp := hS.2 p (by omega)
    have p0 : 0 ≤ p := by omega
    refine s_X12_readsCondition_40 M (q_hereS c.1 p0 ⟨fun _ => ?_, fun z => absurd h1 z⟩)
    refine s_X12_readsCondition_58 M (q_hereS c.1 p0 ⟨fun z => absurd h1 z, fun _ => q_opens c.1 (by omega) (by omega) (by omega) (by omega) (fun _ M1 r1 f1 g1 => ⟨fun _ => ?_, fun z => by exfalso; omega⟩) (fun z => by exfalso; omega)⟩)
    refine ih (by omega) (by omega) an (by omega) (1048576 * 10 :: W) M1 (by simp only [List.length_cons]; omega) (by show (6 : Int) < 1048576 * 10 / 1048576; omega) (c.opn r1 g1) (fun M2 c2 x2 => ?_)
    exact e_pop c2 (by omega) (by omega) (by omega) a0 (by omega) h4 h5 (fun M3 c3 x3 => hQ M3 c3 (((Fx.nil f1 g1).tr x2).tr x3))
  · intro o p n p1 n1 tP tW h1 h2 h3 h4 ih
    simp only [MCs] at ih ⊢
    intro o1 o6 an np W M hW hd c hQ
    have l3 := h3.le hS
    have hp := hS.2 p (by omega)
    have hp1 := hS.2 p1 (by omega)
    have p0 : 0 ≤ p := by omega
    have m58 : Go (km 6 mX12_readsCondition Q) 58 [some (.inr 76)] [] M := by
      refine s_X12_readsCondition_58 M (q_hereS c.1 p0 ⟨fun _ => q_opens c.1 (by omega) (by omega) (by omega) (by omega) (fun _ M1 r1 f1 g1 => ⟨fun _ => ?_, fun z => by exfalso; omega⟩) (fun z => by exfalso; omega), fun z => by exfalso; omega⟩)
      refine ih (by omega) (by omega) an (by omega) [] [] W M1 (Or.inl rfl) (Or.inl rfl) (by simp only [List.length_nil]; omega) (c.opn r1 g1) (fun M2 A B hA hB hl c2 x2 _ _ => ?_)
      refine s_X12_readsCondition_92 M2 (q_hereS c2.1 (by omega) ⟨fun z => absurd h4 z, fun _ => Calls.of (by decide) (Nat.le_of_ble_eq_true rfl) ?_⟩)
      have lB := hB.len
      refine l_jA hA c2 (by simp only [List.length_append, List.length_cons]; omega) (Or.inl rfl) a0 (by omega) (by omega) (Or.inl rfl) (fun M3 c3 x3 => ?_)
      refine l_jA hB c3 (by simp only [List.length_cons]; omega) (by omega) a0 (by omega) (by omega) (Or.inl rfl) (fun M4 c4 x4 => ?_)
      have hd13 : hdW (1048576 * 13 :: W) = 13 := rfl
      refine l_stop c4.1 (by simp only [List.length_cons]; omega) (by rw [hd13]; decide) (by rw [hd13]; decide) ?_
      obtain ⟨t1, t2, t3⟩ := c4.1.top
      have hs := c4.1
      obtain ⟨y0, y1, y2, y3, y4, y5, y6⟩ := c4.1
      rw [t2, y2, y1, show (W.length : Int) + 1 - 1 = W.length by omega, show o + 1 - 1 = o by omega]
      have hf : FRr M4 (mput (mput (mput M4 76 20 (W.length : Int)) 76 18 o) 76 14 (p1 + 1)) := ((FRr.p76 M4 _ (by omega)).tr (FRr.p76 _ _ (by omega))).tr (FRr.p76 _ _ (by omega))
      have g : ∀ i, (mput (mput (mput M4 76 20 (W.length : Int)) 76 18 o) 76 14 (p1 + 1)) 89 i = M4 89 i := fun i => by rw [mput_ne _ _ _ _ (by decide), mput_ne _ _ _ _ (by decide), mput_ne _ _ _ _ (by decide)]
      refine ⟨by unfold cn; omega, by unfold cn; omega, by unfold cn; omega, fun _ => Calls.of (by decide) (Nat.le_of_ble_eq_true rfl) (hQ _ ⟨?_, fun i i0 i1 => ?_⟩ (((((Fx.nil f1 g1).tr x2).tr x3).tr x4).tr (Fx.nil hf g)) _ (fun M' h' => h')), fun z => ?_⟩
      · refine hs.mv hf (mput_same ..) ?_ ?_ ?_ (fun w hw => y5 w (List.mem_cons_of_mem _ hw)) (stO_congr W (fun j _ _ => ?_) y6.2)
        · rw [mput_ni _ _ _ _ (by decide), mput_same]
        · rw [mput_ni _ _ _ _ (by decide), mput_ni _ _ _ _ (by decide), mput_ni _ _ _ _ (by decide)]; exact y3
        · rw [mput_ni _ _ _ _ (by decide), mput_ni _ _ _ _ (by decide), mput_same]
        · show (mput (mput (mput M4 76 20 (W.length : Int)) 76 18 o) 76 14 (p1 + 1)) 90 (j + -1) = M4 90 (j + -1)
          rw [mput_ne _ _ _ _ (by decide), mput_ne _ _ _ _ (by decide), mput_ne _ _ _ _ (by decide)]
      · rw [g i]
        rcases c4.2 i i0 i1 with z | ⟨z1, z2, z3, z4⟩
        · exact Or.inl z
        · refine Or.inr ⟨z1, z2, ?_, z4⟩
          rcases List.mem_cons.mp z3 with w | w
          · exfalso; omega
          · exact w
      · exfalso
        cases W with
        | nil => simp only [hdW] at hd; omega
        | cons w W => simp only [List.length_cons] at z; omega
    exact s_X12_readsCondition_40 M (q_hereS c.1 p0 ⟨fun _ => m58, fun _ => q_hereS c.1 p0 ⟨fun z => absurd h1 z, fun _ => m58⟩⟩)
  · intro o p n p1 n1 p' n2 h1 h2 h3 h4 h5 h6 h7
    simp only [MCs]
    intro o1 o6 an np W M hW hd c hQ
    have l3 := h3.le hS
    have p0 : 0 ≤ p := by omega
    refine s_X12_readsCondition_40 M (q_hereS c.1 p0 ⟨fun z => absurd z h1, fun _ => q_hereS c.1 p0 ⟨fun _ => ?_, fun z => absurd z h2⟩⟩)
    refine q_compared hS he a0 h3 h4 h5 h6 h7 (by omega) o6 an np hW hd c (fun M1 c1 x1 => ?_)
    exact fun K hK => hQ M1 c1 x1 K (fun M' h' => hK M' ⟨fun _ => h', fun z => by exfalso; omega⟩)
  · intro o p n p1 n1 h1 h2 h3 ih
    simp only [MCs] at ih ⊢
    intro o1 o6 an np A B W M hA hB hl c hQ
    have l1 := h1.le hS
    have hh := hd_J (W := W) a0 (by omega) hA hB
    refine ih o1 o6 an np _ M (by simp only [List.length_append, List.length_cons]; omega) (by omega) c (fun M1 c1 x1 => ?_)
    refine e_stop c1.1 (by simp only [List.length_append, List.length_cons]; omega) (by omega) ?_
    exact hQ M1 A B (hA.mono (by omega)) (hB.mono (by omega)) (by omega) c1 x1 h2 h3
  · intro o p n p1 n1 tP tW p' n' h1 h2 h3 h4 h5 ih1 ih2
    have tg := h5.tg hS
    simp only [tg2] at tg
    simp only [MCs] at ih1 ih2 ⊢
    intro o1 o6 an np A B W M hA hB hl c hQ
    have l1 := h1.le hS
    have l5 := h5.le hS
    have hp1 := hS.2 p1 (by omega)
    have hh := hd_J (W := W) a0 (by omega) hA hB
    have lA := hA.len; have lB := hB.len
    refine ih1 o1 o6 an np _ M (by simp only [List.length_append, List.length_cons]; omega) (by omega) c (fun M1 c1 x1 => ?_)
    refine e_stop c1.1 (by simp only [List.length_append, List.length_cons]; omega) (by omega) ?_
    have p10 : 0 ≤ p1 := by omega
    refine s_X12_readsCondition_92 M1 (q_hereS c1.1 p10 ⟨fun _ => q_hereS c1.1 p10 ⟨fun _ => ?_, fun z => absurd h2 z⟩, fun z => by exfalso; omega⟩)
    refine s_X12_readsCondition_180 M1 (q_hereS c1.1 p10 ⟨fun _ => Calls.of (by decide) (Nat.le_of_ble_eq_true rfl) ?_, fun z => by exfalso; omega⟩)
    refine l_jA (hA.mono (n1 := n1) (by omega)) c1 (by simp only [List.length_append, List.length_cons]; omega) (Or.inl rfl) a0 (by omega) (by omega) (Or.inr ⟨by omega, h3, h4⟩) (fun M2 c2 x2 => ?_)
    have hh2 := hd_J2 (W := W) a0 (show n ≤ 250 by omega) hB
    refine l_stop c2.1 (by simp only [List.length_append, List.length_cons]; omega) (by omega) (Or.inl rfl) ?_
    refine q_hereS c2.1 p10 ⟨fun z => absurd h2 z, fun _ => ?_⟩
    refine q_jumps c2 (by simp only [List.length_append, List.length_cons]; omega) (Or.inl rfl) a0 (by omega) (by omega) (by omega) h3 (fun M3 c3 x3 => ?_)
    exact ih2 o1 o6 (by omega) (by omega) [1048576 * 11 + n1] B W M3 (Or.inr ⟨n1, rfl, by omega, by omega, h3, h4⟩) (hB.mono (by omega)) (by simp only [List.length_cons, List.length_nil]; omega) c3 (fun M' A' B' hA' hB' hl' c' x' => hQ M' A' B' hA' hB' hl' c' (((x1.tr x2).tr x3).tr x'))
  · intro o p n p1 n1 tP tW p' n' h1 h2 h3 h4 h5 ih1 ih2
    have tg := h5.tg hS
    simp only [tg2] at tg
    simp only [MCs] at ih1 ih2 ⊢
    intro o1 o6 an np A B W M hA hB hl c hQ
    have l1 := h1.le hS
    have l5 := h5.le hS
    have hp1 := hS.2 p1 (by omega)
    have hh := hd_J (W := W) a0 (by omega) hA hB
    have lA := hA.len; have lB := hB.len
    refine ih1 o1 o6 an np _ M (by simp only [List.length_append, List.length_cons]; omega) (by omega) c (fun M1 c1 x1 => ?_)
    refine e_stop c1.1 (by simp only [List.length_append, List.length_cons]; omega) (by omega) ?_
    have p10 : 0 ≤ p1 := by omega
    refine s_X12_readsCondition_92 M1 (q_hereS c1.1 p10 ⟨fun _ => q_hereS c1.1 p10 ⟨fun z => by exfalso; omega, fun _ => q_hereS c1.1 p10 ⟨fun _ => ?_, fun z => absurd h2 z⟩⟩, fun z => by exfalso; omega⟩)
    refine s_X12_readsCondition_180 M1 (q_hereS c1.1 p10 ⟨fun z => absurd h2 z, fun _ => Calls.of (by decide) (Nat.le_of_ble_eq_true rfl) ?_⟩)
    refine l_jA (hA.mono (n1 := n1) (by omega)) c1 (by simp only [List.length_append, List.length_cons]; omega) (Or.inl rfl) a0 (by omega) (by omega) (Or.inl rfl) (fun M2 c2 x2 => ?_)
    refine l_jA (hB.mono (n1 := n1) (by omega)) c2 (by simp only [List.length_cons]; omega) (by omega) a0 (by omega) (by omega) (Or.inr ⟨by omega, h3, h4⟩) (fun M3 c3 x3 => ?_)
    have hd13 : hdW (1048576 * 13 :: W) = 13 := rfl
    refine l_stop c3.1 (by simp only [List.length_cons]; omega) (by rw [hd13]; decide) (by rw [hd13]; decide) ?_
    refine q_hereS c3.1 p10 ⟨fun _ => ?_, fun z => by exfalso; omega⟩
    refine q_jumps c3 (by simp only [List.length_cons]; omega) (Or.inr rfl) a0 (by omega) (by omega) (by omega) h3 (fun M4 c4 x4 => ?_)
    exact ih2 o1 o6 (by omega) (by omega) [] [1048576 * 12 + n1] W M4 (Or.inl rfl) (Or.inr ⟨n1, rfl, by omega, by omega, h3, h4⟩) (by simp only [List.length_cons, List.length_nil]; omega) c4 (fun M' A' B' hA' hB' hl' c' x' => hQ M' A' B' hA' hB' hl' c' ((((x1.tr x2).tr x3).tr x4).tr x'))
