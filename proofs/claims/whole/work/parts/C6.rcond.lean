/-! ===== the reference reads conditions ===== -/
def CO (L : Me) (a n : Int) (W : List Int) (M : Me) : Prop := ∀ i, a ≤ i → i < n → RC L a i (M 89 i) ∨ (11 ≤ L 5 i ∧ L 5 i ≤ 12 ∧ 1048576 * L 5 i + i ∈ W ∧ M 89 i = 1048576 * L 5 i)
theorem RC.pl {L : Me} {a i x : Int} (h : x = 1048576 * L 5 i + L 6 i) : RC L a i x := ⟨L 6 i, h, Or.inl rfl⟩
theorem CO.ex {L M M' : Me} {a n n' : Int} {W : List Int} (h : CO L a n W M) (x : Ex L M n M' n') : CO L a n' W M' := fun i i0 i1 => by
  by_cases q : i < n
  · rw [x.2.1 i q]; exact h i i0 q
  · exact Or.inl (RC.pl (x.2.2 i (by omega) i1))
theorem CO.sub {L M M' : Me} {a n : Int} {W W' : List Int} (h : CO L a n W M) (hw : ∀ w ∈ W, w ∈ W') (g : ∀ i, M' 89 i = M 89 i) : CO L a n W' M' := fun i i0 i1 => by
  rw [g i]
  rcases h i i0 i1 with q | ⟨q1, q2, q3, q4⟩
  · exact Or.inl q
  · exact Or.inr ⟨q1, q2, hw _ q3, q4⟩
def Fx (a : Int) (M M' : Me) : Prop := FRr M M' ∧ ∀ i, i < a → M' 89 i = M 89 i
theorem Fx.tr {a : Int} {A B C : Me} (h : Fx a A B) (h' : Fx a B C) : Fx a A C := ⟨h.1.tr h'.1, fun i x => (h'.2 i x).trans (h.2 i x)⟩
theorem Fx.ex {L M M' : Me} {a n n' : Int} (x : Ex L M n M' n') (h : a ≤ n) : Fx a M M' := ⟨x.1, fun i y => x.2.1 i (by omega)⟩
theorem Fx.nil {a : Int} {M M' : Me} (f : FRr M M') (g : ∀ i, M' 89 i = M 89 i) : Fx a M M' := ⟨f, fun i _ => g i⟩
def CS (T : Int → Int) (e : Int) (L : Me) (a p o n : Int) (W : List Int) (M : Me) : Prop := RS T e p o n W M ∧ CO L a n W M
/-- popping a waiting jump: it lands here -/
theorem l_pop {T : Int → Int} {e p o n a b op i : Int} {W : List Int} {L M : Me} {Q : Int → Me → Prop} (h : CS T e L a p o n ((1048576 * op + i) :: W) M) (hl : W.length < 250) (hop : op = 11 ∨ (op = 12 ∧ b ≠ 0)) (a0 : 0 ≤ a) (i0 : a ≤ i) (i1 : i < n) (n1 : n ≤ 250) (h5 : L 5 i = op) (hJ : n = L 6 i ∨ (n < L 6 i ∧ L 5 n = L 5 i ∧ L 6 n = L 6 i)) (hb6 : 0 ≤ L 6 i ∧ L 6 i < 1048576)
    (hQ : ∀ M', CS T e L a p o n W M' → Fx a M M' → Go (km 1 mX12_lands Q) 0 [some (.inr 76), some (.inl b), none] [] M') : Go (km 1 mX12_lands Q) 0 [some (.inr 76), some (.inl b), none] [] M := by
  obtain ⟨r, hc⟩ := h
  obtain ⟨t1, t2, t3⟩ := r.top
  have hl' : ((1048576 * op + i) :: W).length ≤ 260 := by simp only [List.length_cons]; omega
  have hd : hdW ((1048576 * op + i) :: W) = op := by show (1048576 * op + i) / 1048576 = op; omega
  have em : (1048576 * op + i) % 1048576 = i := by omega
  have hx : M 89 i / 1048576 = op ∧ 0 ≤ M 89 i := by
    rcases hc i i0 i1 with ⟨V, e1, e2⟩ | ⟨-, -, -, e1⟩
    · rcases e2 with e2 | ⟨-, -, e2, e3, -⟩ <;> omega
    · omega
  have cont : Go (km 1 mX12_lands Q) 0 [some (.inr 76), some (.inl b), none] [] (mput (mput M 89 i (1048576 * op + n)) 76 20 (W.length : Int)) := by
    have hf : FRr M (mput (mput M 89 i (1048576 * op + n)) 76 20 (W.length : Int)) := (FRr.p89 M _ _).tr (FRr.p76 _ _ (by omega))
    refine hQ _ ⟨?_, fun i' x y => ?_⟩ ⟨hf, fun i' x => ?_⟩
    · obtain ⟨y0, y1, y2, y3, y4, y5, y6⟩ := r
      refine RS.mv (W := (1048576 * op + i) :: W) ⟨y0, y1, y2, y3, y4, y5, y6⟩ hf ?_ ?_ ?_ (mput_same ..) (fun w hw => y5 w (List.mem_cons_of_mem _ hw)) (stO_congr W (fun j _ _ => ?_) y6.2)
      · rw [mput_ni _ _ _ _ (by decide), mput_ne _ _ _ _ (by decide)]; exact y1
      · rw [mput_ni _ _ _ _ (by decide), mput_ne _ _ _ _ (by decide)]; exact y2
      · rw [mput_ni _ _ _ _ (by decide), mput_ne _ _ _ _ (by decide)]; exact y3
      · show mput (mput M 89 i (1048576 * op + n)) 76 20 (W.length : Int) 90 (j + -1) = M 90 (j + -1)
        rw [mput_ne _ _ _ _ (by decide), mput_ne _ _ _ _ (by decide)]
    · rw [mput_ne _ _ _ _ (by decide)]
      by_cases q : i' = i
      · subst q
        rw [mput_same]
        refine Or.inl ⟨n, by rw [h5], ?_⟩
        rcases hJ with hJ | ⟨j1, j2, j3⟩
        · exact Or.inl hJ
        · exact Or.inr ⟨x, by omega, by omega, j1, j2, j3⟩
      · rw [mput_ni _ _ _ _ q]
        rcases hc i' x y with z | ⟨z1, z2, z3, z4⟩
        · exact Or.inl z
        · refine Or.inr ⟨z1, z2, ?_, z4⟩
          rcases List.mem_cons.mp z3 with w | w
          · exfalso; omega
          · exact w
    · rw [mput_ne _ _ _ _ (by decide), mput_ni _ _ _ _ (by omega)]
  have e20 : M 76 20 - 1 = (W.length : Int) := by omega
  have r3 := r.2.2.2.1
  refine s_X12_lands_0 _ M (q_top r hl' ?_)
  rw [hd, e20, t1, em, hx.1, r3]
  refine ⟨fun _ => ⟨by unfold cn; omega, by omega, t3, by omega, hx.2, by unfold cn; omega, by unfold cn; omega, by omega, by unfold cn; omega, cont⟩, fun z => ⟨fun y => by exfalso; omega, fun _ => q_top r hl' ?_⟩⟩
  rw [hd, e20, t1, em, hx.1, r3]
  exact ⟨fun y => by exfalso; omega, fun _ => ⟨by unfold cn; omega, by omega, t3, by omega, hx.2, by unfold cn; omega, by unfold cn; omega, by omega, by unfold cn; omega, cont⟩⟩
theorem l_stop {T : Int → Int} {e p o n b : Int} {W : List Int} {M : Me} {Q : Int → Me → Prop} (h : RS T e p o n W M) (hl : W.length ≤ 260) (h1 : hdW W ≠ 11) (h2 : b = 0 ∨ hdW W ≠ 12) (hQ : Q 0 M) : Go (km 1 mX12_lands Q) 0 [some (.inr 76), some (.inl b), none] [] M :=
  s_X12_lands_0 _ M (q_top h hl ⟨fun z => absurd z h1, fun _ => ⟨fun _ => hQ, fun z => q_top h hl ⟨fun _ => hQ, fun y => by exfalso; omega⟩⟩⟩)
def jA (L : Me) (a op t n : Int) (A : List Int) : Prop := A = [] ∨ ∃ i, A = [1048576 * op + i] ∧ a ≤ i ∧ i < n ∧ L 5 i = op ∧ L 6 i = t
theorem jA.len {L : Me} {a op t n : Int} {A : List Int} (h : jA L a op t n A) : A.length ≤ 1 := by
  rcases h with h | ⟨i, h, -⟩ <;> rw [h] <;> simp
theorem l_jA {T : Int → Int} {e p o n a b op t : Int} {A W : List Int} {L M : Me} {Q : Int → Me → Prop} (hA : jA L a op t n A) (h : CS T e L a p o n (A ++ W) M) (hl : W.length < 250) (hop : op = 11 ∨ (op = 12 ∧ b ≠ 0)) (a0 : 0 ≤ a) (n1 : n ≤ 250) (ht : 0 ≤ t ∧ t < 1048576) (hJ : n = t ∨ (n < t ∧ L 5 n = op ∧ L 6 n = t))
    (hQ : ∀ M', CS T e L a p o n W M' → Fx a M M' → Go (km 1 mX12_lands Q) 0 [some (.inr 76), some (.inl b), none] [] M') : Go (km 1 mX12_lands Q) 0 [some (.inr 76), some (.inl b), none] [] M := by
  rcases hA with hA | ⟨i, hA, i0, i1, h5, h6⟩
  · rw [hA] at h
    exact hQ M h ⟨FRr.rf M, fun _ _ => rfl⟩
  · rw [hA] at h
    refine l_pop (op := op) (i := i) h hl hop a0 i0 i1 n1 h5 ?_ (by omega) hQ
    rw [h5, h6]; exact hJ
theorem q_jumps {T : Int → Int} {e p o n a op : Int} {W : List Int} {L M : Me} {Q : Int → Me → Prop} (h : CS T e L a p o n W M) (hl : W.length < 250) (hop : op = 11 ∨ op = 12) (a0 : 0 ≤ a) (an : a ≤ n) (n1 : n < 250) (hp : 0 ≤ p ∧ p ≤ 260) (h5 : L 5 n = op)
    (hQ : ∀ M', CS T e L a (p + 1) o (n + 1) ((1048576 * op + n) :: W) M' → Fx a M M' → Q 0 M') : Calls 1 mX12_jumps [.inr 76, .inl op] M Q := by
  obtain ⟨r, hc⟩ := h
  have hs := r
  obtain ⟨r0, r1, r2, r3, r4, r5, r6⟩ := r
  refine e_X12_jumps ⟨by unfold cn; omega, by unfold cn; omega, by omega, by unfold cn; omega, ?_⟩
  rw [r3, r4]
  have hf : FRr M (mput (mput M 90 (W.length : Int) (1048576 * op + n)) 76 20 ((W.length : Int) + 1)) := (FRr.p90 M _ _).tr (FRr.p76 _ _ (by omega))
  have g89 : ∀ i, (mput (mput M 90 (W.length : Int) (1048576 * op + n)) 76 20 ((W.length : Int) + 1)) 89 i = M 89 i := fun i => by rw [mput_ne _ _ _ _ (by decide), mput_ne _ _ _ _ (by decide)]
  have rs1 : RS T e p o n ((1048576 * op + n) :: W) (mput (mput M 90 (W.length : Int) (1048576 * op + n)) 76 20 ((W.length : Int) + 1)) := by
    refine hs.mv hf ?_ ?_ ?_ ?_ (fun w hw => ?_) (hs.push (fun i hi => ?_) ?_)
    · rw [mput_ni _ _ _ _ (by decide), mput_ne _ _ _ _ (by decide)]; exact r1
    · rw [mput_ni _ _ _ _ (by decide), mput_ne _ _ _ _ (by decide)]; exact r2
    · rw [mput_ni _ _ _ _ (by decide), mput_ne _ _ _ _ (by decide)]; exact r3
    · rw [mput_same]; simp only [List.length_cons]; omega
    · rcases List.mem_cons.mp hw with q | q
      · omega
      · exact r5 w q
    · rw [mput_ne _ _ _ _ (by decide), mput_ni _ _ _ _ (by omega)]
    · rw [mput_ne _ _ _ _ (by decide), mput_same]
  refine q_notes (L := fun k i => if k = 6 then 0 else L k i) rs1 (by omega) (by omega) (by omega) (by simpa using h5) (by simp) (fun M2 r2' x2 g2 => ?_)
  rw [r2'.2.1]
  have hf2 := FRr.p76 M2 (j := 14) (p + 1) (by omega)
  refine ⟨by unfold cn; omega, hQ _ ⟨?_, fun i i0 i1 => ?_⟩ ⟨(hf.tr x2.1).tr hf2, fun i y => ?_⟩⟩
  · obtain ⟨y0, y1, y2, y3, y4, y5, y6⟩ := r2'
    refine RS.mv (W := (1048576 * op + n) :: W) ⟨y0, y1, y2, y3, y4, y5, y6⟩ hf2 (mput_same ..) ?_ ?_ ?_ y5 (stO_congr _ (fun j _ _ => mput_ne _ _ _ _ (by decide)) y6)
    · rw [mput_ni _ _ _ _ (by decide)]; exact y2
    · rw [mput_ni _ _ _ _ (by decide)]; exact y3
    · rw [mput_ni _ _ _ _ (by decide)]; exact y4
  · rw [mput_ne _ _ _ _ (by decide)]
    by_cases q : i < n
    · rw [x2.2.1 i q, g89 i]
      rcases hc i i0 q with z | ⟨z1, z2, z3, z4⟩
      · exact Or.inl z
      · exact Or.inr ⟨z1, z2, List.mem_cons_of_mem _ z3, z4⟩
    · have : i = n := by omega
      subst this
      have := x2.2.2 i (by omega) (by omega)
      simp only [if_true] at this
      refine Or.inr ⟨by omega, by omega, by rw [h5]; exact List.mem_cons_self .., ?_⟩
      rw [this]
      simp
  · rw [mput_ne _ _ _ _ (by decide), x2.2.1 i (by omega), g89 i]
/-- ending a piece: all that is denied here -/
def EP (P : Me → Prop) (M : Me) : Prop := ∀ K : Int → Me → Prop, (∀ M', P M' → K 0 M') → Go (km 1 mX12_endsPiece K) 0 [some (.inr 76)] [] M
theorem e_stop {T : Int → Int} {e p o n : Int} {W : List Int} {M : Me} {P : Me → Prop} (h : RS T e p o n W M) (hl : W.length ≤ 260) (h1 : hdW W ≠ 10) (hP : P M) : EP P M := fun K hK =>
  s_X12_endsPiece_0 M (q_top h hl ⟨fun _ => hK M hP, fun z => absurd z h1⟩)
theorem e_pop {T : Int → Int} {e p o n a : Int} {W : List Int} {L M : Me} {P : Me → Prop} (h : CS T e L a p (o + 1) n (1048576 * 10 :: W) M) (hl : W.length < 250) (ho : 0 ≤ o ∧ o ≤ 6) (n0 : 0 ≤ n ∧ n < 250) (a0 : 0 ≤ a) (an : a ≤ n) (h5 : L 5 n = 10) (h6 : L 6 n = 0)
    (hQ : ∀ M', CS T e L a p o (n + 1) W M' → Fx a M M' → EP P M') : EP P M := fun K hK => by
  obtain ⟨r, hc⟩ := h
  have hl' : (1048576 * 10 :: W).length ≤ 260 := by simp only [List.length_cons]; omega
  refine s_X12_endsPiece_0 M (q_top r hl' ⟨fun z => absurd rfl z, fun _ => ?_⟩)
  refine q_notes (L := L) r (by omega) (by omega) (by omega) h5 h6 (fun M1 r1 x1 _ => ?_)
  have hc1 := hc.ex x1
  obtain ⟨t1, t2, t3⟩ := r1.top
  have hs := r1
  obtain ⟨y0, y1, y2, y3, y4, y5, y6⟩ := r1
  rw [t2, y2, show (W.length : Int) + 1 - 1 = W.length by omega, show o + 1 - 1 = o by omega]
  have hf : FRr M1 (mput (mput M1 76 20 (W.length : Int)) 76 18 o) := (FRr.p76 M1 _ (by omega)).tr (FRr.p76 _ _ (by omega))
  have g : ∀ i, (mput (mput M1 76 20 (W.length : Int)) 76 18 o) 89 i = M1 89 i := fun i => by rw [mput_ne _ _ _ _ (by decide), mput_ne _ _ _ _ (by decide)]
  refine ⟨by unfold cn; omega, by unfold cn; omega, hQ _ ⟨?_, fun i i0 i1 => ?_⟩ ((Fx.ex x1 an).tr (Fx.nil hf g)) K hK⟩
  · refine hs.mv hf ?_ (mput_same ..) ?_ ?_ (fun w hw => y5 w (List.mem_cons_of_mem _ hw)) (stO_congr W (fun j _ _ => ?_) y6.2)
    · rw [mput_ni _ _ _ _ (by decide), mput_ni _ _ _ _ (by decide)]; exact y1
    · rw [mput_ni _ _ _ _ (by decide), mput_ni _ _ _ _ (by decide)]; exact y3
    · rw [mput_ni _ _ _ _ (by decide), mput_same]
    · show mput (mput M1 76 20 (W.length : Int)) 76 18 o 90 (j + -1) = M1 90 (j + -1)
      rw [mput_ne _ _ _ _ (by decide), mput_ne _ _ _ _ (by decide)]
  · rw [g i]
    rcases hc1 i i0 i1 with z | ⟨z1, z2, z3, z4⟩
    · exact Or.inl z
    · refine Or.inr ⟨z1, z2, ?_, z4⟩
      rcases List.mem_cons.mp z3 with w | w
      · exfalso; omega
      · exact w
