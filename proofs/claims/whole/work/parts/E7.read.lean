/-! ===== a whole law: what both sides come to ===== -/
def Rr (S : Int → Int) (L : Me) (P N : Int → Int) (j : Int) : Prop := Rz S L (P j) (N j) (L 3 j) (P (j + 1) - 1) (N (j + 1)) ∧ L 1 j = S (P j) ∧ L 2 j = N j ∧ L 4 j = N (j + 1)
def PreL (S : Int → Int) (L : Me) (P N : Int → Int) (m : Int) : Prop := P 0 = 0 ∧ N 0 = 0 ∧ ∀ j, 0 ≤ j → j < m → Rr S L P N j ∧ S (P (j + 1) - 1) = 59
def Out (S : Int → Int) (e : Int) (L : Me) (P N : Int → Int) (m R : Int) : Prop := 0 ≤ m ∧ m ≤ 16 ∧ PreL S L P N m ∧
  ((R < 0 ∧ Rb S m (P m) (N m) R) ∨ (m < 16 ∧ Rr S L P N m ∧ ((P (m + 1) - 1 < e ∧ S (P (m + 1) - 1) ≠ 59 ∧ R = -1000 * 1 - (P (m + 1) - 1)) ∨ (P (m + 1) - 1 = e ∧ R = m + 1))))
theorem Rz.le {S : Int → Int} {L : Me} {e p n h p' n' : Int} (hS : Sg S e) (z : Rz S L p n h p' n') (n0 : 0 ≤ n) (np : n ≤ p) : n ≤ h ∧ h ≤ n' ∧ n' ≤ p' ∧ p < p' ∧ p' ≤ e ∧ n < n' := by
  obtain ⟨hk, ph, p1, tP, tW, hw, h40, hc, h41, rfl⟩ := z
  have hp1 := hS.2 p1 (by omega)
  have lc := hc.le hS
  rcases hw with ⟨-, a, b⟩ | ⟨-, a⟩
  · omega
  · have := a.le hS
    have e0 : pk (some (0, 0)) = 0 := by decide
    omega
theorem Rz.mv {S : Int → Int} {L L' : Me} {e p n h p' n' : Int} (hS : Sg S e) (z : Rz S L p n h p' n') (n0 : 0 ≤ n) (np : n ≤ p) (hL : ∀ i, n ≤ i → i < n' → L' 5 i = L 5 i ∧ L' 6 i = L 6 i) : Rz S L' p n h p' n' := by
  have l := z.le hS n0 np
  obtain ⟨hk, ph, p1, tP, tW, hw, h40, hc, h41, rfl⟩ := z
  refine ⟨hk, ph, p1, tP, tW, ?_, h40, hc.mv hS (fun i a b => hL i (by omega) b), h41, rfl⟩
  rcases hw with a | ⟨a, b⟩
  · exact Or.inl a
  · exact Or.inr ⟨a, b.mv hS (fun i x y => hL i x (by omega))⟩
theorem Rz.wf {S : Int → Int} {L : Me} {e p n h p' n' : Int} (hS : Sg S e) (z : Rz S L p n h p' n') (n0 : 0 ≤ n) (np : n ≤ p) : (S p ≠ 120 → ∃ sh, Wf (L 5) (L 6) sh n h 1) ∧ (∃ sh, Wf (L 5) (L 6) sh h n' (-1)) ∧ ∀ i, n ≤ i → i < n' → (0 ≤ L 5 i ∧ L 5 i ≤ 12) ∧ 0 ≤ L 6 i ∧ L 6 i < 1048576 := by
  have l := z.le hS n0 np
  have he := hS.1
  obtain ⟨hk, ph, p1, tP, tW, hw, h40, hc, h41, rfl⟩ := z
  have o2 := hc.ok hS (by omega) (by omega) (by omega) (by omega)
  refine ⟨fun q => ?_, hc.wf hS (by omega) (by omega), fun i a b => ?_⟩
  · rcases hw with ⟨a, -⟩ | ⟨-, a⟩
    · exact absurd a q
    · exact a.wf hS n0 (by omega)
  · by_cases q : i < h
    · rcases hw with ⟨-, -, c⟩ | ⟨-, c⟩
      · exfalso; omega
      · exact c.ok hS n0 (by omega) i a q
    · exact o2 i (by omega) b
theorem PreL.ok {S : Int → Int} {L : Me} {P N : Int → Int} {e m : Int} (hS : Sg S e) (h : PreL S L P N m) : ∀ k : Nat, (k : Int) ≤ m → 0 ≤ N k ∧ N k ≤ P k ∧ P k ≤ e + 0 ∨ k = 0 := by
  intro k
  induction k with
  | zero => intro _; exact Or.inr rfl
  | succ k ih =>
    intro hk
    obtain ⟨⟨z, -⟩, s⟩ := h.2.2 k (by omega) (by omega)
    have b : 0 ≤ N k ∧ N k ≤ P k := by
      rcases ih (by omega) with q | q
      · exact ⟨q.1, q.2.1⟩
      · subst q
        have h1 := h.1
        have h2 := h.2.1
        exact ⟨by simp only [Int.natCast_zero] ; omega, by simp only [Int.natCast_zero]; omega⟩
    have l := z.le hS b.1 b.2
    have hs := hS.2 (P ((k : Int) + 1) - 1) (by omega)
    refine Or.inl ?_
    have e1 : ((k + 1 : Nat) : Int) = (k : Int) + 1 := by omega
    rw [e1]
    omega
theorem PreL.at {S : Int → Int} {L : Me} {P N : Int → Int} {e m j : Int} (hS : Sg S e) (e0 : 0 ≤ e) (h : PreL S L P N m) (j0 : 0 ≤ j) (j1 : j ≤ m) : 0 ≤ N j ∧ N j ≤ P j ∧ P j ≤ e := by
  have := h.ok hS j.toNat (by omega)
  rw [show ((j.toNat : Nat) : Int) = j by omega] at this
  rcases this with q | q
  · omega
  · have : j = 0 := by omega
    subst this
    have h1 := h.1
    have h2 := h.2.1
    omega
/-! the class -/
theorem FK.tp (m : Int) (M : Me) (s : Int × Int) : FK m M (tp M s) := fun k i a _ _ => tp_o M s a
theorem k_end {T : Int → Int} {e p n a : Int} {M : Me} {Q : Int → Me → Prop} (h : DS T e p n M) (pe : 0 ≤ p ∧ p ≤ e) (h1 : p = e → ∀ M', (∀ m, FK m M M') → Q a M') (h0 : p < e → ∀ M', (∀ m, FK m M M') → Q (-1000 * 1 - p) M') : Calls 1 mX9_endText [.inr 1, .inl a] M Q := by
  have e1 := tp_self M
  rw [h.2.1, h.2.2.1] at e1
  have r := t_end (M := M) (s := (p, 0)) (a := a) (Q := Q) h.1 ⟨pe.1, pe.2, Int.le_refl 0⟩ (fun s' => ?_)
  · rw [e1] at r; exact r
  · unfold endF flF
    simp only
    by_cases q : p < e
    · rw [if_pos q, if_pos trivial, if_neg (by omega)]
      exact h0 q _ (fun m => FK.tp m M s')
    · rw [if_neg q, if_pos rfl]
      exact h1 (by omega) _ (fun m => FK.tp m M s')
theorem k_endF {T : Int → Int} {e f n a : Int} {M : Me} {Q : Int → Me → Prop} (h : FS T e f n M) (hQ : ∀ M', (∀ m, FK m M M') → Q f M') : Calls 1 mX9_endText [.inr 1, .inl a] M Q := by
  have e1 := tp_self M
  rw [h.2.2.1] at e1
  have hf := h.2.2.2.1
  have r := t_end (M := M) (s := (M 1 3, f)) (a := a) (Q := Q) h.1 ⟨h.2.1.1, h.2.1.2, by simp only; omega⟩ (fun s' => ?_)
  · rw [e1] at r; exact r
  · have q : endF e (M 1 3, f) = f := by
      unfold endF flF
      simp only
      split
      · rw [if_neg (by omega)]
      · rfl
    rw [q, if_neg (by omega)]
    exact hQ _ (fun m => FK.tp m M s')
def FV (M M' : Me) : Prop := ∀ k i, (k = 1 → i ≠ 3 ∧ i ≠ 4) → (k = 30 → i ≠ 6 ∧ i ≠ 7) → (k < 31 ∨ 35 < k) → M' k i = M k i
theorem FV.fu {m n : Int} {M M' : Me} (h : FU m n M M') : FV M M' := fun k i a b c => h k i a b (fun z => by omega) (fun z => by omega)
theorem FV.fk {m : Int} {M M' : Me} (h : FK m M M') : FV M M' := fun k i a b c => h k i a (fun z => (b z).2) (fun z => by omega)
theorem FV.tr {A B C : Me} (h : FV A B) (h' : FV B C) : FV A C := fun k i a b c => (h' k i a b c).trans (h k i a b c)
theorem l_read {T : Int → Int} {e : Int} {M0 : Me} {Q : Int → Me → Prop} (hK : KC T e) (e0 : 0 ≤ e)
    (hQ : ∀ M' R L P N m, Out (Sx T e) e L P N m R → (0 < R → L = LD M' ∧ M' 30 6 = R) → FV M0 M' → Q R M') :
    ∀ (K : Nat) (m p n : Int) (M : Me) (P N : Int → Int), m + K = 17 → 0 ≤ m → m ≤ 16 → DS T e p n M → PreL (Sx T e) (LD M) P N m → P m = p → N m = n → (∀ j, 0 ≤ j → j < m → N (j + 1) ≤ n) → FV M0 M →
    Go (km 24 mX4_read Q) 28 [some (.inr 29), none, some (.inl 1), some (.inl m)] [] M := by
  intro K
  induction K with
  | zero => intro m p n M P N hm m0 m16; exfalso; omega
  | succ K ih =>
    intro m p n M P N hm m0 m16 h hp hP hN hl hv
    have he : e ≤ 240 := hK.1.1
    have b := hp.at hK.1 e0 m0 (Int.le_refl m)
    rw [hP, hN] at b
    refine s_X4_read_28 _ _ M ⟨fun z => by exfalso; omega, fun _ => ⟨fun z => absurd z (by decide), fun _ => k_rule hK ⟨m0, m16⟩ h b.1 b.2.1 b.2.2 (fun m15 M1 p1 n1 d1 z1 a31 a32 a34 a6 u1 => ?_) (fun M1 f s1 z1 u1 => ?_)⟩⟩
    · have lz := z1.le hK.1 b.1 b.2.1
      obtain ⟨P', hP'⟩ : ∃ P' : Int → Int, P' = fun j => if j = m + 1 then p1 + 1 else P j := ⟨_, rfl⟩
      obtain ⟨N', hN'⟩ : ∃ N' : Int → Int, N' = fun j => if j = m + 1 then n1 else N j := ⟨_, rfl⟩
      have Pm : P' (m + 1) = p1 + 1 := by rw [hP']; simp only [if_true]
      have Nm : N' (m + 1) = n1 := by rw [hN']; simp only [if_true]
      have Pj : ∀ j, j ≤ m → P' j = P j := fun j hj => by rw [hP']; simp only; rw [if_neg (by omega)]
      have Nj : ∀ j, j ≤ m → N' j = N j := fun j hj => by rw [hN']; simp only; rw [if_neg (by omega)]
      have pre : ∀ M2, (∀ i, M2 35 i = M1 35 i) → (∀ k j, 31 ≤ k → k ≤ 34 → M2 k j = M1 k j) → PreL (Sx T e) (LD M2) P' N' m ∧ Rr (Sx T e) (LD M2) P' N' m := fun M2 g35 g3 => by
        refine ⟨⟨?_, ?_, fun j j0 j1 => ?_⟩, ?_, ?_, ?_, ?_⟩
        · rw [Pj 0 m0]; exact hp.1
        · rw [Nj 0 m0]; exact hp.2.1
        · obtain ⟨⟨z, r1, r2, r4⟩, s⟩ := hp.2.2 j j0 j1
          have bj := hp.at hK.1 e0 j0 (by omega)
          have nl := hl j j0 j1
          have u : ∀ k, 31 ≤ k → k ≤ 34 → M2 k j = M k j := fun k a c => by
            rw [g3 k j a c]
            exact u1 k j (fun z => by omega) (fun z => by omega) (fun z => by omega) (fun z => by omega)
          have c35 : ∀ i, N j ≤ i → i < N (j + 1) → M2 35 i = M 35 i := fun i a c => by
            rw [g35 i]
            exact u1 35 i (fun z => absurd z (by decide)) (fun z => absurd z (by decide)) (fun _ => by omega) (fun z => by omega)
          unfold Rr
          rw [Pj j (by omega), Pj (j + 1) (by omega), Nj j (by omega), Nj (j + 1) (by omega)]
          have e3 : LD M2 3 j = LD M 3 j := u 33 (by omega) (by omega)
          have e1 : LD M2 1 j = LD M 1 j := u 31 (by omega) (by omega)
          have e2 : LD M2 2 j = LD M 2 j := u 32 (by omega) (by omega)
          have e4 : LD M2 4 j = LD M 4 j := u 34 (by omega) (by omega)
          rw [e3, e1, e2, e4]
          exact ⟨⟨z.mv hK.1 bj.1 bj.2.1 (LDs c35), r1, r2, r4⟩, s⟩
        · rw [Pj m (Int.le_refl m), Nj m (Int.le_refl m), Pm, Nm, hP, hN, show p1 + 1 - 1 = p1 by omega]
          have e3 : LD M2 3 m = M1 33 m := g3 33 m (by omega) (by omega)
          rw [e3]
          exact z1.mv hK.1 b.1 b.2.1 (LDs (fun i _ _ => g35 i))
        · rw [Pj m (Int.le_refl m), hP]; exact (g3 31 m (by omega) (by omega)).trans a31
        · rw [Nj m (Int.le_refl m), hN]; exact (g3 32 m (by omega) (by omega)).trans a32
        · rw [Nm]; exact (g3 34 m (by omega) (by omega)).trans a34
      have hv1 : FV M0 M1 := hv.tr (FV.fu u1)
      refine k_may d1 (by omega) (fun h59 M2 d2 f2 => ⟨by unfold cn; omega, ?_⟩) (fun h59 => ⟨by unfold cn; omega, ?_⟩)
      · have q := pre M2 (fun i => (f2 (i + 1)).c35 (by omega)) (fun k j a c => f2 0 k j (fun z => by omega) (fun z => by omega) (fun z => by omega))
        refine ih (m + 1) (p1 + 1) n1 M2 P' N' (by omega) (by omega) (by omega) d2 ⟨q.1.1, q.1.2.1, fun j j0 j1 => ?_⟩ Pm Nm (fun j j0 j1 => ?_) (hv1.tr (FV.fk (f2 0)))
        · by_cases qj : j = m
          · subst qj
            refine ⟨q.2, ?_⟩
            rw [Pm, show p1 + 1 - 1 = p1 by omega]; exact h59
          · exact q.1.2.2 j j0 (by omega)
        · by_cases qj : j = m
          · subst qj; rw [Nm]; omega
          · rw [Nj (j + 1) (by omega)]
            have := hl j j0 (by omega)
            omega
      · have fin : Calls 1 mX9_endText [.inr 1, .inl (M1 30 6)] M1 (fun r70 M70 => Q r70 M70) := by
          rw [a6]
          refine k_end d1 (by omega) (fun y M2 f2 => ?_) (fun y M2 f2 => ?_)
          · have q := pre M2 (fun i => (f2 (i + 1)).c35 (by omega)) (fun k j a c => f2 0 k j (fun z => by omega) (fun z => by omega) (fun z => by omega))
            refine hQ M2 (m + 1) (LD M2) P' N' m ⟨m0, m16, q.1, Or.inr ⟨m15, q.2, Or.inr ⟨by rw [Pm]; omega, rfl⟩⟩⟩ (fun _ => ⟨rfl, ?_⟩) (hv1.tr (FV.fk (f2 0)))
            rw [f2 0 30 6 (fun z => absurd z (by decide)) (fun _ => by decide) (fun z => absurd z (by decide))]
            exact a6
          · have q := pre M1 (fun i => rfl) (fun k j a c => rfl)
            exact hQ M2 _ (LD M1) P' N' m ⟨m0, m16, q.1, Or.inr ⟨m15, q.2, Or.inl ⟨by rw [Pm]; omega, by rw [Pm, show p1 + 1 - 1 = p1 by omega]; exact h59, by rw [Pm, show p1 + 1 - 1 = p1 by omega]⟩⟩⟩ (fun y2 => by exfalso; omega) (hv1.tr (FV.fk (f2 0)))
        exact s_X4_read_28 _ _ M1 ⟨fun _ => fin, fun _ => ⟨fun _ => fin, fun z => absurd rfl z⟩⟩
    · refine k_mayF s1 (by decide) ⟨by unfold cn; omega, ?_⟩
      have hf := s1.2.2.2.1
      have fin : Calls 1 mX9_endText [.inr 1, .inl (M1 30 6)] M1 (fun r70 M70 => Q r70 M70) := k_endF s1 (fun M2 f2 => hQ M2 f (LD M) P N m ⟨m0, m16, hp, Or.inl ⟨hf, by rw [hP, hN]; exact z1⟩⟩ (fun y => by exfalso; omega) ((hv.tr (FV.fu u1)).tr (FV.fk (f2 0))))
      exact s_X4_read_28 _ _ M1 ⟨fun _ => fin, fun _ => ⟨fun _ => fin, fun z => absurd rfl z⟩⟩
theorem k_read {a : Int} {M : Me} {Q : Int → Me → Prop} (ha : 1 ≤ a ∧ a ≤ 240) (hs : a ≤ M 1 1) (hb : ∀ i, 0 ≤ i → i < M 1 1 → 0 ≤ M 2 i ∧ M 2 i ≤ 255)
    (hQ : ∀ M' R L P N m, Out (Sx (M 2) a) a L P N m R → (0 < R → L = LD M' ∧ M' 30 6 = R) → (∀ k i, (k = 1 → i ≠ 2 ∧ i ≠ 3 ∧ i ≠ 4) → (k = 30 → i ≠ 6 ∧ i ≠ 7) → (k < 31 ∨ 35 < k) → M' k i = M k i) → Q R M') : Calls 24 mX4_read [.inr 29, .inl a] M Q := by
  have hK : KC (M 2) a := by
    refine ⟨⟨ha.2, fun p hp => ?_⟩, fun p => ?_⟩
    · have := sg_pos (T := M 2) (e := a) (s := (p, 0)) hp
      exact ⟨this.2.1, this.2.2.1⟩
    · show -1 ≤ sgS (M 2) a (p, 0) ∧ sgS (M 2) a (p, 0) ≤ 255
      unfold sgS
      split
      · next q =>
        have := hb p q.2.1 (by have := q.2.2; simp only at this; omega)
        simp only
        omega
      · omega
  refine e_X4_read (e_X9_beginText ?_)
  rw [show min a (M 1 1) = a by omega]
  obtain ⟨M1, hM1⟩ : ∃ M1, mput (mput (mput (mput (mput M 1 2 a) 1 3 0) 1 4 0) 30 6 0) 30 7 0 = M1 := ⟨_, rfl⟩
  rw [hM1]
  have o1 : ∀ k i, (k = 1 → i ≠ 2 ∧ i ≠ 3 ∧ i ≠ 4) → (k = 30 → i ≠ 6 ∧ i ≠ 7) → M1 k i = M k i := fun k i x y => by
    rw [← hM1]
    unfold mput
    rw [if_neg (fun z => (y z.1).2 z.2), if_neg (fun z => (y z.1).1 z.2), if_neg (fun z => (x z.1).2.2 z.2), if_neg (fun z => (x z.1).2.1 z.2), if_neg (fun z => (x z.1).1 z.2)]
  have d1 : DS (M 2) a 0 0 M1 := by
    refine ⟨⟨?_, by omega, fun i x y => ?_⟩, ?_, ?_, ?_⟩
    · rw [← hM1, mput_ne _ _ _ _ (by decide), mput_ne _ _ _ _ (by decide), mput_ni _ _ _ _ (by decide), mput_ni _ _ _ _ (by decide), mput_same]
    · rw [o1 2 i (fun z => absurd z (by decide)) (fun z => absurd z (by decide))]
    · rw [← hM1, mput_ne _ _ _ _ (by decide), mput_ne _ _ _ _ (by decide), mput_ni _ _ _ _ (by decide), mput_same]
    · rw [← hM1, mput_ne _ _ _ _ (by decide), mput_ne _ _ _ _ (by decide), mput_same]
    · rw [← hM1, mput_same]
  refine l_read (M0 := M1) hK (by omega) (fun M' R L P N m ho hl hv => hQ M' R L P N m ho hl (fun k i x y z => ?_)) 17 0 0 0 M1 (fun _ => 0) (fun _ => 0) (by omega) (by omega) (by omega) d1 ⟨rfl, rfl, fun j a b => by exfalso; omega⟩ rfl rfl (fun j a b => by exfalso; omega) (fun _ _ _ _ _ => rfl)
  rw [hv k i (fun w => ⟨(x w).2.1, (x w).2.2⟩) y z]
  exact o1 k i x y
