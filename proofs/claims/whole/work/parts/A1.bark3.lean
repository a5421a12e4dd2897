/-! ===== bark: all cuts, and the state behind it ===== -/
def RngW (W : Me) (i : Int) : Prop := pl (W 0 i) ∧ (0 ≤ W 1 i ∧ W 1 i < 16) ∧ (-3 ≤ W 2 i ∧ W 2 i ≠ -1 ∧ W 2 i < 16) ∧ (W 3 i = 0 ∨ W 3 i = 1) ∧ (W 4 i = 0 ∨ W 4 i = 1) ∧ (W 5 i = 0 ∨ W 5 i = 1) ∧ (-2 ≤ W 6 i ∧ W 6 i ≤ 99) ∧ W 2 i ≠ W 1 i
theorem nmS_hi {T : Int → Int} {e hi : Int} {s : Int × Int} (h : (nmS T e hi s).2 = 0) (p0 : 0 ≤ s.1) : nmV T e s ≤ hi := by
  by_cases q : hi < nmV T e s
  · exfalso
    unfold nmS at h
    rw [if_pos q] at h
    exact flF_ne (by first | omega | decide) p0 h
  · omega
theorem ltV_b (T : Int → Int) (e : Int) (s : Int × Int) : 0 ≤ ltV T e s ∧ ltV T e s < 16 := by
  unfold ltV
  split
  · next q => unfold isL at q; omega
  · omega
theorem cut_rng {T : Int → Int} {e : Int} {s : Int × Int} (hs : okP e s) (h : (b11 T e s).2 = 0) (W : Me) (i : Int) (hW : ∀ j, W j i = cutW T e s j) : RngW W i := by
  obtain ⟨k1, k2, k3, k4, k8, k9, k10⟩ := b_keep (T := T) (e := e) (s := s)
  obtain ⟨o1, o2, o3, o4, o5, o6, o7, o8, o9, o10, o11⟩ := b_ok (T := T) (e := e) (s := s) hs
  have z1 : (b1 T e s).2 = 0 := Classical.byContradiction (fun q => q (by rw [← k1 q]; exact h))
  have z3 : (b3 T e s).2 = 0 := Classical.byContradiction (fun q => q (by rw [← k3 q]; exact h))
  have z8 : (b8 T e s).2 = 0 := Classical.byContradiction (fun q => q (by rw [← k8 q]; exact h))
  have h1 := nmS_hi (T := T) (e := e) (hi := 23) z1 hs.1
  have h3 := nmS_hi (T := T) (e := e) (hi := 15) z3 o2.1
  have v1 := nmV_b T e s
  have v3 := nmV_b T e (b2 T e s)
  have l6 := ltV_b T e (b6 T e s)
  have l8 := ltV_b T e (myS T e 38 (b7 T e s))
  have y3 := my01 T e 91 (b5 T e s)
  have y4 := my01 T e 120 (b4 T e s)
  have y5 := my01 T e 62 (b10 T e s)
  have d1 := dgV_b T e (b9 T e s)
  have d2 := dgV_b T e (dgS T e (b9 T e s))
  unfold RngW
  rw [hW 0, hW 1, hW 2, hW 3, hW 4, hW 5, hW 6]
  have e0 : cutW T e s 0 = 24 * nmV T e (b2 T e s) + nmV T e s := rfl
  have e1 : cutW T e s 1 = ltV T e (b6 T e s) := rfl
  have e2 : cutW T e s 2 = seV T e (b7 T e s) := rfl
  have e3 : cutW T e s 3 = myV T e 91 (b5 T e s) := rfl
  have e4 : cutW T e s 4 = myV T e 120 (b4 T e s) := rfl
  have e5 : cutW T e s 5 = myV T e 62 (b10 T e s) := rfl
  have e6 : cutW T e s 6 = daV T e (b9 T e s) := rfl
  rw [e0, e1, e2, e3, e4, e5, e6]
  have hse : (-3 ≤ seV T e (b7 T e s) ∧ seV T e (b7 T e s) ≠ -1 ∧ seV T e (b7 T e s) < 16) ∧ seV T e (b7 T e s) ≠ ltV T e (b6 T e s) := by
    have ez : b8 T e s = seS T e (ltV T e (b6 T e s)) (b7 T e s) := rfl
    rw [ez] at z8
    unfold seS at z8
    unfold seV
    by_cases q : isL (sgS T e (myS T e 38 (b7 T e s)))
    · rw [if_pos q] at z8 ⊢
      refine ⟨by omega, fun q2 => ?_⟩
      rw [if_pos q2] at z8
      exact flF_ne (by first | omega | decide) (myS_ok (T := T) (c := 38) (by first | omega | decide) o7).1 z8
    · rw [if_neg q]
      split <;> omega
  have hda : -2 ≤ daV T e (b9 T e s) ∧ daV T e (b9 T e s) ≤ 99 := by
    unfold daV
    split <;> omega
  exact ⟨by unfold pl; omega, l6, hse.1, y3, y4, y5, hda, hse.2⟩
theorem end0 {e : Int} {s : Int × Int} (h : endF e s = 0) (p0 : 0 ≤ s.1) : s.2 = 0 ∧ e ≤ s.1 := by
  unfold endF at h
  split at h
  · exact absurd h (flF_ne (by first | omega | decide) p0)
  · exact ⟨h, by omega⟩
theorem b17_ne {T : Int → Int} {e : Int} {s : Int × Int} (p0 : 0 ≤ s.1) : (b17 T e s).2 ≠ 0 := by
  unfold b17 flS
  exact flF_ne (by split <;> omega) p0
theorem allB_spec {T : Int → Int} {e : Int} : ∀ (k : Nat) (c : Int) (s : Int × Int) (W : Me) (n : Int) (S : Int × Int) (V : Me), 0 ≤ c → c + k = 17 → 0 < k → okP e s → (∀ i, 0 ≤ i → i < c → RngW W i) → allB T e k c s W = (n, S, V) → (1 ≤ n ∧ n ≤ 16 ∧ okP e S ∧ endF e S ≤ 0) ∧ (endF e S = 0 → ∀ i, 0 ≤ i → i < n → RngW V i)
  | 0, c, s, W, n, S, V, _, _, h0, _, _, _ => by omega
  | k + 1, c, s, W, n, S, V, c0, hc, _, hs, hW, he => by
    simp only [allB] at he
    have fin : ∀ S : Int × Int, okP e S → endF e S ≤ 0 := fun S hS => by
      have := hS.2.2
      have := hS.1
      unfold endF flF
      split
      · split <;> omega
      · omega
    by_cases h16 : c = 16
    · subst h16
      rw [if_pos rfl] at he
      simp only [Prod.mk.injEq] at he
      obtain ⟨e1, e2, e3⟩ := he
      subst e1 e2 e3
      have ok17 : okP e (b17 T e s) := flS_ok hs (by split <;> omega) hs.1
      exact ⟨⟨by first | omega | decide, by first | omega | decide, ok17, fin _ ok17⟩, fun z => absurd (end0 z ok17.1).1 (b17_ne hs.1)⟩
    · rw [if_neg h16] at he
      have o11 := (b_ok (T := T) hs).2.2.2.2.2.2.2.2.2.2
      have hW' : (b11 T e s).2 = 0 → ∀ i, 0 ≤ i → i < c + 1 → RngW (fun j i => if i = c then cutW T e s j else W j i) i := fun z i i0 i1 => by
        by_cases q : i = c
        · subst q
          exact cut_rng hs z _ _ (fun j => if_pos rfl)
        · have := hW i i0 (by omega)
          unfold RngW at this ⊢
          simp only
          rw [if_neg q, if_neg q, if_neg q, if_neg q, if_neg q, if_neg q, if_neg q]
          exact this
      by_cases hm : myV T e 59 (b11 T e s) = 1
      · rw [if_pos hm] at he
        have hz : (b11 T e s).2 = 0 := by
          unfold myV at hm
          split at hm
          · next q => exact (sg_pos (by rw [q]; decide)).1
          · omega
        exact allB_spec k (c + 1) _ _ n S V (by omega) (by omega) (by omega) (myS_ok (by first | omega | decide) o11) (hW' hz) he
      · rw [if_neg hm] at he
        simp only [Prod.mk.injEq] at he
        obtain ⟨e1, e2, e3⟩ := he
        subst e1 e2 e3
        exact ⟨⟨by omega, by omega, o11, fin _ o11⟩, fun z => hW' (end0 z o11.1).1⟩
/-! the reference's loop -/
def NwW (M : Me) (n : Int) (W : Me) : Prop := ∀ i, 0 ≤ i → i < n → ∀ j : Nat, j ≤ 6 → M (102 + j) i = W j i
def NFr (M M' : Me) : Prop := ∀ k i, (k = 76 → i ≠ 14 ∧ i ≠ 16 ∧ i ≠ 17 ∧ i ≠ 43) → (k < 102 ∨ 108 < k) → M' k i = M k i
theorem NFr.ofK {c : Int} {M M' : Me} (h : KFr c M M') : NFr M M' := fun k i a b => h k i a (by omega)
theorem NFr.ofB {M M' : Me} (h : BFr M M') : NFr M M' := fun k i a _ => h k i (fun q => ⟨(a q).1, (a q).2.1, (a q).2.2.1⟩)
theorem NFr.tr {A B C : Me} (h : NFr A B) (h' : NFr B C) : NFr A C := fun k i a b => (h' k i a b).trans (h k i a b)
theorem RT.mvN {M M' : Me} {T : Int → Int} {e : Int} (h : RT M T e) (f : NFr M M') : RT M' T e :=
  ⟨by rw [f 76 15 (by first | omega | decide) (by first | omega | decide)]; exact h.1, h.2.1, fun i a b => by rw [f 88 i (by first | omega | decide) (by first | omega | decide)]; exact h.2.2 i a b⟩
theorem l_bark_36 {Q : Int → Me → Prop} {M0 : Me} {T : Int → Int} {e n : Int} {S : Int × Int} {V : Me} (hb : ∀ i, 0 ≤ i → i < e → 0 ≤ T i ∧ T i ≤ 255)
    (hG : endF e S = 0 → ∀ M, NFr M0 M → M 76 43 = n → NwW M n V → Go (km 4 mX12_bark Q) 100 [some (.inr 76), none, none, some (.inl 0)] [] (mput (mput M 76 13 0) 76 11 n))
    (hF : endF e S ≠ 0 → ∀ M, NFr M0 M → Q (endF e S) (mput M 76 13 0)) :
    ∀ (k : Nat) (c p : Int) (M W : Me), 1 ≤ c → c + k = 17 → 0 < k → RT M T e → 0 ≤ p → p ≤ e → M 76 14 = p → M 76 43 = c → NFr M0 M → NwW M c W → (if myV T e 59 (p, 0) = 1 then allB T e k c (myS T e 59 (p, 0)) W else (c, (p, 0), W)) = (n, S, V) → Go (km 4 mX12_bark Q) 36 [some (.inr 76), none, some (.inl 1), none] [] M := by
  have fail : ∀ (M : Me) (v : Int), endF e S = v → v ≠ 0 → NFr M0 M → M 76 16 = v → Go (km 4 mX12_bark Q) 36 [some (.inr 76), none, some (.inl 0), none] [] M := fun M v hv hz f h16 => by
    refine s_X12_bark_36 _ M ⟨fun _ => ⟨fun z => absurd rfl z, fun _ => ?_⟩, fun z => absurd rfl z⟩
    rw [h16, ← hv]
    exact hF (by rw [hv]; exact hz) M f
  intro k
  induction k with
  | zero => intro c p M W c1 hc h0; omega
  | succ k ih =>
    intro c p M W c1 hc _ hT p0 pe hp h43 f hd he
    refine s_X12_bark_36 _ M ⟨fun z => absurd z (by first | omega | decide), fun _ => ?_⟩
    rw [hp, hT.1]
    refine ⟨fun z => ⟨fun _ => ?_, fun y => absurd y (by first | omega | decide)⟩, fun z => ?_⟩
    · have hm : ¬ myV T e 59 (p, 0) = 1 := by
        unfold myV sgS
        rw [if_neg (fun q => by simp only at q; omega)]
        decide
      rw [if_neg hm] at he
      simp only [Prod.mk.injEq] at he
      obtain ⟨e1, e2, e3⟩ := he
      subst e1 e2 e3
      rw [h43]
      refine hG ?_ M f h43 hd
      unfold endF
      rw [if_neg (by simp only; omega)]
    · refine q_takes hT (by omega) (by omega) (fun y => ⟨fun x => absurd x (by first | omega | decide), fun _ => ?_⟩) (fun y => ⟨fun _ => ?_, fun x => absurd rfl x⟩)
      · rw [hp] at y ⊢
        have hm : myV T e 59 (p, 0) = 1 := by unfold myV; rw [if_pos y]
        have hms : myS T e 59 (p, 0) = (p + 1, 0) := by unfold myS; rw [if_pos y]
        rw [if_pos hm, hms] at he
        simp only [allB] at he
        obtain ⟨M1, hM1⟩ : ∃ M1, M1 = mput M 76 14 (p + 1) := ⟨_, rfl⟩
        have f1 : NFr M M1 := by rw [hM1]; exact NFr.ofB (BFr.p14 _ _)
        have g1 : M1 76 14 = p + 1 := by rw [hM1, mput_same]
        have c1' : M1 76 43 = c := by rw [hM1, mput_ni _ _ _ _ (by first | omega | decide)]; exact h43
        have hd1 : NwW M1 c W := fun i i0 i1 j j6 => by rw [hM1, mput_ne _ _ _ _ (by omega)]; exact hd i i0 i1 j j6
        have hT1 := hT.mvN f1
        rw [← hM1]
        refine q_cut hT1 hb g1 c1' (by omega) (by omega) (by omega) (by omega) (fun cl z2 M2 r2 g2 c2 w2 => ⟨fun x => absurd x (by first | omega | decide), fun _ => ?_⟩) (fun cl z2 M2 r2 g2 => ⟨fun _ => ?_, fun x => absurd rfl x⟩) (fun cl M2 r2 g2 => ⟨fun _ => ?_, fun x => absurd rfl x⟩)
        · rw [if_neg (by omega)] at he
          have o11 := (b_ok (T := T) (e := e) (s := (p + 1, 0)) ⟨by simp only; omega, by simp only; omega, Int.le_refl _⟩).2.2.2.2.2.2.2.2.2.2
          have s11 : b11 T e (p + 1, 0) = ((b11 T e (p + 1, 0)).1, 0) := pair_eq rfl z2
          rw [s11] at he
          refine ih (c + 1) (b11 T e (p + 1, 0)).1 M2 (fun j i => if i = c then cutW T e (p + 1, 0) j else W j i) (by omega) (by omega) (by omega) (hT1.mvN (NFr.ofK r2)) o11.1 o11.2.1 g2 c2 (f.tr (f1.tr (NFr.ofK r2))) (fun i i0 i1 j j6 => ?_) he
          by_cases q : i = c
          · subst q
            exact (w2 j j6).trans (if_pos rfl).symm
          · simp only
            rw [if_neg q, r2 (102 + j) i (by omega) (fun _ => q)]
            exact hd1 i i0 (by omega) j j6
        · rw [if_neg (by omega)] at he
          have hm0 : ¬ myV T e 59 (b11 T e (p + 1, 0)) = 1 := by
            unfold myV
            rw [sg_f z2, if_neg (by first | omega | decide)]
            decide
          rw [if_neg hm0] at he
          simp only [Prod.mk.injEq] at he
          obtain ⟨e1, e2, e3⟩ := he
          subst e1 e2 e3
          refine fail M2 (b11 T e (p + 1, 0)).2 ?_ z2 (f.tr (f1.tr (NFr.ofK r2))) g2
          unfold endF
          split
          · exact flF_k z2
          · rfl
        · rw [if_pos cl] at he
          simp only [Prod.mk.injEq] at he
          obtain ⟨e1, e2, e3⟩ := he
          subst e1 e2 e3
          have hz : (b17 T e (p + 1, 0)).2 ≠ 0 := b17_ne (by simp only; omega)
          refine fail M2 (b17 T e (p + 1, 0)).2 ?_ hz (f.tr (f1.tr (NFr.ofK r2))) g2
          unfold endF
          split
          · exact flF_k hz
          · rfl
      · rw [hp] at y ⊢
        have hm : ¬ myV T e 59 (p, 0) = 1 := by unfold myV; rw [if_neg y]; decide
        rw [if_neg hm] at he
        simp only [Prod.mk.injEq] at he
        obtain ⟨e1, e2, e3⟩ := he
        subst e1 e2 e3
        refine fail _ (-1000 * 1 - p) ?_ (by omega) (f.tr (NFr.ofB (BFr.p16 _ _))) (mput_same _ _ _ _)
        unfold endF flF
        exact (if_pos z).trans (if_pos rfl)
/-! the copies -/
def stW (M M' : Me) (n : Int) (V : Me) : Prop := ∀ i, 0 ≤ i → i < n → M' 80 i = V 0 i ∧ M' 81 i = V 1 i ∧ M' 82 i = V 2 i ∧ M' 83 i = V 3 i ∧ M' 84 i = V 4 i ∧ M' 85 i = V 5 i ∧ M' 86 i = V 6 i ∧ M' 87 i = V 0 i ∧ M' 77 i = 0 ∧ M' 77 (16 + i) = V 0 i ∧ M' 77 (32 + i) = 99 ∧ M' 77 (48 + i) = 0 ∧ M' 77 (64 + i) = 0
def CFr (M M' : Me) : Prop := (∀ k i, k ≠ 77 → (k < 80 ∨ 87 < k) → M' k i = M k i) ∧ M' 77 80 = M 77 80 ∧ M' 77 81 = M 77 81
theorem l_bark_100 {Q : Int → Me → Prop} {M0 : Me} {n : Int} {V : Me} (hn : M0 76 11 = n) (n16 : n ≤ 16) (hd : NwW M0 n V) (hQ : ∀ M, CFr M0 M → stW M0 M n V → Q n M) :
    ∀ (k : Nat) (c : Int) (M : Me), 0 ≤ c → c + k = n → CFr M0 M → stW M0 M c V → Go (km 4 mX12_bark Q) 100 [some (.inr 76), none, none, some (.inl c)] [] M := by
  intro k
  induction k with
  | zero =>
    intro c M c0 hc f hs
    have : c = n := by omega
    subst this
    refine s_X12_bark_100 _ M ?_
    rw [f.1 76 11 (by first | omega | decide) (by first | omega | decide), hn]
    exact ⟨fun _ => hQ M f hs, fun z => by exfalso; omega⟩
  | succ k ih =>
    intro c M c0 hc f hs
    refine s_X12_bark_100 _ M ?_
    have g : ∀ j : Nat, j ≤ 6 → M (102 + j) c = V j c := fun j j6 => by rw [f.1 (102 + j) c (by omega) (by omega)]; exact hd c c0 (by omega) j j6
    have g0 : M 102 c = V 0 c := g 0 (by first | omega | decide)
    have g1 : M 103 c = V 1 c := g 1 (by first | omega | decide)
    have g2 : M 104 c = V 2 c := g 2 (by first | omega | decide)
    have g3 : M 105 c = V 3 c := g 3 (by first | omega | decide)
    have g4 : M 106 c = V 4 c := g 4 (by first | omega | decide)
    have g5 : M 107 c = V 5 c := g 5 (by first | omega | decide)
    have g6 : M 108 c = V 6 c := g 6 (by first | omega | decide)
    rw [f.1 76 11 (by first | omega | decide) (by first | omega | decide), hn, g0, g1, g2, g3, g4, g5, g6, show 0 + c = c by omega]
    refine ⟨fun z => by exfalso; omega, fun _ => ⟨by omega, by omega, by omega, by omega, by omega, by omega, by omega, by omega, by omega, by omega, by omega, by omega, by omega, by omega, by omega, by omega, by unfold cn; omega, by omega, by unfold cn; omega, by omega, by omega, by unfold cn; omega, by omega, by unfold cn; omega, by omega, by unfold cn; omega, by omega, by unfold cn; omega, ?_⟩⟩
    refine ih (c + 1) _ (by omega) (by omega) ⟨fun k i a b => ?_, ?_, ?_⟩ (fun i i0 i1 => ?_)
    · rw [mput_ne _ _ _ _ a, mput_ne _ _ _ _ a, mput_ne _ _ _ _ a, mput_ne _ _ _ _ a, mput_ne _ _ _ _ a, mput_ne _ _ _ _ (by omega), mput_ne _ _ _ _ (by omega), mput_ne _ _ _ _ (by omega), mput_ne _ _ _ _ (by omega), mput_ne _ _ _ _ (by omega), mput_ne _ _ _ _ (by omega), mput_ne _ _ _ _ (by omega), mput_ne _ _ _ _ (by omega)]
      exact f.1 k i a b
    · rw [mput_ni _ _ _ _ (by omega), mput_ni _ _ _ _ (by omega), mput_ni _ _ _ _ (by omega), mput_ni _ _ _ _ (by omega), mput_ni _ _ _ _ (by omega), mput_ne _ _ _ _ (by first | omega | decide), mput_ne _ _ _ _ (by first | omega | decide), mput_ne _ _ _ _ (by first | omega | decide), mput_ne _ _ _ _ (by first | omega | decide), mput_ne _ _ _ _ (by first | omega | decide), mput_ne _ _ _ _ (by first | omega | decide), mput_ne _ _ _ _ (by first | omega | decide), mput_ne _ _ _ _ (by first | omega | decide)]
      exact f.2.1
    · rw [mput_ni _ _ _ _ (by omega), mput_ni _ _ _ _ (by omega), mput_ni _ _ _ _ (by omega), mput_ni _ _ _ _ (by omega), mput_ni _ _ _ _ (by omega), mput_ne _ _ _ _ (by first | omega | decide), mput_ne _ _ _ _ (by first | omega | decide), mput_ne _ _ _ _ (by first | omega | decide), mput_ne _ _ _ _ (by first | omega | decide), mput_ne _ _ _ _ (by first | omega | decide), mput_ne _ _ _ _ (by first | omega | decide), mput_ne _ _ _ _ (by first | omega | decide), mput_ne _ _ _ _ (by first | omega | decide)]
      exact f.2.2
    · by_cases q : i = c
      · subst q
        have a1 : ¬ (i = 64 + i) := by omega
        have a2 : ¬ (i = 48 + i) := by omega
        have a3 : ¬ (i = 32 + i) := by omega
        have a4 : ¬ (i = 16 + i) := by omega
        have a5 : ¬ (16 + i = 64 + i) := by omega
        have a6 : ¬ (16 + i = 48 + i) := by omega
        have a7 : ¬ (16 + i = 32 + i) := by omega
        have a8 : ¬ (32 + i = 64 + i) := by omega
        have a9 : ¬ (32 + i = 48 + i) := by omega
        have aa : ¬ (48 + i = 64 + i) := by omega
        simp [mput, a1, a2, a3, a4, a5, a6, a7, a8, a9, aa]
      · obtain ⟨s1, s2, s3, s4, s5, s6, s7, s8, s9, sa, sb, sc, sd⟩ := hs i i0 (by omega)
        have hi : i < 16 := by omega
        have n1 : ∀ a b : Int, a = 0 ∨ a = 16 ∨ a = 32 ∨ a = 48 ∨ a = 64 → b = 0 ∨ b = 16 ∨ b = 32 ∨ b = 48 ∨ b = 64 → a + i ≠ b + c := fun a b ha hb => by omega
        have e77 : ∀ a : Int, a = 0 ∨ a = 16 ∨ a = 32 ∨ a = 48 ∨ a = 64 → mput (mput (mput (mput (mput (mput (mput (mput (mput (mput (mput (mput (mput M 80 c (V 0 c)) 81 c (V 1 c)) 82 c (V 2 c)) 83 c (V 3 c)) 84 c (V 4 c)) 85 c (V 5 c)) 86 c (V 6 c)) 87 c (V 0 c)) 77 c 0) 77 (16 + c) (V 0 c)) 77 (32 + c) 99) 77 (48 + c) 0) 77 (64 + c) 0 77 (a + i) = M 77 (a + i) := fun a ha => by
          rw [mput_ni _ _ _ _ (n1 a 64 ha (by omega)), mput_ni _ _ _ _ (n1 a 48 ha (by omega)), mput_ni _ _ _ _ (n1 a 32 ha (by omega)), mput_ni _ _ _ _ (n1 a 16 ha (by omega)), mput_ni _ _ _ _ (by have := n1 a 0 ha (by omega); omega), mput_ne _ _ _ _ (by first | omega | decide), mput_ne _ _ _ _ (by first | omega | decide), mput_ne _ _ _ _ (by first | omega | decide), mput_ne _ _ _ _ (by first | omega | decide), mput_ne _ _ _ _ (by first | omega | decide), mput_ne _ _ _ _ (by first | omega | decide), mput_ne _ _ _ _ (by first | omega | decide), mput_ne _ _ _ _ (by first | omega | decide)]
        have e0 := e77 0 (by omega)
        rw [show (0 : Int) + i = i by omega] at e0
        rw [e0, e77 16 (by omega), e77 32 (by omega), e77 48 (by omega), e77 64 (by omega)]
        refine ⟨?_, ?_, ?_, ?_, ?_, ?_, ?_, ?_, s9, sa, sb, sc, sd⟩
        all_goals
          simp only [mput, q, and_false, if_false, Nat.reduceEqDiff, false_and]
          assumption
def bgW (M : Me) (n : Int) : Prop := ∀ i, 0 ≤ i → i < n → M 38 i = 0 ∧ M 39 i = M 4 i ∧ M 40 i = 99 ∧ M 41 i = 0 ∧ M 42 i = 0
theorem l_begin {Q : Int → Me → Prop} {M0 : Me} {n : Int} (hn : M0 3 8 = n) (n16 : n ≤ 16) (hQ : ∀ M, (∀ k i, (k < 38 ∨ 42 < k) → M k i = M0 k i) → bgW M n → Q 0 M) :
    ∀ (k : Nat) (c : Int) (M : Me), 0 ≤ c → c + k = n → (∀ k i, (k < 38 ∨ 42 < k) → M k i = M0 k i) → bgW M c → Go (km 0 mX8_begin Q) 2 [some (.inr 37), some (.inr 3), some (.inl c)] [] M := by
  intro k
  induction k with
  | zero =>
    intro c M c0 hc f hs
    have : c = n := by omega
    subst this
    refine s_X8_begin_2 _ M ?_
    rw [f 3 8 (by first | omega | decide), hn]
    exact ⟨fun _ => hQ M f hs, fun z => by exfalso; omega⟩
  | succ k ih =>
    intro c M c0 hc f hs
    refine s_X8_begin_2 _ M ?_
    rw [f 3 8 (by first | omega | decide), hn]
    refine ⟨fun z => by exfalso; omega, fun _ => ⟨by omega, by omega, by omega, by omega, by omega, by omega, by unfold cn; omega, ?_⟩⟩
    refine ih (c + 1) _ (by omega) (by omega) (fun k i a => ?_) (fun i i0 i1 => ?_)
    · rw [mput_ne _ _ _ _ (by omega), mput_ne _ _ _ _ (by omega), mput_ne _ _ _ _ (by omega), mput_ne _ _ _ _ (by omega), mput_ne _ _ _ _ (by omega)]
      exact f k i a
    · by_cases q : i = c
      · subst q
        simp [mput]
      · obtain ⟨s1, s2, s3, s4, s5⟩ := hs i i0 (by omega)
        simp [mput, q, s1, s2, s3, s4, s5]
theorem RCuts.mv {M M' : Me} (h : RCuts M) (f : ∀ k i, (3 ≤ k ∧ k ≤ 11) ∨ (80 ≤ k ∧ k ≤ 87) → M' k i = M k i) (g : M' 76 11 = M 76 11) : RCuts M' := by
  unfold RCuts at *
  rw [f 3 8 (by first | omega | decide), g]
  refine ⟨h.1, h.2.1, h.2.2.1, fun c c0 c1 => ?_⟩
  rw [f 4 c (by first | omega | decide), f 5 c (by first | omega | decide), f 6 c (by first | omega | decide), f 7 c (by first | omega | decide), f 8 c (by first | omega | decide), f 9 c (by first | omega | decide), f 10 c (by first | omega | decide), f 11 c (by first | omega | decide), f 80 c (by first | omega | decide), f 81 c (by first | omega | decide), f 82 c (by first | omega | decide), f 83 c (by first | omega | decide), f 84 c (by first | omega | decide), f 85 c (by first | omega | decide), f 86 c (by first | omega | decide), f 87 c (by first | omega | decide)]
  exact h.2.2.2 c c0 c1
theorem RSt.mv {o b : Nat} {n : Int} {M M' : Me} (h : RSt o b n M) (f : ∀ k i, (o ≤ k ∧ k ≤ o + 5) ∨ k = b → M' k i = M k i) : RSt o b n M' := by
  unfold RSt at *
  refine ⟨fun c c0 c1 => ?_, ?_, ?_, ?_, ?_⟩
  · rw [f (o + 1) c (by omega), f (o + 2) c (by omega), f (o + 3) c (by omega), f (o + 4) c (by omega), f (o + 5) c (by omega), f b c (by omega), f b (16 + c) (by omega), f b (32 + c) (by omega), f b (48 + c) (by omega), f b (64 + c) (by omega)]
    exact h.1 c c0 c1
  · rw [f o 5 (by omega)]; exact h.2.1
  · rw [f o 6 (by omega)]; exact h.2.2.1
  · rw [f o 5 (by omega), f b 80 (by omega)]; exact h.2.2.2.1
  · rw [f o 6 (by omega), f b 81 (by omega)]; exact h.2.2.2.2
def FrK (M M' : Me) : Prop := ∀ k i, k ≠ 1 → (k < 3 ∨ 11 < k) → (k < 13 ∨ 21 < k) → (k < 38 ∨ 42 < k) → k ≠ 77 → (k < 80 ∨ 87 < k) → (k < 102 ∨ 108 < k) → (k = 76 → i ≠ 11 ∧ i ≠ 13 ∧ i ≠ 14 ∧ i ≠ 15 ∧ i ≠ 16 ∧ i ≠ 17 ∧ i ≠ 19 ∧ i ≠ 21 ∧ i ≠ 43) → M' k i = M k i
def unl (M : Me) : Prop := ∀ c, 0 ≤ c → c < M 3 8 → M 6 c ≠ M 5 c
theorem o_bark {M : Me} (hC : RCuts M) (hU : unl M) (hS : RSt 37 77 (M 3 8) M) (hT : RTape M) (a : Int) (P : Me → Prop) (hP0 : P M) (hP : ∀ M', FrK M M' → M' 1 1 = 0 → M' 76 13 = 0 → RCuts M' → unl M' → RSt 37 77 (M' 3 8) M' → P M') : Calls 5 mX11_bark [.inr 0, .inl a] M (fun r M1 => Calls 4 mX12_bark [.inr 76, .inl a] M1 (fun r' M2 => r = r' ∧ P M2)) := by
  obtain ⟨t1, t2, t3, t4⟩ := hT
  by_cases hv : (1 ≤ a ∧ a ≤ 160) ∧ a ≤ M 1 1
  · obtain ⟨ha, hsz⟩ := hv
    refine e_X11_bark ⟨fun z => by exfalso; omega, fun _ => ⟨fun z => by exfalso; omega, fun _ => ⟨fun _ => ?_, fun z => by exfalso; omega⟩⟩⟩
    obtain ⟨⟨n, S, V⟩, hR⟩ : ∃ R, allB (M 2) a 17 0 (0, 0) (fun _ _ => 0) = R := ⟨_, rfl⟩
    obtain ⟨⟨n1, n16, oS, eS⟩, rng⟩ := allB_spec 17 0 (0, 0) (fun _ _ => 0) n S V (by omega) (by omega) (by omega) ⟨Int.le_refl _, by simp only; omega, Int.le_refl _⟩ (fun i a b => by omega) hR
    have hb : ∀ i, 0 ≤ i → i < a → 0 ≤ M 2 i ∧ M 2 i ≤ 255 := fun i i0 i1 => (t4 i i0 (by omega)).2
    have ref : ∀ (M1 : Me) (f1 : ∀ k i, 57 ≤ k → M1 k i = M k i) (QQ : Int → Me → Prop), (endF a S = 0 → ∀ M2 : Me, (∀ k i, (k < 77) → k ≠ 76 → M2 k i = M1 k i) → (∀ k i, 57 ≤ k → k ≠ 77 → (k < 80 ∨ 87 < k) → (k < 102 ∨ 108 < k) → (k = 76 → i ≠ 11 ∧ i ≠ 13 ∧ i ≠ 14 ∧ i ≠ 15 ∧ i ≠ 16 ∧ i ≠ 17 ∧ i ≠ 19 ∧ i ≠ 21 ∧ i ≠ 43) → M2 k i = M k i) → M2 76 11 = n → M2 76 13 = 0 → stW M M2 n V → M2 77 80 = M 77 80 → M2 77 81 = M 77 81 → QQ n M2) → (endF a S ≠ 0 → ∀ M2 : Me, (∀ k i, (k < 77) → k ≠ 76 → M2 k i = M1 k i) → (∀ k i, 57 ≤ k → (k < 102 ∨ 108 < k) → (k = 76 → i ≠ 13 ∧ i ≠ 14 ∧ i ≠ 15 ∧ i ≠ 16 ∧ i ≠ 17 ∧ i ≠ 19 ∧ i ≠ 21 ∧ i ≠ 43) → M2 k i = M k i) → M2 76 13 = 0 → QQ (endF a S) M2) → Calls 4 mX12_bark [.inr 76, .inl a] M1 QQ := fun M1 f1 QQ hg hf => by
      refine e_X12_bark ⟨fun _ => ⟨fun _ => e_X12_beginsText ?_, fun z => by rw [f1 76 13 (by first | omega | decide), t1] at z; exfalso; omega⟩, fun z => absurd ha z⟩
      obtain ⟨Ma, hMa⟩ : ∃ Ma, Ma = mput (mput (mput (mput (mput M1 76 14 0) 76 15 a) 76 19 0) 76 21 0) 76 43 0 := ⟨_, rfl⟩
      rw [← hMa]
      have fa : ∀ k i, (k = 76 → i ≠ 14 ∧ i ≠ 15 ∧ i ≠ 19 ∧ i ≠ 21 ∧ i ≠ 43) → Ma k i = M1 k i := fun k i q => by
        rw [hMa]
        by_cases z : k = 76
        · subst z
          obtain ⟨q1, q2, q3, q4, q5⟩ := q rfl
          rw [mput_ni _ _ _ _ q5, mput_ni _ _ _ _ q4, mput_ni _ _ _ _ q3, mput_ni _ _ _ _ q2, mput_ni _ _ _ _ q1]
        · rw [mput_ne _ _ _ _ z, mput_ne _ _ _ _ z, mput_ne _ _ _ _ z, mput_ne _ _ _ _ z, mput_ne _ _ _ _ z]
      have a14 : Ma 76 14 = 0 := by rw [hMa, mput_ni _ _ _ _ (by first | omega | decide), mput_ni _ _ _ _ (by first | omega | decide), mput_ni _ _ _ _ (by first | omega | decide), mput_ni _ _ _ _ (by first | omega | decide), mput_same]
      have a15 : Ma 76 15 = a := by rw [hMa, mput_ni _ _ _ _ (by first | omega | decide), mput_ni _ _ _ _ (by first | omega | decide), mput_ni _ _ _ _ (by first | omega | decide), mput_same]
      have a43 : Ma 76 43 = 0 := by rw [hMa, mput_same]
      have hRT : RT Ma (M 2) a := ⟨a15, by omega, fun i i0 i1 => by rw [fa 88 i (by first | omega | decide), f1 88 i (by first | omega | decide)]; exact (t4 i i0 (by omega)).1⟩
      have hG : endF a S = 0 → ∀ M3, NFr Ma M3 → M3 76 43 = n → NwW M3 n V → Go (km 4 mX12_bark QQ) 100 [some (.inr 76), none, none, some (.inl 0)] [] (mput (mput M3 76 13 0) 76 11 n) := fun z M3 f3 c3 w3 => by
        have hd3 : NwW (mput (mput M3 76 13 0) 76 11 n) n V := fun i i0 i1 j j6 => by rw [mput_ne _ _ _ _ (by omega), mput_ne _ _ _ _ (by omega)]; exact w3 i i0 i1 j j6
        refine l_bark_100 (M0 := mput (mput M3 76 13 0) 76 11 n) (mput_same _ _ _ _) n16 hd3 (fun M4 f4 s4 => hg z M4 (fun k i a b => ?_) (fun k i a b c d e => ?_) ?_ ?_ s4 ?_ ?_) n.toNat 0 _ (by omega) (by omega) ⟨fun _ _ _ _ => rfl, rfl, rfl⟩ (fun i i0 i1 => by omega)
        · rw [f4.1 k i (by omega) (by omega), mput_ne _ _ _ _ b, mput_ne _ _ _ _ b, f3 k i (fun q => absurd q b) (by omega), fa k i (fun q => absurd q b)]
        · by_cases z6 : k = 76
          · subst z6
            obtain ⟨q1, q2, q3, q4, q5, q6, q7, q8, q9⟩ := e rfl
            rw [f4.1 76 i b c, mput_ni _ _ _ _ q1, mput_ni _ _ _ _ q2, f3 76 i (fun _ => ⟨q3, q5, q6, q9⟩) d, fa 76 i (fun _ => ⟨q3, q4, q7, q8, q9⟩)]
            exact f1 76 i (by first | omega | decide)
          · rw [f4.1 k i b c, mput_ne _ _ _ _ z6, mput_ne _ _ _ _ z6, f3 k i (fun q => absurd q z6) d, fa k i (fun q => absurd q z6)]
            exact f1 k i a
        · rw [f4.1 76 11 (by first | omega | decide) (by first | omega | decide), mput_same]
        · rw [f4.1 76 13 (by first | omega | decide) (by first | omega | decide), mput_ni _ _ _ _ (by first | omega | decide), mput_same]
        · rw [f4.2.1, mput_ne _ _ _ _ (by first | omega | decide), mput_ne _ _ _ _ (by first | omega | decide), f3 77 80 (by first | omega | decide) (by first | omega | decide), fa 77 80 (by first | omega | decide)]; exact f1 77 80 (by first | omega | decide)
        · rw [f4.2.2, mput_ne _ _ _ _ (by first | omega | decide), mput_ne _ _ _ _ (by first | omega | decide), f3 77 81 (by first | omega | decide) (by first | omega | decide), fa 77 81 (by first | omega | decide)]; exact f1 77 81 (by first | omega | decide)
      have hF : endF a S ≠ 0 → ∀ M3, NFr Ma M3 → QQ (endF a S) (mput M3 76 13 0) := fun z M3 f3 => by
        refine hf z _ (fun k i a b => ?_) (fun k i a d e => ?_) (mput_same _ _ _ _)
        · rw [mput_ne _ _ _ _ b, f3 k i (fun q => absurd q b) (by omega), fa k i (fun q => absurd q b)]
        · by_cases z6 : k = 76
          · subst z6
            obtain ⟨q2, q3, q4, q5, q6, q7, q8, q9⟩ := e rfl
            rw [mput_ni _ _ _ _ q2, f3 76 i (fun _ => ⟨q3, q5, q6, q9⟩) d, fa 76 i (fun _ => ⟨q3, q4, q7, q8, q9⟩)]
            exact f1 76 i (by first | omega | decide)
          · rw [mput_ne _ _ _ _ z6, f3 k i (fun q => absurd q z6) d, fa k i (fun q => absurd q z6)]
            exact f1 k i a
      have hR' := hR
      simp only [allB] at hR'
      rw [if_neg (by first | omega | decide)] at hR'
      refine q_cut hRT hb a14 a43 (by omega) (by omega) (by omega) (by omega) (fun cl z2 M2 r2 g2 c2 w2 => ?_) (fun cl z2 M2 r2 g2 => ?_) (fun cl => by exfalso; omega)
      · have o11 := (b_ok (T := M 2) (e := a) (s := (0, 0)) ⟨Int.le_refl _, by simp only; omega, Int.le_refl _⟩).2.2.2.2.2.2.2.2.2.2
        have s11 : b11 (M 2) a (0, 0) = ((b11 (M 2) a (0, 0)).1, 0) := pair_eq rfl z2
        rw [s11] at hR'
        refine l_bark_36 (M0 := Ma) hb hG hF 16 (0 + 1) (b11 (M 2) a (0, 0)).1 M2 _ (by omega) (by omega) (by omega) (hRT.mvN (NFr.ofK r2)) o11.1 o11.2.1 g2 c2 (NFr.ofK r2) (fun i i0 i1 j j6 => ?_) hR'
        have : i = 0 := by omega
        subst this
        exact (w2 j j6).trans (if_pos rfl).symm
      · have hm0 : ¬ myV (M 2) a 59 (b11 (M 2) a (0, 0)) = 1 := by
          unfold myV
          rw [sg_f z2, if_neg (by first | omega | decide)]
          decide
        rw [if_neg hm0] at hR'
        simp only [Prod.mk.injEq] at hR'
        obtain ⟨e1, e2, e3⟩ := hR'
        have eE : endF a S = (b11 (M 2) a (0, 0)).2 := by
          rw [← e2]
          unfold endF
          split
          · exact flF_k z2
          · rfl
        refine s_X12_bark_36 _ M2 ⟨fun _ => ⟨fun z => absurd rfl z, fun _ => ?_⟩, fun z => absurd rfl z⟩
        rw [g2, ← eE]
        exact hF (by rw [eE]; exact z2) M2 (NFr.ofK r2)
    refine e_X0_read (e_X9_beginText ?_)
    obtain ⟨Mb, hMb⟩ : ∃ Mb, Mb = mput (mput M 1 2 (min a (M 1 1))) 13 8 0 := ⟨_, rfl⟩
    have etp : mput (mput (mput (mput M 1 2 (min a (M 1 1))) 1 3 0) 1 4 0) 13 8 0 = tp Mb (0, 0) := by
      rw [hMb, ← tp_put _ _ _ _ (by first | omega | decide)]
      rfl
    rw [etp]
    have fb : FrD M Mb := fun k i x y => by
      rw [hMb, mput_ne _ _ _ _ (by omega)]
      by_cases q : k = 1
      · subst q; exact mput_ni _ _ _ _ (y rfl).1
      · exact mput_ne _ _ _ _ q
    have hCT : CT Mb (M 2) a := ⟨by rw [hMb, mput_ne _ _ _ _ (by first | omega | decide), mput_same]; omega, by omega, fun i i0 i1 => by rw [hMb, mput_ne _ _ _ _ (by first | omega | decide), mput_ne _ _ _ _ (by first | omega | decide)]⟩
    refine l_X0_read (M0 := M) (n := n) (S := S) (V := V) (fun M1 f1 h13 d1 => ?_) 17 0 (0, 0) Mb (fun _ _ => 0) (by omega) (by omega) hCT ⟨Int.le_refl _, by simp only; omega, Int.le_refl _⟩ fb (by rw [hMb, mput_same]) (fun i i0 i1 => by omega) hR (by omega)
    have hi1 : ∀ k i, 22 ≤ k → M1 k i = M k i := fun k i q => f1 k i (by omega) (by omega)
    by_cases hz : endF a S = 0
    · rw [if_pos hz]
      refine ⟨fun z => by exfalso; omega, fun _ => e_X1_copyOf ?_⟩
      obtain ⟨M2, hM2⟩ : ∃ M2, M2 = mput (mcopy (mcopy (mcopy (mcopy (mcopy (mcopy (mcopy (mcopy (mput M1 1 1 0) 14 4 16) 15 5 16) 16 6 16) 17 7 16) 18 8 16) 19 9 16) 20 10 16) 21 11 16) 3 8 ((mput M1 1 1 0) 13 8) := ⟨_, rfl⟩
      rw [← hM2]
      have m13 : M2 3 8 = n := by rw [hM2, mput_same, mput_ne _ _ _ _ (by first | omega | decide)]; exact h13
      have cp : ∀ i, 0 ≤ i → i < n → M2 4 i = V 0 i ∧ M2 5 i = V 1 i ∧ M2 6 i = V 2 i ∧ M2 7 i = V 3 i ∧ M2 8 i = V 4 i ∧ M2 9 i = V 5 i ∧ M2 10 i = V 6 i ∧ M2 11 i = V 0 i := fun i i0 i1 => by
        obtain ⟨g1, g2, g3, g4, g5, g6, g7, g8⟩ := d1 i i0 i1
        have i16 : i < 16 := by omega
        rw [hM2]
        simp [mput, mcopy, i0, i16, g1, g2, g3, g4, g5, g6, g7, g8]
      have ot : ∀ k i, k ≠ 1 → (k < 3 ∨ 11 < k) → M2 k i = M1 k i := fun k i x y => by
        rw [hM2, mput_ne _ _ _ _ (by omega), mcopy_ne _ _ _ (by omega), mcopy_ne _ _ _ (by omega), mcopy_ne _ _ _ (by omega), mcopy_ne _ _ _ (by omega), mcopy_ne _ _ _ (by omega), mcopy_ne _ _ _ (by omega), mcopy_ne _ _ _ (by omega), mcopy_ne _ _ _ (by omega), mput_ne _ _ _ _ x]
      have o11 : M2 1 1 = 0 := by
        rw [hM2, mput_ne _ _ _ _ (by first | omega | decide), mcopy_ne _ _ _ (by first | omega | decide), mcopy_ne _ _ _ (by first | omega | decide), mcopy_ne _ _ _ (by first | omega | decide), mcopy_ne _ _ _ (by first | omega | decide), mcopy_ne _ _ _ (by first | omega | decide), mcopy_ne _ _ _ (by first | omega | decide), mcopy_ne _ _ _ (by first | omega | decide), mcopy_ne _ _ _ (by first | omega | decide), mput_same]
      refine e_X8_begin (l_begin (M0 := M2) m13 n16 (fun M3 f3 b3 => ?_) n.toNat 0 M2 (by omega) (by omega) (fun _ _ _ => rfl) (fun i i0 i1 => by omega))
      refine ref M3 (fun k i q => by rw [f3 k i (by omega), ot k i (by omega) (by omega)]; exact hi1 k i (by omega)) _ (fun _ M4 l4 g4 n4 z4 s4 e80 e81 => ⟨rfl, ?_⟩) (fun z => absurd hz z)
      have lo : ∀ k i, k < 38 → k ≠ 1 → (k < 3 ∨ 11 < k) → M4 k i = M1 k i := fun k i x y w => by rw [l4 k i (by omega) (by omega), f3 k i (by omega)]; exact ot k i y w
      have m38 : M4 3 8 = n := by rw [l4 3 8 (by first | omega | decide) (by first | omega | decide), f3 3 8 (by first | omega | decide)]; exact m13
      refine hP M4 (fun k i q1 q2 q3 q4 q5 q6 q7 q8 => ?_) ?_ z4 ?_ ?_ ?_
      · by_cases hk : 57 ≤ k
        · exact g4 k i hk q5 q6 q7 q8
        · rw [l4 k i (by omega) (by omega), f3 k i q4, ot k i q1 q2]
          exact f1 k i q3 (fun z => absurd z q1)
      · rw [l4 1 1 (by first | omega | decide) (by first | omega | decide), f3 1 1 (by first | omega | decide)]; exact o11
      · refine ⟨by omega, by omega, by rw [n4, m38], fun c c0 c1 => ?_⟩
        rw [m38] at c1
        obtain ⟨g1, g2, g3, g4', g5, g6, g7, g8⟩ := cp c c0 c1
        obtain ⟨s1, s2, s3, s4', s5, s6, s7, s8, -⟩ := s4 c c0 c1
        obtain ⟨r1, r2, r3, r4, r5, r6, r7, -⟩ := rng hz c c0 c1
        have l : ∀ k : Nat, k < 38 → M4 k c = M2 k c := fun k hk => by rw [l4 k c (by omega) (by omega), f3 k c (by omega)]
        rw [l 4 (by first | omega | decide), l 5 (by first | omega | decide), l 6 (by first | omega | decide), l 7 (by first | omega | decide), l 8 (by first | omega | decide), l 9 (by first | omega | decide), l 10 (by first | omega | decide), l 11 (by first | omega | decide), g1, g2, g3, g4', g5, g6, g7, g8, s1, s2, s3, s4', s5, s6, s7, s8]
        exact ⟨⟨r1, r2, r3, r4, r5, r6, r7, r1⟩, rfl, rfl, rfl, rfl, rfl, rfl, rfl, rfl⟩
      · intro c c0 c1
        rw [m38] at c1
        obtain ⟨g1, g2, g3, -⟩ := cp c c0 c1
        obtain ⟨-, -, -, -, -, -, -, r8⟩ := rng hz c c0 c1
        have l : ∀ k : Nat, k < 38 → M4 k c = M2 k c := fun k hk => by rw [l4 k c (by omega) (by omega), f3 k c (by omega)]
        rw [l 6 (by first | omega | decide), l 5 (by first | omega | decide), g2, g3]
        exact r8
      · have h37 : ∀ i, M4 37 i = M 37 i := fun i => by rw [lo 37 i (by first | omega | decide) (by first | omega | decide) (by first | omega | decide)]; exact hi1 37 i (by first | omega | decide)
        obtain ⟨-, u2, u3, u4, u5⟩ := hS
        rw [m38]
        refine ⟨fun c c0 c1 => ?_, by rw [h37]; exact u2, by rw [h37]; exact u3, by rw [h37, e80]; exact u4, by rw [h37, e81]; exact u5⟩
        obtain ⟨x1, x2, x3, x4, x5⟩ := b3 c c0 c1
        obtain ⟨g1, -⟩ := cp c c0 c1
        obtain ⟨-, -, -, -, -, -, -, -, s9, sa, sb, sc, sd⟩ := s4 c c0 c1
        obtain ⟨r1, -⟩ := rng hz c c0 c1
        have l : ∀ k : Nat, 37 < k → k < 43 → M4 k c = M3 k c := fun k ha hk => l4 k c (by omega) (by omega)
        show ((0 ≤ M4 38 c ∧ M4 38 c ≤ 4) ∧ pl (M4 39 c) ∧ (0 ≤ M4 40 c ∧ M4 40 c ≤ 99) ∧ (0 ≤ M4 41 c ∧ M4 41 c ≤ 9999) ∧ (M4 42 c = 0 ∨ M4 42 c = 1)) ∧ (M4 77 c = M4 38 c ∧ M4 77 (16 + c) = M4 39 c ∧ M4 77 (32 + c) = M4 40 c ∧ M4 77 (48 + c) = M4 41 c ∧ M4 77 (64 + c) = M4 42 c)
        have x2' : M3 39 c = V 0 c := by rw [x2, f3 4 c (by first | omega | decide)]; exact g1
        rw [l 38 (by first | omega | decide) (by first | omega | decide), l 39 (by first | omega | decide) (by first | omega | decide), l 40 (by first | omega | decide) (by first | omega | decide), l 41 (by first | omega | decide) (by first | omega | decide), l 42 (by first | omega | decide) (by first | omega | decide), x1, x2', x3, x4, x5, s9, sa, sb, sc, sd]
        exact ⟨⟨by omega, r1, by omega, by omega, Or.inl rfl⟩, rfl, rfl, rfl, rfl, rfl⟩
    · rw [if_neg hz]
      refine ⟨fun _ => ?_, fun z => by exfalso; omega⟩
      refine ref (mput M1 1 1 0) (fun k i q => by rw [mput_ne _ _ _ _ (by omega)]; exact hi1 k i (by omega)) _ (fun z => absurd z hz) (fun _ M4 l4 g4 z4 => ⟨rfl, ?_⟩)
      have lo : ∀ k i, k < 77 → k ≠ 76 → k ≠ 1 → (k < 13 ∨ 21 < k) → M4 k i = M k i := fun k i x x2 y w => by rw [l4 k i x x2, mput_ne _ _ _ _ y]; exact f1 k i w (fun z => absurd z y)
      have m38 : M4 3 8 = M 3 8 := lo 3 8 (by first | omega | decide) (by first | omega | decide) (by first | omega | decide) (by first | omega | decide)
      have n11 : M4 76 11 = M 76 11 := g4 76 11 (by first | omega | decide) (by first | omega | decide) (by first | omega | decide)
      refine hP M4 (fun k i q1 q2 q3 q4 q5 q6 q7 q8 => ?_) ?_ z4 (hC.mv (fun k i q => ?_) n11) (fun c c0 c1 => ?_) ?_
      · by_cases hk : 57 ≤ k
        · exact g4 k i hk q7 (fun z => by obtain ⟨a1, a2, a3, a4, a5, a6, a7, a8, a9⟩ := q8 z; exact ⟨a2, a3, a4, a5, a6, a7, a8, a9⟩)
        · exact lo k i (by omega) (by omega) q1 q3
      · rw [l4 1 1 (by first | omega | decide) (by first | omega | decide), mput_same]
      · rcases q with q | q
        · exact lo k i (by omega) (by omega) (by omega) (by omega)
        · exact g4 k i (by omega) (by omega) (by omega)
      · rw [m38] at c1
        rw [lo 6 c (by first | omega | decide) (by first | omega | decide) (by first | omega | decide) (by first | omega | decide), lo 5 c (by first | omega | decide) (by first | omega | decide) (by first | omega | decide) (by first | omega | decide)]
        exact hU c c0 c1
      · rw [m38]
        refine hS.mv (fun k i q => ?_)
        rcases q with q | q
        · exact lo k i (by omega) (by omega) (by omega) (by omega)
        · subst q; exact g4 77 i (by first | omega | decide) (by first | omega | decide) (by first | omega | decide)
  · have go : Calls 4 mX12_bark [.inr 76, .inl a] M (fun r' M2 => (-1 : Int) = r' ∧ P M2) := by
      refine e_X12_bark ⟨fun q => ⟨fun z => by exfalso; omega, fun _ => ⟨rfl, hP0⟩⟩, fun _ => ⟨rfl, hP0⟩⟩
    exact e_X11_bark ⟨fun _ => go, fun z => ⟨fun _ => go, fun z2 => ⟨fun z3 => by exfalso; omega, fun _ => go⟩⟩⟩
