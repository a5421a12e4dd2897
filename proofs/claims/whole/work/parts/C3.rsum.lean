/-! ===== the reference reads sums ===== -/
def FRr (M M' : Me) : Prop := ∀ k i, k ≠ 89 → k ≠ 90 → (k = 76 → i ≠ 14 ∧ i ≠ 16 ∧ i ≠ 17 ∧ i ≠ 18 ∧ i ≠ 19 ∧ i ≠ 20) → M' k i = M k i
theorem FRr.rf (M : Me) : FRr M M := fun _ _ _ _ _ => rfl
theorem FRr.tr {A B C : Me} (h : FRr A B) (h' : FRr B C) : FRr A C := fun k i a b c => (h' k i a b c).trans (h k i a b c)
theorem FRr.p76 (M : Me) {j : Int} (v : Int) (hj : j = 14 ∨ j = 16 ∨ j = 17 ∨ j = 18 ∨ j = 19 ∨ j = 20) : FRr M (mput M 76 j v) := fun k i a b c => by
  by_cases q : k = 76
  · exact mput_ni _ _ _ _ (by have := c q; omega)
  · exact mput_ne _ _ _ _ q
theorem FRr.p89 (M : Me) (j v : Int) : FRr M (mput M 89 j v) := fun k i a b c => mput_ne _ _ _ _ a
theorem FRr.p90 (M : Me) (j v : Int) : FRr M (mput M 90 j v) := fun k i a b c => mput_ne _ _ _ _ b
theorem RT.mvr {M M' : Me} {T : Int → Int} {e : Int} (h : RT M T e) (f : FRr M M') : RT M' T e :=
  ⟨by rw [f 76 15 (by decide) (by decide) (by decide)]; exact h.1, h.2.1, fun i a b => by rw [f 88 i (by decide) (by decide) (fun z => absurd z (by decide))]; exact h.2.2 i a b⟩
def Ex (L M : Me) (n : Int) (M' : Me) (n' : Int) : Prop := FRr M M' ∧ (∀ i, i < n → M' 89 i = M 89 i) ∧ (∀ i, n ≤ i → i < n' → M' 89 i = 1048576 * L 5 i + L 6 i)
theorem Ex.tr {L A B C : Me} {n n1 n2 : Int} (h : Ex L A n B n1) (h' : Ex L B n1 C n2) (a : n ≤ n1) : Ex L A n C n2 :=
  ⟨h.1.tr h'.1, fun i x => (h'.2.1 i (by omega)).trans (h.2.1 i x), fun i x y => by
    by_cases q : i < n1
    · rw [h'.2.1 i q]; exact h.2.2 i x q
    · exact h'.2.2 i (by omega) y⟩
theorem Ex.nil {L M M' : Me} {n : Int} (f : FRr M M') (g : ∀ i, M' 89 i = M 89 i) : Ex L M n M' n := ⟨f, fun i _ => g i, fun i x y => by omega⟩
theorem Ex.rf (L M : Me) (n : Int) : Ex L M n M n := Ex.nil (FRr.rf M) (fun _ => rfl)
def RS (T : Int → Int) (e p o n : Int) (W : List Int) (M : Me) : Prop := RT M T e ∧ M 76 14 = p ∧ M 76 18 = o ∧ M 76 19 = n ∧ M 76 20 = (W.length : Int) ∧ (∀ w ∈ W, 0 ≤ w) ∧ stO (fun j => M 90 (j + -1)) W
theorem stO_at {f : Int → Int} : ∀ (s : List Int) (w : Int) (t : List Int), stO f (s ++ w :: t) → f ((t.length : Int) + 1) = w
  | [], w, t, h => h.1
  | x :: s, w, t, h => stO_at s w t h.2
theorem li_at : ∀ (W : List Int) (i : Nat), i < W.length → ∃ s w t, W = s ++ w :: t ∧ t.length = i
  | [], i, h => absurd h (by simp)
  | x :: W, i, h => by
    by_cases q : i = W.length
    · exact ⟨[], x, W, rfl, q.symm⟩
    · obtain ⟨s, w, t, e, l⟩ := li_at W i (by simp only [List.length_cons] at h; omega)
      exact ⟨x :: s, w, t, by rw [e]; rfl, l⟩
theorem RS.top {T : Int → Int} {e p o n : Int} {w : Int} {W : List Int} {M : Me} (h : RS T e p o n (w :: W) M) : M 90 (W.length : Int) = w ∧ M 76 20 = (W.length : Int) + 1 ∧ 0 ≤ w := by
  obtain ⟨-, -, -, -, a, b, c⟩ := h
  have := c.1
  simp only [show (W.length : Int) + 1 + -1 = W.length by omega] at this
  exact ⟨this, by rw [a]; simp only [List.length_cons]; omega, b w (List.mem_cons_self ..)⟩
theorem RS.mv {T : Int → Int} {e p o n p' o' n' : Int} {W W' : List Int} {M M' : Me} (h : RS T e p o n W M) (f : FRr M M') (e1 : M' 76 14 = p') (e2 : M' 76 18 = o') (e3 : M' 76 19 = n') (e4 : M' 76 20 = (W'.length : Int)) (e5 : ∀ w ∈ W', 0 ≤ w) (e6 : stO (fun j => M' 90 (j + -1)) W') : RS T e p' o' n' W' M' := ⟨h.1.mvr f, e1, e2, e3, e4, e5, e6⟩
theorem RS.sto {T : Int → Int} {e p o n : Int} {W : List Int} {M M' : Me} (h : RS T e p o n W M) (g : ∀ i, i < (W.length : Int) → M' 90 i = M 90 i) : stO (fun j => M' 90 (j + -1)) W := stO_congr W (fun j a b => g _ (by omega)) h.2.2.2.2.2.2
theorem RS.push {T : Int → Int} {e p o n : Int} {W : List Int} {M M' : Me} (h : RS T e p o n W M) {w : Int} (g : ∀ i, i < (W.length : Int) → M' 90 i = M 90 i) (gw : M' 90 (W.length : Int) = w) : stO (fun j => M' 90 (j + -1)) (w :: W) :=
  ⟨by simp only [show (W.length : Int) + 1 + -1 = W.length by omega]; exact gw, h.sto g⟩
theorem q_notes {T : Int → Int} {e p o n a b : Int} {W : List Int} {L M : Me} {Q : Int → Me → Prop} (h : RS T e p o n W M) (n0 : 0 ≤ n ∧ n < 260) (ha : 0 ≤ a ∧ a ≤ 14) (hb : 0 ≤ b ∧ b < 1048576) (h5 : L 5 n = a) (h6 : L 6 n = b)
    (hQ : ∀ M', RS T e p o (n + 1) W M' → Ex L M n M' (n + 1) → (∀ i, M' 90 i = M 90 i) → Q 0 M') : Calls 0 mX12_notes [.inr 76, .inl a, .inl b] M Q := by
  obtain ⟨r0, r1, r2, r3, r4, r5, r6⟩ := h
  refine e_X12_notes ⟨by unfold cn; omega, by unfold cn; omega, by omega, by unfold cn; omega, ?_⟩
  rw [r3]
  have hf : FRr M (mput (mput M 89 n (1048576 * a + b)) 76 19 (n + 1)) := (FRr.p89 M _ _).tr (FRr.p76 _ _ (by omega))
  have g90 : ∀ i, (mput (mput M 89 n (1048576 * a + b)) 76 19 (n + 1)) 90 i = M 90 i := fun i => by rw [mput_ne _ _ _ _ (by decide), mput_ne _ _ _ _ (by decide)]
  refine hQ _ ?_ ⟨hf, fun i x => ?_, fun i x y => ?_⟩ g90
  · have hs : RS T e p o n W M := ⟨r0, r1, r2, r3, r4, r5, r6⟩
    refine hs.mv hf ?_ ?_ (mput_same ..) ?_ r5 (hs.sto (fun i _ => g90 i))
    · rw [mput_ni _ _ _ _ (by decide), mput_ne _ _ _ _ (by decide)]; exact r1
    · rw [mput_ni _ _ _ _ (by decide), mput_ne _ _ _ _ (by decide)]; exact r2
    · rw [mput_ni _ _ _ _ (by decide), mput_ne _ _ _ _ (by decide)]; exact r4
  · rw [mput_ne _ _ _ _ (by decide), mput_ni _ _ _ _ (by omega)]
  · have : i = n := by omega
    subst this
    rw [mput_ne _ _ _ _ (by decide), mput_same, h5, h6]
def hdW : List Int → Int
  | [] => -1
  | w :: _ => w / 1048576
theorem q_top {T : Int → Int} {e p o n : Int} {W : List Int} {M : Me} {Q : Int → Me → Prop} (h : RS T e p o n W M) (hl : W.length ≤ 260) (hQ : Q (hdW W) M) : Calls 0 mX12_waitTop [.inr 76] M Q := by
  cases W with
  | nil =>
    have : M 76 20 = 0 := h.2.2.2.2.1
    exact e_X12_waitTop ⟨fun z => absurd this z, fun _ => hQ⟩
  | cons w W =>
    obtain ⟨a, b, c⟩ := h.top
    simp only [List.length_cons] at hl
    refine e_X12_waitTop ⟨fun _ => ?_, fun z => by exfalso; omega⟩
    rw [show M 76 20 - 1 = (W.length : Int) by omega, a]
    exact ⟨by unfold cn; omega, by omega, c, hQ⟩
theorem c_stop {T : Int → Int} {e p o n a : Int} {W : List Int} {M : Me} {Q : Int → Me → Prop} (h : RS T e p o n W M) (hl : W.length ≤ 260) (h1 : hdW W < 4 ∨ 6 < hdW W) (h2 : a = 0 ∨ (hdW W ≠ 2 ∧ hdW W ≠ 3)) (hQ : Q 0 M) : Go (km 1 mX12_closesSums Q) 0 [some (.inr 76), some (.inl a)] [] M := by
  have m17 : Go (km 1 mX12_closesSums Q) 17 [some (.inr 76), some (.inl a)] [] M := by
    refine s_X12_closesSums_17 _ M ⟨fun _ => hQ, fun z => q_top h hl ⟨fun y => by exfalso; omega, fun _ => q_top h hl ⟨fun _ => hQ, fun y => by exfalso; omega⟩⟩⟩
  exact s_X12_closesSums_0 _ M (q_top h hl ⟨fun _ => m17, fun z => q_top h hl ⟨fun y => by exfalso; omega, fun _ => m17⟩⟩)
theorem c_pop {T : Int → Int} {e p o n a w : Int} {W : List Int} {L M : Me} {Q : Int → Me → Prop} (h : RS T e p o n (w :: W) M) (hl : W.length < 260) (h1 : (4 ≤ w / 1048576 ∧ w / 1048576 ≤ 6) ∨ (a ≠ 0 ∧ 2 ≤ w / 1048576 ∧ w / 1048576 ≤ 3)) (n0 : 0 ≤ n ∧ n < 260) (h5 : L 5 n = w / 1048576) (h6 : L 6 n = 0)
    (hQ : ∀ M', RS T e p o (n + 1) W M' → Ex L M n M' (n + 1) → Go (km 1 mX12_closesSums Q) 0 [some (.inr 76), some (.inl a)] [] M') : Go (km 1 mX12_closesSums Q) 0 [some (.inr 76), some (.inl a)] [] M := by
  have hl' : (w :: W).length ≤ 260 := by simp only [List.length_cons]; omega
  have hd : hdW (w :: W) = w / 1048576 := rfl
  have m37 : Go (km 1 mX12_closesSums Q) 37 [some (.inr 76), some (.inl a)] [] M := by
    refine s_X12_closesSums_37 _ M (q_top h hl' ?_)
    rw [hd]
    refine q_notes (L := L) h n0 (by omega) (by omega) h5 h6 (fun M1 r1 x1 g1 => ?_)
    obtain ⟨-, b, -⟩ := r1.top
    rw [b, show (W.length : Int) + 1 - 1 = W.length by omega]
    refine ⟨by unfold cn; omega, hQ _ ?_ ?_⟩
    · obtain ⟨y0, y1, y2, y3, y4, y5, y6⟩ := r1
      have hf := FRr.p76 M1 (j := 20) (W.length : Int) (by omega)
      refine RS.mv (W := w :: W) ⟨y0, y1, y2, y3, y4, y5, y6⟩ hf ?_ ?_ ?_ (mput_same ..) (fun x hx => y5 x (List.mem_cons_of_mem _ hx)) ?_
      · rw [mput_ni _ _ _ _ (by decide)]; exact y1
      · rw [mput_ni _ _ _ _ (by decide)]; exact y2
      · rw [mput_ni _ _ _ _ (by decide)]; exact y3
      · exact stO_congr W (fun j _ _ => mput_ne _ _ _ _ (by decide)) y6.2
    · refine x1.tr (Ex.nil (FRr.p76 M1 _ (by omega)) (fun i => mput_ne _ _ _ _ (by decide))) (by omega)
  have m17 : a ≠ 0 → 2 ≤ w / 1048576 → w / 1048576 ≤ 3 → Go (km 1 mX12_closesSums Q) 17 [some (.inr 76), some (.inl a)] [] M := fun z z1 z2 => by
    refine s_X12_closesSums_17 _ M ⟨fun y => absurd y z, fun _ => q_top h hl' ⟨fun _ => m37, fun y => q_top h hl' ⟨fun x => by rw [hd] at x y; exfalso; omega, fun _ => m37⟩⟩⟩
  refine s_X12_closesSums_0 _ M (q_top h hl' ⟨fun z => ?_, fun z => q_top h hl' ⟨fun _ => m37, fun y => ?_⟩⟩)
  · rw [hd] at z
    exact m17 (by omega) (by omega) (by omega)
  · rw [hd] at y; exfalso; omega
def pnd (c : Int) : List Int := if c = 0 then [] else [1048576 * opc c]
theorem c_one {T : Int → Int} {e p o n n1 a c : Int} {W : List Int} {L M : Me} {Q : Int → Me → Prop} (hc : c = 0 ∨ isT c ∨ (a ≠ 0 ∧ isP c)) (h : RS T e p o n (pnd c ++ W) M) (hl : W.length < 260) (n0 : 0 ≤ n ∧ n < 260) (hE : Em L c n n1)
    (hQ : ∀ M', RS T e p o n1 W M' → Ex L M n M' n1 → Go (km 1 mX12_closesSums Q) 0 [some (.inr 76), some (.inl a)] [] M') : Go (km 1 mX12_closesSums Q) 0 [some (.inr 76), some (.inl a)] [] M := by
  unfold pnd at h
  rcases hE with ⟨z, y⟩ | ⟨z, y, y5, y6⟩
  · rw [if_pos z] at h
    subst y
    exact hQ M h (Ex.rf L M _)
  · rw [if_neg z] at h
    subst y
    have hw : 1048576 * opc c / 1048576 = opc c := by omega
    refine c_pop (w := 1048576 * opc c) (W := W) h hl ?_ n0 (by rw [hw]; exact y5) y6 hQ
    rw [hw]
    rcases hc with q | q | ⟨q, q2⟩
    · exact absurd q z
    · exact Or.inl (opc_T q)
    · exact Or.inr ⟨q, opc_P q2⟩
theorem pnd_len (c : Int) : (pnd c).length ≤ 1 := by unfold pnd; split <;> simp
theorem q_closeA {T : Int → Int} {e p o n n1 n2 tm pl : Int} {W : List Int} {L M : Me} {Q : Int → Me → Prop} (ht : tm = 0 ∨ isT tm) (hp : pl = 0 ∨ isP pl) (h : RS T e p o n (pnd tm ++ (pnd pl ++ W)) M) (hl : W.length < 250) (n0 : 0 ≤ n ∧ n < 250) (hE : Em L tm n n1) (hE2 : Em L pl n1 n2) (hW : hdW W < 2 ∨ 6 < hdW W)
    (hQ : ∀ M', RS T e p o n2 W M' → Ex L M n M' n2 → Q 0 M') : Calls 1 mX12_closesSums [.inr 76, .inl 1] M Q := by
  have l1 := hE.le; have l2 := hE2.le
  have l3 := pnd_len pl
  refine Calls.of (by decide) (Nat.le_of_ble_eq_true rfl) (c_one (c := tm) (by omega) h (by simp only [List.length_append]; omega) (by omega) hE (fun M1 r1 x1 => ?_))
  refine c_one (c := pl) (by omega) r1 (by omega) (by omega) hE2 (fun M2 r2 x2 => ?_)
  exact c_stop r2 (by omega) (by omega) (by omega) (hQ M2 r2 (x1.tr x2 (by omega)))
theorem q_closeT {T : Int → Int} {e p o n n1 tm : Int} {W : List Int} {L M : Me} {Q : Int → Me → Prop} (ht : tm = 0 ∨ isT tm) (h : RS T e p o n (pnd tm ++ W) M) (hl : W.length < 250) (n0 : 0 ≤ n ∧ n < 250) (hE : Em L tm n n1) (hW : hdW W < 4 ∨ 6 < hdW W)
    (hQ : ∀ M', RS T e p o n1 W M' → Ex L M n M' n1 → Q 0 M') : Calls 1 mX12_closesSums [.inr 76, .inl 0] M Q := by
  refine Calls.of (by decide) (Nat.le_of_ble_eq_true rfl) (c_one (c := tm) (by omega) h (by omega) (by omega) hE (fun M1 r1 x1 => ?_))
  exact c_stop r1 (by omega) hW (Or.inl rfl) (hQ M1 r1 x1)
theorem q_opens {T : Int → Int} {e p o n a : Int} {W : List Int} {M : Me} {Q : Int → Me → Prop} (h : RS T e p o n W M) (hl : W.length < 260) (ha : 0 ≤ a ∧ a ≤ 14) (ho : 0 ≤ o ∧ o ≤ 6) (hp : 0 ≤ p ∧ p ≤ 260)
    (h1 : o < 6 → ∀ M', RS T e (p + 1) (o + 1) n (1048576 * a :: W) M' → FRr M M' → (∀ i, M' 89 i = M 89 i) → Q 1 M') (h0 : 6 ≤ o → Q 0 (mput M 76 16 (-1000 * 5 - p))) : Calls 1 mX12_opens [.inr 76, .inl a] M Q := by
  have hs := h
  obtain ⟨r0, r1, r2, r3, r4, r5, r6⟩ := h
  refine e_X12_opens ⟨fun z => ⟨by unfold cn; omega, by unfold cn; omega, by omega, by unfold cn; omega, by unfold cn; omega, ?_⟩, fun z => ?_⟩
  · rw [r1, r2, r4]
    have hf : FRr M (mput (mput (mput (mput M 76 18 (o + 1)) 90 (W.length : Int) (1048576 * a)) 76 20 ((W.length : Int) + 1)) 76 14 (p + 1)) := (((FRr.p76 M _ (by omega)).tr (FRr.p90 _ _ _)).tr (FRr.p76 _ _ (by omega))).tr (FRr.p76 _ _ (by omega))
    refine h1 (by omega) _ ?_ hf (fun i => ?_)
    · refine hs.mv hf (mput_same ..) ?_ ?_ ?_ (fun w hw => ?_) (hs.push (fun i hi => ?_) ?_)
      · rw [mput_ni _ _ _ _ (by decide), mput_ni _ _ _ _ (by decide), mput_ne _ _ _ _ (by decide), mput_same]
      · rw [mput_ni _ _ _ _ (by decide), mput_ni _ _ _ _ (by decide), mput_ne _ _ _ _ (by decide), mput_ni _ _ _ _ (by decide)]; exact r3
      · rw [mput_ni _ _ _ _ (by decide), mput_same]; simp only [List.length_cons]; omega
      · rcases List.mem_cons.mp hw with q | q
        · omega
        · exact r5 w q
      · rw [mput_ne _ _ _ _ (by decide), mput_ne _ _ _ _ (by decide), mput_ni _ _ _ _ (by omega), mput_ne _ _ _ _ (by decide)]
      · rw [mput_ne _ _ _ _ (by decide), mput_ne _ _ _ _ (by decide), mput_same]
    · rw [mput_ne _ _ _ _ (by decide), mput_ne _ _ _ _ (by decide), mput_ne _ _ _ _ (by decide), mput_ne _ _ _ _ (by decide)]
  · rw [r1]
    exact q_wrong (by omega) (by omega) ⟨Or.inl rfl, h0 (by omega)⟩
theorem RS.idx {T : Int → Int} {e p o n : Int} {W : List Int} {M : Me} (h : RS T e p o n W M) {i : Int} (i0 : 0 ≤ i) (i1 : i < (W.length : Int)) : ∃ s w t, W = s ++ w :: t ∧ (t.length : Int) = i ∧ M 90 i = w ∧ 0 ≤ w := by
  obtain ⟨s, w, t, a, b⟩ := li_at W i.toNat (by omega)
  have hb : (t.length : Int) = i := by omega
  refine ⟨s, w, t, a, hb, ?_, ?_⟩
  · have := h.2.2.2.2.2.2
    rw [a] at this
    have := stO_at s w t this
    simp only [show (t.length : Int) + 1 + -1 = t.length by omega] at this
    rw [← hb]; exact this
  · exact h.2.2.2.2.2.1 w (by rw [a]; simp)
theorem q_openY {T : Int → Int} {e p o n base : Int} {s t : List Int} {w : Int} {M : Me} {Q : Int → Me → Prop} (h : RS T e p o n (s ++ w :: t) M) (hl : (s ++ w :: t).length ≤ 260) (hw : w / 1048576 = 14) (b0 : 0 ≤ base) (hb : base ≤ (t.length : Int)) (hQ : Q 1 M) : Calls 0 mX12_hasOpenSum [.inr 76, .inl base] M Q := by
  have r4 := h.2.2.2.2.1
  have hlen : ((s ++ w :: t).length : Int) = s.length + t.length + 1 := by simp only [List.length_append, List.length_cons]; omega
  have hx : M 90 (t.length : Int) = w := by
    have := stO_at s w t h.2.2.2.2.2.2
    simp only [show (t.length : Int) + 1 + -1 = t.length by omega] at this
    exact this
  have go : ∀ (k : Nat) (x : Int), 0 ≤ x → x + k = (t.length : Int) → Go (km 0 mX12_hasOpenSum Q) 2 [some (.inr 76), none, some (.inl x)] [] M := by
    intro k
    induction k with
    | zero =>
      intro x x0 hk
      have : x = (t.length : Int) := by omega
      subst this
      refine s_X12_hasOpenSum_2 _ M ⟨fun z => by exfalso; omega, fun _ => ⟨by omega, ?_, fun z => ?_, fun _ => hQ⟩⟩
      · rw [hx]; omega
      · rw [hx] at z; exact absurd hw z
    | succ k ih =>
      intro x x0 hk
      obtain ⟨-, w', -, -, -, g1, g2⟩ := h.idx x0 (by omega)
      refine s_X12_hasOpenSum_2 _ M ⟨fun z => by exfalso; omega, fun _ => ⟨by omega, by omega, fun z => ⟨by unfold cn; omega, ih (x + 1) (by omega) (by omega)⟩, fun _ => hQ⟩⟩
  exact e_X12_hasOpenSum (go ((t.length : Int) - base).toNat base b0 (by omega))
theorem q_openN {T : Int → Int} {e p o n : Int} {s t : List Int} {M : Me} {Q : Int → Me → Prop} (h : RS T e p o n (s ++ t) M) (hl : (s ++ t).length ≤ 260) (hs : ∀ w ∈ s, w / 1048576 ≠ 14) (hQ : Q 0 M) : Calls 0 mX12_hasOpenSum [.inr 76, .inl (t.length : Int)] M Q := by
  have r4 := h.2.2.2.2.1
  have hlen : ((s ++ t).length : Int) = s.length + t.length := by simp only [List.length_append]; omega
  have go : ∀ (k : Nat) (x : Int), (t.length : Int) ≤ x → x + k = ((s ++ t).length : Int) → Go (km 0 mX12_hasOpenSum Q) 2 [some (.inr 76), none, some (.inl x)] [] M := by
    intro k
    induction k with
    | zero =>
      intro x x0 hk
      exact s_X12_hasOpenSum_2 _ M ⟨fun _ => hQ, fun z => by exfalso; omega⟩
    | succ k ih =>
      intro x x0 hk
      obtain ⟨s', w', t', a, b, g1, g2⟩ := h.idx (show 0 ≤ x by omega) (by omega)
      have hm : w' ∈ s := by
        rcases List.append_eq_append_iff.mp a with ⟨u, c1, c2⟩ | ⟨u, c1, c2⟩
        · have : (t.length : Int) = u.length + t'.length + 1 := by rw [c2]; simp only [List.length_append, List.length_cons]; omega
          omega
        · cases u with
          | nil =>
            simp only [List.nil_append] at c2
            have : (t.length : Int) = t'.length + 1 := by rw [← c2]; simp only [List.length_cons]; omega
            omega
          | cons y u =>
            simp only [List.cons_append, List.cons.injEq] at c2
            rw [c1, c2.1]; simp
      refine s_X12_hasOpenSum_2 _ M ⟨fun z => by exfalso; omega, fun _ => ⟨by omega, by omega, fun z => ⟨by unfold cn; omega, ih (x + 1) (by omega) (by omega)⟩, fun z => ?_⟩⟩
      rw [g1] at z
      exact absurd z (hs w' hm)
  exact e_X12_hasOpenSum (go s.length t.length (by omega) (by omega))
