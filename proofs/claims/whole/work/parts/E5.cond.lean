/-! ===== jumps that hang together ===== -/
def Chn (M : Me) (c : Int) : Int → Int → List Int → Prop
  | _, x, [] => x = -1
  | n, x, j :: J => x = j ∧ 0 ≤ j ∧ j < n ∧ ∃ y, M 35 j = 256 * (y + 1) + c ∧ Chn M c j y J
theorem Chn.x {M : Me} {c n x : Int} {J : List Int} (h : Chn M c n x J) (n0 : 0 ≤ n) : -1 ≤ x ∧ x < n := by
  cases J with
  | nil => simp only [Chn] at h; omega
  | cons j J => simp only [Chn] at h; omega
theorem Chn.mem {M : Me} {c : Int} (hc : 0 ≤ c ∧ c < 256) : ∀ (J : List Int) (n x : Int), Chn M c n x J → ∀ j ∈ J, 0 ≤ j ∧ j < n ∧ M 35 j % 256 = c := by
  intro J
  induction J with
  | nil => intro n x h j hj; cases hj
  | cons i J ih =>
    intro n x h j hj
    simp only [Chn] at h
    obtain ⟨h1, h2, h3, y, h4, h5⟩ := h
    rcases List.mem_cons.mp hj with e | e
    · subst e
      exact ⟨h2, h3, by rw [h4]; omega⟩
    · have := ih i y h5 j e
      exact ⟨this.1, by omega, this.2.2⟩
theorem Chn.mv {M M' : Me} {c : Int} : ∀ (J : List Int) (n n' x : Int), Chn M c n x J → n ≤ n' → (∀ j ∈ J, M' 35 j = M 35 j) → Chn M' c n' x J := by
  intro J
  induction J with
  | nil => intro n n' x h hn hm; exact h
  | cons i J ih =>
    intro n n' x h hn hm
    simp only [Chn] at h ⊢
    obtain ⟨h1, h2, h3, y, h4, h5⟩ := h
    exact ⟨h1, h2, by omega, y, by rw [hm i List.mem_cons_self]; exact h4, ih i i y h5 (Int.le_refl _) (fun j hj => hm j (List.mem_cons_of_mem _ hj))⟩
theorem l_endJ {c : Int} {Q : Int → Me → Prop} (hc : 0 ≤ c ∧ c < 256) : ∀ (J : List Int) (x i b v : Int) (M : Me), Chn M c b x J → 0 ≤ i → i + x + 1 ≤ 240 → M 30 7 = v → 0 ≤ v ∧ v ≤ 240 →
    (∀ M', (∀ k i, k ≠ 35 → M' k i = M k i) → (∀ i, i ∉ J → M' 35 i = M 35 i) → (∀ i ∈ J, M' 35 i = 256 * v + c) → Q 0 M') → Go (km 0 mX3_endJumps Q) 4 [some (.inr 30), none, some (.inl x), some (.inl i), none] [] M := by
  intro J
  induction J with
  | nil =>
    intro x i b v M h i0 hi hv vb hQ
    simp only [Chn] at h
    have q := hQ M (fun _ _ _ => rfl) (fun _ _ => rfl) (fun i hi => by cases hi)
    exact s_X3_endJumps_4 _ _ M ⟨fun _ => q, fun _ => ⟨fun _ => q, fun z => by exfalso; omega⟩⟩
  | cons j J ih =>
    intro x i b v M h i0 hi hv vb hQ
    have hm := Chn.mem hc (j :: J) b x h
    simp only [Chn] at h
    obtain ⟨rfl, h2, h3, y, h4, h5⟩ := h
    have hy := h5.x h2
    have cs := cell_sign (v := y + 1) (s := c) (by omega) (by omega) hc.1 hc.2
    have hmJ := Chn.mem hc J x y h5
    have hx : x ∉ J := fun q => by have := (hmJ x q).2.1; omega
    have nx : Go (km 0 mX3_endJumps Q) 4 [some (.inr 30), none, some (.inl y), some (.inl (i + 1)), none] [] (mput M 35 x (256 * v + c)) := by
      refine ih y (i + 1) x v _ (Chn.mv J x x y h5 (Int.le_refl _) (fun q hq => mput_ni _ _ _ _ (fun z => hx (by rw [← z]; exact hq)))) (by omega) (by omega) (by rw [mput_ne _ _ _ _ (by decide)]; exact hv) vb (fun M' g1 g2 g3 => hQ M' (fun k q hk => ?_) (fun q hq => ?_) (fun q hq => ?_))
      · rw [g1 k q hk, mput_ne _ _ _ _ hk]
      · rw [g2 q (fun z => hq (List.mem_cons_of_mem _ z)), mput_ni _ _ _ _ (fun z => hq (by rw [z]; exact List.mem_cons_self))]
      · rcases List.mem_cons.mp hq with e | e
        · rw [e, g2 x hx, mput_same]
        · exact g3 q e
    refine s_X3_endJumps_4 _ _ M ⟨fun z => by exfalso; omega, fun _ => ⟨fun z => by exfalso; omega, fun _ => ⟨fun z => by exfalso; omega, fun _ => ?_⟩⟩⟩
    rw [hv, h4, cs.1, cs.2, show y + 1 - 1 = y by omega]
    exact ⟨by omega, by unfold cn; omega, by unfold cn; omega, by omega, by unfold cn; omega, by omega, by unfold cn; omega, nx⟩
theorem k_endJ {c b x v : Int} {J : List Int} {M : Me} {Q : Int → Me → Prop} (hc : 0 ≤ c ∧ c < 256) (h : Chn M c b x J) (b0 : 0 ≤ b ∧ b ≤ 240) (hv : M 30 7 = v) (vb : 0 ≤ v ∧ v ≤ 240) (hQ : ∀ M', (∀ k i, k ≠ 35 → M' k i = M k i) → (∀ i, i ∉ J → M' 35 i = M 35 i) → (∀ i ∈ J, M' 35 i = 256 * v + c) → Q 0 M') : Calls 0 mX3_endJumps [.inr 30, .inl x] M Q := by
  have := h.x b0.1
  exact e_X3_endJumps (l_endJ hc J x 0 b v M h (by omega) (by omega) hv vb hQ)
theorem FK.endJ {n : Int} {J : List Int} {M M' : Me} (h1 : ∀ k i, k ≠ 35 → M' k i = M k i) (h2 : ∀ i, i ∉ J → M' 35 i = M 35 i) (hJ : ∀ j ∈ J, n ≤ j) : FK n M M' := fun k i a b c => by
  by_cases q : k = 35
  · subst q
    exact h2 i (fun z => by have := hJ i z; have := c rfl; omega)
  · exact h1 k i q
theorem DS.o35 {T : Int → Int} {e p n : Int} {M M' : Me} (h : DS T e p n M) (h1 : ∀ k i, k ≠ 35 → M' k i = M k i) : DS T e p n M' :=
  ⟨⟨by rw [h1 1 2 (by decide)]; exact h.1.1, h.1.2.1, fun i a b => by rw [h1 2 i (by decide)]; exact h.1.2.2 i a b⟩, by rw [h1 1 3 (by decide)]; exact h.2.1, by rw [h1 1 4 (by decide)]; exact h.2.2.1, by rw [h1 30 7 (by decide)]; exact h.2.2.2⟩
theorem FS.o35 {T : Int → Int} {e f n : Int} {M M' : Me} (h : FS T e f n M) (h1 : ∀ k i, k ≠ 35 → M' k i = M k i) : FS T e f n M' :=
  ⟨⟨by rw [h1 1 2 (by decide)]; exact h.1.1, h.1.2.1, fun i a b => by rw [h1 2 i (by decide)]; exact h.1.2.2 i a b⟩, by rw [h1 1 3 (by decide)]; exact h.2.1, by rw [h1 1 4 (by decide)]; exact h.2.2.1, h.2.2.2.1, by rw [h1 30 7 (by decide)]; exact h.2.2.2.2⟩
theorem FS.lo {T : Int → Int} {e f n m : Int} {M : Me} (h : FS T e f n M) (hm : m ≤ n) : FS T e f m M := ⟨h.1, h.2.1, h.2.2.1, h.2.2.2.1, by have := h.2.2.2.2.1; omega, h.2.2.2.2.2⟩
theorem k_addJ {T : Int → Int} {e p n c x : Int} {M : Me} {Q : Int → Me → Prop} (h : DS T e p n M) (n0 : 0 ≤ n ∧ n < 240) (hx : -1 ≤ x ∧ x < 240) (hc : 0 ≤ c ∧ c < 256) (hQ : ∀ M', DS T e p (n + 1) M' → FK n M M' → M' 35 n = 256 * (x + 1) + c → Q n M') : Calls 1 mX3_addJump [.inr 30, .inl c, .inl x] M Q := by
  refine e_X3_addJump ⟨by unfold cn; omega, k_add h n0 hc (by omega) (fun M' h' f' v => ?_)⟩
  rw [h'.2.2.2, show n + 1 - 1 = n by omega]
  exact ⟨by unfold cn; omega, hQ M' h' f' v⟩
/-! ===== the class reads tests and conditions ===== -/
def TstS (T : Int → Int) (e : Int) (k : Nat) : Prop := ∀ (Q : Int → Me → Prop) (o p n : Int) (M : Me), o + k = 6 → 1 ≤ o → 0 ≤ n → n ≤ p → p ≤ e → DS T e p n M →
  (∀ M' p' n', DS T e p' n' M' → FK n M M' → Cz (Sx T e) (LD M') none o p n p' n' → Q 0 M') → (∀ M' f, FS T e f n M' → FK n M M' → Cb (Sx T e) none o p n f → Q 0 M') → Calls (zt k) mX4_test [.inr 29, .inl o] M Q
def CndS (T : Int → Int) (e : Int) (k : Nat) : Prop := ∀ (Q : Int → Me → Prop) (o p n : Int) (M : Me), o + k = 6 → 1 ≤ o → 0 ≤ n → n ≤ p → p ≤ e → DS T e p n M →
  (∀ M' p' n' tP, DS T e p' n' M' → FK n M M' → Cz (Sx T e) (LD M') (some (tP, n')) o p n p' n' → Q 0 M') → (∀ M' f, FS T e f n M' → FK n M M' → Cb (Sx T e) (some (0, 0)) o p n f → Q 0 M') → Calls (zc k) mX4_condition [.inr 29, .inl o] M Q
theorem tst_of {T : Int → Int} {e : Int} {k : Nat} (hK : KC T e) (hr : ∀ j, k = j + 1 → TstS T e j ∧ CndS T e j) : TstS T e k := by
  intro Q o p n M ho o1 n0 np pe h hG hB
  have he : e ≤ 240 := hK.1.1
  have hS := sum_all hK k
  have e0 : pk (some (0, 0)) = 0 := by decide
  refine e_X4_test (k_sign h ⟨fun z33 => ⟨fun z40 => ?_, fun z40 => ?_⟩, fun z33 => ?_⟩)
  · refine hS _ o p n M ho (by omega) n0 np pe h (fun M1 p1 n1 h1 f1 z1 => ?_) (fun M1 f h1 f1 z1 => ?_)
    · have l1 := z1.le hK.1
      have C : isC (Sx T e p1) → (cn (M1 1 3 + 1) ∧ Calls (zs k) mX4_sum [.inr 29, .inl o] (mput M1 1 3 (M1 1 3 + 1)) (fun _ M133 => Calls 0 mX3_add [.inr 30, .inl (bchr (Sx T e p1)), .inl 0] M133 (fun _ M143 => Q 0 M143))) := fun hC => by
        have hp := Sx_pos hK (p := p1) (by omega)
        refine ⟨by rw [h1.2.1]; unfold cn; omega, ?_⟩
        rw [bchr_id (by omega)]
        refine hS _ o (p1 + 1) n1 _ ho (by omega) (by omega) (by omega) (by omega) h1.adv.1 (fun M3 p3 n3 h3 f3 z3 => ?_) (fun M3 f h3 f3 z3 => ?_)
        · have l3 := z3.le hK.1
          have f13 : FK n1 M1 M3 := (h1.adv.2 n1).tr f3
          refine k_add h3 (by omega) (by omega) (by omega) (fun M4 h4 f4 v4 => ?_)
          have q := LD_c v4 (by omega)
          have f14 : FK n1 M1 M4 := f13.tr (f4.lo (by omega))
          exact hG M4 _ _ h4 (f1.tr (f14.lo (by omega))) (Cz.tsC z33 z40 (z1.mv hK.1 (LDs (fun i y w => f14.c35 w))) hC (z3.mv hK.1 (LDs (fun i y w => f4.c35 w))) (q.1.trans (dop_opc (Or.inr (Or.inr hC)))) q.2)
        · refine k_addF (h3.lo (m := n) (by omega)) n0 (by omega) (by omega) (fun M4 h4 f4 => hB M4 f h4 ((f1.tr (((h1.adv.2 n1).tr f3).lo (by omega))).tr f4) (Cb.c3 z33 z40 z1 hC z3))
      refine k_sign h1 ⟨fun y => C (Or.inl y), fun y1 => ⟨fun y => C (Or.inr (Or.inl y)), fun y2 => ⟨fun y => C (Or.inr (Or.inr y)), fun y3 => ?_⟩⟩⟩
      rw [h1.2.1]
      refine k_fail h1 (by omega) (by omega) (by omega) (by omega) (fun M2 h2 f2 => hB M2 _ (h2.lo (by omega)) (f1.tr (f2 n)) (Cb.c2 z33 z40 z1 (fun q => ?_)))
      rcases q with q | q | q
      · exact y1 q
      · exact y2 q
      · exact y3 q
    · have hq := hB M1 f h1 f1 (Cb.c1 z33 z40 z1)
      exact k_signF h1 ⟨fun z => absurd z (by decide), fun _ => ⟨fun z => absurd z (by decide), fun _ => ⟨fun z => absurd z (by decide), fun _ => k_failF h1 hq⟩⟩⟩
  · have hp := Sx_pos hK (p := p) (by omega)
    refine k_mayOpen h (by omega) (by omega) (by omega) (fun o6 M1 g1 f1 => ⟨fun z => absurd z (by decide), fun _ => ⟨by unfold cn; omega, ?_⟩⟩) (fun o6 M1 g1 f1 => ⟨fun _ => hB M1 _ g1 (f1 n) (Cb.oO z40 o6), fun z => absurd rfl z⟩)
    obtain ⟨j, rfl⟩ : ∃ j, k = j + 1 := ⟨k - 1, by omega⟩
    rw [zj_s]
    refine (hr j rfl).2 _ (o + 1) (p + 1) n M1 (by omega) (by omega) n0 (by omega) (by omega) g1 (fun M2 p2 n2 tP g2 f2 z2 => ?_) (fun M2 f g2 f2 z2 => ?_)
    · have l := z2.le hK.1
      have fm : FK n M M2 := (f1 n).tr f2
      refine k_take g2 (by omega) (by omega) (by omega) (fun y M3 g3 f3 => ?_) (fun y M3 g3 f3 => hB M3 _ (g3.lo (by omega)) (fm.tr (f3 n)) (Cb.oC z40 o6 z2 y))
      exact hG M3 _ _ g3 (fm.tr (f3 n)) (Cz.tsO z40 o6 (z2.mv hK.1 (LDs (fun i x w => (f3 n2).c35 w))) y)
    · exact k_takeF g2 (by decide) (hB M2 f g2 ((f1 n).tr f2) (Cb.oI z40 o6 z2))
  · have hp := Sx_pos hK (p := p) (by omega)
    refine k_mayOpen h (by omega) (by omega) (by omega) (fun o6 M1 g1 f1 => ⟨fun z => absurd z (by decide), fun _ => ⟨by unfold cn; omega, ?_⟩⟩) (fun o6 M1 g1 f1 => ⟨fun _ => hB M1 _ g1 (f1 n) (Cb.nO z33 o6), fun z => absurd rfl z⟩)
    obtain ⟨j, rfl⟩ : ∃ j, k = j + 1 := ⟨k - 1, by omega⟩
    rw [zh_s]
    refine (hr j rfl).1 _ (o + 1) (p + 1) n M1 (by omega) (by omega) n0 (by omega) (by omega) g1 (fun M2 p2 n2 g2 f2 z2 => ?_) (fun M2 f g2 f2 z2 => ?_)
    · have l := z2.le hK.1
      have fm : FK n M M2 := (f1 n).tr f2
      refine k_add g2 (by omega) (by omega) (by omega) (fun M3 g3 f3 v3 => ?_)
      have q := LD_c v3 (by omega)
      exact hG M3 _ _ g3 (fm.tr (f3.lo (by omega))) (Cz.tsN z33 o6 (z2.mv hK.1 (LDs (fun i x w => f3.c35 w))) (q.1.trans (by decide)) q.2)
    · exact k_addF g2 n0 (by omega) (by omega) (fun M3 g3 f3 => hB M3 f g3 (((f1 n).tr f2).tr f3) (Cb.nI z33 o6 z2))
theorem l_cnd {T : Int → Int} {e o n0 : Int} {k : Nat} {Q : Int → Me → Prop} (hK : KC T e) (hT : TstS T e k) (ho : o + k = 6) (o1 : 1 ≤ o) (n00 : 0 ≤ n0) :
    ∀ (N : Nat) (p n x x2 x3 : Int) (P W : List Int) (M : Me), e + 1 ≤ p + N → 0 ≤ x → 2 * x ≤ p → n0 ≤ n → n ≤ p → p ≤ e → DS T e p n M → Chn M 38 n x2 P → Chn M 124 n x3 W → (∀ j ∈ P, n0 ≤ j) → (∀ j ∈ W, n0 ≤ j) →
    (∀ M' p' n' tP, DS T e p' n' M' → FK n0 M M' → (∀ i, n0 ≤ i → i < n → i ∉ P → i ∉ W → M' 35 i = M 35 i) → (∀ j ∈ P, M' 35 j = 256 * tP + 38) → (∀ j ∈ W, M' 35 j = 256 * n' + 124) → Cz (Sx T e) (LD M') (some (tP, n')) o p n p' n' → Q 0 M') →
    (∀ M' f, FS T e f n0 M' → FK n0 M M' → Cb (Sx T e) (some (0, 0)) o p n f → Q 0 M') →
    Go (km (zc k) mX4_condition Q) 10 [some (.inr 29), some (.inl o), some (.inl x2), some (.inl x3), some (.inl 1), some (.inl x), none, none] [] M := by
  have he : e ≤ 240 := hK.1.1
  intro N
  induction N with
  | zero => intro p n x x2 x3 P W M hN x0 xp nn np pe; exfalso; omega
  | succ N ih =>
    intro p n x x2 x3 P W M hN x0 xp nn np pe h hcP hcW hP0 hW0 hG hB
    have mP := Chn.mem (by omega) P n x2 hcP
    have mW := Chn.mem (by omega) W n x3 hcW
    have xP := hcP.x (by omega)
    have xW := hcW.x (by omega)
    have dPW : ∀ j ∈ P, j ∉ W := fun j a b => by have := (mP j a).2.2; have := (mW j b).2.2; omega
    refine s_X4_condition_10 _ _ _ _ _ M ⟨fun z => by exfalso; omega, fun _ => ⟨fun z => absurd z (by decide), fun _ => hT _ o p n M ho o1 (by omega) np pe h (fun M1 p1 n1 h1 f1 z1 => ?_) (fun M1 f h1 f1 z1 => ?_)⟩⟩
    · have l1 := z1.le hK.1
      have fm : FK n0 M M1 := f1.lo nn
      have cP1 : Chn M1 38 n x2 P := Chn.mv P n n x2 hcP (Int.le_refl _) (fun j hj => f1.c35 (mP j hj).2.1)
      have cW1 : Chn M1 124 n x3 W := Chn.mv W n n x3 hcW (Int.le_refl _) (fun j hj => f1.c35 (mW j hj).2.1)
      refine k_may h1 (by omega) (fun hc M2 h2 f2 => ⟨fun _ => ⟨fun z => absurd z (by decide), fun _ => ?_⟩, fun z => absurd z (by decide)⟩) (fun hc => ⟨fun z => absurd rfl z, fun _ => k_may h1 (by omega) (fun hd M2 h2 f2 => ⟨fun z => absurd z (by decide), fun _ => ⟨fun _ => ?_, fun z => absurd rfl z⟩⟩) (fun hd => ⟨fun _ => ⟨fun _ => ?_, fun z => absurd rfl z⟩, fun z => absurd rfl z⟩)⟩)
      · have hp := Sx_pos hK (p := p1) (by omega)
        refine k_addJ h2 (by omega) (by omega) (by omega) (fun M3 h3 f3 v3 => s_X4_condition_110 _ _ _ _ _ _ M3 ⟨fun _ => ⟨by unfold cn; omega, ?_⟩, fun z => absurd z (by decide)⟩)
        have f13 : FK n1 M1 M3 := (f2 n1).tr f3
        refine ih (p1 + 1) (n1 + 1) (x + 1) n1 x3 (n1 :: P) W M3 (by omega) (by omega) (by omega) (by omega) (by omega) (by omega) h3 ⟨rfl, by omega, by omega, x2, v3, Chn.mv P n n1 x2 cP1 (by omega) (fun j hj => f13.c35 (by have := (mP j hj).2.1; omega))⟩ (Chn.mv W n (n1 + 1) x3 cW1 (by omega) (fun j hj => f13.c35 (by have := (mW j hj).2.1; omega))) (fun j hj => ?_) hW0 (fun M' p' n' tP h' f' kp hP hW z' => ?_) (fun M' f h' f' z' => ?_)
        · rcases List.mem_cons.mp hj with q | q
          · omega
          · exact hP0 j q
        · have kk : ∀ i, n0 ≤ i → i < n1 → i ∉ P → i ∉ W → M' 35 i = M1 35 i := fun i a b c d => by
            rw [kp i a (by omega) (fun z => by rcases List.mem_cons.mp z with q | q; omega; exact c q) d, f13.c35 b]
          have q := LD_c (hP n1 List.mem_cons_self) (by omega)
          refine hG M' p' n' tP h' ((fm.tr (f13.lo (by omega))).tr f') (fun i a b c d => by rw [kk i a (by omega) c d, f1.c35 b]) (fun j hj => hP j (List.mem_cons_of_mem _ hj)) hW (Cz.cdA (z1.mv hK.1 (LDs (fun i a b => kk i (by omega) b (fun z => ?_) (fun z => ?_)))) hc (q.1.trans (by decide)) q.2 z')
          · have := (mP i z).2.1; omega
          · have := (mW i z).2.1; omega
        · exact hB M' f h' ((fm.tr (f13.lo (by omega))).tr f') (Cb.d2 z1 (Or.inl hc) z')
      · have hp := Sx_pos hK (p := p1) (by omega)
        have cP2 : Chn M2 38 n x2 P := Chn.mv P n n x2 cP1 (Int.le_refl _) (fun j hj => (f2 n).c35 (mP j hj).2.1)
        refine k_endJ (by omega) cP2 (by omega) h2.2.2.2 (by omega) (fun M3 g1 g2 g3 => ?_)
        have h3 := h2.o35 g1
        have f23 : FK n0 M2 M3 := FK.endJ g1 g2 hP0
        have keep : ∀ j, j ∉ P → M3 35 j = M1 35 j := fun j hj => by rw [g2 j hj]; exact f2 (j + 1) 35 j (fun z => absurd z (by decide)) (fun z => absurd z (by decide)) (fun _ => by omega)
        refine k_addJ h3 (by omega) (by omega) (by omega) (fun M4 h4 f4 v4 => s_X4_condition_110 _ _ _ _ _ _ M4 ⟨fun z => absurd rfl z, fun _ => ⟨fun z => absurd z (by decide), fun _ => ⟨by unfold cn; omega, ?_⟩⟩⟩)
        have fm4 : FK n0 M M4 := ((fm.tr (f2 n0)).tr f23).tr (f4.lo (by omega))
        refine ih (p1 + 1) (n1 + 1) (x + 1) (-1) n1 [] (n1 :: W) M4 (by omega) (by omega) (by omega) (by omega) (by omega) (by omega) h4 rfl ⟨rfl, by omega, by omega, x3, v4, Chn.mv W n n1 x3 cW1 (by omega) (fun j hj => ?_)⟩ (fun j hj => by cases hj) (fun j hj => ?_) (fun M' p' n' tP h' f' kp hP hW z' => ?_) (fun M' f h' f' z' => ?_)
        · rw [f4.c35 (by have := (mW j hj).2.1; omega)]
          exact keep j (fun z => dPW j z hj)
        · rcases List.mem_cons.mp hj with q | q
          · omega
          · exact hW0 j q
        · have kk : ∀ i, n0 ≤ i → i < n1 → i ∉ W → M' 35 i = M3 35 i := fun i a b d => by
            rw [kp i a (by omega) (fun z => by cases z) (fun z => by rcases List.mem_cons.mp z with q | q; omega; exact d q), f4.c35 b]
          have q := LD_c (hW n1 List.mem_cons_self) (by omega)
          refine hG M' p' n' n1 h' (fm4.tr f') (fun i a b c d => by rw [kk i a (by omega) d, keep i c, f1.c35 b]) (fun j hj => ?_) (fun j hj => hW j (List.mem_cons_of_mem _ hj)) (Cz.cdO (z1.mv hK.1 (LDs (fun i a b => ?_))) hd (q.1.trans (by decide)) q.2 z')
          · rw [kk j (hP0 j hj) (by have := (mP j hj).2.1; omega) (dPW j hj)]
            exact g3 j hj
          · rw [kk i (by omega) b (fun z => by have := (mW i z).2.1; omega)]
            exact keep i (fun z => by have := (mP i z).2.1; omega)
        · exact hB M' f h' (fm4.tr f') (Cb.d2 z1 (Or.inr hd) z')
      · refine k_endJ (by omega) cP1 (by omega) h1.2.2.2 (by omega) (fun M3 g1 g2 g3 => ?_)
        have h3 := h1.o35 g1
        have fin : Calls 0 mX3_endJumps [.inr 30, .inl x3] M3 (fun _ M4 => Q 0 M4) := by
          refine k_endJ (J := W) (by omega) (Chn.mv W n n x3 cW1 (Int.le_refl _) (fun j hj => g2 j (fun z => dPW j z hj))) (by omega) h3.2.2.2 (by omega) (fun M4 k1 k2 k3 => ?_)
          refine hG M4 p1 n1 n1 (h3.o35 k1) ((fm.tr (FK.endJ g1 g2 hP0)).tr (FK.endJ k1 k2 hW0)) (fun i a b c d => by rw [k2 i d, g2 i c, f1.c35 b]) (fun j hj => by rw [k2 j (dPW j hj)]; exact g3 j hj) k3 (Cz.cdE (z1.mv hK.1 (LDs (fun i a b => ?_))) hc hd)
          rw [k2 i (fun z => by have := (mW i z).2.1; omega), g2 i (fun z => by have := (mP i z).2.1; omega)]
        exact s_X4_condition_110 _ _ _ _ _ _ M3 ⟨fun z => absurd rfl z, fun _ => ⟨fun _ => ⟨by unfold cn; omega, s_X4_condition_10 _ _ _ _ _ M3 ⟨fun _ => fin, fun _ => ⟨fun _ => fin, fun z => absurd rfl z⟩⟩⟩, fun z => absurd rfl z⟩⟩
    · have h0 := h1.lo (m := n0) nn
      have fm : FK n0 M M1 := f1.lo nn
      have cP1 : Chn M1 38 n x2 P := Chn.mv P n n x2 hcP (Int.le_refl _) (fun j hj => f1.c35 (mP j hj).2.1)
      have cW1 : Chn M1 124 n x3 W := Chn.mv W n n x3 hcW (Int.le_refl _) (fun j hj => f1.c35 (mW j hj).2.1)
      have lb := h0.2.2.2.2
      refine k_mayF h1 (by decide) ⟨fun z => absurd rfl z, fun _ => k_mayF h1 (by decide) ⟨fun _ => ⟨fun _ => ?_, fun z => absurd rfl z⟩, fun z => absurd rfl z⟩⟩
      refine k_endJ (by omega) cP1 (by omega) rfl (by omega) (fun M3 g1 g2 g3 => ?_)
      have h3 := h0.o35 g1
      have fin : Calls 0 mX3_endJumps [.inr 30, .inl x3] M3 (fun _ M4 => Q 0 M4) := by
        have lb3 := h3.2.2.2.2
        refine k_endJ (J := W) (by omega) (Chn.mv W n n x3 cW1 (Int.le_refl _) (fun j hj => g2 j (fun z => dPW j z hj))) (by omega) rfl (by omega) (fun M4 k1 k2 k3 => ?_)
        exact hB M4 f (h3.o35 k1) ((fm.tr (FK.endJ g1 g2 hP0)).tr (FK.endJ k1 k2 hW0)) (Cb.d1 z1)
      exact s_X4_condition_110 _ _ _ _ _ _ M3 ⟨fun z => absurd rfl z, fun _ => ⟨fun _ => ⟨by unfold cn; omega, s_X4_condition_10 _ _ _ _ _ M3 ⟨fun _ => fin, fun _ => ⟨fun _ => fin, fun z => absurd rfl z⟩⟩⟩, fun z => absurd rfl z⟩⟩
theorem cnd_of {T : Int → Int} {e : Int} {k : Nat} (hK : KC T e) (hT : TstS T e k) : CndS T e k := by
  intro Q o p n M ho o1 n0 np pe h hG hB
  exact e_X4_condition (l_cnd hK hT ho o1 n0 (e + 1 - p).toNat p n 0 (-1) (-1) [] [] M (by omega) (by omega) (by omega) (Int.le_refl _) np pe h rfl rfl (fun j hj => by cases hj) (fun j hj => by cases hj) (fun M' p' n' tP h' f' _ _ _ z' => hG M' p' n' tP h' f' z') hB)
theorem tst_all {T : Int → Int} {e : Int} (hK : KC T e) : ∀ k, TstS T e k
  | 0 => tst_of hK (fun j z => by exfalso; omega)
  | k + 1 => tst_of hK (fun j z => by
    have : k = j := by omega
    subst this
    exact ⟨tst_all hK k, cnd_of hK (tst_all hK k)⟩)
theorem cnd_all {T : Int → Int} {e : Int} (hK : KC T e) (k : Nat) : CndS T e k := cnd_of hK (tst_all hK k)
