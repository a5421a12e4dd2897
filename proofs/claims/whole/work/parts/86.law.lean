/-! ===== the rules asked: both sides by one reckoning ===== -/
def LawC (M L : Me) : Prop := M 22 6 = L 0 0 ∧ ∀ r, 0 ≤ r → r < L 0 0 → M 23 r = L 1 r ∧ M 24 r = L 2 r ∧ M 25 r = L 3 r ∧ M 26 r = L 4 r ∧ ∀ i, L 2 r ≤ i → i < L 4 r → M 27 i = 256 * L 6 i + sg (L 5 i)
/-- the reference's targets: a jump may land on a jump of its own kind and aim -/
def JR (o v V : Int → Int) (a b : Int) : Prop := ∀ i, a ≤ i → i < b → V i = v i ∨ (11 ≤ o i ∧ i < V i ∧ V i < v i ∧ o (V i) = o i ∧ v (V i) = v i)
theorem JR.wf {o v V sh : Int → Int} {a b e : Int} (hw : Wf o v sh a b e) (hJ : JR o v V a b) : Wf o V sh a b e := by
  obtain ⟨h1, h2, h3, h4, h5, h6, h7⟩ := hw
  refine ⟨h1, h2, h3, h4, h5, h6, fun i ia ib => ?_⟩
  obtain ⟨s1, s2, s3, k1, k2, k3, k4, k5⟩ := h7 i ia ib
  rcases hJ i ia ib with e | ⟨j1, j2, j3, j4, j5⟩
  · exact ⟨s1, s2, by rw [e]; exact s3, fun z => by rw [e]; exact k1 z, k2, k3, k4, fun z => by rw [e]; exact k5 z⟩
  · have q := k5 j1
    have q2 := (h7 (V i) (by omega) (by omega)).2.2.2.2.2.2.2 (by omega)
    exact ⟨s1, s2, by omega, fun z => by omega, k2, k3, k4, fun _ => ⟨q.1, q.2.1, j2, by omega, q2.1⟩⟩
theorem ev_JR {o v V sh F : Int → Int} {a b e : Int} (hw : Wf o v sh a b e) (hJ : JR o v V a b) : ∀ (k : Nat) (i : Int) (st : List Int) (k' : Nat), a ≤ i → i ≤ b → b ≤ i + k → b ≤ i + k' → sth (sh i) st → ev o V F b k i st = ev o v F b k' i st := by
  have hV := hJ.wf hw
  have fin : ∀ (k k' : Nat) (st : List Int), sth (sh b) st → ev o V F b k b st = ev o v F b k' b st := fun k k' st hs => by
    obtain ⟨x, hx, e1, -⟩ := ev_end (F := F) hV hs k
    obtain ⟨y, hy, e2, -⟩ := ev_end (F := F) hw hs k'
    rw [e1, e2]
    rw [hx] at hy
    exact (List.cons.inj hy).1
  intro k
  induction k with
  | zero =>
    intro i st k' ia ib hk hk' hs
    have : i = b := by omega
    subst this
    exact fin 0 k' st hs
  | succ k ih =>
    intro i st k' ia ib hk hk' hs
    by_cases q : i = b
    · subst q; exact fin _ _ st hs
    match k', hk' with
    | 0, hk' => exfalso; omega
    | k' + 1, hk' =>
      rcases ev_step (F := F) hw ia (by omega) hs k' with ⟨o1, e, s, -⟩ | ⟨o1, e, s, -⟩ | ⟨o1, x, hx, -, e, s⟩ | ⟨o1, o2, x, hx, hb, z1, z2, z3⟩ | ⟨o1, o2, x, y, t, hx, -, z3⟩
      · rcases ev_step (F := F) hV ia (by omega) hs k with ⟨p1, g, -, -⟩ | ⟨p1, -⟩ | ⟨p1, -⟩ | ⟨p1, -⟩ | ⟨p1, p2, -⟩
        · have hv : V i = v i := by rcases hJ i ia (by omega) with z | z <;> omega
          rw [e, g, hv]; exact ih _ _ _ (by omega) (by omega) (by omega) (by omega) s
        all_goals (exfalso; omega)
      · rcases ev_step (F := F) hV ia (by omega) hs k with ⟨p1, -⟩ | ⟨p1, g, -, -⟩ | ⟨p1, -⟩ | ⟨p1, -⟩ | ⟨p1, p2, -⟩
        · exfalso; omega
        · have hv : V i = v i := by rcases hJ i ia (by omega) with z | z <;> omega
          rw [e, g, hv]; exact ih _ _ _ (by omega) (by omega) (by omega) (by omega) s
        all_goals (exfalso; omega)
      · subst hx
        rcases ev_step (F := F) hV ia (by omega) hs k with ⟨p1, -⟩ | ⟨p1, -⟩ | ⟨p1, x', hx', -, g, -⟩ | ⟨p1, -⟩ | ⟨p1, p2, -⟩
        · exfalso; omega
        · exfalso; omega
        · have := (List.cons.inj hx').1
          subst this
          rw [e, g]; exact ih _ _ _ (by omega) (by omega) (by omega) (by omega) s
        · exfalso; omega
        · exfalso; omega
      · subst hx
        rcases ev_step (F := F) hV ia (by omega) hs k with ⟨p1, -⟩ | ⟨p1, -⟩ | ⟨p1, -⟩ | ⟨p1, p2, x', hx', -, y1, y2, y3⟩ | ⟨p1, p2, -⟩
        · exfalso; omega
        · exfalso; omega
        · exfalso; omega
        · have := (List.cons.inj hx').1
          subst this
          rcases z3 with ⟨c, e, s⟩ | ⟨c, e, s⟩
          · rcases y3 with ⟨-, g, sV⟩ | ⟨c', -⟩
            · rw [e, g]
              rcases hJ i ia (by omega) with hv | ⟨j1, j2, j3, j4, j5⟩
              · rw [hv]; exact ih _ _ _ (by omega) (by omega) (by omega) (by omega) s
              · rw [ih (V i) [x] (k' + 1) (by omega) (by omega) (by omega) (by omega) sV]
                rcases ev_step (F := F) hw (show a ≤ V i by omega) (by omega) sV k' with ⟨r1, -⟩ | ⟨r1, -⟩ | ⟨r1, -⟩ | ⟨r1, r2, w, hw', -, -, -, r3⟩ | ⟨r1, r2, -⟩
                · exfalso; omega
                · exfalso; omega
                · exfalso; omega
                · have := (List.cons.inj hw').1
                  subst this
                  rcases r3 with ⟨-, g2, -⟩ | ⟨c', -⟩
                  · rw [g2, j5]
                  · exfalso; omega
                · exfalso; omega
            · exact absurd c c'
          · rcases y3 with ⟨c', -⟩ | ⟨-, g, -⟩
            · exact absurd c' c
            · rw [e, g]; exact ih _ _ _ (by omega) (by omega) (by omega) (by omega) s
        · exfalso; omega
      · subst hx
        rcases ev_step (F := F) hV ia (by omega) hs k with ⟨p1, -⟩ | ⟨p1, -⟩ | ⟨p1, -⟩ | ⟨p1, p2, -⟩ | ⟨p1, p2, x', y', t', hx', -, y3⟩
        · exfalso; omega
        · exfalso; omega
        · exfalso; omega
        · exfalso; omega
        · have h1 := (List.cons.inj hx').1
          have h2 := (List.cons.inj (List.cons.inj hx').2).1
          have h3 := (List.cons.inj (List.cons.inj hx').2).2
          subst h1 h2 h3
          rcases z3 with ⟨c, c2, e⟩ | ⟨c, e, s⟩
          · rcases y3 with ⟨-, -, g⟩ | ⟨c', -⟩
            · rw [e, g]
            · exact absurd ⟨c, c2⟩ c'
          · rcases y3 with ⟨c', c2, -⟩ | ⟨-, g, -⟩
            · exact absurd ⟨c', c2⟩ c
            · rw [e, g]; exact ih _ _ _ (by omega) (by omega) (by omega) (by omega) s
def RC (L : Me) (h i x : Int) : Prop := ∃ V, x = 1048576 * L 5 i + V ∧ (V = L 6 i ∨ (h ≤ i ∧ 11 ≤ L 5 i ∧ i < V ∧ V < L 6 i ∧ L 5 V = L 5 i ∧ L 6 V = L 6 i))
def LawR (M L : Me) : Prop := M 76 22 = L 0 0 ∧ ∀ r, 0 ≤ r → r < L 0 0 → M 96 r = L 1 r ∧ M 97 r = L 2 r ∧ M 98 r = L 3 r ∧ M 99 r = L 4 r ∧ ∀ i, L 2 r ≤ i → i < L 4 r → RC L (L 3 r) i (M 95 i)
def LawW (L : Me) : Prop := 0 ≤ L 0 0 ∧ L 0 0 ≤ 16 ∧ ∀ r, 0 ≤ r → r < L 0 0 → L 2 r ≤ L 3 r ∧ L 3 r ≤ L 4 r ∧ (L 1 r ≠ 120 → ∃ sh, Wf (L 5) (L 6) sh (L 2 r) (L 3 r) 1) ∧ ∃ sh, Wf (L 5) (L 6) sh (L 3 r) (L 4 r) (-1)
def testL (L : Me) (F : Int → Int) (r : Int) : Int := ev (L 5) (L 6) F (L 4 r) 240 (L 3 r) []
def worthL (L : Me) (F : Int → Int) (r : Int) : Int := ev (L 5) (L 6) F (L 3 r) 240 (L 2 r) []
def fellL (L : Me) (F : Int → Int) : Nat → Int → Int
  | 0, _ => 0
  | k + 1, r => if L 1 r = 120 ∧ testL L F r ≠ 0 then 1 else fellL L F k (r + 1)
def wrtL (L : Me) (F : Int → Int) (asked none most : Int) : Nat → Int → Int
  | 0, _ => none
  | k + 1, r => if L 1 r = asked ∧ testL L F r ≠ 0 then max 0 (min most (worthL L F r)) else wrtL L F asked none most k (r + 1)
theorem testL_b {L : Me} (hW : LawW L) {F : Int → Int} {r : Int} (r0 : 0 ≤ r) (r1 : r < L 0 0) : testL L F r = 0 ∨ testL L F r = 1 := by
  obtain ⟨-, -, -, sh, hw⟩ := hW.2.2 r r0 r1
  have hw' := hw
  obtain ⟨h1, h2, h3, h4, -⟩ := hw'
  exact ev_bool hw 240 (L 3 r) [] (Int.le_refl _) h2 (by omega) (by rw [h4]; exact sth_n (by omega) rfl)
theorem p_holds {Q : Int → Me → Prop} {M L : Me} {F : Int → Int} (hW : LawW L) (hL : LawC M L) (hF : ∀ j, 0 ≤ j → j < 11 → M 56 j = F j) {r : Int} (r0 : 0 ≤ r) (r1 : r < L 0 0) (hQ : ∀ M', Fr28 M M' → Q (testL L F r) M') : Calls 2 mX3_holds [.inr 22, .inl r, .inr 56] M Q := by
  obtain ⟨w1, w2, -, sh, hw⟩ := hW.2.2 r r0 r1
  obtain ⟨c1, c2, c3, c4, c5⟩ := hL.2 r r0 r1
  have := hW.2.1
  refine e_X3_holds ⟨by omega, by omega, ?_⟩
  rw [c3, c4]
  refine p_X3_reckon (F := F) hw (fun i a b => c5 i (by omega) b) hF (fun M' f => ?_)
  have h1 := hQ M' f
  have h2 := testL_b hW (F := F) r0 r1
  unfold testL at h1 h2
  refine ⟨fun q => ?_, fun q => ?_⟩
  · rw [q] at h1; exact h1
  · rcases h2 with z | z
    · exact absurd z q
    · rw [z] at h1; exact h1
theorem LawC.mv {M M' L : Me} (h : LawC M L) (f : Fr28 M M') : LawC M' L := by
  refine ⟨by rw [f 22 6 (by first | omega | decide) (by first | omega | decide)]; exact h.1, fun r r0 r1 => ?_⟩
  obtain ⟨c1, c2, c3, c4, c5⟩ := h.2 r r0 r1
  exact ⟨by rw [f 23 r (by first | omega | decide) (by first | omega | decide)]; exact c1, by rw [f 24 r (by first | omega | decide) (by first | omega | decide)]; exact c2, by rw [f 25 r (by first | omega | decide) (by first | omega | decide)]; exact c3, by rw [f 26 r (by first | omega | decide) (by first | omega | decide)]; exact c4, fun i a b => by rw [f 27 i (by first | omega | decide) (by first | omega | decide)]; exact c5 i a b⟩
theorem l_X3_fells {Q : Int → Me → Prop} {M0 L : Me} {F : Int → Int} (hW : LawW L) (hL : LawC M0 L) (hF : ∀ j, 0 ≤ j → j < 11 → M0 56 j = F j) {R : Int} (hQ : ∀ M', Fr28 M0 M' → Q R M') :
    ∀ (k : Nat) (r : Int) (M : Me), 0 ≤ r → r + k = L 0 0 → Fr28 M0 M → fellL L F k r = R → Go (km 3 mX3_fells Q) 2 [some (.inr 22), some (.inr 56), some (.inl r)] [] M := by
  have h16 := hW.2.1
  intro k
  induction k with
  | zero =>
    intro r M r0 hk f hR
    refine s_X3_fells_2 _ M ⟨fun _ => ?_, fun q => by rw [(hL.mv f).1] at q; exfalso; omega⟩
    have := hQ M f
    rw [← hR] at this
    exact this
  | succ k ih =>
    intro r M r0 hk f hR
    have hL' := hL.mv f
    obtain ⟨c1, -⟩ := hL'.2 r r0 (by omega)
    simp only [fellL] at hR
    refine s_X3_fells_2 _ M ⟨fun q => by rw [hL'.1] at q; exfalso; omega, fun _ => ⟨by omega, fun q => ⟨by unfold cn; omega, ?_⟩, fun q => ?_⟩⟩
    · rw [if_neg (fun z => q (c1.trans z.1))] at hR
      exact ih (r + 1) M (by omega) (by omega) f hR
    · refine p_holds (F := F) hW hL' (fun j a b => by rw [f 56 j (by first | omega | decide) (by first | omega | decide)]; exact hF j a b) r0 (by omega) (fun M' f' => ⟨fun z => ⟨by unfold cn; omega, ?_⟩, fun z => ?_⟩)
      · rw [if_neg (fun y => y.2 z)] at hR
        exact ih (r + 1) M' (by omega) (by omega) (f.tr f') hR
      · rw [if_pos ⟨by rw [← c1]; exact q, z⟩] at hR
        have := hQ M' (f.tr f')
        rw [← hR] at this
        exact this
theorem p_X3_fells {Q : Int → Me → Prop} {M L : Me} {F : Int → Int} (hW : LawW L) (hL : LawC M L) (hF : ∀ j, 0 ≤ j → j < 11 → M 56 j = F j) (hQ : ∀ M', Fr28 M M' → Q (fellL L F (L 0 0).toNat 0) M') : Calls 3 mX3_fells [.inr 22, .inr 56] M Q :=
  e_X3_fells (l_X3_fells hW hL hF hQ (L 0 0).toNat 0 M (by omega) (by have := hW.1; omega) (fun _ _ _ _ => rfl) rfl)
theorem l_X3_worthOf {Q : Int → Me → Prop} {M0 L : Me} {F : Int → Int} {asked none most : Int} (h120 : asked ≠ 120) (hW : LawW L) (hL : LawC M0 L) (hF : ∀ j, 0 ≤ j → j < 11 → M0 56 j = F j) {R : Int} (hQ : ∀ M', Fr28 M0 M' → Q R M') :
    ∀ (k : Nat) (r : Int) (M : Me), 0 ≤ r → r + k = L 0 0 → Fr28 M0 M → wrtL L F asked none most k r = R → Go (km 3 mX3_worthOf Q) 3 [some (.inr 22), some (.inl asked), some (.inl none), some (.inl most), some (.inr 56), some (.inl r), Option.none] [] M := by
  have h16 := hW.2.1
  intro k
  induction k with
  | zero =>
    intro r M r0 hk f hR
    refine s_X3_worthOf_3 _ _ _ _ M ⟨fun _ => ?_, fun q => by rw [(hL.mv f).1] at q; exfalso; omega⟩
    have := hQ M f
    rw [← hR] at this
    exact this
  | succ k ih =>
    intro r M r0 hk f hR
    have hL' := hL.mv f
    obtain ⟨c1, -⟩ := hL'.2 r r0 (by omega)
    simp only [wrtL] at hR
    refine s_X3_worthOf_3 _ _ _ _ M ⟨fun q => by rw [hL'.1] at q; exfalso; omega, fun _ => ⟨by omega, fun q => ⟨by unfold cn; omega, ?_⟩, fun q => ?_⟩⟩
    · rw [if_neg (fun z => q (c1.trans z.1))] at hR
      exact ih (r + 1) M (by omega) (by omega) f hR
    · have hF' : ∀ j, 0 ≤ j → j < 11 → M 56 j = F j := fun j a b => by rw [f 56 j (by first | omega | decide) (by first | omega | decide)]; exact hF j a b
      refine p_holds (F := F) hW hL' hF' r0 (by omega) (fun M' f' => ⟨fun z => ⟨by unfold cn; omega, ?_⟩, fun z => ⟨by omega, by omega, ?_⟩⟩)
      · rw [if_neg (fun y => y.2 z)] at hR
        exact ih (r + 1) M' (by omega) (by omega) (f.tr f') hR
      · rw [if_pos ⟨by rw [← c1]; exact q, z⟩] at hR
        obtain ⟨d1, d2, d3, d4, d5⟩ := (hL'.mv f').2 r r0 (by omega)
        obtain ⟨w1, w2, w3, -⟩ := hW.2.2 r r0 (by omega)
        obtain ⟨sh, hw⟩ := w3 (by omega)
        rw [d2, d3]
        refine p_X3_reckon (F := F) hw (fun i a b => d5 i a (by omega)) (fun j a b => by rw [f' 56 j (by first | omega | decide) (by first | omega | decide)]; exact hF' j a b) (fun M2 f2 => ?_)
        have := hQ M2 (f.tr (f'.tr f2))
        rw [← hR] at this
        exact this
theorem p_X3_worthOf {Q : Int → Me → Prop} {M L : Me} {F : Int → Int} {asked none most : Int} (h120 : asked ≠ 120) (hW : LawW L) (hL : LawC M L) (hF : ∀ j, 0 ≤ j → j < 11 → M 56 j = F j) (hQ : ∀ M', Fr28 M M' → Q (wrtL L F asked none most (L 0 0).toNat 0) M') : Calls 3 mX3_worthOf [.inr 22, .inl asked, .inl none, .inl most, .inr 56] M Q :=
  e_X3_worthOf (l_X3_worthOf h120 hW hL hF hQ (L 0 0).toNat 0 M (by omega) (by have := hW.1; omega) (fun _ _ _ _ => rfl) rfl)
/-! the reference -/
theorem LawR.mv {M M' L : Me} (h : LawR M L) (f : Fr100 M M') : LawR M' L := by
  refine ⟨by rw [f 76 22 (by first | omega | decide)]; exact h.1, fun r r0 r1 => ?_⟩
  obtain ⟨c1, c2, c3, c4, c5⟩ := h.2 r r0 r1
  exact ⟨by rw [f 96 r (by first | omega | decide)]; exact c1, by rw [f 97 r (by first | omega | decide)]; exact c2, by rw [f 98 r (by first | omega | decide)]; exact c3, by rw [f 99 r (by first | omega | decide)]; exact c4, fun i a b => by rw [f 95 i (by first | omega | decide)]; exact c5 i a b⟩
theorem p_testR {Q : Int → Me → Prop} {M L : Me} {F : Int → Int} (hW : LawW L) (hL : LawR M L) (hF : ∀ j, 0 ≤ j → j < 11 → M 101 j = F j) {r : Int} (r0 : 0 ≤ r) (r1 : r < L 0 0) (hQ : ∀ M', Fr100 M M' → Q (testL L F r) M') : Calls 1 mX12_reckonsTo [.inr 76, .inl (L 3 r), .inl (L 4 r)] M Q := by
  obtain ⟨w1, w2, -, sh, hw⟩ := hW.2.2 r r0 r1
  obtain ⟨c1, c2, c3, c4, c5⟩ := hL.2 r r0 r1
  have hJ : JR (L 5) (L 6) (fun i => M 95 i - 1048576 * L 5 i) (L 3 r) (L 4 r) := fun i ia ib => by
    obtain ⟨V, e, z⟩ := c5 i (by omega) ib
    have e' : M 95 i - 1048576 * L 5 i = V := by omega
    simp only [e']
    rcases z with z | ⟨-, z⟩
    · exact Or.inl z
    · exact Or.inr z
  have hw4 : L 4 r ≤ 240 := hw.2.2.1
  have hw0 : 0 ≤ L 3 r := hw.1
  refine p_X12_reckonsTo (hJ.wf hw) (fun i a b => by show M 95 i = 1048576 * L 5 i + (M 95 i - 1048576 * L 5 i); omega) hF (fun M' f => ?_)
  rw [ev_JR hw hJ 240 (L 3 r) [] 240 (by omega) w2 (by omega) (by omega) (by rw [hw.2.2.2.1]; exact sth_n (by omega) rfl)]
  exact hQ M' f
theorem l_X12_holdsAny {Q : Int → Me → Prop} {M0 L : Me} {F : Int → Int} (hW : LawW L) (hL : LawR M0 L) (hF : ∀ j, 0 ≤ j → j < 11 → M0 101 j = F j) {R : Int} (hQ : ∀ M', Fr100 M0 M' → Q R M') :
    ∀ (k : Nat) (r : Int) (M : Me), 0 ≤ r → r + k = L 0 0 → Fr100 M0 M → fellL L F k r = R → Go (km 2 mX12_holdsAny Q) 2 [some (.inr 76), some (.inl 120), some (.inl r)] [] M := by
  have h16 := hW.2.1
  intro k
  induction k with
  | zero =>
    intro r M r0 hk f hR
    refine s_X12_holdsAny_2 _ _ M ⟨fun _ => ?_, fun q => by rw [(hL.mv f).1] at q; exfalso; omega⟩
    have := hQ M f
    rw [← hR] at this
    exact this
  | succ k ih =>
    intro r M r0 hk f hR
    have hL' := hL.mv f
    obtain ⟨c1, c2, c3, c4, c5⟩ := hL'.2 r r0 (by omega)
    simp only [fellL] at hR
    refine s_X12_holdsAny_2 _ _ M ⟨fun q => by rw [hL'.1] at q; exfalso; omega, fun _ => ⟨by omega, fun q => ⟨by unfold cn; omega, ?_⟩, fun q => ⟨by omega, by omega, ?_⟩⟩⟩
    · rw [if_neg (fun z => q (c1.trans z.1))] at hR
      exact ih (r + 1) M (by omega) (by omega) f hR
    · rw [c3, c4]
      have hb := testL_b hW (F := F) r0 (show r < L 0 0 by omega)
      refine p_testR (F := F) hW hL' (fun j a b => by rw [f 101 j (by first | omega | decide)]; exact hF j a b) r0 (by omega) (fun M' f' => ⟨fun z => ⟨by unfold cn; omega, ?_⟩, fun z => ?_⟩)
      · rw [if_neg (fun y => by omega)] at hR
        exact ih (r + 1) M' (by omega) (by omega) (f.tr f') hR
      · rw [if_pos ⟨by rw [← c1]; exact q, by omega⟩] at hR
        have := hQ M' (f.tr f')
        rw [← hR] at this
        exact this
theorem p_X12_holdsAny {Q : Int → Me → Prop} {M L : Me} {F : Int → Int} (hW : LawW L) (hL : LawR M L) (hF : ∀ j, 0 ≤ j → j < 11 → M 101 j = F j) (hQ : ∀ M', Fr100 M M' → Q (fellL L F (L 0 0).toNat 0) M') : Calls 2 mX12_holdsAny [.inr 76, .inl 120] M Q :=
  e_X12_holdsAny (l_X12_holdsAny hW hL hF hQ (L 0 0).toNat 0 M (by omega) (by have := hW.1; omega) (fun _ _ _ => rfl) rfl)
theorem l_X12_byLaw {Q : Int → Me → Prop} {M0 L : Me} {F : Int → Int} {asked none most : Int} (h120 : asked ≠ 120) (hm : 0 ≤ most) (hW : LawW L) (hL : LawR M0 L) (hF : ∀ j, 0 ≤ j → j < 11 → M0 101 j = F j) {R : Int} (hQ : ∀ M', Fr100 M0 M' → Q R M') :
    ∀ (k : Nat) (r : Int) (M : Me), 0 ≤ r → r + k = L 0 0 → Fr100 M0 M → wrtL L F asked none most k r = R → Go (km 2 mX12_byLaw Q) 3 [some (.inr 76), some (.inl asked), some (.inl most), some (.inl none), some (.inl r), Option.none] [] M := by
  have h16 := hW.2.1
  intro k
  induction k with
  | zero =>
    intro r M r0 hk f hR
    refine s_X12_byLaw_3 _ _ _ _ M ⟨fun _ => ?_, fun q => by rw [(hL.mv f).1] at q; exfalso; omega⟩
    have := hQ M f
    rw [← hR] at this
    exact this
  | succ k ih =>
    intro r M r0 hk f hR
    have hL' := hL.mv f
    obtain ⟨c1, c2, c3, c4, c5⟩ := hL'.2 r r0 (by omega)
    simp only [wrtL] at hR
    have hb := testL_b hW (F := F) r0 (show r < L 0 0 by omega)
    have hF' : ∀ j, 0 ≤ j → j < 11 → M 101 j = F j := fun j a b => by rw [f 101 j (by first | omega | decide)]; exact hF j a b
    refine s_X12_byLaw_3 _ _ _ _ M ⟨fun q => by rw [hL'.1] at q; exfalso; omega, fun _ => ⟨by omega, fun q => ⟨by unfold cn; omega, ?_⟩, fun q => ⟨by omega, by omega, ?_⟩⟩⟩
    · rw [if_neg (fun z => q (c1.trans z.1))] at hR
      exact ih (r + 1) M (by omega) (by omega) f hR
    · rw [c3, c4]
      refine p_testR (F := F) hW hL' hF' r0 (by omega) (fun M' f' => ⟨fun z => ⟨by omega, by omega, ?_⟩, fun z => ⟨by unfold cn; omega, ?_⟩⟩)
      · rw [if_pos ⟨by rw [← c1]; exact q, by omega⟩] at hR
        obtain ⟨d1, d2, d3, d4, d5⟩ := (hL'.mv f').2 r r0 (by omega)
        obtain ⟨w1, w2, w3, -⟩ := hW.2.2 r r0 (by omega)
        obtain ⟨sh, hw⟩ := w3 (by omega)
        rw [d2, d3]
        refine p_X12_reckonsTo (F := F) hw (fun i a b => by
          obtain ⟨V, e, z⟩ := d5 i a (by omega)
          rcases z with z | ⟨z, -⟩
          · rw [e, z]
          · exfalso; omega) (fun j a b => by rw [f' 101 j (by first | omega | decide)]; exact hF' j a b) (fun M2 f2 => ?_)
        have hq := hQ M2 (f.tr (f'.tr f2))
        rw [← hR] at hq
        unfold worthL at hq
        generalize ev (L 5) (L 6) F (L 3 r) 240 (L 2 r) [] = w at hq
        refine ⟨fun z1 => ⟨fun z2 => ?_, fun z2 => ?_⟩, fun z1 => ?_⟩
        · rw [show max 0 (min most w) = w by omega] at hq; exact hq
        · rw [show max 0 (min most w) = most by omega] at hq; exact hq
        · rw [show max 0 (min most w) = 0 by omega] at hq; exact hq
      · rw [if_neg (fun y => by omega)] at hR
        exact ih (r + 1) M' (by omega) (by omega) (f.tr f') hR
theorem p_X12_byLaw {Q : Int → Me → Prop} {M L : Me} {F : Int → Int} {asked none most : Int} (h120 : asked ≠ 120) (hm : 0 ≤ most) (hW : LawW L) (hL : LawR M L) (hF : ∀ j, 0 ≤ j → j < 11 → M 101 j = F j) (hQ : ∀ M', Fr100 M M' → Q (wrtL L F asked none most (L 0 0).toNat 0) M') : Calls 2 mX12_byLaw [.inr 76, .inl asked, .inl most, .inl none] M Q :=
  e_X12_byLaw (l_X12_byLaw h120 hm hW hL hF hQ (L 0 0).toNat 0 M (by omega) (by have := hW.1; omega) (fun _ _ _ => rfl) rfl)
