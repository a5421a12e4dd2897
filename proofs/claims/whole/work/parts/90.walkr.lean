/-! ===== a season of the reference ===== -/
def RFr (M M' : Me) : Prop := ∀ k i, k ≠ 77 → k ≠ 100 → k ≠ 101 → (k = 76 → i ≠ 44) → M' k i = M k i
def StR (n : Int) (D L M : Me) : Prop := M 76 11 = n ∧ (∀ d, 0 ≤ d → d < n → M 80 d = D 0 d ∧ M 87 d = D 1 d ∧ M 83 d = D 2 d ∧ M 84 d = D 3 d ∧ M 85 d = D 4 d) ∧ LawR M L
theorem RFr.rf (M : Me) : RFr M M := fun _ _ _ _ _ _ => rfl
theorem RFr.tr {A B C : Me} (h : RFr A B) (h' : RFr B C) : RFr A C := fun k i a b c d => (h' k i a b c d).trans (h k i a b c d)
theorem RFr.p77 (M : Me) (i v : Int) : RFr M (mput M 77 i v) := fun _ _ a _ _ _ => mput_ne _ _ _ _ a
theorem RFr.p101 (M : Me) (i v : Int) : RFr M (mput M 101 i v) := fun _ _ _ _ c _ => mput_ne _ _ _ _ c
theorem RFr.p44 (M : Me) (v : Int) : RFr M (mput M 76 44 v) := fun k i _ _ _ d => by
  by_cases q : k = 76
  · subst q; exact mput_ni _ _ _ _ (d rfl)
  · exact mput_ne _ _ _ _ q
theorem RFr.of100 {M M' : Me} (h : Fr100 M M') : RFr M M' := fun k i _ b _ _ => h k i b
theorem StR.mv {n : Int} {D L M M' : Me} (h : StR n D L M) (f : RFr M M') : StR n D L M' := by
  obtain ⟨h1, h2, h3, h4⟩ := h
  refine ⟨by rw [f 76 11 (by first | omega | decide) (by first | omega | decide) (by first | omega | decide) (by first | omega | decide)]; exact h1, fun d d0 d1 => ?_, by rw [f 76 22 (by first | omega | decide) (by first | omega | decide) (by first | omega | decide) (by first | omega | decide)]; exact h3, fun r r0 r1 => ?_⟩
  · rw [f 80 d (by first | omega | decide) (by first | omega | decide) (by first | omega | decide) (by first | omega | decide), f 87 d (by first | omega | decide) (by first | omega | decide) (by first | omega | decide) (by first | omega | decide), f 83 d (by first | omega | decide) (by first | omega | decide) (by first | omega | decide) (by first | omega | decide), f 84 d (by first | omega | decide) (by first | omega | decide) (by first | omega | decide) (by first | omega | decide), f 85 d (by first | omega | decide) (by first | omega | decide) (by first | omega | decide) (by first | omega | decide)]
    exact h2 d d0 d1
  · rw [f 96 r (by first | omega | decide) (by first | omega | decide) (by first | omega | decide) (by first | omega | decide), f 97 r (by first | omega | decide) (by first | omega | decide) (by first | omega | decide) (by first | omega | decide), f 98 r (by first | omega | decide) (by first | omega | decide) (by first | omega | decide) (by first | omega | decide), f 99 r (by first | omega | decide) (by first | omega | decide) (by first | omega | decide) (by first | omega | decide)]
    obtain ⟨c1, c2, c3, c4, c5⟩ := h4 r r0 r1
    exact ⟨c1, c2, c3, c4, fun i a b => by rw [f 95 i (by first | omega | decide) (by first | omega | decide) (by first | omega | decide) (by first | omega | decide)]; exact c5 i a b⟩
theorem up77 (M : Me) (i v : Int) : (mput M 77 i v) 77 = upS (M 77) i v := by
  funext j
  unfold mput upS
  simp
theorem p_goalOf {Q : Int → Me → Prop} {M : Me} {n : Int} {D L : Me} (hD : Dk n D) (hs : StR n D L M) {c : Int} (c0 : 0 ≤ c) (c1 : c < n) (h : Q (aimF D (M 77) c) M) : Calls 0 mX12_goalOf [.inr 76, .inl c] M Q := by
  have h16 := hD.1
  obtain ⟨d1, d2, -⟩ := hs.2.1 c c0 c1
  refine e_X12_goalOf ?_
  rw [d1, d2]
  unfold aimF at h
  refine ⟨by unfold cn; omega, by omega, fun q => ⟨by omega, ?_⟩, fun q => ⟨by omega, ?_⟩⟩
  · rw [if_neg q] at h; exact h
  · rw [if_pos q] at h; exact h
theorem l_othersAtR {Q : Int → Me → Prop} {M : Me} {n : Int} (h16 : n ≤ 16) (hn : M 76 11 = n) {c : Int} (c0 : 0 ≤ c) (c1 : c < n) {R : Int} (hQ : Q R M) :
    ∀ (k : Nat) (e acc : Int), 0 ≤ e → e + k = n → 0 ≤ acc → acc ≤ e → iter (othS (M 77) c) k e acc = R → Go (km 0 mX12_othersAt Q) 4 [some (.inr 76), some (.inl c), some (.inl acc), some (.inl e)] [] M := by
  intro k
  induction k with
  | zero =>
    intro e acc e0 he a0 a1 hR
    refine s_X12_othersAt_4 _ _ _ M ⟨fun _ => ?_, fun q => by exfalso; omega⟩
    simp only [iter] at hR
    rw [hR]; exact hQ
  | succ k ih =>
    intro e acc e0 he a0 a1 hR
    simp only [iter, othS] at hR
    refine s_X12_othersAt_4 _ _ _ M ?_
    rw [hn, show 0 + e = e by omega]
    refine ⟨fun q => by exfalso; omega, fun _ => ⟨fun q => ⟨by unfold cn; omega, ?_⟩, fun q => ⟨by unfold cn; omega, by omega, fun q2 => ⟨by unfold cn; omega, ?_⟩, fun q2 => ⟨by unfold cn; omega, by omega, by unfold cn; omega, by omega, fun q3 => ⟨by unfold cn; omega, ?_⟩, fun q3 => ⟨by unfold cn; omega, by unfold cn; omega, ?_⟩⟩⟩⟩⟩
    · rw [if_neg (fun z => z.1 q)] at hR; exact ih (e + 1) acc (by omega) (by omega) a0 (by omega) hR
    · rw [if_neg (fun z => q2 z.2.1)] at hR; exact ih (e + 1) acc (by omega) (by omega) a0 (by omega) hR
    · rw [if_neg (fun z => q3 z.2.2)] at hR; exact ih (e + 1) acc (by omega) (by omega) a0 (by omega) hR
    · rw [if_pos ⟨q, q2, q3⟩] at hR; exact ih (e + 1) (acc + 1) (by omega) (by omega) (by omega) (by omega) hR
theorem p_feels {Q : Int → Me → Prop} {M : Me} {n : Int} {D L : Me} {S : Int → Int} (hD : Dk n D) (hs : StR n D L M) (hH : M 77 = upS S 81 (drw S)) (hR : Rg n S) {c : Int} (c0 : 0 ≤ c) (c1 : c < n)
    (hQ : ∀ M', RFr M M' → M' 77 = M 77 → M' 76 44 = M 76 44 → (∀ j, 0 ≤ j → j < 11 → M' 101 j = factF D n S c j) → Q 0 M') : Calls 2 mX12_feels [.inr 76, .inl c, .inl (drw S % 10)] M Q := by
  have h16 := hD.1
  obtain ⟨d1, d2, d3, d4, d5⟩ := hs.2.1 c c0 c1
  obtain ⟨r1, r2, r3, r4, r5⟩ := hR.1 c c0 c1
  have ha := aimF_pl hD (S := S) c0 c1
  have rd : ∀ i, i ≠ 81 → M 77 i = S i := fun i q => by rw [hH]; exact upS_ne _ _ q
  have aim' : aimF D (upS S 81 (drw S)) c = aimF D S c := by
    unfold aimF
    rw [upS_ne _ _ (by omega)]
  have oth' : iter (othS (upS S 81 (drw S)) c) n.toNat 0 0 = iter (othS S c) n.toNat 0 0 := iter_fun n n rfl 0 (fun i i0 i1 x => by
    unfold othS
    rw [upS_ne _ _ (by omega), upS_ne _ _ (by omega), upS_ne _ _ (by omega)])
  refine e_X12_feels ⟨by unfold cn; omega, by omega, by unfold cn; omega, by omega, by omega, by omega, by omega, by unfold cn; omega, by omega, by unfold cn; omega, by omega, ?_⟩
  rw [show 0 + c = c by omega, rd c (by omega), rd (32 + c) (by omega), rd (48 + c) (by omega), rd (16 + c) (by omega), d3, d4, d5]
  have w1 : RFr M (mput (mput (mput (mput (mput (mput (mput M 101 0 c) 101 1 (S c)) 101 2 (S (32 + c))) 101 3 (D 2 c)) 101 4 (D 3 c)) 101 5 (D 4 c)) 101 6 (S (48 + c))) :=
    (RFr.p101 M _ _).tr ((RFr.p101 _ _ _).tr ((RFr.p101 _ _ _).tr ((RFr.p101 _ _ _).tr ((RFr.p101 _ _ _).tr ((RFr.p101 _ _ _).tr (RFr.p101 _ _ _))))))
  have f0 : ∀ j, 0 ≤ j → j < 7 → (mput (mput (mput (mput (mput (mput (mput M 101 0 c) 101 1 (S c)) 101 2 (S (32 + c))) 101 3 (D 2 c)) 101 4 (D 3 c)) 101 5 (D 4 c)) 101 6 (S (48 + c))) 101 j = factF D n S c j := fun j j0 j1 => by
    rcases (show j = 0 ∨ j = 1 ∨ j = 2 ∨ j = 3 ∨ j = 4 ∨ j = 5 ∨ j = 6 by omega) with rfl | rfl | rfl | rfl | rfl | rfl | rfl <;> simp [mput, factF]
  have o1 : ∀ k i, k ≠ 101 → (mput (mput (mput (mput (mput (mput (mput M 101 0 c) 101 1 (S c)) 101 2 (S (32 + c))) 101 3 (D 2 c)) 101 4 (D 3 c)) 101 5 (D 4 c)) 101 6 (S (48 + c))) k i = M k i := fun k i q => by
    rw [mput_ne _ _ _ _ q, mput_ne _ _ _ _ q, mput_ne _ _ _ _ q, mput_ne _ _ _ _ q, mput_ne _ _ _ _ q, mput_ne _ _ _ _ q, mput_ne _ _ _ _ q]
  generalize mput (mput (mput (mput (mput (mput (mput M 101 0 c) 101 1 (S c)) 101 2 (S (32 + c))) 101 3 (D 2 c)) 101 4 (D 3 c)) 101 5 (D 4 c)) 101 6 (S (48 + c)) = M1 at w1 f0 o1
  have e77 : M1 77 = upS S 81 (drw S) := by rw [← hH]; exact funext (fun i => o1 77 i (by first | omega | decide))
  refine p_goalOf hD (hs.mv w1) c0 c1 ?_
  rw [e77, aim']
  refine ⟨r2.1, ha.1, ?_⟩
  have w2 := w1.tr (RFr.p101 M1 7 (dst (S (16 + c)) (aimF D S c)))
  have e772 : (mput M1 101 7 (dst (S (16 + c)) (aimF D S c))) 77 = upS S 81 (drw S) := by rw [← e77]; exact funext (fun i => mput_ne _ _ _ _ (by first | omega | decide))
  refine e_X12_othersAt (l_othersAtR h16 (hs.mv w2).1 c0 c1 (R := iter (othS S c) n.toNat 0 0) ?_ n.toNat 0 0 (by omega) (by have := hD.2.1; omega) (by omega) (by omega) (by rw [e772]; exact oth'))
  have e80 : (mput M1 101 7 (dst (S (16 + c)) (aimF D S c))) 77 80 = S 80 := by rw [e772]; exact upS_ne _ _ (by first | omega | decide)
  rw [e80]
  refine ⟨hR.2.1.1, hQ _ ?_ ?_ ?_ ?_⟩
  · exact w2.tr ((RFr.p101 _ _ _).tr ((RFr.p101 _ _ _).tr (RFr.p101 _ _ _)))
  · exact funext (fun i => by rw [mput_ne _ _ _ _ (by first | omega | decide), mput_ne _ _ _ _ (by first | omega | decide), mput_ne _ _ _ _ (by first | omega | decide), mput_ne _ _ _ _ (by first | omega | decide)]; exact o1 77 i (by first | omega | decide))
  · rw [mput_ne _ _ _ _ (by first | omega | decide), mput_ne _ _ _ _ (by first | omega | decide), mput_ne _ _ _ _ (by first | omega | decide), mput_ne _ _ _ _ (by first | omega | decide)]; exact o1 76 44 (by first | omega | decide)
  · intro j j0 j1
    rcases (show j < 7 ∨ j = 7 ∨ j = 8 ∨ j = 9 ∨ j = 10 by omega) with q | rfl | rfl | rfl | rfl
    · rw [mput_ni _ _ _ _ (by omega), mput_ni _ _ _ _ (by omega), mput_ni _ _ _ _ (by omega), mput_ni _ _ _ _ (by omega)]
      exact f0 j j0 q
    all_goals simp [mput, factF]
theorem upS_self (S : Int → Int) (i : Int) : upS S i (S i) = S := by
  funext j
  unfold upS
  split
  · next q => rw [q]
  · rfl
theorem p_turnsR {Q : Int → Me → Prop} {M : Me} {n : Int} {D L : Me} (hD : Dk n D) (hs : StR n D L M) (hR : Rg n (M 77)) {c : Int} (c0 : 0 ≤ c) (c1 : c < n) (hc : cn (M 76 44 + 1))
    (hQ : ∀ M', RFr M M' → M' 77 = turnS D (M 77) c → M' 76 44 = M 76 44 + turnN D (M 77) c → Q 0 M') : Calls 1 mX12_turnsIfThere [.inr 76, .inl c] M Q := by
  have h16 := hD.1
  obtain ⟨-, -, -, r4, r5⟩ := hR.1 c c0 c1
  refine e_X12_turnsIfThere ⟨by unfold cn; omega, by omega, p_goalOf hD hs c0 c1 ?_⟩
  unfold turnS turnN at hQ
  have e3 : (mput (mput M 77 (48 + c) (min 9999 (M 77 (48 + c) + 1))) 77 (32 + c) 99) 77 (64 + c) = M 77 (64 + c) := by
    rw [mput_ni _ _ _ _ (by omega), mput_ni _ _ _ _ (by omega)]
  rw [e3]
  refine ⟨fun q => ⟨by unfold cn; omega, by omega, fun q2 => ⟨by unfold cn; omega, by unfold cn; omega, by omega, by unfold cn; omega, by omega, ?_⟩, fun q2 => ⟨by unfold cn; omega, by unfold cn; omega, by omega, by unfold cn; omega, by omega, by unfold cn; omega, by omega, hc, by unfold cn; omega, by unfold cn; omega, by omega, by unfold cn; omega, by omega, ?_⟩⟩, fun q => ?_⟩
  · rw [if_pos q, if_neg q2, if_neg (fun y => q2 y.2)] at hQ
    have z : 1 - M 77 (64 + c) = 0 := by omega
    rw [z]
    exact hQ _ (RFr.p77 _ _ _) (up77 _ _ _) (by rw [mput_ne _ _ _ _ (by first | omega | decide)]; omega)
  · rw [if_pos q, if_pos q2, if_pos ⟨q, q2⟩] at hQ
    rw [q2]
    refine hQ _ ((RFr.p77 _ _ _).tr ((RFr.p77 _ _ _).tr ((RFr.p44 _ _).tr (RFr.p77 _ _ _)))) ?_ ?_
    · rw [up77]
      have e : (mput (mput (mput M 77 (48 + c) (min 9999 (M 77 (48 + c) + 1))) 77 (32 + c) 99) 76 44 (M 76 44 + 1)) 77 = upS (upS (M 77) (48 + c) (min (M 77 (48 + c) + 1) 9999)) (32 + c) 99 := by
        rw [show (mput (mput (mput M 77 (48 + c) (min 9999 (M 77 (48 + c) + 1))) 77 (32 + c) 99) 76 44 (M 76 44 + 1)) 77 = (mput (mput M 77 (48 + c) (min 9999 (M 77 (48 + c) + 1))) 77 (32 + c) 99) 77 from funext (fun i => mput_ne _ _ _ _ (by first | omega | decide)), up77, up77, show min 9999 (M 77 (48 + c) + 1) = min (M 77 (48 + c) + 1) 9999 by omega]
      rw [e]
      rfl
    · rw [mput_ne _ _ _ _ (by first | omega | decide), mput_same]
  · rw [if_neg q, if_neg (fun y => q y.1)] at hQ
    exact hQ M (RFr.rf _) rfl (by omega)
theorem p_stepsR {Q : Int → Me → Prop} {M : Me} {n : Int} {D L : Me} (hD : Dk n D) (hs : StR n D L M) (hR : Rg n (M 77)) {c : Int} (c0 : 0 ≤ c) (c1 : c < n)
    (hQ : ∀ M', RFr M M' → M' 77 = moveS D (M 77) c → M' 76 44 = M 76 44 → Q 0 M') : Calls 1 mX12_steps [.inr 76, .inl c] M Q := by
  have h16 := hD.1
  obtain ⟨-, r2, -⟩ := hR.1 c c0 c1
  have ha := aimF_pl hD (S := M 77) c0 c1
  have mv : ∀ v, v = stepV (M 77 (16 + c)) (aimF D (M 77) c) → Q 0 (mput M 77 (16 + c) v) := fun v hv => by
    rw [hv]
    exact hQ _ (RFr.p77 _ _ _) (up77 _ _ _) (mput_ne _ _ _ _ (by first | omega | decide))
  unfold pl at r2 ha
  refine e_X12_steps ⟨by unfold cn; omega, by omega, r2.1, by unfold cn; omega, by omega, r2.1, p_goalOf hD hs c0 c1 ⟨ha.1, p_goalOf hD hs c0 c1 ⟨ha.1, fun q => ⟨fun q2 => ?_, fun q2 => ⟨by unfold cn; omega, by unfold cn; omega, by omega, fun q3 => ⟨by unfold cn; omega, by omega, mv _ ?_⟩, fun q3 => ⟨by unfold cn; omega, by omega, mv _ ?_⟩⟩⟩, fun q => ⟨by unfold cn; omega, by unfold cn; omega, by omega, fun q3 => ⟨by unfold cn; omega, by omega, mv _ ?_⟩, fun q3 => ⟨by unfold cn; omega, by omega, mv _ ?_⟩⟩⟩⟩⟩
  · refine hQ M (RFr.rf _) ?_ rfl
    unfold moveS stepV
    rw [if_neg (by omega), if_neg (by omega), if_neg (by omega), if_neg (by omega), upS_self]
  all_goals
    unfold stepV
    repeat' split
    all_goals omega
theorem l_goesAboutR {Q : Int → Me → Prop} {M0 : Me} {n : Int} {D L : Me} (hD : Dk n D) (hs0 : StR n D L M0) {c x3 : Int} (c0 : 0 ≤ c) (c1 : c < n) (x10 : x3 ≤ 10) {T : Int → Int} {R B : Int} (hB : 0 ≤ B) (hB2 : B ≤ 2000000000) (hQ : ∀ M', RFr M0 M' → M' 77 = T → M' 76 44 = B + R → Q 0 M') :
    ∀ (k : Nat) (i m : Int) (M : Me), 0 ≤ i → (i + k = x3 ∨ (k = 0 ∧ x3 ≤ i)) → i ≤ 10 → 0 ≤ m → m ≤ i + 1 → RFr M0 M → M 76 44 = B + m → Rg n (M 77) → goP D c k (M 77) m = (T, R) → Go (km 2 mX12_goesAbout Q) 33 [some (.inr 76), some (.inl c), none, some (.inl x3), some (.inl i)] [] M := by
  intro k
  induction k with
  | zero =>
    intro i m M i0 hk i10 m0 m1 f hm hR he
    simp only [goP, Prod.mk.injEq] at he
    refine s_X12_goesAbout_33 _ _ _ M ⟨fun _ => ?_, fun q => by exfalso; omega⟩
    exact hQ M f he.1 (by rw [hm, he.2])
  | succ k ih =>
    intro i m M i0 hk i10 m0 m1 f hm hR he
    simp only [goP] at he
    refine s_X12_goesAbout_33 _ _ _ M ⟨fun q => by exfalso; omega, fun _ => ?_⟩
    refine p_stepsR hD (hs0.mv f) hR c0 c1 (fun M1 f1 e1 m1' => ?_)
    have hR1 : Rg n (M1 77) := by rw [e1]; exact move_Rg hD hR c0 c1
    refine p_turnsR hD (hs0.mv (f.tr f1)) hR1 c0 c1 (by unfold cn; omega) (fun M2 f2 e2 m2' => ⟨by unfold cn; omega, ?_⟩)
    have b := turnN_b D (moveS D (M 77) c) c
    rw [e1] at e2 m2'
    refine ih (i + 1) (m + turnN D (moveS D (M 77) c) c) M2 (by omega) (by omega) (by omega) (by omega) (by omega) (f.tr (f1.tr f2)) (by omega) ?_ ?_
    · rw [e2]; exact turn_Rg hD (move_Rg hD hR c0 c1) c0 c1
    · rw [e2]; exact he
theorem p_goesAboutR {Q : Int → Me → Prop} {M : Me} {n : Int} {D L : Me} (hD : Dk n D) (hs : StR n D L M) (hR : Rg n (M 77)) {c told : Int} (c0 : 0 ≤ c) (c1 : c < n) (t0 : 0 ≤ told) (t9 : told ≤ 9) (hB : 0 ≤ M 76 44) (hB2 : M 76 44 ≤ 2000000000)
    (hQ : ∀ M', RFr M M' → M' 77 = (aboutP D (M 77) c told).1 → M' 76 44 = M 76 44 + (aboutP D (M 77) c told).2 → Q 0 M') : Calls 2 mX12_goesAbout [.inr 76, .inl c, .inl told] M Q := by
  have h16 := hD.1
  obtain ⟨-, -, -, d4, d5⟩ := hs.2.1 c c0 c1
  obtain ⟨-, -, -, k4, k5⟩ := hD.2.2 c c0 c1
  have go : ∀ x3, x3 = manyF D c told → x3 ≤ 10 → 0 ≤ x3 → Calls 1 mX12_turnsIfThere [.inr 76, .inl c] M (fun r35 M35 => Go (km 2 mX12_goesAbout Q) 33 [some (.inr 76), some (.inl c), none, some (.inl x3), some (.inl 0)] [] M35) := fun x3 e x10 x0 => by
    refine p_turnsR hD hs hR c0 c1 (by unfold cn; omega) (fun M' f' e' m' => ?_)
    have b := turnN_b D (M 77) c
    exact l_goesAboutR hD hs c0 c1 x10 hB hB2 hQ x3.toNat 0 (turnN D (M 77) c) M' (by omega) (by omega) (by omega) (by omega) (by omega) f' m' (by rw [e']; exact turn_Rg hD hR c0 c1) (by rw [e', e]; rfl)
  unfold manyF at go
  refine e_X12_goesAbout ?_
  rw [d4, d5]
  refine ⟨by omega, fun q => ⟨by omega, by unfold cn; omega, go _ (by rw [if_neg q]) (by omega) (by omega)⟩, fun q => ⟨t0, by omega, by unfold cn; omega, go _ (by rw [if_pos q]) (by omega) (by omega)⟩⟩
theorem p_turnOf {Q : Int → Me → Prop} {M : Me} {n : Int} {D L : Me} (hW : LawW L) (hD : Dk n D) (hs : StR n D L M) (hR : Rg n (M 77)) {c : Int} (c0 : 0 ≤ c) (c1 : c < n) (h3 : M 77 c < 3) (hB : 0 ≤ M 76 44) (hB2 : M 76 44 ≤ 2000000000)
    (hQ : ∀ M', RFr M M' → M' 77 = (growP L D n (M 77) c).1 → M' 76 44 = M 76 44 + (growP L D n (M 77) c).2 → Q 0 M') : Calls 3 mX12_turnOf [.inr 76, .inl c] M Q := by
  have h16 := hD.1
  obtain ⟨S, hS⟩ : ∃ S, S = M 77 := ⟨_, rfl⟩
  have r81 := hR.2.2
  rw [← hS] at hR h3 hQ r81
  have w1 := wrt_b L (factF D n S c) 118 1 9 (by omega) (L 0 0).toNat 0
  have w2 := wrt_b L (factF D n S c) 102 0 99 (by omega) (L 0 0).toNat 0
  have r1 := (hR.1 c c0 c1).1
  have hR1 := hR.p81 h16 (drw_b S)
  have e81 : M 77 81 = S 81 := by rw [hS]
  refine e_X12_turnOf ?_
  rw [e81]
  refine ⟨by unfold cn; omega, by unfold cn; omega, by omega, by omega, ?_⟩
  have f0 : RFr M (mput M 77 81 (drw S)) := RFr.p77 _ _ _
  have e0 : (mput M 77 81 (drw S)) 77 = upS S 81 (drw S) := by rw [up77, hS]
  have m0 : (mput M 77 81 (drw S)) 76 44 = M 76 44 := mput_ne _ _ _ _ (by first | omega | decide)
  refine p_feels (S := S) hD (hs.mv f0) e0 hR c0 c1 (fun M1 f1 e1 m1 hF1 => ?_)
  have s1 := hs.mv (f0.tr f1)
  refine p_X12_holdsAny hW s1.2.2 hF1 (fun M2 f2 => ?_)
  have s2 := s1.mv (RFr.of100 f2)
  have hF2 : ∀ j, 0 ≤ j → j < 11 → M2 101 j = factF D n S c j := fun j a b => by rw [f2 101 j (by first | omega | decide)]; exact hF1 j a b
  refine p_X12_byLaw (by first | omega | decide) (by first | omega | decide) hW s2.2.2 hF2 (fun M3 f3 => ?_)
  have s3 := s2.mv (RFr.of100 f3)
  have hF3 : ∀ j, 0 ≤ j → j < 11 → M3 101 j = factF D n S c j := fun j a b => by rw [f3 101 j (by first | omega | decide)]; exact hF2 j a b
  refine p_X12_byLaw (by first | omega | decide) (by first | omega | decide) hW s3.2.2 hF3 (fun M4 f4 => ?_)
  have s4 := s3.mv (RFr.of100 f4)
  have fr : RFr M M4 := f0.tr (f1.tr ((RFr.of100 f2).tr ((RFr.of100 f3).tr (RFr.of100 f4))))
  have e4 : M4 77 = upS S 81 (drw S) := by
    rw [show M4 77 = M3 77 from funext (fun i => f4 77 i (by first | omega | decide)), show M3 77 = M2 77 from funext (fun i => f3 77 i (by first | omega | decide)), show M2 77 = M1 77 from funext (fun i => f2 77 i (by first | omega | decide)), e1, e0]
  have m4 : M4 76 44 = M 76 44 := by rw [f4 76 44 (by first | omega | decide), f3 76 44 (by first | omega | decide), f2 76 44 (by first | omega | decide), m1, m0]
  have g1 : M4 77 c = S c := by rw [e4]; exact upS_ne _ _ (by omega)
  obtain ⟨-, -, d3, -, -⟩ := s4.2.1 c c0 c1
  unfold growP at hQ
  have forget : ∀ (M5 : Me) (T : Int → Int) (v : Int), M5 77 = T → RFr M M5 → Rg n T → M5 76 44 = v → (∀ M', RFr M M' → M' 77 = forgS D T c (wrtL L (factF D n S c) 102 0 99 (L 0 0).toNat 0) → M' 76 44 = v → Q 0 M') → ∀ l, l = (if D 2 c = 1 then wrtL L (factF D n S c) 102 0 99 (L 0 0).toNat 0 / 2 else wrtL L (factF D n S c) 102 0 99 (L 0 0).toNat 0) →
      (cn (M5 77 (32 + c) - l) ∧ (0 ≤ 32 + c ∧ 32 + c < 82) ∧ cn (32 + c) ∧ (0 ≤ 32 + c ∧ 32 + c < 82) ∧ ((max 0 (M5 77 (32 + c) - l) ≠ 0 → Q 0 (mput M5 77 (32 + c) (max 0 (M5 77 (32 + c) - l)))) ∧ (max 0 (M5 77 (32 + c) - l) = 0 → cn (0 + c) ∧ (0 ≤ 0 + c ∧ 0 + c < 82) ∧ Q 0 (mput (mput M5 77 (32 + c) (max 0 (M5 77 (32 + c) - l))) 77 (0 + c) 3)))) := fun M5 T v hT f5 hRT hv hq l hl => by
    obtain ⟨-, -, t3, -, -⟩ := hRT.1 c c0 c1
    have et : M5 77 (32 + c) = T (32 + c) := by rw [hT]
    have hl0 : 0 ≤ l ∧ l ≤ 99 := by rw [hl]; split <;> omega
    rw [et]
    refine ⟨by unfold cn; omega, by omega, by unfold cn; omega, by omega, fun q => ?_, fun q => ⟨by unfold cn; omega, by omega, ?_⟩⟩
    · refine hq _ (f5.tr (RFr.p77 _ _ _)) ?_ (by rw [mput_ne _ _ _ _ (by first | omega | decide)]; exact hv)
      unfold forgS lessF
      rw [← hl, if_neg q, up77, hT]
    · refine hq _ (f5.tr ((RFr.p77 _ _ _).tr (RFr.p77 _ _ _))) ?_ (by rw [mput_ne _ _ _ _ (by first | omega | decide), mput_ne _ _ _ _ (by first | omega | decide)]; exact hv)
      unfold forgS lessF
      rw [← hl, if_pos q, up77, up77, hT, q, show 0 + c = c by omega]
  rw [show (0 : Int) + c = c by omega] at *
  rw [g1]
  refine ⟨fun q => ⟨by unfold cn; omega, by omega, fun q2 => ⟨by unfold cn; omega, by unfold cn; omega, by omega, by unfold cn; omega, by omega, by unfold cn; omega, by unfold cn; omega, by omega, by omega, ?_⟩, fun q2 => ?_⟩, fun q => ⟨by unfold cn; omega, by omega, ?_⟩⟩
  · rw [if_neg (fun z => z q), if_neg q2] at hQ
    have e5 : (mput M4 77 c (S c + 1)) 77 = upS (upS S 81 (drw S)) c (S c + 1) := by rw [up77, e4]
    have ff := forget (mput M4 77 c (S c + 1)) _ (M 76 44) e5 (fr.tr (RFr.p77 _ _ _)) (hR1.p0 h16 c0 c1 (by omega)) (by rw [mput_ne _ _ _ _ (by first | omega | decide)]; exact m4) (fun M' a b d => hQ M' a b (by omega))
    rw [d3]
    exact ⟨fun z => ff _ (by rw [if_neg z]), fun z => ⟨w2.1, ff _ (by rw [if_pos z])⟩⟩
  · rw [if_neg (fun z => z q), if_pos q2] at hQ
    have hR4 : Rg n (M4 77) := by rw [e4]; exact hR1
    refine p_goesAboutR hD s4 hR4 c0 c1 w1.1 w1.2 (by omega) (by omega) (fun M5 f5 e5 m5 => ⟨by unfold cn; omega, by unfold cn; omega, by omega, by omega, ?_⟩)
    rw [e4] at e5 m5
    have d3' : M5 83 c = D 2 c := by
      obtain ⟨-, -, z, -, -⟩ := (s4.mv f5).2.1 c c0 c1
      exact z
    have ff := forget M5 _ _ e5 (fr.tr f5) (about_Rg hD hR1 c0 c1 w1.1 w1.2).1 m5 (fun M' a b d => hQ M' a b (by rw [d, m4]))
    rw [d3']
    exact ⟨fun z => ff _ (by rw [if_neg z]), fun z => ⟨w2.1, ff _ (by rw [if_pos z])⟩⟩
  · rw [if_pos q] at hQ
    refine hQ _ (fr.tr (RFr.p77 _ _ _)) (by rw [up77, e4]) (by rw [mput_ne _ _ _ _ (by first | omega | decide), m4]; omega)
theorem l_seasonGoes {Q : Int → Me → Prop} {M0 : Me} {n : Int} {D L : Me} (hW : LawW L) (hD : Dk n D) (hs0 : StR n D L M0) {T : Int → Int} {R B : Int} (hB : 0 ≤ B) (hB2 : B ≤ 1900000000) (hT : T 80 ≤ 9998) (hT0 : 0 ≤ T 80) (hQ : ∀ M', RFr M0 M' → M' 77 = upS T 80 (T 80 + 1) → M' 76 44 = B + R → Q 0 M') :
    ∀ (k : Nat) (c m : Int) (M : Me), 0 ≤ c → c + k = n → 0 ≤ m → m ≤ 11 * c → RFr M0 M → M 76 44 = B + m → Rg n (M 77) → seasG L D n k c (M 77) m = (T, R) → Go (km 4 mX12_seasonGoes Q) 2 [some (.inr 76), some (.inl c)] [] M := by
  have h16 := hD.1
  intro k
  induction k with
  | zero =>
    intro c m M c0 hc m0 m1 f hm hR he
    simp only [seasG, Prod.mk.injEq] at he
    refine s_X12_seasonGoes_2 _ M ⟨fun _ => ?_, fun q => by rw [(hs0.mv f).1] at q; exfalso; omega⟩
    have e80 : M 77 80 = T 80 := by rw [he.1]
    rw [e80]
    exact ⟨by unfold cn; omega, hQ _ (f.tr (RFr.p77 _ _ _)) (by rw [up77, he.1]) (by rw [mput_ne _ _ _ _ (by first | omega | decide), hm, he.2])⟩
  | succ k ih =>
    intro c m M c0 hc m0 m1 f hm hR he
    simp only [seasG] at he
    have r1 := (hR.1 c c0 (by omega)).1
    refine s_X12_seasonGoes_2 _ M ⟨fun q => by rw [(hs0.mv f).1] at q; exfalso; omega, fun _ => ?_⟩
    rw [show 0 + c = c by omega]
    refine ⟨by unfold cn; omega, by omega, fun q => ⟨by unfold cn; omega, ?_⟩, fun q => ?_⟩
    · rw [if_neg (by omega)] at he
      exact ih (c + 1) m M (by omega) (by omega) m0 (by omega) f hm hR he
    · rw [if_pos q] at he
      have gR := grow_Rg (L := L) hD hR c0 (by omega) q
      refine p_turnOf hW hD (hs0.mv f) hR c0 (by omega) q (by omega) (by omega) (fun M' f' e' m' => ⟨by unfold cn; omega, ?_⟩)
      exact ih (c + 1) (m + (growP L D n (M 77) c).2) M' (by omega) (by omega) (by omega) (by omega) (f.tr f') (by omega) (by rw [e']; exact gR.1) (by rw [e']; exact he)
theorem p_seasonGoes {Q : Int → Me → Prop} {M : Me} {n : Int} {D L : Me} (hW : LawW L) (hD : Dk n D) (hs : StR n D L M) (hR : Rg n (M 77)) (h80 : M 77 80 < 9999) (hB : 0 ≤ M 76 44) (hB2 : M 76 44 ≤ 1900000000)
    (hQ : ∀ M', RFr M M' → M' 77 = (seasP L D n (M 77)).1 → M' 76 44 = M 76 44 + (seasP L D n (M 77)).2 → Q 0 M') : Calls 4 mX12_seasonGoes [.inr 76] M Q := by
  have h0 := hD.2.1
  have r80 := hR.2.1
  have e := seasG80 (L := L) (D := D) hD.1 n.toNat 0 (M 77) 0 (by omega) (by omega)
  unfold seasP at hQ
  rw [if_neg (by omega)] at hQ
  exact e_X12_seasonGoes (l_seasonGoes hW hD hs (T := (seasG L D n n.toNat 0 (M 77) 0).1) (R := (seasG L D n n.toNat 0 (M 77) 0).2) hB hB2 (by omega) (by omega) hQ n.toNat 0 0 M (by omega) (by omega) (by omega) (by omega) (RFr.rf _) (by omega) hR rfl)
theorem l_seasonsGo {Q : Int → Me → Prop} {M0 : Me} {n : Int} {D L : Me} (hW : LawW L) (hD : Dk n D) (hs0 : StR n D L M0) {a : Int} (a100 : a ≤ 100) {T : Int → Int} {R : Int} (hQ : ∀ M', RFr M0 M' → M' 77 = T → M' 76 44 = R → Q 0 M') :
    ∀ (k : Nat) (i m : Int) (M : Me), 0 ≤ i → i + k = a → 0 ≤ m → m ≤ 176 * i → RFr M0 M → M 76 44 = m → Rg n (M 77) → goesP L D n k (M 77) m = (T, R) → Go (km 5 mX12_seasonsGo Q) 7 [some (.inr 76), some (.inl a), some (.inl i)] [] M := by
  intro k
  induction k with
  | zero =>
    intro i m M i0 hi m0 m1 f hm hR he
    simp only [goesP, Prod.mk.injEq] at he
    exact s_X12_seasonsGo_7 _ _ M ⟨fun _ => hQ M f he.1 (by rw [hm, he.2]), fun q => by exfalso; omega⟩
  | succ k ih =>
    intro i m M i0 hi m0 m1 f hm hR he
    refine s_X12_seasonsGo_7 _ _ M ⟨fun q => by exfalso; omega, fun _ => ⟨fun q => ?_, fun q => ?_⟩⟩
    · rw [goes_end (k + 1) _ _ q, Prod.mk.injEq] at he
      exact hQ M f he.1 (by rw [hm, he.2])
    · simp only [goesP] at he
      have g := seas_Rg (L := L) hD hR
      refine p_seasonGoes hW hD (hs0.mv f) hR q (by omega) (by omega) (fun M' f' e' m' => ⟨by unfold cn; omega, ?_⟩)
      exact ih (i + 1) (m + (seasP L D n (M 77)).2) M' (by omega) (by omega) (by omega) (by omega) (f.tr f') (by omega) (by rw [e']; exact g.1) (by rw [e']; exact he)
theorem p_seasonsGo {Q : Int → Me → Prop} {M : Me} {n : Int} {D L : Me} (hW : LawW L) (hD : Dk n D) (hs : StR n D L M) (hR : Rg n (M 77)) {a : Int} (a0 : 0 ≤ a) (a100 : a ≤ 100)
    (hQ : ∀ M', RFr M M' → M' 77 = (goesP L D n a.toNat (M 77) 0).1 → M' 76 44 = (goesP L D n a.toNat (M 77) 0).2 → Q 0 M') : Calls 5 mX12_seasonsGo [.inr 76, .inl a] M Q := by
  have f0 : RFr M (mput M 76 44 0) := RFr.p44 _ _
  have e0 : (mput M 76 44 0) 77 = M 77 := funext (fun i => mput_ne _ _ _ _ (by first | omega | decide))
  exact e_X12_seasonsGo (l_seasonsGo hW hD hs a100 hQ a.toNat 0 0 _ (by omega) (by omega) (by omega) (by omega) f0 (mput_same _ _ _ _) (by rw [e0]; exact hR) (by rw [e0]))
