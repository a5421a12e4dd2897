/-! ===== bark: a cut read, purely and by the class ===== -/
def dgV (T : Int → Int) (e : Int) (s : Int × Int) : Int := if isD (sgS T e s) then sgS T e s - 48 else 0
def dgS (T : Int → Int) (e : Int) (s : Int × Int) : Int × Int := if isD (sgS T e s) then (s.1 + 1, s.2) else flS s 1 s.1
def nmV (T : Int → Int) (e : Int) (s : Int × Int) : Int := if isD (sgS T e (dgS T e s)) then 10 * dgV T e s + dgV T e (dgS T e s) else dgV T e s
def nmA (T : Int → Int) (e : Int) (s : Int × Int) : Int × Int := if isD (sgS T e (dgS T e s)) then dgS T e (dgS T e s) else dgS T e s
def nmB (T : Int → Int) (e : Int) (s : Int × Int) : Int × Int := if isD (sgS T e (nmA T e s)) then flS (nmA T e s) 2 (nmA T e s).1 else nmA T e s
def nmS (T : Int → Int) (e hi : Int) (s : Int × Int) : Int × Int := if hi < nmV T e s then flS (nmB T e s) 3 s.1 else nmB T e s
def ltV (T : Int → Int) (e : Int) (s : Int × Int) : Int := if isL (sgS T e s) then sgS T e s - 65 else 0
def ltS (T : Int → Int) (e : Int) (s : Int × Int) : Int × Int := if isL (sgS T e s) then (s.1 + 1, s.2) else flS s 1 s.1
def seV (T : Int → Int) (e : Int) (s : Int × Int) : Int := if isL (sgS T e (myS T e 38 s)) then ltV T e (myS T e 38 s) else if myV T e 38 s = 0 then -2 else -3
def seS (T : Int → Int) (e b : Int) (s : Int × Int) : Int × Int := if isL (sgS T e (myS T e 38 s)) then (if ltV T e (myS T e 38 s) = b then flS (ltS T e (myS T e 38 s)) 6 (myS T e 38 s).1 else ltS T e (myS T e 38 s)) else myS T e 38 s
def daV (T : Int → Int) (e : Int) (s : Int × Int) : Int := if isD (sgS T e s) then 10 * dgV T e s + dgV T e (dgS T e s) else -2
def daS (T : Int → Int) (e : Int) (s : Int × Int) : Int × Int := if isD (sgS T e s) then dgS T e (dgS T e s) else s
theorem not_isD_neg : ¬ isD (-1) := by unfold isD; omega
theorem not_isL_neg : ¬ isL (-1) := by unfold isL; omega
theorem dgV_b (T : Int → Int) (e : Int) (s : Int × Int) : 0 ≤ dgV T e s ∧ dgV T e s ≤ 9 := by
  unfold dgV
  split
  · next q => unfold isD at q; omega
  · omega
theorem nmV_b (T : Int → Int) (e : Int) (s : Int × Int) : 0 ≤ nmV T e s ∧ nmV T e s ≤ 99 := by
  have h1 := dgV_b T e s
  have h2 := dgV_b T e (dgS T e s)
  unfold nmV
  split <;> omega
theorem dgS_ok {T : Int → Int} {e : Int} {s : Int × Int} (h : okP e s) : okP e (dgS T e s) := by
  unfold dgS
  split
  · next q =>
    have := sg_pos (T := T) (e := e) (s := s) (fun z => by rw [z] at q; exact not_isD_neg q)
    unfold okP at *
    exact ⟨by simp only; omega, by simp only; omega, by simp only; omega⟩
  · exact flS_ok h (by first | omega | decide) h.1
theorem ltS_ok {T : Int → Int} {e : Int} {s : Int × Int} (h : okP e s) : okP e (ltS T e s) := by
  unfold ltS
  split
  · next q =>
    have := sg_pos (T := T) (e := e) (s := s) (fun z => by rw [z] at q; exact not_isL_neg q)
    unfold okP at *
    exact ⟨by simp only; omega, by simp only; omega, by simp only; omega⟩
  · exact flS_ok h (by first | omega | decide) h.1
theorem nmA_ok {T : Int → Int} {e : Int} {s : Int × Int} (h : okP e s) : okP e (nmA T e s) := by
  unfold nmA
  split
  · exact dgS_ok (dgS_ok h)
  · exact dgS_ok h
theorem nmB_ok {T : Int → Int} {e : Int} {s : Int × Int} (h : okP e s) : okP e (nmB T e s) := by
  unfold nmB
  split
  · exact flS_ok (nmA_ok h) (by first | omega | decide) (nmA_ok (T := T) h).1
  · exact nmA_ok h
theorem nmS_ok {T : Int → Int} {e hi : Int} {s : Int × Int} (h : okP e s) : okP e (nmS T e hi s) := by
  unfold nmS
  split
  · exact flS_ok (nmB_ok h) (by first | omega | decide) h.1
  · exact nmB_ok h
theorem seS_ok {T : Int → Int} {e b : Int} {s : Int × Int} (h : okP e s) : okP e (seS T e b s) := by
  have h1 := myS_ok (T := T) (c := 38) (by first | omega | decide) h
  unfold seS
  split
  · split
    · exact flS_ok (ltS_ok h1) (by first | omega | decide) h1.1
    · exact ltS_ok h1
  · exact h1
theorem daS_ok {T : Int → Int} {e : Int} {s : Int × Int} (h : okP e s) : okP e (daS T e s) := by
  unfold daS
  split
  · exact dgS_ok (dgS_ok h)
  · exact h
/-! behind a fault nothing moves -/
theorem dgS_k {T : Int → Int} {e : Int} {s : Int × Int} (h : s.2 ≠ 0) : dgS T e s = s := by
  unfold dgS
  rw [sg_f h, if_neg not_isD_neg, flS_k h]
theorem dgV_k {T : Int → Int} {e : Int} {s : Int × Int} (h : s.2 ≠ 0) : dgV T e s = 0 := by
  unfold dgV
  rw [sg_f h, if_neg not_isD_neg]
theorem nmS_k {T : Int → Int} {e hi : Int} (h0 : 0 ≤ hi) {s : Int × Int} (h : s.2 ≠ 0) : nmS T e hi s = s := by
  have a : nmA T e s = s := by unfold nmA; rw [dgS_k h, sg_f h, if_neg not_isD_neg]
  have b : nmB T e s = s := by unfold nmB; rw [a, sg_f h, if_neg not_isD_neg]
  have v : nmV T e s = 0 := by unfold nmV; rw [dgS_k h, sg_f h, if_neg not_isD_neg, dgV_k h]
  unfold nmS
  rw [v, b, if_neg (by omega)]
theorem ltS_k {T : Int → Int} {e : Int} {s : Int × Int} (h : s.2 ≠ 0) : ltS T e s = s := by
  unfold ltS
  rw [sg_f h, if_neg not_isL_neg, flS_k h]
theorem seS_k {T : Int → Int} {e b : Int} {s : Int × Int} (h : s.2 ≠ 0) : seS T e b s = s := by
  unfold seS
  rw [myS_k (by first | omega | decide) h, sg_f h, if_neg not_isL_neg]
theorem daS_k {T : Int → Int} {e : Int} {s : Int × Int} (h : s.2 ≠ 0) : daS T e s = s := by
  unfold daS
  rw [sg_f h, if_neg not_isD_neg]
/-! a cut, step by step -/
def b1 (T : Int → Int) (e : Int) (s : Int × Int) : Int × Int := nmS T e 23 s
def b2 (T : Int → Int) (e : Int) (s : Int × Int) : Int × Int := tkS T e 44 (b1 T e s)
def b3 (T : Int → Int) (e : Int) (s : Int × Int) : Int × Int := nmS T e 15 (b2 T e s)
def b4 (T : Int → Int) (e : Int) (s : Int × Int) : Int × Int := tkS T e 58 (b3 T e s)
def b5 (T : Int → Int) (e : Int) (s : Int × Int) : Int × Int := myS T e 120 (b4 T e s)
def b6 (T : Int → Int) (e : Int) (s : Int × Int) : Int × Int := myS T e 91 (b5 T e s)
def b7 (T : Int → Int) (e : Int) (s : Int × Int) : Int × Int := ltS T e (b6 T e s)
def b8 (T : Int → Int) (e : Int) (s : Int × Int) : Int × Int := seS T e (ltV T e (b6 T e s)) (b7 T e s)
def b9 (T : Int → Int) (e : Int) (s : Int × Int) : Int × Int := if myV T e 91 (b5 T e s) = 1 then tkS T e 93 (b8 T e s) else b8 T e s
def b10 (T : Int → Int) (e : Int) (s : Int × Int) : Int × Int := daS T e (b9 T e s)
def b11 (T : Int → Int) (e : Int) (s : Int × Int) : Int × Int := myS T e 62 (b10 T e s)
/-- what is told of the cut: tree, first, second, heart, crossed, arrow, date -/
def cutW (T : Int → Int) (e : Int) (s : Int × Int) (k : Nat) : Int := if k = 0 then 24 * nmV T e (b2 T e s) + nmV T e s else if k = 1 then ltV T e (b6 T e s) else if k = 2 then seV T e (b7 T e s) else if k = 3 then myV T e 91 (b5 T e s) else if k = 4 then myV T e 120 (b4 T e s) else if k = 5 then myV T e 62 (b10 T e s) else daV T e (b9 T e s)
theorem b_ok {T : Int → Int} {e : Int} {s : Int × Int} (h : okP e s) : okP e (b1 T e s) ∧ okP e (b2 T e s) ∧ okP e (b3 T e s) ∧ okP e (b4 T e s) ∧ okP e (b5 T e s) ∧ okP e (b6 T e s) ∧ okP e (b7 T e s) ∧ okP e (b8 T e s) ∧ okP e (b9 T e s) ∧ okP e (b10 T e s) ∧ okP e (b11 T e s) := by
  have h1 : okP e (b1 T e s) := nmS_ok h
  have h2 : okP e (b2 T e s) := tkS_ok (by first | omega | decide) h1
  have h3 : okP e (b3 T e s) := nmS_ok h2
  have h4 : okP e (b4 T e s) := tkS_ok (by first | omega | decide) h3
  have h5 : okP e (b5 T e s) := myS_ok (by first | omega | decide) h4
  have h6 : okP e (b6 T e s) := myS_ok (by first | omega | decide) h5
  have h7 : okP e (b7 T e s) := ltS_ok h6
  have h8 : okP e (b8 T e s) := seS_ok h7
  have h9 : okP e (b9 T e s) := by
    unfold b9
    split
    · exact tkS_ok (by first | omega | decide) h8
    · exact h8
  have h10 : okP e (b10 T e s) := daS_ok h9
  exact ⟨h1, h2, h3, h4, h5, h6, h7, h8, h9, h10, myS_ok (by first | omega | decide) h10⟩
theorem t_digit {M : Me} {T : Int → Int} {e : Int} {s : Int × Int} {Q : Int → Me → Prop} (hT : CT M T e) (hs : okP e s) (h : Q (dgV T e s) (tp M (dgS T e s))) : Calls 1 mX0_digit [.inr 12] (tp M s) Q := by
  have h2 := hT.2.1
  unfold okP at hs
  unfold dgV dgS isD at h
  refine e_X0_digit (t_sign hT ?_)
  rw [tp_3, tp_at]
  refine ⟨fun z => ⟨by unfold cn; omega, by unfold cn; omega, ?_⟩, fun z => t_fail (by omega) (by omega) ?_⟩
  · rw [if_pos z, if_pos z] at h; exact h
  · rw [if_neg z, if_neg z] at h; exact h
theorem t_letter {M : Me} {T : Int → Int} {e : Int} {s : Int × Int} {Q : Int → Me → Prop} (hT : CT M T e) (hs : okP e s) (h : Q (ltV T e s) (tp M (ltS T e s))) : Calls 1 mX0_letter [.inr 12] (tp M s) Q := by
  have h2 := hT.2.1
  unfold okP at hs
  unfold ltV ltS isL at h
  refine e_X0_letter (t_sign hT ?_)
  rw [tp_3, tp_at]
  refine ⟨fun z => ⟨by unfold cn; omega, by unfold cn; omega, ?_⟩, fun z => t_fail (by omega) (by omega) ?_⟩
  · rw [if_pos z, if_pos z] at h; exact h
  · rw [if_neg z, if_neg z] at h; exact h
theorem t_number {M : Me} {T : Int → Int} {e hi : Int} {s : Int × Int} {Q : Int → Me → Prop} (hT : CT M T e) (hs : okP e s) (h : Q (nmV T e s) (tp M (nmS T e hi s))) : Calls 2 mX0_number [.inr 12, .inl hi] (tp M s) Q := by
  have h2 := hT.2.1
  have o1 := dgS_ok (T := T) hs
  have oA := nmA_ok (T := T) hs
  have oB := nmB_ok (T := T) hs
  have v1 := dgV_b T e s
  have v2 := dgV_b T e (dgS T e s)
  have hs' := hs
  unfold okP at hs'
  have g64 : Go (km 2 mX0_number Q) 64 [some (.inr 12), some (.inl hi), some (.inl s.1), some (.inl (nmV T e s))] [] (tp M (nmB T e s)) := by
    refine s_X0_number_64 _ _ _ _ ?_
    unfold nmS at h
    refine ⟨fun z => ?_, fun z => t_fail (by omega) (by omega) ?_⟩
    · rw [if_neg (by omega)] at h; exact h
    · rw [if_pos z] at h; exact h
  have g36 : Go (km 2 mX0_number Q) 36 [some (.inr 12), some (.inl hi), some (.inl s.1), some (.inl (nmV T e s))] [] (tp M (nmA T e s)) := by
    refine s_X0_number_36 _ _ _ _ (t_sign hT ?_)
    unfold okP at oA
    unfold nmB isD at g64
    rw [tp_3]
    refine ⟨fun z => t_fail (by omega) (by omega) ?_, fun z => ?_⟩
    · rw [if_pos z] at g64; exact g64
    · rw [if_neg z] at g64; exact g64
  refine e_X0_number (t_digit hT hs (t_sign hT ?_))
  rw [tp_3]
  unfold nmV nmA isD at g36
  refine ⟨fun z => ⟨by unfold cn; omega, t_digit hT o1 ⟨by unfold cn; omega, ?_⟩⟩, fun z => ?_⟩
  · rw [if_pos z, if_pos z] at g36; exact g36
  · rw [if_neg z, if_neg z] at g36; exact g36
theorem t_second {M : Me} {T : Int → Int} {e b : Int} {s : Int × Int} {Q : Int → Me → Prop} (hT : CT M T e) (hs : okP e s) (h : Q (seV T e s) (tp M (seS T e b s))) : Calls 2 mX0_secondOne [.inr 12, .inl b] (tp M s) Q := by
  have h2 := hT.2.1
  have o1 := myS_ok (T := T) (c := 38) (by first | omega | decide) hs
  have o1' := o1
  unfold okP at o1'
  have g20 : ∀ x, x = (if myV T e 38 s = 0 then -2 else -3) → Go (km 2 mX0_secondOne Q) 20 [some (.inr 12), some (.inl b), some (.inl x), none, none] [] (tp M (myS T e 38 s)) := fun x hx => by
    refine s_X0_secondOne_20 _ _ _ (t_sign hT ?_)
    rw [tp_3]
    unfold seV seS isL at h
    refine ⟨fun z => t_letter hT o1 ?_, fun z => ?_⟩
    · rw [if_pos z, if_pos z] at h
      refine ⟨fun y => ?_, fun y => t_fail (by omega) (by omega) ?_⟩
      · rw [if_neg y] at h; exact h
      · rw [if_pos y] at h; exact h
    · rw [if_neg z, if_neg z, ← hx] at h; exact h
  refine e_X0_secondOne (t_may hT hs ?_)
  refine ⟨fun z => ?_, fun z => ?_⟩
  · exact g20 _ (by rw [if_pos z])
  · exact g20 _ (by rw [if_neg z])
/-- the draft behind a cut -/
def putC (T : Int → Int) (e : Int) (s : Int × Int) (M : Me) (c : Int) : Me := mput (mput (mput (mput (mput (mput (mput (mput (mput M 14 c (cutW T e s 0)) 21 c (cutW T e s 0)) 18 c (cutW T e s 4)) 17 c (cutW T e s 3)) 15 c (cutW T e s 1)) 16 c (cutW T e s 2)) 20 c (cutW T e s 6)) 19 c (cutW T e s 5)) 13 8 (c + 1)
theorem my01 (T : Int → Int) (e c : Int) (s : Int × Int) : (myV T e c s = 0 ∨ myV T e c s = 1) := by unfold myV; split; exact Or.inr rfl; exact Or.inl rfl
theorem t_cut {M : Me} {T : Int → Int} {e : Int} {s : Int × Int} {c : Int} {Q : Int → Me → Prop} (hT : CT M T e) (hs : okP e s) (c0 : 0 ≤ c) (c16 : c < 16) (h : Q 0 (tp (putC T e s M c) (b11 T e s))) : Calls 3 mX0_cut [.inr 12, .inl c] (tp M s) Q := by
  obtain ⟨o1, o2, o3, o4, o5, o6, o7, o8, o9, o10, o11⟩ := b_ok (T := T) hs
  have n1 := nmV_b T e s
  have n2 := nmV_b T e (b2 T e s)
  have n2' := nmV_b T e (tkS T e 44 (nmS T e 23 s))
  have y1 := my01 T e 120 (b4 T e s)
  have y2 := my01 T e 91 (b5 T e s)
  have y3 := my01 T e 62 (b10 T e s)
  have k1 := (hT.put (k := 14) c (cutW T e s 0) (by first | omega | decide)).put (k := 21) c (cutW T e s 0) (by first | omega | decide)
  have k2 := k1.put (k := 18) c (cutW T e s 4) (by first | omega | decide)
  have k3 := k2.put (k := 17) c (cutW T e s 3) (by first | omega | decide)
  have k4 := k3.put (k := 15) c (cutW T e s 1) (by first | omega | decide)
  have k5 := k4.put (k := 16) c (cutW T e s 2) (by first | omega | decide)
  have k6 := k5.put (k := 20) c (cutW T e s 6) (by first | omega | decide)
  have g278 : Go (km 3 mX0_cut Q) 278 [some (.inr 12), some (.inl c), none, none] [] (tp (mput (mput (mput (mput (mput (mput (mput (mput M 14 c (cutW T e s 0)) 21 c (cutW T e s 0)) 18 c (cutW T e s 4)) 17 c (cutW T e s 3)) 15 c (cutW T e s 1)) 16 c (cutW T e s 2)) 20 c (cutW T e s 6)) 19 c (cutW T e s 5)) (b11 T e s)) := by
    refine s_X0_cut_278 _ _ ⟨by unfold cn; omega, ?_⟩
    rw [tp_put _ _ _ _ (by first | omega | decide)]
    exact h
  have g252 : Go (km 3 mX0_cut Q) 252 [some (.inr 12), some (.inl c), none, none] [] (tp (mput (mput (mput (mput (mput (mput (mput M 14 c (cutW T e s 0)) 21 c (cutW T e s 0)) 18 c (cutW T e s 4)) 17 c (cutW T e s 3)) 15 c (cutW T e s 1)) 16 c (cutW T e s 2)) 20 c (cutW T e s 6)) (b10 T e s)) := by
    refine s_X0_cut_252 _ _ (t_may k6 o10 ?_)
    rw [tp_put _ _ _ _ (by first | omega | decide), tp_put _ _ _ _ (by first | omega | decide)]
    have e5 : cutW T e s 5 = myV T e 62 (b10 T e s) := rfl
    rw [e5] at g278
    refine ⟨fun z => ⟨by omega, ?_⟩, fun z => ⟨by omega, ?_⟩⟩
    · rw [z] at g278; exact g278
    · rw [show myV T e 62 (b10 T e s) = 1 by omega] at g278; exact g278
  have g213 : Go (km 3 mX0_cut Q) 213 [some (.inr 12), some (.inl c), none, none] [] (tp (mput (mput (mput (mput (mput (mput M 14 c (cutW T e s 0)) 21 c (cutW T e s 0)) 18 c (cutW T e s 4)) 17 c (cutW T e s 3)) 15 c (cutW T e s 1)) 16 c (cutW T e s 2)) (b9 T e s)) := by
    have d1 := dgV_b T e (b9 T e s)
    have d2 := dgV_b T e (dgS T e (b9 T e s))
    have e6 : cutW T e s 6 = daV T e (b9 T e s) := rfl
    have e10 : b10 T e s = daS T e (b9 T e s) := rfl
    rw [e6, e10] at g252
    unfold daV daS isD at g252
    refine s_X0_cut_213 _ _ (t_sign k5 ?_)
    refine ⟨fun z => t_digit k5 o9 ⟨by unfold cn; omega, t_digit k5 (dgS_ok o9) ⟨by unfold cn; omega, by omega, ?_⟩⟩, fun z => ⟨by omega, ?_⟩⟩
    · rw [if_pos z, if_pos z] at g252
      rw [tp_put _ _ _ _ (by first | omega | decide)]
      exact g252
    · rw [if_neg z, if_neg z] at g252
      rw [tp_put _ _ _ _ (by first | omega | decide)]
      exact g252
  have g156 : Go (km 3 mX0_cut Q) 156 [some (.inr 12), some (.inl c), none, none] [] (tp (mput (mput (mput (mput M 14 c (cutW T e s 0)) 21 c (cutW T e s 0)) 18 c (cutW T e s 4)) 17 c (cutW T e s 3)) (b6 T e s)) := by
    refine s_X0_cut_156 _ _ (t_letter k3 o6 ⟨by omega, by omega, ?_⟩)
    rw [tp_put _ _ _ _ (by first | omega | decide)]
    refine t_second k4 o7 ⟨by omega, by omega, ?_⟩
    rw [tp_put _ _ _ _ (by first | omega | decide)]
    have e3 : cutW T e s 3 = myV T e 91 (b5 T e s) := rfl
    have e17 : tp (mput (mput (mput (mput (mput M 14 c (cutW T e s 0)) 21 c (cutW T e s 0)) 18 c (cutW T e s 4)) 17 c (cutW T e s 3)) 15 c (ltV T e (b6 T e s))) (seS T e (ltV T e (b6 T e s)) (b7 T e s)) 17 c = myV T e 91 (b5 T e s) := by
      rw [tp_o _ _ (by first | omega | decide), mput_ne _ _ _ _ (by first | omega | decide), mput_same]
      exact e3
    have e17' : tp (mput (mput (mput (mput (mput M 14 c (cutW T e s 0)) 21 c (cutW T e s 0)) 18 c (cutW T e s 4)) 17 c (cutW T e s 3)) 15 c (ltV T e (b6 T e s))) (seS T e (ltV T e (b6 T e s)) (ltS T e (b6 T e s))) 17 c = myV T e 91 (b5 T e s) := e17
    rw [e17']
    have e9 : b9 T e s = if myV T e 91 (b5 T e s) = 1 then tkS T e 93 (b8 T e s) else b8 T e s := rfl
    rw [e9] at g213
    refine ⟨fun z => ?_, fun z => ?_⟩
    · rw [if_neg z] at g213; exact g213
    · rw [if_pos z] at g213
      exact t_take k5 o8 g213
  have g130 : Go (km 3 mX0_cut Q) 130 [some (.inr 12), some (.inl c), none, none] [] (tp (mput (mput (mput M 14 c (cutW T e s 0)) 21 c (cutW T e s 0)) 18 c (cutW T e s 4)) (b5 T e s)) := by
    refine s_X0_cut_130 _ _ (t_may k2 o5 ?_)
    rw [tp_put _ _ _ _ (by first | omega | decide), tp_put _ _ _ _ (by first | omega | decide)]
    have e3 : cutW T e s 3 = myV T e 91 (b5 T e s) := rfl
    rw [e3] at g156
    refine ⟨fun z => ⟨by omega, ?_⟩, fun z => ⟨by omega, ?_⟩⟩
    · rw [z] at g156; exact g156
    · rw [show myV T e 91 (b5 T e s) = 1 by omega] at g156; exact g156
  refine e_X0_cut ⟨fun _ => ?_, fun z => by exfalso; omega⟩
  refine t_number hT hs (t_take hT o1 (t_number hT o2 (t_take hT o3 ⟨by unfold cn; omega, by unfold cn; omega, by omega, by omega, by omega, ?_⟩)))
  rw [tp_put _ _ _ _ (by first | omega | decide), tp_put _ _ _ _ (by first | omega | decide)]
  refine t_may k1 o4 ?_
  rw [tp_put _ _ _ _ (by first | omega | decide), tp_put _ _ _ _ (by first | omega | decide)]
  have e4 : cutW T e s 4 = myV T e 120 (b4 T e s) := rfl
  rw [e4] at g130
  refine ⟨fun z => ⟨by omega, ?_⟩, fun z => ⟨by omega, ?_⟩⟩
  · have z' : myV T e 120 (b4 T e s) = 0 := z
    rw [z'] at g130; exact g130
  · have z' : myV T e 120 (b4 T e s) ≠ 0 := z
    rw [show myV T e 120 (b4 T e s) = 1 by omega] at g130; exact g130
def b17 (T : Int → Int) (e : Int) (s : Int × Int) : Int × Int := flS s (if isD (sgS T e s) then 4 else 1) s.1
theorem t_cut16 {M : Me} {T : Int → Int} {e : Int} {s : Int × Int} {Q : Int → Me → Prop} (hT : CT M T e) (hs : okP e s) (h : Q 0 (tp M (b17 T e s))) : Calls 3 mX0_cut [.inr 12, .inl 16] (tp M s) Q := by
  have h2 := hT.2.1
  have hs' := hs
  unfold okP at hs'
  unfold b17 isD at h
  refine e_X0_cut ⟨fun z => by exfalso; omega, fun _ => t_sign hT ?_⟩
  rw [tp_3]
  refine ⟨fun z => t_fail (by omega) (by omega) ?_, fun z => t_fail (by omega) (by omega) ?_⟩
  · rw [if_pos z] at h; exact h
  · rw [if_neg z] at h; exact h
/-- all cuts: how many, where it ends, what is told -/
def allB (T : Int → Int) (e : Int) : Nat → Int → Int × Int → Me → Int × (Int × Int) × Me
  | 0, c, s, W => (c, s, W)
  | k + 1, c, s, W => if c = 16 then (16, b17 T e s, W) else if myV T e 59 (b11 T e s) = 1 then allB T e k (c + 1) (myS T e 59 (b11 T e s)) (fun j i => if i = c then cutW T e s j else W j i) else (c + 1, b11 T e s, fun j i => if i = c then cutW T e s j else W j i)
def DrW (M : Me) (n : Int) (W : Me) : Prop := ∀ i, 0 ≤ i → i < n → M 14 i = W 0 i ∧ M 15 i = W 1 i ∧ M 16 i = W 2 i ∧ M 17 i = W 3 i ∧ M 18 i = W 4 i ∧ M 19 i = W 5 i ∧ M 20 i = W 6 i ∧ M 21 i = W 0 i
def FrD (M M' : Me) : Prop := ∀ k i, (k < 13 ∨ 21 < k) → (k = 1 → i ≠ 2 ∧ i ≠ 3 ∧ i ≠ 4) → M' k i = M k i
theorem putC_fr (T : Int → Int) (e : Int) (s : Int × Int) (M : Me) (c : Int) {k : Nat} {i : Int} (h : k < 13 ∨ 21 < k) : putC T e s M c k i = M k i := by
  unfold putC
  rw [mput_ne _ _ _ _ (by omega), mput_ne _ _ _ _ (by omega), mput_ne _ _ _ _ (by omega), mput_ne _ _ _ _ (by omega), mput_ne _ _ _ _ (by omega), mput_ne _ _ _ _ (by omega), mput_ne _ _ _ _ (by omega), mput_ne _ _ _ _ (by omega), mput_ne _ _ _ _ (by omega)]
theorem putC_dr {T : Int → Int} {e : Int} {s : Int × Int} {M : Me} {c : Int} {W : Me} (h : DrW M c W) (c0 : 0 ≤ c) : DrW (putC T e s M c) (c + 1) (fun j i => if i = c then cutW T e s j else W j i) := by
  intro i i0 i1
  by_cases q : i = c
  · subst q
    simp [putC, mput]
  · obtain ⟨g1, g2, g3, g4, g5, g6, g7, g8⟩ := h i i0 (by omega)
    simp [putC, mput, q, g1, g2, g3, g4, g5, g6, g7, g8]
theorem l_X0_read {Q : Int → Me → Prop} {M0 : Me} {T : Int → Int} {e n : Int} {S : Int × Int} {V : Me} (hQ : ∀ M', FrD M0 M' → M' 13 8 = n → DrW M' n V → Q (if endF e S = 0 then n else endF e S) M') :
    ∀ (k : Nat) (c : Int) (s : Int × Int) (M W : Me), 0 ≤ c → c + k = 17 → CT M T e → okP e s → FrD M0 M → M 13 8 = c → DrW M c W → allB T e k c s W = (n, S, V) → (k = 0 → False) → Go (km 4 mX0_read Q) 20 [some (.inr 12), none, some (.inl 1), some (.inl c)] [] (tp M s) := by
  have fin : ∀ (c x c' : Int) (s : Int × Int) (M : Me), (16 < c ∨ x = 0) → CT M T e → okP e s → FrD M0 M → M 13 8 = n → DrW M n V → s = S → Go (km 4 mX0_read Q) 20 [some (.inr 12), none, some (.inl x), some (.inl c)] [] (tp M s) := fun c x c' s M hx hT hs f h13 hd he => by
    subst he
    have done : Calls 1 mX9_endText [.inr 1, .inl (tp M s 13 8)] (tp M s) (fun r62 M62 => Q r62 M62) := by
      rw [tp_o _ _ (by first | omega | decide), h13]
      refine t_end hT hs (fun s' => hQ _ (fun k i a b => ?_) ?_ (fun i i0 i1 => ?_))
      · rw [tp_o _ _ (fun q => (b q).2)]; exact f k i a b
      · rw [tp_o _ _ (by first | omega | decide)]; exact h13
      · rw [tp_o _ _ (by first | omega | decide), tp_o _ _ (by first | omega | decide), tp_o _ _ (by first | omega | decide), tp_o _ _ (by first | omega | decide), tp_o _ _ (by first | omega | decide), tp_o _ _ (by first | omega | decide), tp_o _ _ (by first | omega | decide), tp_o _ _ (by first | omega | decide)]
        exact hd i i0 i1
    exact s_X0_read_20 _ _ _ ⟨fun _ => done, fun q => ⟨fun _ => done, fun z => by exfalso; omega⟩⟩
  intro k
  induction k with
  | zero => intro c s M W c0 hc hT hs f h13 hd he hk; exact absurd rfl (fun z => hk z)
  | succ k ih =>
    intro c s M W c0 hc hT hs f h13 hd he _
    simp only [allB] at he
    refine s_X0_read_20 _ _ _ ⟨fun q => by exfalso; omega, fun q => ⟨fun z => absurd z (by first | omega | decide), fun _ => ?_⟩⟩
    by_cases h16 : c = 16
    · subst h16
      rw [if_pos rfl] at he
      simp only [Prod.mk.injEq] at he
      obtain ⟨e1, e2, e3⟩ := he
      subst e1 e2 e3
      have o17 : okP e (b17 T e s) := flS_ok hs (by split <;> omega) hs.1
      have f17 : (b17 T e s).2 ≠ 0 := by
        unfold b17 flS
        have := hs.1
        exact flF_ne (by split <;> omega) this
      refine t_cut16 hT hs (t_may hT o17 ⟨by unfold cn; omega, ?_⟩)
      rw [myS_k (by first | omega | decide) f17]
      exact fin _ _ 0 _ _ (Or.inl (by omega)) hT o17 f h13 hd rfl
    · rw [if_neg h16] at he
      have o11 := (b_ok (T := T) hs).2.2.2.2.2.2.2.2.2.2
      have hT' : CT (putC T e s M c) T e := ⟨by rw [putC_fr _ _ _ _ _ (by omega)]; exact hT.1, hT.2.1, fun i a b => by rw [putC_fr _ _ _ _ _ (by omega)]; exact hT.2.2 i a b⟩
      have f' : FrD M0 (putC T e s M c) := fun k i a b => by rw [putC_fr _ _ _ _ _ a]; exact f k i a b
      have h13' : putC T e s M c 13 8 = c + 1 := by unfold putC; rw [mput_same]
      refine t_cut hT hs c0 (by omega) (t_may hT' o11 ⟨by unfold cn; omega, ?_⟩)
      have y := my01 T e 59 (b11 T e s)
      by_cases hm : myV T e 59 (b11 T e s) = 1
      · rw [if_pos hm] at he
        rw [hm]
        exact ih (c + 1) _ _ _ (by omega) (by omega) hT' (myS_ok (by first | omega | decide) o11) f' h13' (putC_dr hd c0) he (by omega)
      · rw [if_neg hm] at he
        have hm0 : myV T e 59 (b11 T e s) = 0 := by omega
        have hst : myS T e 59 (b11 T e s) = b11 T e s := by
          unfold myV at hm0
          unfold myS
          split at hm0
          · omega
          · next z => rw [if_neg z]
        rw [hm0, hst]
        simp only [Prod.mk.injEq] at he
        obtain ⟨e1, e2, e3⟩ := he
        subst e1 e2 e3
        exact fin _ _ 0 _ _ (Or.inr rfl) hT' o11 f' h13' (putC_dr hd c0) rfl
