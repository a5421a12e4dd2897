/-! ===== the fence: chains of corners, by a key that is linear in both coordinates ===== -/
def kk (al be z : Int) : Int := al * (z % 24) + be * (z / 24)
def cr (a b c d : Int) : Int := (b % 24 - a % 24) * (d / 24 - c / 24) - (b / 24 - a / 24) * (d % 24 - c % 24)
def dt (a b r : Int) : Int := (r % 24 - a % 24) * (b % 24 - a % 24) + (r / 24 - a / 24) * (b / 24 - a / 24)
theorem sd_cr (a b c : Int) : sd a b c = cr a b a c := rfl
theorem cr_add (a b c d e : Int) : cr a b c e = cr a b c d + cr a b d e := by
  unfold cr
  generalize a % 24 = a1; generalize a / 24 = a2; generalize b % 24 = b1; generalize b / 24 = b2; generalize c % 24 = c1; generalize c / 24 = c2; generalize d % 24 = d1; generalize d / 24 = d2; generalize e % 24 = e1; generalize e / 24 = e2
  grind
theorem cr_anti (a b c d : Int) : cr a b c d = - cr c d a b := by
  unfold cr
  generalize a % 24 = a1; generalize a / 24 = a2; generalize b % 24 = b1; generalize b / 24 = b2; generalize c % 24 = c1; generalize c / 24 = c2; generalize d % 24 = d1; generalize d / 24 = d2
  grind
theorem cr_self (a b : Int) : cr a b a b = 0 := by
  have := cr_anti a b a b
  omega
theorem cr_zero (a b c : Int) : cr a b c c = 0 := by
  have := cr_add a b c c c
  omega
theorem cr_rev (a b c d : Int) : cr a b d c = - cr a b c d := by
  have h1 := cr_add a b c d c
  have h2 := cr_zero a b c
  omega
theorem cr_addl (a b c d e : Int) : cr a c d e = cr a b d e + cr b c d e := by
  have h1 := cr_anti a c d e
  have h2 := cr_anti a b d e
  have h3 := cr_anti b c d e
  have h4 := cr_add d e a b c
  omega
theorem cr_id (al be a b c d e f : Int) : (kk al be d - kk al be c) * cr a b e f = (kk al be f - kk al be e) * cr a b c d + (kk al be b - kk al be a) * cr c d e f := by
  unfold cr kk
  generalize a % 24 = a1; generalize a / 24 = a2; generalize b % 24 = b1; generalize b / 24 = b2; generalize c % 24 = c1; generalize c / 24 = c2; generalize d % 24 = d1; generalize d / 24 = d2; generalize e % 24 = e1; generalize e / 24 = e2; generalize f % 24 = f1; generalize f / 24 = f2
  grind
theorem cr_tr {al be a b c d e f : Int} (h1 : kk al be a < kk al be b) (h2 : kk al be c < kk al be d) (h3 : kk al be e < kk al be f) (p : 0 ≤ cr a b c d) (q : 0 ≤ cr c d e f) : 0 ≤ cr a b e f ∧ (0 < cr a b c d → 0 < cr a b e f) ∧ (0 < cr c d e f → 0 < cr a b e f) := by
  have id := cr_id al be a b c d e f
  generalize cr a b e f = X at id
  have z1 : 0 ≤ (kk al be f - kk al be e) * cr a b c d := Int.mul_nonneg (by omega) p
  have z2 : 0 ≤ (kk al be b - kk al be a) * cr c d e f := Int.mul_nonneg (by omega) q
  have neg : 0 < (kk al be d - kk al be c) * X → 0 < X := fun h => by
    by_cases e : 0 < X
    · exact e
    · have := Int.mul_nonneg (show 0 ≤ kk al be d - kk al be c by omega) (show 0 ≤ -X by omega)
      rw [Int.mul_neg] at this
      omega
  refine ⟨?_, fun h => neg ?_, fun h => neg ?_⟩
  · by_cases e : 0 ≤ X
    · exact e
    · have := Int.mul_pos (show 0 < kk al be d - kk al be c by omega) (show 0 < -X by omega)
      rw [Int.mul_neg] at this
      omega
  · have := Int.mul_pos (show 0 < kk al be f - kk al be e by omega) h
    omega
  · have := Int.mul_pos (show 0 < kk al be b - kk al be a by omega) h
    omega
theorem dt_id (al be a b r : Int) : dt a b r * (kk al be b - kk al be a) = dt a b b * (kk al be r - kk al be a) + (be * (b % 24 - a % 24) - al * (b / 24 - a / 24)) * (- sd a b r) := by
  unfold dt kk sd
  generalize a % 24 = a1; generalize a / 24 = a2; generalize b % 24 = b1; generalize b / 24 = b2; generalize r % 24 = r1; generalize r / 24 = r2
  grind
theorem sq_nn (x : Int) : 0 ≤ x * x := by
  by_cases h : 0 ≤ x
  · exact Int.mul_nonneg h h
  · have := Int.mul_nonneg (show 0 ≤ -x by omega) (show 0 ≤ -x by omega)
    rw [Int.neg_mul_neg] at this
    exact this
theorem dt_bb (a b : Int) : 0 ≤ dt a b b ∧ (dt a b b = 0 → b % 24 = a % 24 ∧ b / 24 = a / 24) := by
  have h : dt a b b = (b % 24 - a % 24) * (b % 24 - a % 24) + (b / 24 - a / 24) * (b / 24 - a / 24) := rfl
  have s1 := sq_nn (b % 24 - a % 24)
  have s2 := sq_nn (b / 24 - a / 24)
  refine ⟨by omega, fun e => ?_⟩
  have z1 : (b % 24 - a % 24) * (b % 24 - a % 24) = 0 := by omega
  have z2 : (b / 24 - a / 24) * (b / 24 - a / 24) = 0 := by omega
  have y1 := Int.mul_eq_zero.mp z1
  have y2 := Int.mul_eq_zero.mp z2
  omega
theorem dt_pos {al be a b : Int} (h : kk al be a ≠ kk al be b) : 0 < dt a b b := by
  have := dt_bb a b
  by_cases e : dt a b b = 0
  · exfalso
    obtain ⟨e1, e2⟩ := this.2 e
    apply h
    unfold kk
    rw [e1, e2]
  · omega
/-- in line: the key and the way along tell the same -/
theorem dt_of_key {al be a b r : Int} (hab : kk al be a < kk al be b) (h0 : sd a b r = 0) : (0 ≤ dt a b r ↔ kk al be a ≤ kk al be r) := by
  have id := dt_id al be a b r
  rw [h0] at id
  simp only [Int.neg_zero, Int.mul_zero, Int.add_zero] at id
  have hp := dt_pos (al := al) (be := be) (a := a) (b := b) (by omega)
  constructor
  · intro h
    by_cases e : kk al be a ≤ kk al be r
    · exact e
    · have z1 := Int.mul_nonneg h (show 0 ≤ kk al be b - kk al be a by omega)
      have z2 := Int.mul_pos hp (show 0 < kk al be a - kk al be r by omega)
      rw [show kk al be a - kk al be r = -(kk al be r - kk al be a) by omega, Int.mul_neg] at z2
      omega
  · intro h
    by_cases e : 0 ≤ dt a b r
    · exact e
    · have z1 := Int.mul_pos (show 0 < - dt a b r by omega) (show 0 < kk al be b - kk al be a by omega)
      have z2 := Int.mul_nonneg (Int.le_of_lt hp) (show 0 ≤ kk al be r - kk al be a by omega)
      rw [Int.neg_mul] at z1
      omega
theorem kk_neg (al be z : Int) : kk (-al) (-be) z = - kk al be z := by
  unfold kk
  rw [Int.neg_mul, Int.neg_mul]
  omega
theorem sd_swap (a b r : Int) : sd b a r = - sd a b r := by
  have h1 := cr_add b a b a r
  have h2 := cr_self b a
  have h3 := cr_rev b a a b
  have h4 := cr_addl a b a a r
  have h5 := cr_anti a a a r
  have h6 := cr_zero a r a
  rw [sd_cr, sd_cr]
  omega
theorem dt_of_key2 {al be a b r : Int} (hab : kk al be a < kk al be b) (h0 : sd a b r = 0) : (0 ≤ dt b a r ↔ kk al be r ≤ kk al be b) := by
  have h1 : sd b a r = 0 := by have := sd_swap a b r; omega
  have := dt_of_key (al := -al) (be := -be) (a := b) (b := a) (r := r) (by rw [kk_neg, kk_neg]; omega) h1
  rw [kk_neg, kk_neg] at this
  rw [this]
  omega
/-- an edge of the fence round S -/
def HE (S : Int → Prop) (a b : Int) : Prop := a ≠ b ∧ S a ∧ S b ∧ ∀ r, S r → 0 ≤ sd a b r ∧ (sd a b r = 0 → 0 ≤ dt a b r ∧ 0 ≤ dt b a r)
theorem HE_uniq {S : Int → Prop} {al be : Int} (hinj : ∀ x y, S x → S y → kk al be x = kk al be y → x = y) {p q q' : Int} (h : HE S p q) (h' : HE S p q') : q = q' := by
  obtain ⟨n1, sp, sq, a1⟩ := h
  obtain ⟨n2, -, sq', a2⟩ := h'
  have b1 := a1 q' sq'
  have b2 := a2 q sq
  have e : sd p q q' = - sd p q' q := by
    rw [sd_cr, sd_cr]; exact cr_anti _ _ _ _
  have c1 := b1.2 (by omega)
  have c2 := b2.2 (by omega)
  have key : ∀ al be : Int, kk al be p < kk al be q → kk al be q = kk al be q' := fun al be hk => by
    have d1 := (dt_of_key hk (show sd p q q' = 0 by omega)).mp c1.1
    have d2 := (dt_of_key2 hk (show sd p q q' = 0 by omega)).mp c1.2
    by_cases e3 : kk al be p < kk al be q'
    · have d4 := (dt_of_key2 e3 (show sd p q' q = 0 by omega)).mp c2.2
      omega
    · exfalso
      have e4 : kk al be p = kk al be q' := by omega
      have i1 := dt_id al be p q' q
      rw [show sd p q' q = 0 by omega, e4] at i1
      have p1 := dt_bb p q'
      have e5 : dt p q' q' ≠ 0 := fun z => by
        have := p1.2 z
        exact n2 (by omega)
      simp only [Int.neg_zero, Int.mul_zero, Int.add_zero, Int.sub_self] at i1
      have := Int.mul_pos (show 0 < dt p q' q' by omega) (show 0 < kk al be q - kk al be q' by omega)
      omega
  by_cases hk : kk al be p < kk al be q
  · exact hinj _ _ sq sq' (key al be hk)
  · have hne : kk al be p ≠ kk al be q := fun z => n1 (hinj _ _ sp sq z)
    have := key (-al) (-be) (by rw [kk_neg, kk_neg]; omega)
    rw [kk_neg, kk_neg] at this
    exact hinj _ _ sq sq' (by omega)
/-! a stack of corners; its head is the last one -/
def Ch (al be : Int) (S : Int → Prop) : List Int → Prop
  | b :: a :: t => kk al be a < kk al be b ∧ (∀ r, S r → 0 ≤ sd a b r ∧ (sd a b r = 0 → kk al be a ≤ kk al be r ∧ kk al be r ≤ kk al be b)) ∧ Ch al be S (a :: t)
  | _ => True
def eds : List Int → List (Int × Int)
  | b :: a :: t => (a, b) :: eds (a :: t)
  | _ => []
def popf (p : Int) : List Int → List Int
  | b :: a :: t => if sd a b p ≤ 0 then popf p (a :: t) else b :: a :: t
  | l => l
theorem popf_last (p : Int) : ∀ (t : List Int) (b : Int), (popf p (b :: t)).getLast? = (b :: t).getLast?
  | [], b => rfl
  | a :: t, b => by
    simp only [popf]
    split
    · rw [popf_last p t a]; simp [List.getLast?_cons_cons]
    · rfl
theorem popf_mem (p : Int) : ∀ (l : List Int) (z : Int), z ∈ popf p l → z ∈ l
  | [], z, h => h
  | [b], z, h => h
  | b :: a :: t, z, h => by
    simp only [popf] at h
    split at h
    · exact List.mem_cons_of_mem _ (popf_mem p (a :: t) z h)
    · exact h
theorem popf_ne (p : Int) : ∀ (t : List Int) (b : Int), popf p (b :: t) ≠ []
  | [], b => by simp [popf]
  | a :: t, b => by
    simp only [popf]
    split
    · exact popf_ne p t a
    · simp
/-- what stands when the pops are done -/
def Stop (al be : Int) (S : Int → Prop) (p : Int) : List Int → Prop
  | [] => False
  | b :: t => Ch al be S (b :: t) ∧ (∀ r, S r → kk al be b ≤ kk al be r → 0 ≤ sd b p r) ∧ (match t with | [] => True | a :: _ => 0 < sd a b p)
theorem popf_stop {al be : Int} {S : Int → Prop} {p : Int} (hinj : ∀ x y, S x → S y → kk al be x = kk al be y → x = y) (hp : ∀ r, S r → kk al be r < kk al be p) :
    ∀ (t : List Int) (b : Int), Ch al be S (b :: t) → (∀ z, z ∈ b :: t → S z) → (∀ r, S r → kk al be b ≤ kk al be r → 0 ≤ sd b p r) → Stop al be S p (popf p (b :: t))
  | [], b, hc, _, hi => ⟨hc, hi, trivial⟩
  | a :: t, b, hc, hm, hi => by
    simp only [popf]
    split
    · next hle =>
      obtain ⟨kab, hr, hc'⟩ := hc
      have sa := hm a (by simp)
      have sb := hm b (by simp)
      refine popf_stop hinj hp t a hc' (fun z hz => hm z (List.mem_cons_of_mem _ hz)) (fun r sr kr => ?_)
      by_cases e : kk al be r = kk al be a
      · have := hinj _ _ sr sa e
        subst this
        rw [sd_cr, cr_zero]
        omega
      · by_cases e2 : kk al be r ≤ kk al be b
        · have q1 := (hr r sr).1
          rw [sd_cr] at q1 hle ⊢
          have q2 := cr_anti a p a b
          exact (cr_tr (al := al) (be := be) (hp a sa) kab (by omega) (by omega) q1).1
        · have q1 := (hr r sr).1
          have q3 := hi r sr (by omega)
          rw [sd_cr] at q1 q3 hle ⊢
          have q2 := cr_anti a p a b
          have q4 := cr_add a p a b r
          have q5 := cr_addl a b p b r
          have q6 := cr_add a b a b r
          have q7 := cr_self a b
          omega
    · next hgt => exact ⟨hc, hi, by show 0 < sd a b p; omega⟩
theorem Ch_more {al be : Int} {S : Int → Prop} {p b a : Int} (hp : ∀ r, S r → kk al be r < kk al be p) (sa : S a) (sb : S b) (kab : kk al be a < kk al be b) (hr : ∀ r, S r → 0 ≤ sd a b r) (hpos : 0 < sd a b p) :
    ∀ (t : List Int) (x : Int), Ch al be S (x :: t) → (∀ z, z ∈ x :: t → S z) → kk al be x ≤ kk al be a → Ch al be (fun r => S r ∨ r = p) (x :: t)
  | [], x, _, _, _ => trivial
  | c :: t, c', hc, hm, hk => by
    obtain ⟨kcc, hcr, hc'⟩ := hc
    have sc := hm c (by simp)
    refine ⟨kcc, fun r sr => ?_, Ch_more hp sa sb kab hr hpos t c hc' (fun z hz => hm z (List.mem_cons_of_mem _ hz)) (by omega)⟩
    rcases sr with sr | rfl
    · exact hcr r sr
    · have g1 : 0 < sd c c' b := by
        have := hcr b sb
        by_cases e : sd c c' b = 0
        · have := (this.2 e).2; omega
        · omega
      have g2 := hr c sc
      rw [sd_cr] at g1 g2 hpos
      have g3 := cr_add a b a b c
      have g4 := cr_self a b
      have g5 := cr_rev a b b c
      have g6 := cr_anti c b a b
      have t1 := (cr_tr (al := al) (be := be) (a := c) (b := c') (c := c) (d := b) (e := a) (f := b) kcc (by omega) kab (by omega) (by omega)).2.1 g1
      have g7 := cr_add a b a b r
      have t2 := (cr_tr (al := al) (be := be) (a := c) (b := c') (c := a) (d := b) (e := b) (f := r) kcc kab (hp b sb) (by omega) (by omega)).2.1 t1
      have g8 := cr_add c c' c b r
      rw [sd_cr]
      exact ⟨by omega, fun e => by omega⟩
/-- the stack holds the lower edges of S -/
def Inv (al be : Int) (S : Int → Prop) (st : List Int) : Prop := Ch al be S st ∧ (∀ z, z ∈ st → S z) ∧ (∀ r, S r → ∃ t, st.head? = some t ∧ kk al be r ≤ kk al be t) ∧ (∀ r, S r → ∃ b, st.getLast? = some b ∧ kk al be b ≤ kk al be r)
theorem Inv_push {al be : Int} {S : Int → Prop} {p : Int} {st : List Int} (hinj : ∀ x y, S x → S y → kk al be x = kk al be y → x = y) (hp : ∀ r, S r → kk al be r < kk al be p) (h : Inv al be S st) : Inv al be (fun r => S r ∨ r = p) (p :: popf p st) := by
  obtain ⟨h1, h2, h3, h4⟩ := h
  cases st with
  | nil =>
    have no : ∀ r, ¬ S r := fun r sr => by obtain ⟨t, ht, -⟩ := h3 r sr; cases ht
    refine ⟨trivial, fun z hz => ?_, fun r sr => ⟨p, rfl, ?_⟩, fun r sr => ⟨p, rfl, ?_⟩⟩
    · simp [popf] at hz; exact Or.inr hz
    · rcases sr with sr | rfl
      · exact absurd sr (no r)
      · exact Int.le_refl _
    · rcases sr with sr | rfl
      · exact absurd sr (no r)
      · exact Int.le_refl _
  | cons b0 t0 =>
    have sb0 := h2 b0 (by simp)
    have hst := popf_stop hinj hp t0 b0 h1 h2 (fun r sr kr => by
      obtain ⟨t, ht, hk⟩ := h3 r sr
      simp only [List.head?_cons, Option.some.injEq] at ht
      subst ht
      have := hinj _ _ sr sb0 (by omega)
      subst this
      rw [sd_cr, cr_zero]
      omega)
    have hl := popf_last p t0 b0
    have hmm := popf_mem p (b0 :: t0)
    generalize popf p (b0 :: t0) = st at hst hl hmm
    cases st with
    | nil => exact absurd hst (fun z => z)
    | cons b t =>
      obtain ⟨c1, c2, c3⟩ := hst
      have sb := h2 b (hmm b (by simp))
      have kbp := hp b sb
      refine ⟨⟨kbp, fun r sr => ?_, ?_⟩, fun z hz => ?_, fun r sr => ⟨p, rfl, ?_⟩, fun r sr => ?_⟩
      · rcases sr with sr | rfl
        · by_cases e : kk al be b ≤ kk al be r
          · exact ⟨c2 r sr e, fun _ => ⟨e, Int.le_of_lt (hp r sr)⟩⟩
          · cases t with
            | nil =>
              exfalso
              obtain ⟨q, hq, hk⟩ := h4 r sr
              rw [← hl] at hq
              simp only [List.getLast?_singleton, Option.some.injEq] at hq
              subst hq
              exact e hk
            | cons a t =>
              obtain ⟨kab, hr, -⟩ := c1
              have g0 : 0 < sd a b p := c3
              have g1 := (hr r sr).1
              rw [sd_cr] at g0 g1
              have g3 := cr_add a b a b r
              have g4 := cr_self a b
              have g5 := cr_rev a b b r
              have g6 := cr_anti r b a b
              have g7 := cr_add a b a b p
              have t1 := (cr_tr (al := al) (be := be) (a := r) (b := b) (c := a) (d := b) (e := b) (f := p) (by omega) kab kbp (by omega) (by omega)).2.2 (by omega)
              have g8 := cr_anti b p b r
              have g9 := cr_addl b r b b p
              have g10 := cr_anti b b b p
              have g11 := cr_zero b p b
              rw [sd_cr]
              exact ⟨by omega, fun e => by omega⟩
        · rw [sd_cr, cr_self]
          exact ⟨by omega, fun _ => ⟨Int.le_of_lt kbp, Int.le_refl _⟩⟩
      · cases t with
        | nil => trivial
        | cons a t =>
          obtain ⟨kab, hr, hc⟩ := c1
          have g0 : 0 < sd a b p := c3
          refine ⟨kab, fun r sr => ?_, Ch_more hp (h2 a (hmm a (by simp))) sb kab (fun r sr => (hr r sr).1) g0 t a hc (fun z hz => h2 z (hmm z (List.mem_cons_of_mem _ hz))) (Int.le_refl _)⟩
          rcases sr with sr | rfl
          · exact hr r sr
          · exact ⟨by omega, fun e => by omega⟩
      · rcases List.mem_cons.mp hz with hz | hz
        · exact Or.inr hz
        · exact Or.inl (h2 z (hmm z hz))
      · rcases sr with sr | rfl
        · exact Int.le_of_lt (hp r sr)
        · exact Int.le_refl _
      · have hl' : (p :: b :: t).getLast? = (b0 :: t0).getLast? := by rw [List.getLast?_cons_cons]; exact hl
        rw [hl']
        rcases sr with sr | rfl
        · exact h4 r sr
        · obtain ⟨q, hq, hk⟩ := h4 b0 sb0
          exact ⟨q, hq, by have := hp b0 sb0; omega⟩
theorem eds_HE {al be : Int} {S : Int → Prop} : ∀ (t : List Int) (b : Int), Ch al be S (b :: t) → (∀ z, z ∈ b :: t → S z) → ∀ e, e ∈ eds (b :: t) → HE S e.1 e.2 ∧ kk al be e.1 < kk al be e.2 ∧ kk al be e.2 ≤ kk al be b
  | [], b, _, _, e, he => by simp [eds] at he
  | a :: t, b, hc, hm, e, he => by
    obtain ⟨kab, hr, hc'⟩ := hc
    simp only [eds] at he
    rcases List.mem_cons.mp he with rfl | he
    · refine ⟨⟨fun q => ?_, hm a (by simp), hm b (by simp), fun r sr => ⟨(hr r sr).1, fun z => ?_⟩⟩, kab, Int.le_refl _⟩
      · have q' : a = b := q
        subst q'; omega
      · have := (hr r sr).2 z
        exact ⟨(dt_of_key kab z).mpr this.1, (dt_of_key2 kab z).mpr this.2⟩
    · have := eds_HE t a hc' (fun z hz => hm z (List.mem_cons_of_mem _ hz)) e he
      exact ⟨this.1, this.2.1, by omega⟩
theorem Ch_find {al be : Int} {S : Int → Prop} (hinj : ∀ x y, S x → S y → kk al be x = kk al be y → x = y) {p q : Int} (hpq : HE S p q) (hk : kk al be p < kk al be q) :
    ∀ (t : List Int) (b : Int), Ch al be S (b :: t) → (∀ z, z ∈ b :: t → S z) → kk al be p < kk al be b → (∀ z, (b :: t).getLast? = some z → kk al be z ≤ kk al be p) → (p, q) ∈ eds (b :: t)
  | [], b, _, _, hb, hl => by have := hl b rfl; omega
  | a :: t, b, hc, hm, hb, hl => by
    have hE := eds_HE (a :: t) b hc hm
    obtain ⟨kab, hr, hc'⟩ := hc
    have sa := hm a (by simp)
    have sb := hm b (by simp)
    simp only [eds]
    by_cases e : kk al be a ≤ kk al be p
    · by_cases e2 : kk al be a = kk al be p
      · have := hinj _ _ sa hpq.2.1 e2
        subst this
        have h1 := (hE (a, b) (by simp [eds])).1
        have := HE_uniq hinj hpq h1
        rw [this]
        exact List.mem_cons_self
      · exfalso
        obtain ⟨-, sp, sq, hall⟩ := hpq
        have g1 := (hr p sp).1
        have g2 := (hall a sa)
        have g3 := (hall b sb).1
        rw [sd_cr] at g1 g3
        have i1 := cr_addl a p b a p
        have i2 := cr_self a p
        have i3 := cr_anti p q p a
        have i4 := cr_addl p a p p q
        have i5 := cr_anti p p p q
        have i6 := cr_zero p q p
        have i7 := sd_cr p q a
        have tr := cr_tr (al := al) (be := be) (a := a) (b := p) (c := p) (d := q) (e := p) (f := b) (by omega) hk hb (by omega) g3
        have i8 := cr_anti a p p b
        have z : ¬ 0 < cr a p p q := fun z => by have := tr.2.1 z; omega
        have g4 := g2.2 (by omega)
        have := (dt_of_key hk (show sd p q a = 0 by omega)).mp g4.1
        omega
    · refine List.mem_cons_of_mem _ (Ch_find hinj hpq hk t a hc' (fun z hz => hm z (List.mem_cons_of_mem _ hz)) (by omega) (fun z hz => hl z ?_))
      rw [List.getLast?_cons_cons]
      exact hz
theorem Inv_find {al be : Int} {S : Int → Prop} (hinj : ∀ x y, S x → S y → kk al be x = kk al be y → x = y) {st : List Int} (h : Inv al be S st) {p q : Int} (hpq : HE S p q) (hk : kk al be p < kk al be q) : (p, q) ∈ eds st := by
  obtain ⟨h1, h2, h3, h4⟩ := h
  cases st with
  | nil => obtain ⟨t, ht, -⟩ := h3 p hpq.2.1; cases ht
  | cons b t =>
    refine Ch_find hinj hpq hk t b h1 h2 ?_ (fun z hz => ?_)
    · obtain ⟨u, hu, hk'⟩ := h3 q hpq.2.2.1
      simp only [List.head?_cons, Option.some.injEq] at hu
      subst hu
      omega
    · obtain ⟨u, hu, hk'⟩ := h4 p hpq.2.1
      rw [hz] at hu
      simp only [Option.some.injEq] at hu
      subst hu
      exact hk'
theorem Inv_HE {al be : Int} {S : Int → Prop} {st : List Int} (h : Inv al be S st) {e : Int × Int} (he : e ∈ eds st) : HE S e.1 e.2 ∧ kk al be e.1 < kk al be e.2 := by
  cases st with
  | nil => simp [eds] at he
  | cons b t =>
    have := eds_HE t b h.1 h.2.1 e he
    exact ⟨this.1, this.2.1⟩
theorem eds_iff {al be : Int} {S : Int → Prop} (hinj : ∀ x y, S x → S y → kk al be x = kk al be y → x = y) {lo up : List Int} (h1 : Inv al be S lo) (h2 : Inv (-al) (-be) S up) (e : Int × Int) : e ∈ eds lo ++ eds up ↔ HE S e.1 e.2 := by
  rw [List.mem_append]
  constructor
  · rintro (h | h)
    · exact (Inv_HE h1 h).1
    · exact (Inv_HE h2 h).1
  · intro h
    have hne : kk al be e.1 ≠ kk al be e.2 := fun z => h.1 (hinj _ _ h.2.1 h.2.2.1 z)
    by_cases hk : kk al be e.1 < kk al be e.2
    · exact Or.inl (Inv_find hinj h1 h hk)
    · refine Or.inr (Inv_find (al := -al) (be := -be) (fun x y sx sy z => hinj x y sx sy ?_) h2 h ?_)
      · rw [kk_neg, kk_neg] at z; omega
      · rw [kk_neg, kk_neg]; omega
theorem eds_nodup {al be : Int} {S : Int → Prop} : ∀ (t : List Int) (b : Int), Ch al be S (b :: t) → (∀ z, z ∈ b :: t → S z) → (eds (b :: t)).Nodup
  | [], b, _, _ => by simp [eds]
  | a :: t, b, hc, hm => by
    obtain ⟨kab, hr, hc'⟩ := hc
    have hm' : ∀ z, z ∈ a :: t → S z := fun z hz => hm z (List.mem_cons_of_mem _ hz)
    simp only [eds]
    refine List.nodup_cons.mpr ⟨fun h => ?_, eds_nodup t a hc' hm'⟩
    have := (eds_HE t a hc' hm' _ h).2.2
    simp only at this
    omega
theorem Inv_nodup {al be : Int} {S : Int → Prop} {st : List Int} (h : Inv al be S st) : (eds st).Nodup := by
  cases st with
  | nil => simp [eds]
  | cons b t => exact eds_nodup t b h.1 h.2.1
theorem eds_nodup2 {al be : Int} {S : Int → Prop} {lo up : List Int} (h1 : Inv al be S lo) (h2 : Inv (-al) (-be) S up) : (eds lo ++ eds up).Nodup := by
  refine List.nodup_append.mpr ⟨Inv_nodup h1, Inv_nodup h2, fun a ha b hb e => ?_⟩
  subst e
  have g1 := (Inv_HE h1 ha).2
  have g2 := (Inv_HE h2 hb).2
  rw [kk_neg, kk_neg] at g2
  omega
theorem nodup_permP {α : Type} [DecidableEq α] : ∀ {l1 l2 : List α}, l1.Nodup → l2.Nodup → (∀ x, x ∈ l1 ↔ x ∈ l2) → l1.Perm l2
  | [], l2, _, _, h => by
    cases l2 with
    | nil => exact List.Perm.nil
    | cons a l => exact absurd ((h a).mpr List.mem_cons_self) (List.not_mem_nil)
  | a :: l1, l2, h1, h2, h => by
    have ha := (h a).mp List.mem_cons_self
    have h1' := List.nodup_cons.mp h1
    have ih := nodup_permP (l2 := l2.erase a) h1'.2 (h2.erase a) (fun x => by
      by_cases e : x = a
      · subst e
        exact ⟨fun q => absurd q h1'.1, fun q => absurd q (List.Nodup.not_mem_erase h2)⟩
      · rw [List.mem_erase_of_ne e, ← h x]
        exact ⟨fun q => List.mem_cons_of_mem _ q, fun q => by
          rcases List.mem_cons.mp q with q | q
          · exact absurd q e
          · exact q⟩)
    exact (ih.cons a).trans (List.perm_cons_erase ha).symm
/-! the chain out of a row of places -/
def chn : List Int → List Int → List Int
  | [], st => st
  | p :: r, st => chn r (p :: popf p st)
theorem Inv_chn {al be : Int} {T : Int → Prop} (hinj : ∀ x y, T x → T y → kk al be x = kk al be y → x = y) :
    ∀ (pts st : List Int) (S : Int → Prop), (∀ z, S z → T z) → (∀ z, z ∈ pts → T z) → pts.Pairwise (fun x y => kk al be x < kk al be y) → (∀ r, S r → ∀ z, z ∈ pts → kk al be r < kk al be z) → Inv al be S st → Inv al be (fun r => S r ∨ r ∈ pts) (chn pts st)
  | [], st, S, _, _, _, _, h => by
    have : S = (fun r => S r ∨ r ∈ ([] : List Int)) := funext (fun r => propext ⟨fun q => Or.inl q, fun q => by rcases q with q | q; exact q; cases q⟩)
    rw [← this]
    exact h
  | p :: r, st, S, hS, hT, hw, hlt, h => by
    have hw' := List.pairwise_cons.mp hw
    have h1 := Inv_push (p := p) (fun x y sx sy => hinj x y (hS x sx) (hS y sy)) (fun z sz => hlt z sz p List.mem_cons_self) h
    have h2 := Inv_chn hinj r (p :: popf p st) (fun z => S z ∨ z = p) (fun z sz => by
      rcases sz with sz | rfl
      · exact hS z sz
      · exact hT _ List.mem_cons_self) (fun z hz => hT z (List.mem_cons_of_mem _ hz)) hw'.2 (fun z sz y hy => by
      rcases sz with sz | rfl
      · exact hlt z sz y (List.mem_cons_of_mem _ hy)
      · exact hw'.1 y hy) h1
    have : (fun z => (S z ∨ z = p) ∨ z ∈ r) = (fun z => S z ∨ z ∈ p :: r) := funext (fun z => propext (by rw [List.mem_cons, or_assoc]))
    rw [this] at h2
    exact h2
theorem Inv_all {al be : Int} {pts : List Int} (hinj : ∀ x y, x ∈ pts → y ∈ pts → kk al be x = kk al be y → x = y) (hw : pts.Pairwise (fun x y => kk al be x < kk al be y)) : Inv al be (fun r => r ∈ pts) (chn pts []) := by
  have i0 : Inv al be (fun _ => False) [] := ⟨trivial, fun z hz => absurd hz List.not_mem_nil, fun r (q : False) => False.elim q, fun r (q : False) => False.elim q⟩
  have := Inv_chn (T := fun z => z ∈ pts) hinj pts [] (fun _ => False) (fun _ (q : False) => False.elim q) (fun z hz => hz) hw (fun _ (q : False) => False.elim q) i0
  rw [show (fun r => False ∨ r ∈ pts) = (fun r => r ∈ pts) from funext (fun r => propext ⟨fun q => q.elim False.elim (fun x => x), fun q => Or.inr q⟩)] at this
  exact this
theorem chn_append : ∀ (a b st : List Int), chn (a ++ b) st = chn b (chn a st)
  | [], b, st => rfl
  | p :: a, b, st => by simp only [List.cons_append, chn]; exact chn_append a b _
theorem chn_snoc (a : List Int) (p : Int) (st : List Int) : chn (a ++ [p]) st = p :: popf p (chn a st) := by rw [chn_append]; rfl
theorem popf_len (p : Int) : ∀ (l : List Int), (popf p l).length ≤ l.length
  | [] => Nat.le_refl _
  | [b] => Nat.le_refl _
  | b :: a :: t => by
    simp only [popf]
    split
    · have := popf_len p (a :: t)
      simp only [List.length_cons] at this ⊢
      omega
    · exact Nat.le_refl _
theorem chn_len : ∀ (a st : List Int), (chn a st).length ≤ a.length + st.length
  | [], st => by simp [chn]
  | p :: a, st => by
    have h1 := chn_len a (p :: popf p st)
    have h2 := popf_len p st
    simp only [chn, List.length_cons] at h1 ⊢
    omega
theorem chn_mem : ∀ (a st : List Int) (z : Int), z ∈ chn a st → z ∈ a ∨ z ∈ st
  | [], st, z, h => Or.inr h
  | p :: a, st, z, h => by
    simp only [chn] at h
    rcases chn_mem a _ z h with q | q
    · exact Or.inl (List.mem_cons_of_mem _ q)
    · rcases List.mem_cons.mp q with q | q
      · exact Or.inl (q ▸ List.mem_cons_self)
      · exact Or.inr (popf_mem p st z q)
/-! ways along a row of places -/
def xz (a b : Int) : Int := a % 24 * (b / 24) - b % 24 * (a / 24)
def pth : List Int → Int
  | a :: b :: t => xz a b + pth (b :: t)
  | _ => 0
theorem pth_join : ∀ (l r : List Int) (x : Int), pth (l ++ x :: r) = pth (l ++ [x]) + pth (x :: r)
  | [], r, x => by simp [pth]
  | [a], r, x => by simp [pth]
  | a :: b :: l, r, x => by
    have := pth_join (b :: l) r x
    simp only [List.cons_append, pth] at this ⊢
    omega
theorem pth_snoc (l : List Int) (a b : Int) : pth (l ++ [a, b]) = pth (l ++ [a]) + xz a b := by
  have := pth_join l [b] a
  simp only [pth, Int.add_zero] at this
  exact this
theorem pth_rev : ∀ (t : List Int) (b : Int), pth (b :: t).reverse = sumI (fun e : Int × Int => xz e.1 e.2) (eds (b :: t))
  | [], b => by simp [pth, eds, sumI]
  | a :: t, b => by
    have h1 := pth_rev t a
    simp only [eds, sumI]
    rw [← h1, List.reverse_cons, List.reverse_cons, List.append_assoc]
    have := pth_snoc t.reverse a b
    simp only [List.cons_append, List.nil_append] at this ⊢
    rw [this]
    omega
theorem eds_len : ∀ (t : List Int) (b : Int), (eds (b :: t)).length = t.length
  | [], b => rfl
  | a :: t, b => by simp only [eds, List.length_cons, eds_len t a]
/-- the corners: there on one side, back on the other one -/
theorem cor_all {mx mn : Int} {lt ut : List Int} (hu : (mn :: ut).getLast? = some mx) (hne : mx ≠ mn) : pth ((lt.reverse ++ ut.reverse) ++ [mn]) = sumI (fun e : Int × Int => xz e.1 e.2) (eds (mx :: lt) ++ eds (mn :: ut)) ∧ (lt.reverse ++ ut.reverse).length = (eds (mx :: lt) ++ eds (mn :: ut)).length := by
  constructor
  · rw [sumI_append, ← pth_rev, ← pth_rev, List.append_assoc]
    rw [show ut.reverse ++ [mn] = (mn :: ut).reverse by rw [List.reverse_cons]]
    have h1 : (mn :: ut).reverse.head? = some mx := by rw [List.head?_reverse]; exact hu
    cases h : (mn :: ut).reverse with
    | nil => rw [h] at h1; cases h1
    | cons x r =>
      rw [h] at h1
      simp only [List.head?_cons, Option.some.injEq] at h1
      subst h1
      rw [pth_join, List.reverse_cons]
  · rw [List.length_append, List.length_append, eds_len, eds_len, List.length_reverse, List.length_reverse]
/-- from one of the first chain and one of the other the ways part -/
theorem eds_out : ∀ (t : List Int) (b u : Int), u ∈ t → ∃ w, (u, w) ∈ eds (b :: t)
  | [], b, u, h => by cases h
  | a :: t, b, u, h => by
    rcases List.mem_cons.mp h with rfl | h
    · exact ⟨b, by simp [eds]⟩
    · obtain ⟨w, hw⟩ := eds_out t a u h
      exact ⟨w, by simp only [eds]; exact List.mem_cons_of_mem _ hw⟩
theorem Ch_nodup {al be : Int} {S : Int → Prop} : ∀ (t : List Int) (b : Int), Ch al be S (b :: t) → (b :: t).Nodup ∧ ∀ z, z ∈ t → kk al be z < kk al be b
  | [], b, _ => ⟨by simp, fun z h => by cases h⟩
  | a :: t, b, hc => by
    obtain ⟨kab, -, hc'⟩ := hc
    obtain ⟨i1, i2⟩ := Ch_nodup t a hc'
    have : ∀ z, z ∈ a :: t → kk al be z < kk al be b := fun z hz => by
      rcases List.mem_cons.mp hz with rfl | hz
      · exact kab
      · have := i2 z hz; omega
    exact ⟨List.nodup_cons.mpr ⟨fun h => by have := this b h; omega, i1⟩, this⟩
theorem chains_apart {al be : Int} {S T : Int → Prop} (hinj : ∀ x y, S x → S y → kk al be x = kk al be y → x = y) (hT : ∀ z, T z → S z) {p mx : Int} {lt ut : List Int} (h1 : Inv al be S (mx :: lt)) (h2 : Inv (-al) (-be) T (p :: ut)) (hTk : ∀ z, S z → kk al be p ≤ kk al be z → T z) {u : Int} (hu : u ∈ ut) (hl : u ∈ lt) : False := by
  obtain ⟨v, hv⟩ := eds_out lt mx u hl
  obtain ⟨w, hw⟩ := eds_out ut p u hu
  obtain ⟨e1, k1⟩ := Inv_HE h1 hv
  obtain ⟨e2, k2⟩ := Inv_HE h2 hw
  rw [kk_neg, kk_neg] at k2
  simp only at e1 k1 e2 k2
  have kp : kk al be p ≤ kk al be u := by
    have := (Ch_nodup ut p h2.1).2 u hu
    rw [kk_neg, kk_neg] at this
    omega
  obtain ⟨n1, su, sv, a1⟩ := e1
  have e1' : HE T u v := ⟨n1, e2.2.1, hTk v sv (by omega), fun r tr => a1 r (hT r tr)⟩
  have := HE_uniq (al := al) (be := be) (fun x y tx ty => hinj x y (hT x tx) (hT y ty)) e1' e2
  subst this
  omega
