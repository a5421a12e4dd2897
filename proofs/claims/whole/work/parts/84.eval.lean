/-! ===== the law reckoned: a pure reckoning over codes ===== -/
def sg (o : Int) : Int := if o = 0 then 48 else if o = 1 then 97 else if o = 2 then 43 else if o = 3 then 45 else if o = 4 then 42 else if o = 5 then 47 else if o = 6 then 37 else if o = 7 then 60 else if o = 8 then 62 else if o = 9 then 61 else if o = 10 then 33 else if o = 11 then 38 else 124
def opr (o x y : Int) : Int := if o = 2 then wr (x + y) else if o = 3 then wr (x - y) else if o = 4 then wr (x * y) else if o = 5 then bdiv x y else if o = 6 then brem x y else if o = 7 then (if x < y then 1 else 0) else if o = 8 then (if y < x then 1 else 0) else (if x = y then 1 else 0)
def ev (o v F : Int → Int) (to : Int) : Nat → Int → List Int → Int
  | 0, _, st => st.headD 0
  | k + 1, i, st =>
    if to ≤ i then st.headD 0
    else if o i = 0 then ev o v F to k (i + 1) (v i :: st)
    else if o i = 1 then ev o v F to k (i + 1) (F (v i) :: st)
    else if o i = 10 then ev o v F to k (i + 1) ((1 - st.headD 0) :: st.tail)
    else if o i = 11 then (if st.headD 0 = 0 then ev o v F to k (v i) st else ev o v F to k (i + 1) st.tail)
    else if o i = 12 then (if st.headD 0 = 0 then ev o v F to k (i + 1) st.tail else ev o v F to k (v i) st)
    else if (o i = 5 ∨ o i = 6) ∧ st.headD 0 = 0 then 0
    else ev o v F to k (i + 1) (opr (o i) (st.tail.headD 0) (st.headD 0) :: st.tail.tail)
def Ok1 (o v sh : Int → Int) (b i : Int) : Prop := (-1 ≤ sh i ∧ sh i ≤ 60) ∧ (0 ≤ o i ∧ o i ≤ 12) ∧ (0 ≤ v i ∧ v i < 1048576) ∧
  (o i ≤ 1 → 0 ≤ sh i ∧ sh (i + 1) = sh i + 1 ∧ (o i = 1 → v i < 11)) ∧
  (2 ≤ o i → o i ≤ 6 → 2 ≤ sh i ∧ sh (i + 1) = sh i - 1) ∧
  (7 ≤ o i → o i ≤ 9 → sh i = 2 ∧ sh (i + 1) = -1) ∧
  (o i = 10 → sh i = -1 ∧ sh (i + 1) = -1) ∧
  (11 ≤ o i → sh i = -1 ∧ sh (i + 1) = 0 ∧ i < v i ∧ v i ≤ b ∧ sh (v i) = -1)
def Wf (o v sh : Int → Int) (a b e : Int) : Prop := 0 ≤ a ∧ a ≤ b ∧ b ≤ 240 ∧ sh a = 0 ∧ sh b = e ∧ (e = 1 ∨ e = -1) ∧ ∀ i, a ≤ i → i < b → Ok1 o v sh b i
def sth (s : Int) (st : List Int) : Prop := (0 ≤ s → (st.length : Int) = s) ∧ (s = -1 → ∃ x, st = [x] ∧ (x = 0 ∨ x = 1))
theorem sth_b {s x : Int} (hs : s = -1) (hx : x = 0 ∨ x = 1) : sth s [x] := ⟨fun h => by omega, fun _ => ⟨x, rfl, hx⟩⟩
theorem sth_n {s : Int} {st : List Int} (h0 : 0 ≤ s) (h : (st.length : Int) = s) : sth s st := ⟨fun _ => h, fun q => by omega⟩
theorem opr_b {o x y : Int} (h : 7 ≤ o ∧ o ≤ 9) : opr o x y = 0 ∨ opr o x y = 1 := by
  unfold opr
  repeat rw [if_neg (by omega)]
  split
  · split
    · exact Or.inr rfl
    · exact Or.inl rfl
  · split
    · split
      · exact Or.inr rfl
      · exact Or.inl rfl
    · split
      · exact Or.inr rfl
      · exact Or.inl rfl
/-- one step of it: what stands next -/
theorem ev_step {o v sh F : Int → Int} {a b e : Int} (hw : Wf o v sh a b e) {i : Int} (ia : a ≤ i) (ib : i < b) {st : List Int} (hs : sth (sh i) st) (k : Nat) :
    (o i = 0 ∧ ev o v F b (k + 1) i st = ev o v F b k (i + 1) (v i :: st) ∧ sth (sh (i + 1)) (v i :: st) ∧ (st.length : Int) ≤ 60) ∨
    (o i = 1 ∧ ev o v F b (k + 1) i st = ev o v F b k (i + 1) (F (v i) :: st) ∧ sth (sh (i + 1)) (F (v i) :: st) ∧ (st.length : Int) ≤ 60) ∨
    (o i = 10 ∧ ∃ x, st = [x] ∧ (x = 0 ∨ x = 1) ∧ ev o v F b (k + 1) i st = ev o v F b k (i + 1) [1 - x] ∧ sth (sh (i + 1)) [1 - x]) ∨
    (11 ≤ o i ∧ o i ≤ 12 ∧ ∃ x, st = [x] ∧ (x = 0 ∨ x = 1) ∧ i < v i ∧ v i ≤ b ∧ ((x = o i - 11 ∧ ev o v F b (k + 1) i st = ev o v F b k (v i) [x] ∧ sth (sh (v i)) [x]) ∨ (x ≠ o i - 11 ∧ ev o v F b (k + 1) i st = ev o v F b k (i + 1) [] ∧ sth (sh (i + 1)) []))) ∨
    (2 ≤ o i ∧ o i ≤ 9 ∧ ∃ x y t, st = y :: x :: t ∧ (t.length : Int) ≤ 58 ∧ (((o i = 5 ∨ o i = 6) ∧ y = 0 ∧ ev o v F b (k + 1) i st = 0) ∨ (¬ ((o i = 5 ∨ o i = 6) ∧ y = 0) ∧ ev o v F b (k + 1) i st = ev o v F b k (i + 1) (opr (o i) x y :: t) ∧ sth (sh (i + 1)) (opr (o i) x y :: t)))) := by
  obtain ⟨-, -, -, -, -, -, hall⟩ := hw
  obtain ⟨⟨s1, s2⟩, ⟨o1, o2⟩, ⟨v1, v2⟩, k1, k2, k3, k4, k5⟩ := hall i ia ib
  have hev : ev o v F b (k + 1) i st = (if o i = 0 then ev o v F b k (i + 1) (v i :: st)
    else if o i = 1 then ev o v F b k (i + 1) (F (v i) :: st)
    else if o i = 10 then ev o v F b k (i + 1) ((1 - st.headD 0) :: st.tail)
    else if o i = 11 then (if st.headD 0 = 0 then ev o v F b k (v i) st else ev o v F b k (i + 1) st.tail)
    else if o i = 12 then (if st.headD 0 = 0 then ev o v F b k (i + 1) st.tail else ev o v F b k (v i) st)
    else if (o i = 5 ∨ o i = 6) ∧ st.headD 0 = 0 then 0
    else ev o v F b k (i + 1) (opr (o i) (st.tail.headD 0) (st.headD 0) :: st.tail.tail)) := by
    simp only [ev]
    rw [if_neg (by omega)]
  rw [hev]
  by_cases c0 : o i = 0
  · obtain ⟨z0, z1, -⟩ := k1 (by omega)
    have hl := hs.1 z0
    exact Or.inl ⟨c0, by rw [if_pos c0], sth_n (by omega) (by simp only [List.length_cons]; omega), by omega⟩
  by_cases c1 : o i = 1
  · obtain ⟨z0, z1, -⟩ := k1 (by omega)
    have hl := hs.1 z0
    exact Or.inr (Or.inl ⟨c1, by rw [if_neg c0, if_pos c1], sth_n (by omega) (by simp only [List.length_cons]; omega), by omega⟩)
  by_cases c10 : o i = 10
  · obtain ⟨z0, z1⟩ := k4 c10
    obtain ⟨x, hx, hb⟩ := hs.2 z0
    subst hx
    exact Or.inr (Or.inr (Or.inl ⟨c10, x, rfl, hb, by rw [if_neg c0, if_neg c1, if_pos c10]; rfl, sth_b z1 (by omega)⟩))
  by_cases c11 : o i = 11
  · obtain ⟨z0, z1, z2, z3, z4⟩ := k5 (by omega)
    obtain ⟨x, hx, hb⟩ := hs.2 z0
    subst hx
    refine Or.inr (Or.inr (Or.inr (Or.inl ⟨by omega, by omega, x, rfl, hb, z2, z3, ?_⟩)))
    rw [if_neg c0, if_neg c1, if_neg c10, if_pos c11]
    by_cases q : x = 0
    · exact Or.inl ⟨by omega, if_pos q, sth_b z4 hb⟩
    · exact Or.inr ⟨by omega, if_neg q, sth_n (by omega) (by simp only [List.length_nil]; omega)⟩
  by_cases c12 : o i = 12
  · obtain ⟨z0, z1, z2, z3, z4⟩ := k5 (by omega)
    obtain ⟨x, hx, hb⟩ := hs.2 z0
    subst hx
    refine Or.inr (Or.inr (Or.inr (Or.inl ⟨by omega, by omega, x, rfl, hb, z2, z3, ?_⟩)))
    rw [if_neg c0, if_neg c1, if_neg c10, if_neg c11, if_pos c12]
    by_cases q : x = 0
    · exact Or.inr ⟨by omega, if_pos q, sth_n (by omega) (by simp only [List.length_nil]; omega)⟩
    · exact Or.inl ⟨by omega, if_neg q, sth_b z4 hb⟩
  rw [if_neg c0, if_neg c1, if_neg c10, if_neg c11, if_neg c12]
  refine Or.inr (Or.inr (Or.inr (Or.inr ⟨by omega, by omega, ?_⟩)))
  have hlen : 2 ≤ sh i ∧ (st.length : Int) = sh i := by
    by_cases q : o i ≤ 6
    · have := (k2 (by omega) q).1
      exact ⟨this, hs.1 (by omega)⟩
    · have := (k3 (by omega) (by omega)).1
      exact ⟨by omega, hs.1 (by omega)⟩
  match st, hlen with
  | [], h => simp at h; omega
  | [y], h => simp at h; omega
  | y :: x :: t, h =>
    simp only [List.length_cons] at h
    refine ⟨x, y, t, rfl, by omega, ?_⟩
    by_cases q : (o i = 5 ∨ o i = 6) ∧ y = 0
    · exact Or.inl ⟨q.1, q.2, if_pos q⟩
    · refine Or.inr ⟨q, if_neg q, ?_⟩
      by_cases q6 : o i ≤ 6
      · have := (k2 (by omega) q6).2
        exact sth_n (by omega) (by simp only [List.length_cons]; omega)
      · have := (k3 (by omega) (by omega))
        have ht : t = [] := List.eq_nil_of_length_eq_zero (by omega)
        subst ht
        exact sth_b this.2 (opr_b (by omega))
theorem ev_end {o v sh F : Int → Int} {a b e : Int} (hw : Wf o v sh a b e) {st : List Int} (hs : sth (sh b) st) (k : Nat) : ∃ x, st = [x] ∧ ev o v F b k b st = x ∧ (e = -1 → x = 0 ∨ x = 1) := by
  obtain ⟨-, -, -, -, he, h1, -⟩ := hw
  have : ∃ x, st = [x] ∧ (e = -1 → x = 0 ∨ x = 1) := by
    rw [he] at hs
    rcases h1 with q | q
    · have := hs.1 (by omega)
      match st, this with
      | [], h => simp at h; omega
      | [x], h => exact ⟨x, rfl, fun z => by omega⟩
      | x :: y :: t, h => simp at h; omega
    · obtain ⟨x, hx, hb⟩ := hs.2 q
      exact ⟨x, hx, fun _ => hb⟩
  obtain ⟨x, rfl, hb⟩ := this
  refine ⟨x, rfl, ?_, hb⟩
  cases k with
  | zero => rfl
  | succ k => simp only [ev]; rw [if_pos (Int.le_refl _)]; rfl
theorem ev_bool {o v sh F : Int → Int} {a b : Int} (hw : Wf o v sh a b (-1)) : ∀ (k : Nat) (i : Int) (st : List Int), a ≤ i → i ≤ b → b ≤ i + k → sth (sh i) st → ev o v F b k i st = 0 ∨ ev o v F b k i st = 1 := by
  intro k
  induction k with
  | zero =>
    intro i st ia ib hk hs
    have : i = b := by omega
    subst this
    obtain ⟨x, -, e2, e3⟩ := ev_end (F := F) hw hs 0
    rw [e2]; exact e3 rfl
  | succ k ih =>
    intro i st ia ib hk hs
    by_cases q : i = b
    · subst q
      obtain ⟨x, -, e2, e3⟩ := ev_end (F := F) hw hs (k + 1)
      rw [e2]; exact e3 rfl
    · rcases ev_step (F := F) hw ia (by omega) hs k with ⟨-, e, s, -⟩ | ⟨-, e, s, -⟩ | ⟨-, x, -, -, e, s⟩ | ⟨-, -, x, -, -, z1, z2, ⟨-, e, s⟩ | ⟨-, e, s⟩⟩ | ⟨-, -, x, y, t, -, -, ⟨-, -, e⟩ | ⟨-, e, s⟩⟩
      · rw [e]; exact ih _ _ (by omega) (by omega) (by omega) s
      · rw [e]; exact ih _ _ (by omega) (by omega) (by omega) s
      · rw [e]; exact ih _ _ (by omega) (by omega) (by omega) s
      · rw [e]; exact ih _ _ (by omega) z2 (by omega) s
      · rw [e]; exact ih _ _ (by omega) (by omega) (by omega) s
      · exact Or.inl e
      · rw [e]; exact ih _ _ (by omega) (by omega) (by omega) s
theorem ev_facts {o v sh F G : Int → Int} {a b e : Int} (hw : Wf o v sh a b e) (hF : ∀ j, 0 ≤ j → j < 11 → F j = G j) : ∀ (k : Nat) (i : Int) (st : List Int), a ≤ i → ev o v F b k i st = ev o v G b k i st := by
  intro k
  induction k with
  | zero => intro i st _; rfl
  | succ k ih =>
    intro i st ia
    simp only [ev]
    by_cases q : b ≤ i
    · rw [if_pos q, if_pos q]
    · rw [if_neg q, if_neg q]
      obtain ⟨-, -, ⟨v1, -⟩, k1, -, -, -, k5⟩ := hw.2.2.2.2.2.2 i ia (by omega)
      rw [ih (i + 1) (v i :: st) (by omega), ih (i + 1) ((1 - st.headD 0) :: st.tail) (by omega), ih (i + 1) st.tail (by omega), ih (i + 1) (opr (o i) (st.tail.headD 0) (st.headD 0) :: st.tail.tail) (by omega)]
      by_cases c1 : o i = 1
      · have := (k1 (by omega)).2.2 c1
        rw [hF (v i) v1 this, ih (i + 1) (G (v i) :: st) (by omega)]
        simp only [c1, if_true]
      · by_cases c2 : 11 ≤ o i
        · have := k5 c2
          rw [ih (v i) st (by omega)]
          simp only [if_neg c1]
        · simp only [if_neg c1, if_neg (show ¬ o i = 11 by omega), if_neg (show ¬ o i = 12 by omega)]
/-! a stack in a row, its first one at 1 -/
def stO (f : Int → Int) : List Int → Prop
  | [] => True
  | x :: t => f ((t.length : Int) + 1) = x ∧ stO f t
theorem stO_congr {f g : Int → Int} : ∀ (st : List Int), (∀ j, 1 ≤ j → j ≤ (st.length : Int) → g j = f j) → stO f st → stO g st
  | [], _, _ => trivial
  | x :: t, h, hs => ⟨by rw [h _ (by omega) (by simp only [List.length_cons]; omega)]; exact hs.1, stO_congr t (fun j a b => h j a (by simp only [List.length_cons]; omega)) hs.2⟩
theorem stO_put {M : Me} {c : Nat} {st : List Int} {d x : Int} (h : stO (fun j => M c (j + d)) st) {i : Int} (hi : i = (st.length : Int) + 1 + d) : stO (fun j => mput M c i x c (j + d)) (x :: st) := by
  refine ⟨?_, stO_congr st (fun j a b => mput_ni _ _ _ _ (by omega)) h⟩
  show mput M c i x c ((st.length : Int) + 1 + d) = x
  rw [← hi, mput_same]
theorem cell_sign {v s : Int} (hv0 : 0 ≤ v) (hv : v < 1048576) (hs0 : 0 ≤ s) (hs : s < 256) : band (256 * v + s) 255 = s ∧ bshr (256 * v + s) 8 = v := by
  obtain ⟨n, hn⟩ : ∃ n : Nat, 256 * v + s = (n : Int) := ⟨(256 * v + s).toNat, by omega⟩
  rw [hn]
  have h1 := bandL (n := n) (by omega) 255 (by omega)
  have h2 := bshr_nat (x := n) (i := 8) (by omega) (by omega)
  rw [show ((255 : Nat) : Int) = 255 from rfl, show n &&& 255 = n % 256 from Nat.and_two_pow_sub_one_eq_mod n 8] at h1
  rw [show ((8 : Nat) : Int) = 8 from rfl, show (2 : Nat) ^ 8 = 256 from rfl] at h2
  rw [h1, h2]
  omega
theorem sg_r (o : Int) : 0 ≤ sg o ∧ sg o < 256 := by
  unfold sg
  repeat' split
  all_goals omega
