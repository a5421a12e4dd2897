/-! ===== fence ===== -/
def Fr59 (M M' : Me) : Prop := ∀ k i, k ≠ 59 → (k = 57 → i ≠ 4) → M' k i = M k i
def Fr110 (M M' : Me) : Prop := ∀ k i, k ≠ 110 → (k = 76 → i ≠ 48) → M' k i = M k i
theorem Fr59.tr {A B C : Me} (h : Fr59 A B) (h' : Fr59 B C) : Fr59 A C := fun k i a b => (h' k i a b).trans (h k i a b)
theorem Fr110.tr {A B C : Me} (h : Fr110 A B) (h' : Fr110 B C) : Fr110 A C := fun k i a b => (h' k i a b).trans (h k i a b)
theorem Fr59.pop (M : Me) (v : Int) : Fr59 M (mput M 57 4 v) := fun k i _ b => by
  by_cases q : k = 57
  · subst q; exact mput_ni _ _ _ _ (b rfl)
  · exact mput_ne _ _ _ _ q
theorem Fr59.push (M : Me) (n p v : Int) : Fr59 M (mput (mput M 59 n p) 57 4 v) := fun k i a b => (Fr59.pop _ v k i a b).trans (mput_ne _ _ _ _ a)
theorem Fr110.pop (M : Me) (v : Int) : Fr110 M (mput M 76 48 v) := fun k i _ b => by
  by_cases q : k = 76
  · subst q; exact mput_ni _ _ _ _ (b rfl)
  · exact mput_ne _ _ _ _ q
theorem Fr110.push (M : Me) (n p v : Int) : Fr110 M (mput (mput M 110 n p) 76 48 v) := fun k i a b => (Fr110.pop _ v k i a b).trans (mput_ne _ _ _ _ a)
theorem rl_snoc {f : Int → Int} {n b : Int} {l : List Int} (h0 : 0 ≤ n) (h : rl f n = l ++ [b]) : 0 < n ∧ rl f (n - 1) = l ∧ f (n - 1) = b := by
  have hl : (rl f n).length = l.length + 1 := by rw [h]; simp
  rw [rl_length] at hl
  have h1 : 0 < n := by omega
  have h2 : rl f n = rl f (n - 1) ++ [f (n - 1)] := by
    have := rl_succ (f := f) (n := n - 1) (by omega)
    rw [show n - 1 + 1 = n by omega] at this
    exact this
  rw [h2] at h
  have h3 := List.append_inj' h rfl
  exact ⟨h1, h3.1, by simpa using h3.2⟩
theorem rl_put {f : Int → Int} {n p : Int} {l : List Int} {g : Int → Int} (h0 : 0 ≤ n) (h : rl f n = l) (hg : ∀ j, g j = if j = n then p else f j) : rl g (n + 1) = l ++ [p] := by
  rw [rl_succ h0, hg n, if_pos rfl, ← h]
  congr 1
  exact rl_congr (fun i _ i1 => by rw [hg i, if_neg (by omega)])
theorem mput_at (M : Me) (k : Nat) (n p j : Int) : mput M k n p k j = if j = n then p else M k j := by
  unfold mput
  by_cases q : j = n <;> simp [q]
theorem l_X2_addCorner {Q : Int → Me → Prop} {M0 : Me} {p : Int} {pre : List Int} (hp : pl p) {st0 : List Int} (hQ : ∀ M', Fr59 M0 M' → 0 ≤ M' 57 4 → rl (M' 59) (M' 57 4) = pre ++ (p :: popf p st0).reverse → Q 0 M') :
    ∀ (st : List Int) (x : Int) (M : Me), 0 ≤ x → x + st.length ≤ 33 → pre.length + st.length < 64 → (∀ z, z ∈ pre ++ st → pl z) → Fr59 M0 M → 0 ≤ M 57 4 → rl (M 59) (M 57 4) = pre ++ st.reverse → popf p st = popf p st0 → Go (km 1 mX2_addCorner Q) 2 [some (.inr 57), some (.inl p), some (.inl pre.length), some (.inl x)] [] M := by
  intro st
  induction st with
  | nil =>
    intro x M x0 hx h64 hpl f n0 hr he
    have hn : M 57 4 = pre.length := by
      have : (rl (M 59) (M 57 4)).length = pre.length := by rw [hr]; simp
      rw [rl_length] at this
      omega
    have push : Q 0 (mput (mput M 59 (M 57 4) p) 57 4 (M 57 4 + 1)) := by
      refine hQ _ (f.tr (Fr59.push _ _ _ _)) (by rw [mput_same]; omega) ?_
      rw [mput_same, ← he, rl_put n0 hr (p := p) (fun j => by rw [mput_ne _ _ _ _ (by decide)]; exact mput_at _ _ _ _ _)]
      simp [popf]
    have hl := List.length_nil (α := Int)
    exact s_X2_addCorner_2 _ _ _ M ⟨fun v => ⟨fun v => by exfalso; omega, fun _ => ⟨by omega, by unfold cn; omega, push⟩⟩, fun _ => ⟨by unfold cn; omega, fun _ => ⟨fun v => by exfalso; omega, fun _ => ⟨by omega, by unfold cn; omega, push⟩⟩, fun v => by exfalso; omega⟩⟩
  | cons b t ih =>
    intro x M x0 hx h64 hpl f n0 hr he
    have hn : M 57 4 = pre.length + t.length + 1 := by
      have : (rl (M 59) (M 57 4)).length = pre.length + (t.length + 1) := by rw [hr]; simp
      rw [rl_length] at this
      omega
    simp only [List.length_cons] at hx h64
    have push : popf p st0 = b :: t → Q 0 (mput (mput M 59 (M 57 4) p) 57 4 (M 57 4 + 1)) := fun e => by
      refine hQ _ (f.tr (Fr59.push _ _ _ _)) (by rw [mput_same]; omega) ?_
      rw [mput_same, e, rl_put n0 hr (p := p) (fun j => by rw [mput_ne _ _ _ _ (by decide)]; exact mput_at _ _ _ _ _)]
      simp
    cases t with
    | nil =>
      have pu := push (by rw [← he]; rfl)
      simp only [List.length_nil] at hn hx h64
      exact s_X2_addCorner_2 _ _ _ M ⟨fun v => ⟨fun v => by exfalso; omega, fun _ => ⟨by omega, by unfold cn; omega, pu⟩⟩, fun _ => ⟨by unfold cn; omega, fun _ => ⟨fun v => by exfalso; omega, fun _ => ⟨by omega, by unfold cn; omega, pu⟩⟩, fun v => by exfalso; omega⟩⟩
    | cons a t =>
      simp only [List.length_cons] at hn hx h64
      obtain ⟨-, r1, eb⟩ := rl_snoc (l := pre ++ (a :: t).reverse) (b := b) n0 (by rw [hr, List.reverse_cons, List.append_assoc])
      obtain ⟨-, r2, ea⟩ := rl_snoc (l := pre ++ t.reverse) (b := a) (n := M 57 4 - 1) (by omega) (by rw [r1, List.reverse_cons, List.append_assoc])
      rw [show M 57 4 - 1 - 1 = M 57 4 - 2 by omega] at ea
      have pb := hpl b (by simp)
      have pa := hpl a (by simp)
      refine s_X2_addCorner_2 _ _ _ M ?_
      rw [ea, eb]
      refine ⟨fun v => by exfalso; omega, fun _ => ⟨by unfold cn; omega, fun v => by exfalso; omega, fun _ => ⟨by unfold cn; omega, by omega, by unfold cn; omega, by omega, pa, pb, hp, fun v => ⟨by unfold cn; omega, by unfold cn; omega, ?_⟩, fun v => ?_⟩⟩⟩
      · refine ih (x + 1) _ (by omega) (by simp only [List.length_cons]; omega) (by simp only [List.length_cons]; omega) (fun z hz => hpl z ?_) (f.tr (Fr59.pop _ _)) (by rw [mput_same]; omega) ?_ ?_
        · simp only [List.mem_append, List.mem_cons] at hz ⊢
          rcases hz with q | q
          · exact Or.inl q
          · exact Or.inr (Or.inr q)
        · rw [mput_same, ← r1]
          exact rl_congr (fun i _ _ => mput_ne _ _ _ _ (by decide))
        · rw [← he]
          simp only [popf]
          rw [if_pos v]
      · have pu := push (by rw [← he]; simp only [popf]; rw [if_neg (by omega)])
        exact ⟨fun v => by exfalso; omega, fun _ => ⟨by omega, by unfold cn; omega, pu⟩⟩
theorem p_X2_addCorner {Q : Int → Me → Prop} {M : Me} {p q : Int} {pre st : List Int} (hq : q = pre.length) (hp : pl p) (h33 : st.length ≤ 33) (h64 : pre.length + st.length < 64) (hpl : ∀ z, z ∈ pre ++ st → pl z) (n0 : 0 ≤ M 57 4) (hr : rl (M 59) (M 57 4) = pre ++ st.reverse) (hQ : ∀ M', Fr59 M M' → 0 ≤ M' 57 4 → rl (M' 59) (M' 57 4) = pre ++ (p :: popf p st).reverse → Q 0 M') : Calls 1 mX2_addCorner [.inr 57, .inl p, .inl q] M Q := by
  subst hq
  exact e_X2_addCorner (l_X2_addCorner hp hQ st 0 M (by omega) (by omega) h64 hpl (fun _ _ _ _ => rfl) n0 hr rfl)
theorem l_X12_addsCorner {Q : Int → Me → Prop} {M0 : Me} {p : Int} {pre : List Int} (hp : pl p) {st0 : List Int} (h0 : pre.length + (popf p st0).length ≤ 33) (hQ : ∀ M', Fr110 M0 M' → 0 ≤ M' 76 48 → rl (M' 110) (M' 76 48) = pre ++ (p :: popf p st0).reverse → Q 0 M') :
    ∀ (st : List Int) (M : Me), pre.length + st.length ≤ 34 → (∀ z, z ∈ pre ++ st → pl z) → Fr110 M0 M → 0 ≤ M 76 48 → rl (M 110) (M 76 48) = pre ++ st.reverse → popf p st = popf p st0 → Go (km 1 mX12_addsCorner Q) 0 [some (.inr 76), some (.inl p), some (.inl pre.length)] [] M := by
  intro st
  induction st with
  | nil =>
    intro M h64 hpl f n0 hr he
    have hn : M 76 48 = pre.length := by
      have : (rl (M 110) (M 76 48)).length = pre.length := by rw [hr]; simp
      rw [rl_length] at this
      omega
    have push : Q 0 (mput (mput M 110 (M 76 48) p) 76 48 (M 76 48 + 1)) := by
      refine hQ _ (f.tr (Fr110.push _ _ _ _)) (by rw [mput_same]; omega) ?_
      rw [mput_same, ← he, rl_put n0 hr (p := p) (fun j => by rw [mput_ne _ _ _ _ (by decide)]; exact mput_at _ _ _ _ _)]
      simp [popf]
    rw [← he] at h0
    simp only [popf, List.length_nil] at h0
    exact s_X12_addsCorner_0 _ _ M ⟨by unfold cn; omega, fun _ => ⟨by omega, by unfold cn; omega, push⟩, fun v => by exfalso; omega⟩
  | cons b t ih =>
    intro M h64 hpl f n0 hr he
    have hn : M 76 48 = pre.length + t.length + 1 := by
      have : (rl (M 110) (M 76 48)).length = pre.length + (t.length + 1) := by rw [hr]; simp
      rw [rl_length] at this
      omega
    simp only [List.length_cons] at h64
    have push : popf p st0 = b :: t → (0 ≤ M 76 48 ∧ M 76 48 < 34) ∧ cn (M 76 48 + 1) ∧ Q 0 (mput (mput M 110 (M 76 48) p) 76 48 (M 76 48 + 1)) := fun e => by
      rw [e] at h0
      simp only [List.length_cons] at h0
      refine ⟨by omega, by unfold cn; omega, hQ _ (f.tr (Fr110.push _ _ _ _)) (by rw [mput_same]; omega) ?_⟩
      rw [mput_same, e, rl_put n0 hr (p := p) (fun j => by rw [mput_ne _ _ _ _ (by decide)]; exact mput_at _ _ _ _ _)]
      simp
    cases t with
    | nil =>
      have pu := push (by rw [← he]; rfl)
      simp only [List.length_nil] at hn h64
      exact s_X12_addsCorner_0 _ _ M ⟨by unfold cn; omega, fun _ => pu, fun v => by exfalso; omega⟩
    | cons a t =>
      simp only [List.length_cons] at hn h64
      obtain ⟨-, r1, eb⟩ := rl_snoc (l := pre ++ (a :: t).reverse) (b := b) n0 (by rw [hr, List.reverse_cons, List.append_assoc])
      obtain ⟨-, r2, ea⟩ := rl_snoc (l := pre ++ t.reverse) (b := a) (n := M 76 48 - 1) (by omega) (by rw [r1, List.reverse_cons, List.append_assoc])
      rw [show M 76 48 - 1 - 1 = M 76 48 - 2 by omega] at ea
      have pb := hpl b (by simp)
      have pa := hpl a (by simp)
      refine s_X12_addsCorner_0 _ _ M ?_
      rw [ea, eb]
      refine ⟨by unfold cn; omega, fun v => by exfalso; omega, fun _ => ⟨by unfold cn; omega, by omega, by unfold cn; omega, by omega, pa, pb, hp, fun v => ?_, fun v => ⟨by unfold cn; omega, ?_⟩⟩⟩
      · exact push (by rw [← he]; simp only [popf]; rw [if_neg (by omega)])
      · refine ih _ (by simp only [List.length_cons]; omega) (fun z hz => hpl z ?_) (f.tr (Fr110.pop _ _)) (by rw [mput_same]; omega) ?_ ?_
        · simp only [List.mem_append, List.mem_cons] at hz ⊢
          rcases hz with q | q
          · exact Or.inl q
          · exact Or.inr (Or.inr q)
        · rw [mput_same, ← r1]
          exact rl_congr (fun i _ _ => mput_ne _ _ _ _ (by decide))
        · rw [← he]
          simp only [popf]
          rw [if_pos v]
theorem p_X12_addsCorner {Q : Int → Me → Prop} {M : Me} {p q : Int} {pre st : List Int} (hq : q = pre.length) (hp : pl p) (h0 : pre.length + (popf p st).length ≤ 33) (h34 : pre.length + st.length ≤ 34) (hpl : ∀ z, z ∈ pre ++ st → pl z) (n0 : 0 ≤ M 76 48) (hr : rl (M 110) (M 76 48) = pre ++ st.reverse) (hQ : ∀ M', Fr110 M M' → 0 ≤ M' 76 48 → rl (M' 110) (M' 76 48) = pre ++ (p :: popf p st).reverse → Q 0 M') : Calls 1 mX12_addsCorner [.inr 76, .inl p, .inl q] M Q := by
  subst hq
  exact Calls.of (by decide) (Nat.le_of_ble_eq_true rfl) (l_X12_addsCorner hp h0 hQ st M h34 hpl (fun _ _ _ _ => rfl) n0 hr rfl)
