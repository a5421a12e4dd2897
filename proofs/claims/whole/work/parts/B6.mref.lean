/-! ===== marriages: how many last, the reference ===== -/
set_option maxRecDepth 100000 in
theorem pxlen : (px 2 2 []).length ≤ 720 ∧ (px 3 3 []).length ≤ 720 ∧ (px 4 4 []).length ≤ 720 ∧ (px 5 5 []).length ≤ 720 ∧ (px 6 6 []).length ≤ 720 := by decide +kernel
theorem px720 {n : Nat} (n2 : 2 ≤ n) (n6 : n ≤ 6) : (px n n []).length ≤ 720 := by
  obtain ⟨h2, h3, h4, h5, h6⟩ := pxlen
  rcases (show n = 2 ∨ n = 3 ∨ n = 4 ∨ n = 5 ∨ n = 6 by omega) with rfl | rfl | rfl | rfl | rfl
  · exact h2
  · exact h3
  · exact h4
  · exact h5
  · exact h6
theorem apB_iff {rk pc : Int → Int → Int} {q : List Nat} {n : Nat} (hl : q.length = n) : apB rk pc q = true ↔ ∀ x y, x < n → y < n → rtB rk pc q x y = false := by
  unfold apB
  rw [List.all_eq_true, hl]
  constructor
  · intro h x y hx hy
    rcases Nat.lt_trichotomy x y with c | c | c
    · have := h y (List.mem_range.mpr hy)
      unfold pkB at this
      rw [List.all_eq_true] at this
      have := this x (List.mem_range.mpr c)
      rw [Bool.and_eq_true, Bool.not_eq_true', Bool.not_eq_true'] at this
      exact this.2
    · subst c
      unfold rtB
      exact decide_eq_false (fun z => by omega)
    · have := h x (List.mem_range.mpr hx)
      unfold pkB at this
      rw [List.all_eq_true] at this
      have := this y (List.mem_range.mpr c)
      rw [Bool.and_eq_true, Bool.not_eq_true', Bool.not_eq_true'] at this
      exact this.1
  · intro h x hx
    rw [List.mem_range] at hx
    unfold pkB
    rw [List.all_eq_true]
    intro y hy
    rw [List.mem_range] at hy
    rw [h x y hx (by omega), h y x (by omega) hx]
    rfl
theorem nat_all {q : List Nat} {n : Nat} (hl : q.length = n) (hnd : q.Nodup) (hb : ∀ x, x ∈ q → x < n) : ∀ v, v < n → ∃ i, i < n ∧ q.getD i 0 = v := by
  intro v hv
  have hin : v ∈ q := by
    by_cases e : v ∈ q
    · exact e
    · exfalso
      have h1 : ((v :: q).map (fun x : Nat => (x : Int))).Nodup := by
        unfold List.Nodup
        rw [List.pairwise_map]
        exact (List.nodup_cons.mpr ⟨e, hnd⟩).imp (fun h z => h (by omega))
      have := nodup_le h1 (l2 := rl (fun i => i) n) (fun z hz => by
        obtain ⟨x, hx, ex⟩ := List.mem_map.mp hz
        have hxn : x < n := by
          rcases List.mem_cons.mp hx with q | q
          · omega
          · exact hb x q
        exact mem_rl.mpr ⟨z, by omega, by omega, rfl⟩)
      rw [List.length_map, List.length_cons, rl_length] at this
      omega
  obtain ⟨i, hi, e⟩ := List.mem_iff_getElem.mp hin
  exact ⟨i, by omega, by simp [List.getD, hi, e]⟩
theorem getD_lt {q : List Nat} {n i : Nat} (hb : ∀ x, x ∈ q → x < n) (hi : i < q.length) : q.getD i 0 < n := by
  have : q.getD i 0 = q[i] := by simp [List.getD, hi]
  rw [this]
  exact hb _ (List.getElem_mem _)
def Tab2 (n : Nat) (rk pc : Int → Int → Int) (M : Me) : Prop := ∀ x v : Nat, x < n → v < n → M 116 (6 * (x : Int) + v) = rk x v ∧ M 116 (6 * ((n : Int) + x) + v) = pc x v
def Ord (n : Nat) (M : Me) (q : List Nat) : Prop := ∀ i : Nat, i < n → M 121 i = (q.getD i 0 : Nat)
theorem q_lasts {Q : Int → Me → Prop} {M : Me} {n : Nat} {rk pc : Int → Int → Int} {q : List Nat} (n2 : 2 ≤ n) (n6 : n ≤ 6) (hT : Tab2 n rk pc M) (hl : q.length = n) (hnd : q.Nodup) (hb : ∀ x, x ∈ q → x < n) (hO : Ord n M q) (h1 : apB rk pc q = true → Q 1 M) (h0 : apB rk pc q = false → Q 0 M) : Calls 0 mX12_lasts [.inr 76, .inl n] M Q := by
  have bad : ∀ x y, x < n → y < n → rtB rk pc q x y = true → apB rk pc q = false := fun x y hx hy z => by
    cases hh : apB rk pc q with
    | false => rfl
    | true => have := (apB_iff hl).mp hh x y hx hy; rw [z] at this; cases this
  have outer : ∀ (k a : Nat), a + k = n → (∀ x, x < a → ∀ y, y < n → rtB rk pc q x y = false) → Go (km 0 mX12_lasts Q) 2 [some (.inr 76), some (.inl (n : Int)), some (.inl (a : Int)), none, none] [] M := by
    intro k
    induction k with
    | zero =>
      intro a ha hd
      refine s_X12_lasts_2 _ _ M ⟨fun _ => h1 ((apB_iff hl).mpr (fun x y hx hy => hd x (by omega) y hy)), fun z => by exfalso; omega⟩
    | succ k iho =>
      intro a ha hd
      have qa := getD_lt (i := a) hb (by omega)
      have mid : ∀ (k b : Nat), b + k = n → (∀ y, y < n → q.getD y 0 < b → rtB rk pc q a y = false) → Go (km 0 mX12_lasts Q) 9 [some (.inr 76), some (.inl (n : Int)), some (.inl (a : Int)), some (.inl (b : Int)), none] [] M := by
        intro k
        induction k with
        | zero =>
          intro b hbb hd2
          refine s_X12_lasts_9 _ _ _ M ⟨fun _ => ⟨by unfold cn; omega, ?_⟩, fun z => by exfalso; omega⟩
          have := iho (a + 1) (by omega) (fun x hx y hy => by
            by_cases e : x = a
            · subst e; exact hd2 y hy (by have := getD_lt (i := y) hb (by omega); omega)
            · exact hd x (by omega) y hy)
          rw [show ((a + 1 : Nat) : Int) = (a : Int) + 1 by omega] at this
          exact this
        | succ k ihm =>
          intro b hbb hd2
          refine s_X12_lasts_9 _ _ _ M ⟨fun z => by exfalso; omega, fun _ => ?_⟩
          obtain ⟨y, hy, ey⟩ := nat_all hl hnd hb b (by omega)
          have nx : rtB rk pc q a y = false → Go (km 0 mX12_lasts Q) 9 [some (.inr 76), some (.inl (n : Int)), some (.inl (a : Int)), some (.inl ((b : Int) + 1)), none] [] M := fun z => by
            have := ihm (b + 1) (by omega) (fun x hx hxb => by
              by_cases e : q.getD x 0 = b
              · have exy : x = y := by
                  have hxq : q.getD x 0 = q[x]'(by omega) := by simp [List.getD, show x < q.length by omega]
                  have hyq : q.getD y 0 = q[y]'(by omega) := by simp [List.getD, show y < q.length by omega]
                  have e2 : q[x]'(by omega) = q[y]'(by omega) := by rw [← hxq, ← hyq, e, ey]
                  exact (List.getElem_inj (h₀ := by omega) (h₁ := by omega) hnd).mp e2
                subst exy; exact z
              · exact hd2 x hx (by omega))
            rw [show ((b + 1 : Nat) : Int) = (b : Int) + 1 by omega] at this
            exact this
          have inner : ∀ (k x : Nat), x + k = y → Go (km 0 mX12_lasts Q) 17 [some (.inr 76), some (.inl (n : Int)), some (.inl (a : Int)), some (.inl (b : Int)), some (.inl (x : Int))] [] M := by
            intro k
            induction k with
            | zero =>
              intro x hx
              have : x = y := by omega
              subst this
              have t1 := (hT a b (by omega) (by omega)).1
              have t2 := (hT a (q.getD a 0) (by omega) qa).1
              have t3 := (hT b a (by omega) (by omega)).2
              have t4 := (hT b x (by omega) hy).2
              refine s_X12_lasts_17 _ _ _ _ M ?_
              rw [hO x hy, hO a (by omega), t1, t2, t3, t4, ey]
              have rt : rtB rk pc q a x = decide (rk a b < rk a (q.getD a 0 : Nat) ∧ pc b a < pc b x) := by unfold rtB; rw [ey]
              refine ⟨by omega, fun _ => ⟨by unfold cn; omega, by unfold cn; omega, by omega, by unfold cn; omega, by omega, by unfold cn; omega, by omega, fun z => ⟨by unfold cn; omega, nx (by rw [rt]; exact decide_eq_false (fun w => by omega))⟩, fun z => ⟨by unfold cn; omega, by unfold cn; omega, by unfold cn; omega, by omega, by unfold cn; omega, by unfold cn; omega, by unfold cn; omega, by omega, fun w => ⟨by unfold cn; omega, nx (by rw [rt]; exact decide_eq_false (fun v => by omega))⟩, fun w => h0 (bad a x (by omega) hy (by rw [rt]; exact decide_eq_true ⟨z, w⟩))⟩⟩, fun z => absurd rfl z⟩
            | succ k ihi =>
              intro x hx
              have hne : q.getD x 0 ≠ b := fun e => by
                have hxq : q.getD x 0 = q[x]'(by omega) := by simp [List.getD, show x < q.length by omega]
                have hyq : q.getD y 0 = q[y]'(by omega) := by simp [List.getD, show y < q.length by omega]
                have e2 : q[x]'(by omega) = q[y]'(by omega) := by rw [← hxq, ← hyq, e, ey]
                have := (List.getElem_inj (h₀ := by omega) (h₁ := by omega) hnd).mp e2
                omega
              refine s_X12_lasts_17 _ _ _ _ M ?_
              rw [hO x (by omega)]
              refine ⟨by omega, fun z => absurd z (by omega), fun _ => ⟨by unfold cn; omega, ?_⟩⟩
              have := ihi (x + 1) (by omega)
              rw [show ((x + 1 : Nat) : Int) = (x : Int) + 1 by omega] at this
              exact this
          exact inner y 0 (by omega)
      exact s_X12_lasts_2 _ _ M ⟨fun z => by exfalso; omega, fun _ => mid n 0 (by omega) (fun y _ h => by omega)⟩
  exact e_X12_lasts (outer n 0 (by omega) (fun x hx => by omega))
/-! the next order -/
theorem swL_len (q : List Nat) (a b : Nat) : (swL q a b).length = q.length := by simp [swL]
theorem swL_get {q : List Nat} {a b i : Nat} (ha : a < q.length) (hb : b < q.length) : (swL q a b).getD i 0 = if i = b then q.getD a 0 else if i = a then q.getD b 0 else q.getD i 0 := by
  unfold swL
  by_cases e : i = b
  · subst e
    rw [if_pos rfl]
    simp [List.getD, hb]
  · rw [if_neg e]
    have h1 : ((q.set a (q.getD b 0)).set b (q.getD a 0)).getD i 0 = (q.set a (q.getD b 0)).getD i 0 := by
      simp only [List.getD]
      rw [List.getElem?_set_ne (fun z => e z.symm)]
    rw [h1]
    by_cases e2 : i = a
    · subst e2
      rw [if_pos rfl]
      simp [List.getD, ha]
    · rw [if_neg e2]
      simp only [List.getD]
      rw [List.getElem?_set_ne (fun z => e2 z.symm)]
def OFr (M M' : Me) : Prop := ∀ k i, k ≠ 121 → M' k i = M k i
theorem q_swap {Q : Int → Me → Prop} {M : Me} {n : Nat} {q : List Nat} {a b : Nat} (n6 : n ≤ 6) (hl : q.length = n) (ha : a < n) (hb : b < n) (hO : Ord n M q) (hQ : ∀ M', OFr M M' → Ord n M' (swL q a b) → Q 0 M') : Calls 0 mX12_changesOrder [.inr 76, .inl a, .inl b] M Q := by
  refine e_X12_changesOrder ⟨by omega, by omega, by omega, by omega, ?_⟩
  rw [hO a ha, hO b hb]
  refine hQ _ (fun k i z => by rw [mput_ne _ _ _ _ z, mput_ne _ _ _ _ z]) (fun i hi => ?_)
  rw [swL_get (by omega) (by omega)]
  by_cases e : i = b
  · subst e; rw [if_pos rfl, mput_same]
  · rw [if_neg e, mput_ni _ _ _ _ (by omega)]
    by_cases e2 : i = a
    · subst e2; rw [if_pos rfl, mput_same]
    · rw [if_neg e2, mput_ni _ _ _ _ (by omega)]; exact hO i hi
theorem q_rev {Q : Int → Me → Prop} {n : Nat} (n6 : n ≤ 6) {R : List Nat} {M0 : Me} (hQ : ∀ M', OFr M0 M' → Ord n M' R → Q 1 M') : ∀ (k a b : Nat) (q : List Nat) (M : Me), q.length = n → b < n → b ≤ a + 2 * k → a ≤ n → OFr M0 M → Ord n M q → rvL k q a b = R → Go (km 1 mX12_nextOrder Q) 80 [some (.inr 76), none, none, none, some (.inl (a : Int)), some (.inl (b : Int))] [] M := by
  intro k
  induction k with
  | zero =>
    intro a b q M hl hb hab han f hO hR
    simp only [rvL] at hR
    subst hR
    exact s_X12_nextOrder_80 _ _ M ⟨fun _ => hQ M f hO, fun z => by exfalso; omega⟩
  | succ k ih =>
    intro a b q M hl hb hab han f hO hR
    simp only [rvL] at hR
    by_cases e : a < b
    · rw [if_pos e] at hR
      refine s_X12_nextOrder_80 _ _ M ⟨fun z => by exfalso; omega, fun _ => ?_⟩
      refine q_swap n6 hl (by omega) hb hO (fun M' f' hO' => ⟨by unfold cn; omega, by unfold cn; omega, ?_⟩)
      have := ih (a + 1) (b - 1) (swL q a b) M' (by rw [swL_len]; exact hl) (by omega) (by omega) (by omega) (fun k i z => (f' k i z).trans (f k i z)) hO' hR
      rw [show ((a + 1 : Nat) : Int) = (a : Int) + 1 by omega, show ((b - 1 : Nat) : Int) = (b : Int) + -1 by omega] at this
      exact this
    · rw [if_neg e] at hR
      subst hR
      exact s_X12_nextOrder_80 _ _ M ⟨fun _ => hQ M f hO, fun z => by exfalso; omega⟩
theorem q_next {Q : Int → Me → Prop} {M : Me} {n : Nat} {q : List Nat} (n2 : 2 ≤ n) (n6 : n ≤ 6) (hl : q.length = n) (hO : Ord n M q) (h0 : nxL n q = none → Q 0 M) (h1 : ∀ r, nxL n q = some r → ∀ M', OFr M M' → Ord n M' r → Q 1 M') : Calls 1 mX12_nextOrder [.inr 76, .inl n] M Q := by
  have find : ∀ (i : Nat), i + 1 < n → fiL q (n - 1) = i + 1 → ∀ (j : Nat), i ≤ j → j < n → fjL q i j = fjL q i (n - 1) → Go (km 1 mX12_nextOrder Q) 42 [some (.inr 76), some (.inl (n : Int)), some (.inl (i : Int)), some (.inl (j : Int)), none, none] [] M := by
    intro i hi hf j
    induction j with
    | zero =>
      intro hij hj he
      have i0 : i = 0 := by omega
      subst i0
      refine s_X12_nextOrder_42 _ _ _ M ?_
      rw [hO 0 (by omega)]
      refine ⟨by omega, by omega, fun _ => ?_, fun z => by exfalso; omega⟩
      refine q_swap n6 hl (by omega) (by omega) hO (fun M' f' hO' => ⟨by unfold cn; omega, by unfold cn; omega, ?_⟩)
      have hn : nxL n q = some (rvL 6 (swL q 0 0) 1 (n - 1)) := by
        unfold nxL
        rw [hf, if_neg (by omega), ← he]
        rfl
      have := q_rev (R := rvL 6 (swL q 0 0) 1 (n - 1)) (M0 := M) n6 (fun M2 f2 o2 => h1 _ hn M2 f2 o2) 6 1 (n - 1) (swL q 0 0) M' (by rw [swL_len]; exact hl) (by omega) (by omega) (by omega) f' hO' rfl
      rw [show ((n - 1 : Nat) : Int) = (n : Int) - 1 by omega] at this
      exact this
    | succ j ih =>
      intro hij hj he
      refine s_X12_nextOrder_42 _ _ _ M ?_
      rw [hO (j + 1) hj, hO i (by omega)]
      simp only [fjL] at he
      refine ⟨by omega, by omega, fun z => ?_, fun z => ⟨by unfold cn; omega, ?_⟩⟩
      · rw [if_neg (by omega)] at he
        refine q_swap n6 hl (by omega) hj hO (fun M' f' hO' => ⟨by unfold cn; omega, by unfold cn; omega, ?_⟩)
        have hn : nxL n q = some (rvL 6 (swL q i (j + 1)) (i + 1) (n - 1)) := by
          unfold nxL
          rw [hf, if_neg (by omega), show i + 1 - 1 = i by omega, ← he]
        have := q_rev (R := rvL 6 (swL q i (j + 1)) (i + 1) (n - 1)) (M0 := M) n6 (fun M2 f2 o2 => h1 _ hn M2 f2 o2) 6 (i + 1) (n - 1) (swL q i (j + 1)) M' (by rw [swL_len]; exact hl) (by omega) (by omega) (by omega) f' hO' rfl
        rw [show ((n - 1 : Nat) : Int) = (n : Int) - 1 by omega, show ((i + 1 : Nat) : Int) = (i : Int) + 1 by omega] at this
        exact this
      · rw [if_pos (by omega)] at he
        have hne : i ≠ j + 1 := fun e => by rw [← e] at z; omega
        have := ih (by omega) (by omega) he
        rw [show ((j + 1 : Nat) : Int) - 1 = (j : Int) by omega]
        exact this
  have up : ∀ (k : Nat), k < n → fiL q k = fiL q (n - 1) → Go (km 1 mX12_nextOrder Q) 4 [some (.inr 76), some (.inl (n : Int)), some (.inl ((k : Int) - 1)), none, none, none] [] M := by
    intro k
    induction k with
    | zero =>
      intro hk he
      have hn : nxL n q = none := by
        unfold nxL
        rw [← he]
        rfl
      exact s_X12_nextOrder_4 _ _ M ⟨fun _ => ⟨fun z => by exfalso; omega, fun _ => h0 hn⟩, fun z => by exfalso; omega⟩
    | succ k ih =>
      intro hk he
      rw [show ((k + 1 : Nat) : Int) - 1 = (k : Int) by omega]
      refine s_X12_nextOrder_4 _ _ M ?_
      have e1 : M 121 ((k : Int) + 1) = (q.getD (k + 1) 0 : Nat) := by
        have := hO (k + 1) hk
        rw [show ((k + 1 : Nat) : Int) = (k : Int) + 1 by omega] at this
        exact this
      rw [hO k (by omega), e1]
      simp only [fiL] at he
      refine ⟨fun z => by exfalso; omega, fun _ => ⟨by omega, by unfold cn; omega, by omega, fun z => ⟨fun _ => ⟨by unfold cn; omega, ?_⟩, fun y => by exfalso; omega⟩, fun z => ⟨by unfold cn; omega, ?_⟩⟩⟩
      · rw [if_neg (by omega)] at he
        have := find k hk he.symm (n - 1) (by omega) (by omega) rfl
        rw [show ((n - 1 : Nat) : Int) = (n : Int) - 1 by omega] at this
        exact this
      · rw [if_pos (by omega)] at he
        exact ih (by omega) he
  have := up (n - 1) (by omega) rfl
  rw [show ((n - 1 : Nat) : Int) - 1 = (n : Int) - 2 by omega] at this
  exact e_X12_nextOrder ⟨by unfold cn; omega, this⟩
theorem Tab2.mv {n : Nat} {rk pc : Int → Int → Int} {M M' : Me} (h : Tab2 n rk pc M) (f : OFr M M') : Tab2 n rk pc M' := fun x v hx hv => by rw [f 116 _ (by decide), f 116 _ (by decide)]; exact h x v hx hv
theorem q_count {Q : Int → Me → Prop} {M0 : Me} {n : Nat} {rk pc : Int → Int → Int} (n2 : 2 ≤ n) (n6 : n ≤ 6) (hT : Tab2 n rk pc M0) {R : Int} (hQ : ∀ M', OFr M0 M' → Q R M') :
    ∀ (l : List (List Nat)) (x : Int) (q : List Nat) (t : List (List Nat)) (M : Me), l = q :: t → (∀ r, r ∈ l → r.length = n ∧ r.Nodup ∧ ∀ y, y ∈ r → y < n) → chainL n l = true → 0 ≤ x → x + l.length ≤ 720 → OFr M0 M → Ord n M q → x + cntA rk pc l = R → Go (km 2 mX12_marriages Q) 104 [some (.inr 76), some (.inl (n : Int)), none, some (.inl x), some (.inl 1)] [] M := by
  intro l
  induction l with
  | nil => intro x q t M h; cases h
  | cons q t ih =>
    intro x q' t' M hqt hr hc x0 hx f hO hR
    cases hqt
    obtain ⟨hl, hnd, hb⟩ := hr q List.mem_cons_self
    simp only [List.length_cons] at hx
    have hcs : cntA rk pc (q :: t) = (if apB rk pc q = true then 1 else 0) + cntA rk pc t := rfl
    have next : ∀ (x' : Int), 0 ≤ x' → x' + t.length ≤ 720 → x' + cntA rk pc t = R → Calls 1 mX12_nextOrder [.inr 76, .inl (n : Int)] M (fun r123 M123 => Go (km 2 mX12_marriages Q) 104 [some (.inr 76), some (.inl (n : Int)), none, some (.inl x'), some (.inl r123)] [] M123) := fun x' a0 a1 a2 => by
      refine q_next n2 n6 hl hO (fun hn => ?_) (fun r hn M' f' hO' => ?_)
      · have ht : t = [] := by
          cases t with
          | nil => rfl
          | cons r t2 =>
            simp only [chainL, Bool.and_eq_true] at hc
            rw [hn] at hc
            exact absurd hc.1 (by simp)
        subst ht
        refine s_X12_marriages_104 _ _ _ M ⟨fun _ => ?_, fun z => absurd rfl z⟩
        have : x' = R := by rw [← a2]; simp [cntA, sumI]
        rw [this]
        exact hQ M f
      · cases t with
        | nil =>
          simp only [chainL] at hc
          rw [hn] at hc
          exact absurd hc (by simp)
        | cons r2 t2 =>
          simp only [chainL, Bool.and_eq_true] at hc
          rw [hn] at hc
          have e : r = r2 := by simpa using hc.1
          subst e
          exact ih x' r t2 M' rfl (fun s hs => hr s (List.mem_cons_of_mem _ hs)) hc.2 a0 a1 (fun k i z => (f' k i z).trans (f k i z)) hO' a2
    refine s_X12_marriages_104 _ _ _ M ⟨fun z => absurd z (by decide), fun _ => ?_⟩
    refine q_lasts n2 n6 (hT.mv f) hl hnd hb hO (fun z => ⟨fun y => absurd y (by decide), fun _ => ⟨by unfold cn; omega, next (x + 1) (by omega) (by omega) (by rw [← hR, hcs, if_pos z]; omega)⟩⟩) (fun z => ⟨fun _ => next x x0 (by omega) (by rw [← hR, hcs, if_neg (by rw [z]; decide)]; omega), fun y => absurd rfl y⟩)
theorem q_orders {Q : Int → Me → Prop} {M0 : Me} {n : Nat} {rk pc : Int → Int → Int} (n2 : 2 ≤ n) (n6 : n ≤ 6) (hT : Tab2 n rk pc M0) (hQ : ∀ M', OFr M0 M' → Q (cntA rk pc (px n n [])) M') : Go (km 2 mX12_marriages Q) 80 [some (.inr 76), some (.inl (n : Int)), none, some (.inl 0), some (.inl 0)] [] M0 := by
  have ini : ∀ (k i : Nat) (M : Me), i + k = n → OFr M0 M → (∀ j : Nat, j < i → M 121 j = (j : Int)) → Go (km 2 mX12_marriages Q) 80 [some (.inr 76), some (.inl (n : Int)), none, some (.inl 0), some (.inl (i : Int))] [] M := by
    intro k
    induction k with
    | zero =>
      intro i M hi f hd
      refine s_X12_marriages_80 _ _ _ M ⟨fun _ => ?_, fun z => by exfalso; omega⟩
      obtain ⟨c1, c2⟩ := chk_all n2 n6
      have hlen := px720 n2 n6
      have hmem := px_mem (n := n) n [] List.nodup_nil (fun x h => by cases h)
      cases hp : px n n [] with
      | nil => rw [hp] at c1; cases c1
      | cons q t =>
        rw [hp] at c1 c2 hlen hmem
        rw [hp] at hQ
        simp only [List.head?_cons, Option.some.injEq] at c1
        refine q_count n2 n6 hT hQ (q :: t) 0 q t M rfl (fun r hr => ?_) c2 (by omega) (by omega) f (fun j hj => ?_) (by omega)
        · obtain ⟨a, b, c, -⟩ := hmem r hr
          exact ⟨by simpa using a, b, c⟩
        · rw [c1, hd j (by omega)]
          have : (List.range n).getD j 0 = j := by simp [List.getD, hj]
          rw [this]
    | succ k ih =>
      intro i M hi f hd
      refine s_X12_marriages_80 _ _ _ M ⟨fun z => by exfalso; omega, fun _ => ⟨by omega, by unfold cn; omega, ?_⟩⟩
      have := ih (i + 1) (mput M 121 (i : Int) (i : Int)) (by omega) (fun k x z => by rw [mput_ne _ _ _ _ z]; exact f k x z) (fun j hj => by
        by_cases e : j = i
        · subst e; exact mput_same _ _ _ _
        · rw [mput_ni _ _ _ _ (by omega)]; exact hd j (by omega))
      rw [show ((i + 1 : Nat) : Int) = (i : Int) + 1 by omega] at this
      exact this
  exact ini n 0 M0 (by omega) (fun _ _ _ => rfl) (fun j hj => by omega)
