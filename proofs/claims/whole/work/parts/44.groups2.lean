def nrM (M : Me) (b : Int) (i j : Nat) : Prop := dst (M 77 (16 + (i : Int))) (M 77 (16 + (j : Int))) ≤ b
def Jg (n : Nat) (nr : Nat → Nat → Prop) (c a S B : Nat) : Prop := grownS n nr c S ∧ (∀ i, B.testBit i = true → S.testBit i = true) ∧ ∀ i j, i < a → j < n → B.testBit i = true → nr i j → S.testBit j = true
theorem l_X12_groupOf_31 {Q : Int → Me → Prop} {M : Me} {n c : Nat} {b : Int} (hN : M 76 11 = n) (hn : n ≤ 16) (hp : ∀ e : Int, 0 ≤ e → e < n → 0 ≤ M 77 (16 + e)) {B a : Nat} (han : a < n)
    (hk : ∀ S', Jg n (nrM M b) c (a + 1) S' B → Go (km 2 mX12_groupOf Q) 19 [some (.inr 76), none, some (.inl b), some (.inl (S' : Int)), some (.inl (B : Int)), some (.inl ((a + 1 : Nat) : Int)), none] [] M) :
    ∀ (k x S : Nat), x + k = n → Jg n (nrM M b) c a S B → (∀ j, j < x → B.testBit a = true → nrM M b a j → S.testBit j = true) → Go (km 2 mX12_groupOf Q) 31 [some (.inr 76), none, some (.inl b), some (.inl (S : Int)), some (.inl (B : Int)), some (.inl (a : Int)), some (.inl (x : Int))] [] M := by
  have h16 := pow16 hn
  have fin : ∀ S, Jg n (nrM M b) c a S B → (∀ j, j < n → B.testBit a = true → nrM M b a j → S.testBit j = true) → Jg n (nrM M b) c (a + 1) S B := by
    intro S hJ h
    refine ⟨hJ.1, hJ.2.1, fun i j hi hj hb hij => ?_⟩
    by_cases e : i = a
    · subst e; exact h j hj hb hij
    · exact hJ.2.2 i j (by omega) hj hb hij
  intro k
  induction k with
  | zero =>
    intro x S hx hJ hpart
    have : x = n := by omega
    subst this
    refine s_X12_groupOf_31 b S B a x M ⟨fun _ => ⟨by unfold cn; omega, hk S (fin S hJ hpart)⟩, fun v => by exfalso; omega⟩
  | succ k ih =>
    intro x S hx hJ hpart
    have hSl := hJ.1.1
    have hBl : B < 2 ^ n := mask_lt (fun j hj => mask_bit hSl (hJ.2.1 j hj))
    have hpa := hp a (by omega) (by omega)
    have hpx := hp x (by omega) (by omega)
    refine s_X12_groupOf_31 b S B a x M ⟨fun v => by exfalso; omega, fun _ => ?_⟩
    rw [has_iff (by omega) (by omega)]
    refine ⟨fun hb => ⟨by unfold cn; omega, by omega, by unfold cn; omega, by omega, hpa, hpx, fun hd => ⟨by unfold cn; omega, ?_⟩, fun hd => ⟨by unfold cn; omega, ?_⟩⟩, fun hb => ⟨by unfold cn; omega, hk S (fin S hJ (fun j _ h2 => absurd h2 hb))⟩⟩
    · refine ih (x + 1) S (by omega) hJ (fun j hj h2 h3 => ?_)
      by_cases e : j = x
      · subst e; exact absurd h3 (by unfold nrM; omega)
      · exact hpart j (by omega) h2 h3
    · rw [bshl_nat (by omega), bor_nat (by omega) (by have := pow16 (n := x) (by omega); omega)]
      have hxn : x < n := by omega
      have hor : ∀ i, (S ||| 2 ^ x).testBit i = true ↔ (S.testBit i = true ∨ x = i) := fun i => by rw [or_bit_self]; simp
      refine ih (x + 1) (S ||| 2 ^ x) (by omega) ⟨?_, fun i hi => (hor i).mpr (Or.inl (hJ.2.1 i hi)), fun i j hi hj h2 h3 => (hor j).mpr (Or.inl (hJ.2.2 i j hi hj h2 h3))⟩ (fun j hj h2 h3 => ?_)
      · refine grownS_or (a := a) hJ.1 (hJ.2.1 a hb) han (fun j hj => ?_)
        rw [Nat.testBit_two_pow] at hj
        have : x = j := by simpa using hj
        subst this
        exact ⟨hxn, hd⟩
      · by_cases e : j = x
        · exact (hor j).mpr (Or.inr e.symm)
        · exact (hor j).mpr (Or.inl (hpart j (by omega) h2 h3))
theorem l_X12_groupOf_19 {Q : Int → Me → Prop} {M : Me} {n c : Nat} {b : Int} (hN : M 76 11 = n) (hn : n ≤ 16) (hp : ∀ e : Int, 0 ≤ e → e < n → 0 ≤ M 77 (16 + e)) {B : Nat}
    (hk : ∀ S', Jg n (nrM M b) c n S' B → Go (km 2 mX12_groupOf Q) 7 [some (.inr 76), none, some (.inl b), some (.inl (S' : Int)), some (.inl (B : Int)), none, none] [] M) :
    ∀ (k a S : Nat), a + k = n → Jg n (nrM M b) c a S B → Go (km 2 mX12_groupOf Q) 19 [some (.inr 76), none, some (.inl b), some (.inl (S : Int)), some (.inl (B : Int)), some (.inl (a : Int)), none] [] M := by
  intro k
  induction k with
  | zero =>
    intro a S ha hJ
    have : a = n := by omega
    subst this
    exact s_X12_groupOf_19 b S B a M ⟨fun _ => hk S hJ, fun v => by exfalso; omega⟩
  | succ k ih =>
    intro a S ha hJ
    refine s_X12_groupOf_19 b S B a M ⟨fun v => by exfalso; omega, fun _ => ?_⟩
    exact l_X12_groupOf_31 hN hn hp (by omega) (fun S' hJ' => ih (a + 1) S' (by omega) hJ') n 0 S (by omega) hJ (fun j hj => by omega)
theorem l_X12_groupOf_7 {Q : Int → Me → Prop} {M : Me} {n c : Nat} {b : Int} (hN : M 76 11 = n) (hn : n ≤ 16) (hp : ∀ e : Int, 0 ≤ e → e < n → 0 ≤ M 77 (16 + e)) (hQ : ∀ X, leastS n (nrM M b) c X → Q (X : Int) M) :
    ∀ (m S B : Nat), n - cntb B n ≤ m → Jg n (nrM M b) c n S B → Go (km 2 mX12_groupOf Q) 7 [some (.inr 76), none, some (.inl b), some (.inl (S : Int)), some (.inl (B : Int)), none, none] [] M := by
  intro m
  induction m with
  | zero =>
    intro S B hm hJ
    have hfull := cntb_full (x := B) n (by have := cntb_le B n; omega)
    have e : S = B := by
      apply Nat.eq_of_testBit_eq
      intro i
      have h2 := hJ.2.1 i
      cases hx : S.testBit i <;> cases hy : B.testBit i
      · rfl
      · rw [h2 hy] at hx; cases hx
      · have := hfull i (mask_bit hJ.1.1 hx)
        rw [this] at hy; cases hy
      · rfl
    subst e
    exact s_X12_groupOf_7 b S S M ⟨fun _ => hQ S ⟨hJ.1.1, hJ.1.2.1, fun i j hi hj hb hij => hJ.2.2 i j hi hj hb hij, hJ.1.2.2⟩, fun v => absurd rfl v⟩
  | succ m ih =>
    intro S B hm hJ
    refine s_X12_groupOf_7 b S B M ⟨fun v => ?_, fun v => ?_⟩
    · have e : S = B := by omega
      subst e
      exact hQ S ⟨hJ.1.1, hJ.1.2.1, fun i j hi hj hb hij => hJ.2.2 i j hi hj hb hij, hJ.1.2.2⟩
    · have hlt : cntb B n < cntb S n := by
        have hex : ∃ i, S.testBit i = true ∧ B.testBit i = false := by
          apply Classical.byContradiction
          intro hno
          apply v
          have : S = B := by
            apply Nat.eq_of_testBit_eq
            intro i
            have h2 := hJ.2.1 i
            cases hx : S.testBit i <;> cases hy : B.testBit i
            · rfl
            · rw [h2 hy] at hx; cases hx
            · exact absurd ⟨i, hx, hy⟩ hno
            · rfl
          rw [this]
        obtain ⟨i, h1, h2⟩ := hex
        exact cntb_strict n (fun j _ => hJ.2.1 j) i (mask_bit hJ.1.1 h1) h2 h1
      exact l_X12_groupOf_19 hN hn hp (fun S' hJ' => ih S' S (by omega) hJ') n 0 S (by omega) ⟨hJ.1, fun i hi => hi, fun i j hi => by omega⟩
theorem p_X12_groupOf {Q : Int → Me → Prop} {M : Me} {n c : Nat} {b : Int} (hN : M 76 11 = n) (hn : n ≤ 16) (hp : ∀ e : Int, 0 ≤ e → e < n → 0 ≤ M 77 (16 + e)) (hc : c < n) (hQ : ∀ X, leastS n (nrM M b) c X → Q (X : Int) M) : Calls 2 mX12_groupOf [.inr 76, .inl (c : Int), .inl b] M Q := by
  refine e_X12_groupOf ?_
  rw [bshl_nat (by omega)]
  exact l_X12_groupOf_7 hN hn hp hQ n (2 ^ c) 0 (by omega) ⟨grownS_1 hc, fun i hi => by simp at hi, fun i j _ _ hi => by simp at hi⟩
/-! groups -/
noncomputable def chosen (P : Nat → Prop) : Nat := Classical.epsilon P
theorem chosen_of {n c X : Nat} {nr : Nat → Nat → Prop} (h : leastS n nr c X) : chosen (leastS n nr c) = X := leastS_uniq (Classical.epsilon_spec ⟨X, h⟩) h
theorem leastS_congr {n c : Nat} {nr nr' : Nat → Nat → Prop} (h : ∀ i j, i < n → j < n → (nr i j ↔ nr' i j)) : leastS n nr c = leastS n nr' c := by
  have hc : ∀ Y, closedS n nr Y ↔ closedS n nr' Y := fun Y => ⟨fun q a b ha hb hy hr => q a b ha hb hy ((h a b ha hb).mpr hr), fun q a b ha hb hy hr => q a b ha hb hy ((h a b ha hb).mp hr)⟩
  funext X
  unfold leastS
  simp only [hc]
noncomputable def grpS (n : Nat) (nr : Nat → Nat → Prop) (c : Int) (x : Int × Int) : Int × Int := if band (bshr x.2 c) 1 = 1 then x else (x.1 + 1, bor x.2 ((chosen (leastS n nr c.toNat) : Nat) : Int))
theorem l_X11_groups {Q : Int → Me → Prop} {M : Me} {n : Nat} {b : Int} (hN : M 3 8 = n) (hn : n ≤ 16) (hp : ∀ e, 0 ≤ e → e < M 3 8 → 0 ≤ M 39 e) : ∀ (k c f S : Nat), c + k = n → f ≤ c → S < 2 ^ n → Q (iter (grpS n (nrX M b)) k (c : Int) ((f : Int), (S : Int))).1 M → Go (km 4 mX11_groups Q) 47 [some (.inr 0), some (.inl b), none, some (.inl (f : Int)), some (.inl (S : Int)), some (.inl (c : Int))] [] M := by
  have h16 := pow16 hn
  intro k
  induction k with
  | zero =>
    intro c f S hc hf hS hQ
    exact s_X11_groups_47 b f S c M ⟨fun _ => hQ, fun v => by exfalso; omega⟩
  | succ k ih =>
    intro c f S hc hf hS hQ
    simp only [iter, grpS] at hQ
    refine s_X11_groups_47 b f S c M ⟨fun v => by exfalso; omega, fun _ => ⟨fun v => ⟨by unfold cn; omega, ?_⟩, fun v => ⟨by unfold cn; omega, ?_⟩⟩⟩
    · rw [ne_eq, has_iff0 (by omega) (by omega), Bool.not_eq_false] at v
      rw [if_pos ((has_iff (by omega) (by omega)).mpr v)] at hQ
      exact ih (c + 1) f S (by omega) (by omega) hS hQ
    · rw [has_iff0 (by omega) (by omega)] at v
      rw [if_neg (fun q => by rw [(has_iff (by omega) (by omega)).mp q] at v; cases v)] at hQ
      refine p_X11_groupOf hN hn hp (by omega) (fun X hX => ⟨by unfold cn; omega, ?_⟩)
      have hXl := hX.1
      rw [Int.toNat_natCast, chosen_of hX, bor_nat (by omega) (by omega)] at hQ
      rw [bor_nat (by omega) (by omega)]
      exact ih (c + 1) (f + 1) (S ||| X) (by omega) (by omega) (Nat.or_lt_two_pow hS hXl) hQ
theorem l_X12_groups {Q : Int → Me → Prop} {M : Me} {n : Nat} {b : Int} (hN : M 76 11 = n) (hn : n ≤ 16) (hp : ∀ e : Int, 0 ≤ e → e < n → 0 ≤ M 77 (16 + e)) : ∀ (k c f S : Nat), c + k = n → f ≤ c → S < 2 ^ n → Q (iter (grpS n (nrM M b)) k (c : Int) ((f : Int), (S : Int))).1 M → Go (km 3 mX12_groups Q) 47 [some (.inr 76), some (.inl b), none, some (.inl (f : Int)), some (.inl (S : Int)), some (.inl (c : Int))] [] M := by
  have h16 := pow16 hn
  intro k
  induction k with
  | zero =>
    intro c f S hc hf hS hQ
    exact s_X12_groups_47 b f S c M ⟨fun _ => hQ, fun v => by exfalso; omega⟩
  | succ k ih =>
    intro c f S hc hf hS hQ
    simp only [iter, grpS] at hQ
    refine s_X12_groups_47 b f S c M ⟨fun v => by exfalso; omega, fun _ => ⟨fun v => ⟨by unfold cn; omega, ?_⟩, fun v => ?_⟩⟩
    · rw [if_pos v] at hQ
      exact ih (c + 1) f S (by omega) (by omega) hS hQ
    · rw [if_neg v] at hQ
      refine p_X12_groupOf hN hn hp (by omega) (fun X hX => ⟨by unfold cn; omega, by unfold cn; omega, ?_⟩)
      have hXl := hX.1
      rw [Int.toNat_natCast, chosen_of hX, bor_nat (by omega) (by omega)] at hQ
      rw [bor_nat (by omega) (by omega)]
      exact ih (c + 1) (f + 1) (S ||| X) (by omega) (by omega) (Nat.or_lt_two_pow hS hXl) hQ
theorem o_groups {M : Me} (hC : RCuts M) (hS : RSt 37 77 (M 3 8) M) (a w : Int) (P : Me → Prop) (hP : P M) : Calls 4 mX11_groups [.inr 0, .inl a, .inl w] M (fun r M1 => Calls 3 mX12_groups [.inr 76, .inl a, .inl w] M1 (fun r' M2 => r = r' ∧ P M2)) := by
  obtain ⟨h0, h1, h2, h3⟩ := hC
  obtain ⟨n, hn⟩ : ∃ n : Nat, M 3 8 = n := ⟨(M 3 8).toNat, by omega⟩
  have hpl : ∀ e, 0 ≤ e → e < M 3 8 → 0 ≤ M 39 e ∧ M 77 (16 + e) = M 39 e := fun e e0 e1 => by
    obtain ⟨⟨-, q, -⟩, -, q2, -⟩ := hS.1 e e0 e1
    exact ⟨q.1, q2⟩
  have hnr : ∀ i j, i < n → j < n → (nrX M a i j ↔ nrM M a i j) := fun i j hi hj => by
    unfold nrX nrM
    rw [(hpl i (by omega) (by omega)).2, (hpl j (by omega) (by omega)).2]
  have hpx : ∀ e, 0 ≤ e → e < M 3 8 → 0 ≤ M 39 e := fun e e0 e1 => (hpl e e0 e1).1
  have hpm : ∀ e : Int, 0 ≤ e → e < n → 0 ≤ M 77 (16 + e) := fun e e0 e1 => by have := hpl e e0 (by omega); omega
  have hN : M 76 11 = n := by omega
  have hnn : n ≤ 16 := by omega
  have hls : ∀ c, leastS n (nrX M a) c = leastS n (nrM M a) c := fun c => leastS_congr hnr
  by_cases hr : (0 ≤ a ∧ a ≤ 38) ∧ (w = 100 ∨ (0 ≤ w ∧ w < M 3 8))
  · by_cases hw : w = 100
    · subst hw
      refine e_X11_groups ⟨fun v1 => (by exfalso; omega), fun v1 => ⟨fun v2 => (by exfalso; omega), fun v2 => ⟨fun v3 => ⟨fun v4 => (by refine l_X11_groups hn hnn hpx n 0 0 0 (by omega) (by omega) (Nat.two_pow_pos n) (e_X12_groups ⟨fun v20 => ⟨fun v21 => ⟨fun v22 => (by refine l_X12_groups hN hnn hpm n 0 0 0 (by omega) (by omega) (Nat.two_pow_pos n) ⟨?_, hP⟩; exact congrArg Prod.fst (iter_congr _ _ _ (fun i _ _ x => by simp only [grpS, hls]))), fun v22 => (by exfalso; omega)⟩, fun v21 => ⟨by first | omega | (unfold cn; omega), ⟨fun v22 => ⟨fun v23 => (by refine l_X12_groups hN hnn hpm n 0 0 0 (by omega) (by omega) (Nat.two_pow_pos n) ⟨?_, hP⟩; exact congrArg Prod.fst (iter_congr _ _ _ (fun i _ _ x => by simp only [grpS, hls]))), fun v23 => (by exfalso; omega)⟩, fun v22 => (by exfalso; omega)⟩⟩⟩, fun v20 => (by exfalso; omega)⟩)), fun v4 => (by exfalso; omega)⟩, fun v3 => ⟨fun v4 => ⟨fun v5 => (by refine l_X11_groups hn hnn hpx n 0 0 0 (by omega) (by omega) (Nat.two_pow_pos n) (e_X12_groups ⟨fun v20 => ⟨fun v21 => ⟨fun v22 => (by refine l_X12_groups hN hnn hpm n 0 0 0 (by omega) (by omega) (Nat.two_pow_pos n) ⟨?_, hP⟩; exact congrArg Prod.fst (iter_congr _ _ _ (fun i _ _ x => by simp only [grpS, hls]))), fun v22 => (by exfalso; omega)⟩, fun v21 => ⟨by first | omega | (unfold cn; omega), ⟨fun v22 => ⟨fun v23 => (by refine l_X12_groups hN hnn hpm n 0 0 0 (by omega) (by omega) (Nat.two_pow_pos n) ⟨?_, hP⟩; exact congrArg Prod.fst (iter_congr _ _ _ (fun i _ _ x => by simp only [grpS, hls]))), fun v23 => (by exfalso; omega)⟩, fun v22 => (by exfalso; omega)⟩⟩⟩, fun v20 => (by exfalso; omega)⟩)), fun v5 => (by exfalso; omega)⟩, fun v4 => (by exfalso; omega)⟩⟩⟩⟩
    · obtain ⟨c, hc⟩ : ∃ c : Nat, w = c := ⟨w.toNat, by omega⟩
      subst hc
      have fin : ∀ X, leastS n (nrX M a) c X → Calls 3 mX12_groups [.inr 76, .inl a, .inl (c : Int)] M (fun r' M2 => (X : Int) = r' ∧ P M2) := by
        intro X hX
        refine e_X12_groups ⟨fun v1 => ⟨fun v2 => ⟨fun v3 => (by exfalso; omega), fun v3 => (by refine p_X12_groupOf hN hnn hpm (by omega) (fun Y hY => ⟨?_, hP⟩); rw [← hls] at hY; rw [leastS_uniq hX hY])⟩, fun v2 => ⟨by first | omega | (unfold cn; omega), ⟨fun v3 => ⟨fun v4 => (by exfalso; omega), fun v4 => (by refine p_X12_groupOf hN hnn hpm (by omega) (fun Y hY => ⟨?_, hP⟩); rw [← hls] at hY; rw [leastS_uniq hX hY])⟩, fun v3 => (by exfalso; omega)⟩⟩⟩, fun v1 => (by exfalso; omega)⟩
      refine e_X11_groups ⟨fun v1 => (by exfalso; omega), fun v1 => ⟨fun v2 => (by exfalso; omega), fun v2 => ⟨fun v3 => ⟨fun v4 => (by exfalso; omega), fun v4 => (by exact p_X11_groupOf hn hnn hpx (by omega) (fun X hX => fin X hX))⟩, fun v3 => ⟨fun v4 => ⟨fun v5 => (by exfalso; omega), fun v5 => (by exact p_X11_groupOf hn hnn hpx (by omega) (fun X hX => fin X hX))⟩, fun v4 => (by exfalso; omega)⟩⟩⟩⟩
  · have fin : Calls 3 mX12_groups [.inr 76, .inl a, .inl w] M (fun r' M2 => (-1 : Int) = r' ∧ P M2) := by
      refine e_X12_groups ⟨fun v1 => ⟨fun v2 => ⟨fun v3 => (by exfalso; omega), fun v3 => (by exfalso; omega)⟩, fun v2 => ⟨by first | omega | (unfold cn; omega), ⟨fun v3 => ⟨fun v4 => (by exfalso; omega), fun v4 => (by exfalso; omega)⟩, fun v3 => (by first | exact ⟨rfl, hP⟩ | (exfalso; omega))⟩⟩⟩, fun v1 => (by first | exact ⟨rfl, hP⟩ | (exfalso; omega))⟩
    refine e_X11_groups ⟨fun v1 => (by first | exact fin | (exfalso; omega)), fun v1 => ⟨fun v2 => (by first | exact fin | (exfalso; omega)), fun v2 => ⟨fun v3 => ⟨fun v4 => (by exfalso; omega), fun v4 => (by exfalso; omega)⟩, fun v3 => ⟨fun v4 => ⟨fun v5 => (by exfalso; omega), fun v5 => (by exfalso; omega)⟩, fun v4 => (by first | exact fin | (exfalso; omega))⟩⟩⟩⟩
