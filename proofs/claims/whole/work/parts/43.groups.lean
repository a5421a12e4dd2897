/-! nearTo -/
theorem l_X11_nearTo {Q : Int → Me → Prop} {M : Me} {a b : Int} (hn : M 3 8 ≤ 16) (ha : 0 ≤ a ∧ a < M 3 8) (hp : ∀ e, 0 ≤ e → e < M 3 8 → 0 ≤ M 39 e) : ∀ (k : Nat) (acc c : Int), 0 ≤ c → c + k = M 3 8 → Q (iter (bitS (fun d => dst (M 39 a) (M 39 d) ≤ b)) k c acc) M → Go (km 2 mX11_nearTo Q) 5 [some (.inr 0), some (.inl a), some (.inl b), some (.inl acc), some (.inl c)] [] M := by
  intro k
  induction k with
  | zero => intro acc c h0 hk hQ; exact s_X11_nearTo_5 a b acc c M ⟨fun v1 => (by first | exact hQ | (exfalso; omega)), fun v1 => ⟨by first | omega | (exfalso; omega), ⟨by first | omega | (exfalso; omega), ⟨by first | omega | (exfalso; omega), ⟨by first | omega | (exfalso; omega), ⟨fun v2 => ⟨by first | omega | (exfalso; omega), (by first | exact hQ | (exfalso; omega))⟩, fun v2 => ⟨by first | omega | (exfalso; omega), (by first | exact hQ | (exfalso; omega))⟩⟩⟩⟩⟩⟩⟩
  | succ k ih =>
    intro acc c h0 hk hQ
    simp only [iter, bitS] at hQ
    have hpa := hp a ha.1 ha.2
    have hpc := hp c (by omega) (by omega)
    exact s_X11_nearTo_5 a b acc c M ⟨fun v1 => (by exfalso; omega), fun v1 => ⟨by first | omega | (unfold cn; omega), ⟨by first | omega | (unfold cn; omega), ⟨by first | omega | (unfold cn; omega), ⟨by first | omega | (unfold cn; omega), ⟨fun v2 => ⟨by first | omega | (unfold cn; omega), (by refine ih _ _ (by omega) (by omega) ?_; first | (rw [if_pos (by omega)] at hQ; exact hQ) | (rw [if_neg (by omega)] at hQ; exact hQ))⟩, fun v2 => ⟨by first | omega | (unfold cn; omega), (by refine ih _ _ (by omega) (by omega) ?_; first | (rw [if_pos (by omega)] at hQ; exact hQ) | (rw [if_neg (by omega)] at hQ; exact hQ))⟩⟩⟩⟩⟩⟩⟩
/-- places: those of the class now -/
def nrX (M : Me) (b : Int) (i j : Nat) : Prop := dst (M 39 (i : Int)) (M 39 (j : Int)) ≤ b
theorem p_X11_nearTo {Q : Int → Me → Prop} {M : Me} {a n : Nat} {b : Int} (hN : M 3 8 = n) (hn : n ≤ 16) (ha : a < n) (hp : ∀ e, 0 ≤ e → e < M 3 8 → 0 ≤ M 39 e) (h : ∀ B : Nat, B < 2 ^ n → (∀ j, B.testBit j = true ↔ (j < n ∧ nrX M b a j)) → Q (B : Int) M) : Calls 2 mX11_nearTo [.inr 0, .inl (a : Int), .inl b] M Q := by
  obtain ⟨B, h1, h2, h3⟩ := iter_bits0 (fun d => dst (M 39 (a : Int)) (M 39 d) ≤ b) n hn
  refine e_X11_nearTo (l_X11_nearTo (by omega) (by omega) hp n _ _ (by omega) (by omega) ?_)
  rw [h1]
  exact h B h2 (fun j => by rw [h3 j]; simp [nrX])
/-! groupOf of the class -/
theorem l_X11_groupOf {Q : Int → Me → Prop} {M : Me} {n c : Nat} {b : Int} (hN : M 3 8 = n) (hn : n ≤ 16) (hp : ∀ e, 0 ≤ e → e < M 3 8 → 0 ≤ M 39 e) (hc : c < n) (hQ : ∀ X, leastS n (nrX M b) c X → Q (X : Int) M) : ∀ (k g G A : Nat), g + k = n → grownS n (nrX M b) c G → (∀ i, A.testBit i = true → G.testBit i = true) → (∀ i j, i < n → j < n → A.testBit i = true → nrX M b i j → G.testBit j = true) → cntb A n = g → Go (km 3 mX11_groupOf Q) 10 [some (.inr 0), none, some (.inl b), some (.inl (G : Int)), some (.inl (A : Int)), some (.inl (g : Int)), none] [] M := by
  have h16 := pow16 hn
  intro k
  induction k with
  | zero =>
    intro g G A hg hG hAG hcl hcnt
    have hA : ∀ i, i < n → A.testBit i = true := cntb_full n (by omega)
    refine s_X11_groupOf_10 b G A g M ⟨fun _ => hQ G ⟨hG.1, hG.2.1, fun i j hi hj _ hij => hcl i j hi hj (hA i hi) hij, hG.2.2⟩, fun v => by exfalso; omega⟩
  | succ k ih =>
    intro g G A hg hG hAG hcl hcnt
    have hGl := hG.1
    have hAl : A < 2 ^ n := mask_lt (fun j hj => mask_bit hGl (hAG j hj))
    refine s_X11_groupOf_10 b G A g M ⟨fun v => by exfalso; omega, fun _ => ⟨fun v => ?_, fun v => ?_⟩⟩
    · have e : A = G := by omega
      subst e
      exact hQ A ⟨hG.1, hG.2.1, fun i j hi hj hb hij => hcl i j hi hj hb hij, hG.2.2⟩
    · rw [bnot_nat (by omega) (by omega)]
      have hd : 0 < mdiff G A := by
        rcases Nat.eq_zero_or_pos (mdiff G A) with q | q
        · exfalso
          apply v
          have : A = G := by
            apply Nat.eq_of_testBit_eq
            intro i
            have h1 := mdiff_bit G A i
            rw [q, Nat.zero_testBit] at h1
            have h2 := hAG i
            cases hx : A.testBit i <;> cases hy : G.testBit i
            · rfl
            · rw [hx, hy] at h1; cases h1
            · rw [h2 hx] at hy; cases hy
            · rfl
          rw [this]
        · exact q
      have hdl : mdiff G A < 65536 := by
        have : mdiff G A < 2 ^ n := mask_lt (fun j hj => by rw [mdiff_bit, Bool.and_eq_true] at hj; exact mask_bit hGl hj.1)
        omega
      refine p_ntz hd hdl (fun t ht htb => ?_)
      rw [mdiff_bit, Bool.and_eq_true, Bool.not_eq_true'] at htb
      have htn : t < n := mask_bit hGl htb.1
      refine p_X11_nearTo hN hn htn hp (fun B hB hBb => ?_)
      rw [bor_nat (by omega) (by omega), bshl_nat (by omega), bor_nat (by omega) (by have := pow16 (n := t) (by omega); omega)]
      refine ⟨by unfold cn; omega, ?_⟩
      have hor : ∀ i, (A ||| 2 ^ t).testBit i = true → A.testBit i = true ∨ t = i := fun i hi => by
        rw [or_bit_self, Bool.or_eq_true] at hi
        simpa using hi
      refine ih (g + 1) (G ||| B) (A ||| 2 ^ t) (by omega) (grownS_or hG htb.1 htn (fun j hj => (hBb j).mp hj)) (fun i hi => ?_) (fun i j hi hj hb hij => ?_) ?_
      · rw [Nat.testBit_or, Bool.or_eq_true]
        rcases hor i hi with q | q
        · exact Or.inl (hAG i q)
        · exact Or.inl (by rw [← q]; exact htb.1)
      · rw [Nat.testBit_or, Bool.or_eq_true]
        rcases hor i hb with q | q
        · exact Or.inl (hcl i j hi hj q hij)
        · subst q
          exact Or.inr ((hBb j).mpr ⟨hj, hij⟩)
      · rw [cntb_add n htn htb.2, hcnt]
theorem p_X11_groupOf {Q : Int → Me → Prop} {M : Me} {n c : Nat} {b : Int} (hN : M 3 8 = n) (hn : n ≤ 16) (hp : ∀ e, 0 ≤ e → e < M 3 8 → 0 ≤ M 39 e) (hc : c < n) (hQ : ∀ X, leastS n (nrX M b) c X → Q (X : Int) M) : Calls 3 mX11_groupOf [.inr 0, .inl (c : Int), .inl b] M Q := by
  refine e_X11_groupOf ?_
  rw [bshl_nat (by omega)]
  exact l_X11_groupOf hN hn hp hc hQ n 0 (2 ^ c) 0 (by omega) (grownS_1 hc) (fun i hi => by simp at hi) (fun i j _ _ hi => by simp at hi) (cntb_zero n)
