/-! ===== the reference's round ===== -/
def Fr112 (M M' : Me) : Prop := ∀ k i, k ≠ 112 → M' k i = M k i
def gyOK (p : Nat → Int) (m v : Nat) (M : Me) : Prop := ∀ V l : Nat, v ≤ V → V < 2 ^ m → l < m → M 112 (9 * (V : Int) + l) = gw p m (mdiff (2 ^ m - 1) V) l
theorem all_bit {m V e : Nat} (he : e < m) : (mdiff (2 ^ m - 1) V).testBit e = !V.testBit e := by
  rw [mdiff_bit, Nat.testBit_two_pow_sub_one]
  simp [he]
theorem all_rm {m V e : Nat} : rm (mdiff (2 ^ m - 1) V) e = mdiff (2 ^ m - 1) (V ||| 2 ^ e) := by
  apply Nat.eq_of_testBit_eq
  intro j
  rw [rm_bit, mdiff_bit, mdiff_bit, or_bit_self]
  cases (2 ^ m - 1).testBit j <;> cases V.testBit j <;> simp
theorem all_lt (m V : Nat) : mdiff (2 ^ m - 1) V < 2 ^ m := mask_lt (fun j hj => by
  rw [mdiff_bit, Nat.testBit_two_pow_sub_one, Bool.and_eq_true] at hj
  simpa using hj.1)
theorem l_X12_lays_60 {Q : Int → Me → Prop} {M0 : Me} {p : Nat → Int} {m V l : Nat} (hm : m ≤ 9) (hM : M0 76 52 = m) (hp : ∀ e, e < m → pl (p e)) (hso : ∀ e : Nat, e < m → (0 ≤ M0 113 (e : Int) ∧ M0 113 (e : Int) < 16) ∧ M0 80 (M0 113 (e : Int)) = p e) (hV0 : 0 < V) (hV : V < 2 ^ m) (hl : l < m)
    (hk : ∀ M, Fr112 M0 M → gyOK p m (V + 1) M → (∀ g : Nat, g < l + 1 → M 112 (9 * (V : Int) + g) = gw p m (mdiff (2 ^ m - 1) V) g) → Go (km 2 mX12_laysRound Q) 17 [some (.inr 76), some (.inl ((2 ^ m - 1 : Nat) : Int)), some (.inl (V : Int)), some (.inl ((l + 1 : Nat) : Int)), none, none, none] [] M)
    (M : Me) (fr : Fr112 M0 M) (ht : gyOK p m (V + 1) M) (hg : ∀ g : Nat, g < l → M 112 (9 * (V : Int) + g) = gw p m (mdiff (2 ^ m - 1) V) g) :
    ∀ (k e : Nat) (x : Int), e + k = m → x = (if V = 2 ^ m - 1 then dst (p l) 0 else mnI 1000000 (mdiff (2 ^ m - 1) V) (fun e => dst (p l) (p e) + gw p m (rm (mdiff (2 ^ m - 1) V) e) e) e) → Go (km 2 mX12_laysRound Q) 60 [some (.inr 76), some (.inl ((2 ^ m - 1 : Nat) : Int)), some (.inl (V : Int)), some (.inl (l : Int)), some (.inl (p l)), some (.inl x), some (.inl (e : Int))] [] M := by
  have h9 := pow9 hm
  have hpos := Nat.two_pow_pos m
  intro k
  induction k with
  | zero =>
    intro e x he hx
    have : e = m := by omega
    subst this
    have hval : x = gw p e (mdiff (2 ^ e - 1) V) l := by
      rw [hx]
      by_cases q : V = 2 ^ e - 1
      · rw [if_pos q]
        have : mdiff (2 ^ e - 1) V = 0 := by
          rw [q]
          apply Nat.eq_of_testBit_eq
          intro j
          rw [mdiff_bit, Nat.zero_testBit]
          cases (2 ^ e - 1).testBit j <;> rfl
        rw [this, gw_0]
      · rw [if_neg q]
        have h0 : 0 < mdiff (2 ^ e - 1) V := by
          rcases Nat.eq_zero_or_pos (mdiff (2 ^ e - 1) V) with z | z
          · exfalso
            apply q
            apply Nat.eq_of_testBit_eq
            intro j
            have h1 := mdiff_bit (2 ^ e - 1) V j
            rw [z, Nat.zero_testBit, Nat.testBit_two_pow_sub_one] at h1
            rw [Nat.testBit_two_pow_sub_one]
            cases hv : V.testBit j
            · rw [hv] at h1; simpa using h1
            · have := mask_bit hV hv; simpa using this
          · exact z
        rw [gw_S p e l h0]
    refine s_X12_laysRound_60 _ V l (p l) x e M ?_
    rw [fr 76 52 (by decide), hM]
    refine ⟨fun _ => ⟨by unfold cn; omega, by unfold cn; omega, by omega, by unfold cn; omega, ?_⟩, fun v => by exfalso; omega⟩
    refine hk _ (fun k i h => (mput_ne _ _ _ _ h).trans (fr k i h)) (fun W g h1 h2 h3 => ?_) (fun g hgl => ?_)
    · rw [mput_ni _ _ _ _ (by omega)]; exact ht W g h1 h2 h3
    · by_cases q : g = l
      · subst q; rw [mput_same, hval]
      · rw [mput_ni _ _ _ _ (by omega)]; exact hg g (by omega)
  | succ k ih =>
    intro e x he hx
    have hem : e < m := by omega
    have hstep : mnI 1000000 (mdiff (2 ^ m - 1) V) (fun e => dst (p l) (p e) + gw p m (rm (mdiff (2 ^ m - 1) V) e) e) (e + 1) = if (mdiff (2 ^ m - 1) V).testBit e = true then min (mnI 1000000 (mdiff (2 ^ m - 1) V) (fun e => dst (p l) (p e) + gw p m (rm (mdiff (2 ^ m - 1) V) e) e) e) (dst (p l) (p e) + gw p m (rm (mdiff (2 ^ m - 1) V) e) e) else mnI 1000000 (mdiff (2 ^ m - 1) V) (fun e => dst (p l) (p e) + gw p m (rm (mdiff (2 ^ m - 1) V) e) e) e := rfl
    obtain ⟨s1, s2⟩ := hso e hem
    have ple := hp e hem
    have pll := hp l hl
    have hd := dst_b pll ple
    unfold pl at ple pll
    refine s_X12_laysRound_60 _ V l (p l) x e M ?_
    rw [fr 76 52 (by decide), hM, fr 113 e (by decide), fr 80 _ (by decide), s2, has_iff (by omega) (by omega)]
    refine ⟨fun v => by exfalso; omega, fun _ => ⟨fun hb => ⟨by unfold cn; omega, ih (e + 1) x (by omega) ?_⟩, fun hb => ?_⟩⟩
    · rw [hstep, if_neg (show ¬ (mdiff (2 ^ m - 1) V).testBit e = true by rw [all_bit hem, hb]; simp)]
      exact hx
    · have hbf : V.testBit e = false := by simpa using hb
      have hb' : (mdiff (2 ^ m - 1) V).testBit e = true := by rw [all_bit hem, hbf]; rfl
      have hne : V ≠ 2 ^ m - 1 := fun q => by
        have : V.testBit e = true := by rw [q, Nat.testBit_two_pow_sub_one]; simpa using hem
        rw [this] at hbf; cases hbf
      have h2e : 2 ^ e < 2 ^ m := Nat.pow_lt_pow_right (by omega) hem
      have hor : V ||| 2 ^ e < 2 ^ m := Nat.or_lt_two_pow hV h2e
      have hgt : V + 1 ≤ V ||| 2 ^ e := by
        have h1 : V ≤ V ||| 2 ^ e := Nat.left_le_or
        have h2 : V ≠ V ||| 2 ^ e := fun q => by
          have := or_bit_self V e e
          rw [← q, hbf] at this
          simp at this
        omega
      rw [bshl_nat (by omega), bor_nat (by omega) (by omega), ht (V ||| 2 ^ e) e hgt hor hem, ← all_rm]
      have hgb := gw_400 hm hp (R := rm (mdiff (2 ^ m - 1) V) e) (f := e) (by have := rm_lt hb'; have := all_lt m V; omega) hem
      refine ⟨by omega, s1, by omega, by omega, by unfold cn; omega, by unfold cn; omega, by omega, by unfold cn; omega, by unfold cn; omega, ih (e + 1) _ (by omega) ?_⟩
      rw [if_neg hne] at hx ⊢
      rw [hstep, if_pos hb', hx]
theorem l_X12_lays_17 {Q : Int → Me → Prop} {M0 : Me} {p : Nat → Int} {m V : Nat} (hm : m ≤ 9) (hM : M0 76 52 = m) (hp : ∀ e, e < m → pl (p e)) (hso : ∀ e : Nat, e < m → (0 ≤ M0 113 (e : Int) ∧ M0 113 (e : Int) < 16) ∧ M0 80 (M0 113 (e : Int)) = p e) (hV0 : 0 < V) (hV : V < 2 ^ m)
    (hk : ∀ M, Fr112 M0 M → gyOK p m V M → Go (km 2 mX12_laysRound Q) 11 [some (.inr 76), some (.inl ((2 ^ m - 1 : Nat) : Int)), some (.inl ((V : Int) + -1)), none, none, none, none] [] M) :
    ∀ (k l : Nat) (M : Me), l + k = m → Fr112 M0 M → gyOK p m (V + 1) M → (∀ g : Nat, g < l → M 112 (9 * (V : Int) + g) = gw p m (mdiff (2 ^ m - 1) V) g) → Go (km 2 mX12_laysRound Q) 17 [some (.inr 76), some (.inl ((2 ^ m - 1 : Nat) : Int)), some (.inl (V : Int)), some (.inl (l : Int)), none, none, none] [] M := by
  have h9 := pow9 hm
  intro k
  induction k with
  | zero =>
    intro l M hl fr ht hg
    refine s_X12_laysRound_17 _ V l M ?_
    rw [fr 76 52 (by decide), hM]
    refine ⟨fun _ => ⟨by unfold cn; omega, hk M fr (fun W g h1 h2 h3 => ?_)⟩, fun v => by exfalso; omega⟩
    by_cases q : W = V
    · subst q; exact hg g (by omega)
    · exact ht W g (by omega) h2 h3
  | succ k ih =>
    intro l M hl fr ht hg
    have hlm : l < m := by omega
    obtain ⟨s1, s2⟩ := hso l hlm
    have pll := hp l hlm
    unfold pl at pll
    refine s_X12_laysRound_17 _ V l M ?_
    rw [fr 76 52 (by decide), hM, fr 113 l (by decide), fr 80 _ (by decide), s2]
    refine ⟨fun v => by exfalso; omega, fun _ => ⟨by omega, s1, fun v => ?_, fun v => ⟨by omega, by omega, ?_⟩⟩⟩
    · exact l_X12_lays_60 hm hM hp hso hV0 hV hlm (fun M' f' t' g' => ih (l + 1) M' (by omega) f' t' g') M fr ht hg m 0 _ (by omega) (by rw [if_neg (by omega)]; rfl)
    · exact l_X12_lays_60 hm hM hp hso hV0 hV hlm (fun M' f' t' g' => ih (l + 1) M' (by omega) f' t' g') M fr ht hg m 0 _ (by omega) (by rw [if_pos (by omega)])
theorem l_X12_lays_11 {Q : Int → Me → Prop} {M0 : Me} {p : Nat → Int} {m : Nat} (hm : m ≤ 9) (hM : M0 76 52 = m) (hp : ∀ e, e < m → pl (p e)) (hso : ∀ e : Nat, e < m → (0 ≤ M0 113 (e : Int) ∧ M0 113 (e : Int) < 16) ∧ M0 80 (M0 113 (e : Int)) = p e)
    (hQ : ∀ M', Fr112 M0 M' → gyOK p m 1 M' → Q 0 M') : ∀ (V : Nat) (M : Me), V < 2 ^ m → Fr112 M0 M → gyOK p m (V + 1) M → Go (km 2 mX12_laysRound Q) 11 [some (.inr 76), some (.inl ((2 ^ m - 1 : Nat) : Int)), some (.inl (V : Int)), none, none, none, none] [] M := by
  intro V
  induction V with
  | zero => intro M hV fr ht; exact s_X12_laysRound_11 _ 0 M ⟨fun _ => hQ M fr ht, fun v => by exfalso; omega⟩
  | succ V ih =>
    intro M hV fr ht
    refine s_X12_laysRound_11 _ _ M ⟨fun v => by exfalso; omega, fun _ => ?_⟩
    refine l_X12_lays_17 hm hM hp hso (by omega) hV (fun M' f' t' => ?_) m 0 M (by omega) fr ht (fun g hg => by omega)
    have := ih M' (by omega) f' t'
    rw [show ((V + 1 : Nat) : Int) + -1 = (V : Int) by omega]
    exact this
theorem p_X12_laysRound {Q : Int → Me → Prop} {M : Me} {p : Nat → Int} {m : Nat} (hm : m ≤ 9) (hM : M 76 52 = m) (hp : ∀ e, e < m → pl (p e)) (hso : ∀ e : Nat, e < m → (0 ≤ M 113 (e : Int) ∧ M 113 (e : Int) < 16) ∧ M 80 (M 113 (e : Int)) = p e)
    (hQ : ∀ M', Fr112 M M' → gyOK p m 1 M' → Q 0 M') : Calls 2 mX12_laysRound [.inr 76] M Q := by
  have h9 := pow9 hm
  have hpos := Nat.two_pow_pos m
  refine e_X12_laysRound ?_
  rw [hM, bshl_nat (by omega), show ((2 ^ m : Nat) : Int) - 1 = ((2 ^ m - 1 : Nat) : Int) by omega]
  exact ⟨by unfold cn; omega, l_X12_lays_11 hm hM hp hso hQ (2 ^ m - 1) M (by omega) (fun _ _ _ => rfl) (fun V l h1 h2 => by omega)⟩
theorem gw_congr {p p' : Nat → Int} {m : Nat} (h : ∀ e, e < m → p e = p' e) : ∀ (k R f : Nat), R ≤ k → R < 2 ^ m → f < m → gw p m R f = gw p' m R f := by
  intro k
  induction k with
  | zero =>
    intro R f hk _ hf
    have : R = 0 := by omega
    subst this
    rw [gw_0, gw_0, h f hf]
  | succ k ih =>
    intro R f hk hR hf
    rcases Nat.eq_zero_or_pos R with q | q
    · exact ih R f (by omega) hR hf
    · rw [gw_S p m f q, gw_S p' m f q]
      refine mnI_congr m (fun e he hb => ?_)
      have hlt := rm_lt hb
      rw [h f hf, h e he, ih (rm R e) e (by omega) (by omega) he]
theorem l_X12_round_106 {Q : Int → Me → Prop} {M : Me} {p tl : Nat → Int} {m : Nat} {w : Int} (hm : m ≤ 9) (hM : M 76 52 = m) (hp : ∀ e, e < m → pl (p e)) (hso : ∀ e : Nat, e < m → (0 ≤ M 113 (e : Int) ∧ M 113 (e : Int) < 16) ∧ M 80 (M 113 (e : Int)) = p e ∧ M 113 (e : Int) = tl e) (hg : gyOK p m 1 M) :
    ∀ (k e : Nat) (b l : Int), e + k = m → Q (if w = 0 then (chI (fun e => dst 0 (p e) + gw p m (rm (2 ^ m - 1) e) e) tl k e (l, b)).1 else (chI (fun e => dst 0 (p e) + gw p m (rm (2 ^ m - 1) e) e) tl k e (l, b)).2) M → Go (km 3 mX12_round Q) 106 [some (.inr 76), none, some (.inl w), some (.inl b), some (.inl l), some (.inl (e : Int)), none] [] M := by
  have h9 := pow9 hm
  intro k
  induction k with
  | zero =>
    intro e b l he hQ
    simp only [chI] at hQ
    refine s_X12_round_106 w b l e M ?_
    rw [hM]
    exact ⟨fun _ => ⟨fun v => by rw [if_neg v] at hQ; exact hQ, fun v => by rw [if_pos v] at hQ; exact hQ⟩, fun v => by exfalso; omega⟩
  | succ k ih =>
    intro e b l he hQ
    have hem : e < m := by omega
    obtain ⟨s1, s2, s3⟩ := hso e hem
    have pe := hp e hem
    have hd := dst_b (a := 0) (b := p e) (by unfold pl; omega) pe
    have h2e : 2 ^ e < 2 ^ m := Nat.pow_lt_pow_right (by omega) hem
    have hp2 := Nat.two_pow_pos e
    have e1 := hg (2 ^ e) e hp2 h2e hem
    have e2 : mdiff (2 ^ m - 1) (2 ^ e) = rm (2 ^ m - 1) e := rfl
    rw [e2] at e1
    have hgb := gw_400 hm hp (R := rm (2 ^ m - 1) e) (f := e) (by have : rm (2 ^ m - 1) e < 2 ^ m - 1 := rm_lt (by rw [Nat.testBit_two_pow_sub_one]; simpa using hem); omega) hem
    unfold pl at pe
    simp only [chI] at hQ
    refine s_X12_round_106 w b l e M ?_
    rw [hM, s2, bshl_nat (by omega), e1, s3]
    rw [s3] at s1
    refine ⟨fun v => by exfalso; omega, fun _ => ⟨by omega, s1, by omega, by omega, by unfold cn; omega, by unfold cn; omega, by omega, by unfold cn; omega, fun v => ⟨by omega, by unfold cn; omega, ?_⟩, fun v => ⟨by unfold cn; omega, ?_⟩⟩⟩
    · rw [if_pos (show dst 0 (p e) + gw p m (rm (2 ^ m - 1) e) e < l by omega)] at hQ
      exact ih (e + 1) _ _ (by omega) hQ
    · rw [if_neg (show ¬ (dst 0 (p e) + gw p m (rm (2 ^ m - 1) e) e < l) by omega)] at hQ
      exact ih (e + 1) _ _ (by omega) hQ
def Fr113 (M M' : Me) : Prop := ∀ k i, k ≠ 112 → k ≠ 113 → ¬ (k = 76 ∧ i = 52) → M' k i = M k i
theorem l_X12_round_47 {Q : Int → Me → Prop} {M0 : Me} {a n : Nat} {w : Int} (hn : M0 76 11 = n) (hn16 : n ≤ 16) (ha : a < 65536) (hm : cntb a n ≤ 9) (hm1 : 0 < cntb a n) (hpl : ∀ c : Nat, c < n → pl (M0 80 (c : Int)))
    (hQ : ∀ M', Fr113 M0 M' → Q (if w = 0 then (chI (fun e => dst 0 (M0 80 (slF a n e : Int)) + gw (fun e => M0 80 (slF a n e : Int)) (cntb a n) (rm (2 ^ cntb a n - 1) e) e) (fun e => (slF a n e : Int)) (cntb a n) 0 (1000000, -1)).1 else (chI (fun e => dst 0 (M0 80 (slF a n e : Int)) + gw (fun e => M0 80 (slF a n e : Int)) (cntb a n) (rm (2 ^ cntb a n - 1) e) e) (fun e => (slF a n e : Int)) (cntb a n) 0 (1000000, -1)).2) M') :
    ∀ (k c : Nat) (M : Me), c + k = n → Fr113 M0 M → M 76 52 = (cntb a c : Int) → (∀ e : Nat, e < cntb a c → M 113 (e : Int) = (slF a c e : Int)) → Go (km 3 mX12_round Q) 47 [some (.inr 76), some (.inl (a : Int)), some (.inl w), some (.inl (c : Int)), none, none, none] [] M := by
  intro k
  induction k with
  | zero =>
    intro c M hc f hM hs
    have : c = n := by omega
    subst this
    have h80 : ∀ i, M 80 i = M0 80 i := fun i => f 80 i (by decide) (by decide) (fun q => absurd q.1 (by decide))
    refine s_X12_round_47 a w c M ?_
    rw [f 76 11 (by decide) (by decide) (by decide), hn]
    refine ⟨fun _ => ?_, fun v => by exfalso; omega⟩
    have hso : ∀ e : Nat, e < cntb a c → (0 ≤ M 113 (e : Int) ∧ M 113 (e : Int) < 16) ∧ M 80 (M 113 (e : Int)) = M0 80 (slF a c e : Int) ∧ M 113 (e : Int) = (slF a c e : Int) := fun e he => by
      have := slF_lt a c e he
      rw [hs e he, h80]
      exact ⟨by omega, rfl, rfl⟩
    refine p_X12_laysRound (p := fun e => M0 80 (slF a c e : Int)) hm hM (fun e he => hpl _ (slF_lt a c e he)) (fun e he => ⟨(hso e he).1, (hso e he).2.1⟩) (fun M1 f1 g1 => ?_)
    refine l_X12_round_106 (p := fun e => M0 80 (slF a c e : Int)) (tl := fun e => (slF a c e : Int)) hm (by rw [f1 76 52 (by decide)]; exact hM) (fun e he => hpl _ (slF_lt a c e he)) (fun e he => ?_) g1 (cntb a c) 0 _ _ (by omega) (hQ M1 (fun k i a1 a2 a3 => (f1 k i a1).trans (f k i a1 a2 a3)))
    rw [f1 113 e (by decide), f1 80 _ (by decide)]
    exact hso e he
  | succ k ih =>
    intro c M hc f hM hs
    have hup := cntb_up a (c + 1) n (by omega)
    have hcn : cntb a (c + 1) = cntb a c + if a.testBit c = true then 1 else 0 := rfl
    refine s_X12_round_47 a w c M ?_
    rw [f 76 11 (by decide) (by decide) (by decide), hn, has_iff (by omega) (by omega), hM]
    refine ⟨fun v => by exfalso; omega, fun _ => ⟨fun hb => ?_, fun hb => ⟨by unfold cn; omega, ?_⟩⟩⟩
    · rw [if_pos hb] at hcn
      refine ⟨by omega, by unfold cn; omega, by unfold cn; omega, ?_⟩
      refine ih (c + 1) _ (by omega) (fun k i a1 a2 a3 => ?_) ?_ (fun e he => ?_)
      · unfold mput
        rw [if_neg a3, if_neg (fun q => a2 q.1)]
        exact f k i a1 a2 a3
      · rw [mput_same, hcn]; omega
      · rw [hcn] at he
        rw [mput_ne _ _ _ _ (by decide)]
        by_cases q : e = cntb a c
        · subst q; rw [slF_new hb, mput_same]
        · rw [slF_old (show e < cntb a c by omega), mput_ni _ _ _ _ (by omega)]; exact hs e (by omega)
    · rw [if_neg hb, Nat.add_zero] at hcn
      refine ih (c + 1) M (by omega) f (by rw [hcn]; exact hM) (fun e he => ?_)
      rw [hcn] at he
      rw [slF_old he]; exact hs e he
theorem shr_zero {a n : Nat} (ha : a < 2 ^ 31) (hn : n ≤ 16) : bshr (a : Int) (n : Int) = 0 ↔ a < 2 ^ n := by
  rw [bshr_nat ha (by omega)]
  have := Nat.div_eq_zero_iff_lt (Nat.two_pow_pos n) (x := a)
  constructor
  · intro h; exact this.mp (by omega)
  · intro h; have := this.mpr h; omega
theorem cntb_16 {a n : Nat} (h : a < 2 ^ n) (hn : n ≤ 16) : cntb a 16 = cntb a n := by
  have key : ∀ m, cntb a (n + m) = cntb a n := fun m => by
    induction m with
    | zero => rfl
    | succ m ih =>
      have : a.testBit (n + m) = false := Nat.testBit_lt_two_pow (Nat.lt_of_lt_of_le h (Nat.pow_le_pow_right (by omega) (by omega)))
      show cntb a (n + m) + (if a.testBit (n + m) = true then 1 else 0) = cntb a n
      rw [this, ih]; rfl
  have := key (16 - n)
  rw [show n + (16 - n) = 16 by omega] at this
  exact this
theorem o_round {M : Me} (hC : RCuts M) (a w : Int) (P : Me → Prop) (h2 : P M)
    (h1 : ∀ M2, (∀ k i, k ≠ 61 → k ≠ 62 → k ≠ 63 → k ≠ 64 → k ≠ 112 → k ≠ 113 → ¬ (k = 76 ∧ i = 52) → M2 k i = M k i) → P M2) :
    Calls 4 mX11_round [.inr 0, .inl a, .inl w] M (fun r M1 => Calls 3 mX12_round [.inr 76, .inl a, .inl w] M1 (fun r' M2 => r = r' ∧ P M2)) := by
  obtain ⟨c0, c1, c2, c3⟩ := hC
  obtain ⟨n, hn⟩ : ∃ n : Nat, M 3 8 = n := ⟨(M 3 8).toNat, by omega⟩
  have hn16 : n ≤ 16 := by omega
  have hn76 : M 76 11 = n := by omega
  have h16 := pow16 hn16
  refine Calls.known (fun _ hs => ?_)
  have ca := hs.tl.hd
  unfold cn at ca
  by_cases ha : 0 < a
  · obtain ⟨A, rfl⟩ : ∃ A : Nat, a = A := ⟨a.toNat, by omega⟩
    by_cases hA : A < 2 ^ n
    · have hpc := popc_cntb (x := A) (by omega)
      rw [cntb_16 hA hn16] at hpc
      by_cases h9 : popc A ≤ 9 ∧ (w = 0 ∨ w = 1)
      · obtain ⟨h9, hw⟩ := h9
        have hm1 : 0 < cntb A n := by
          obtain ⟨e, he, hb⟩ := ex_bit (R := A) (m := n) (by omega) hA
          have := cntb_rm he hb
          omega
        have ht : ∀ c : Nat, c < n → pl (M 4 (c : Int)) ∧ M 80 (c : Int) = M 4 (c : Int) := fun c hc => by
          obtain ⟨⟨q, -⟩, q2, -⟩ := c3 c (by omega) (by omega)
          exact ⟨q, q2⟩
        have hpm : ∀ e, e < cntb A n → pl (M 4 (slF A n e : Int)) := fun e he => (ht _ (slF_lt A n e he)).1
        have hv0 : dst 0 (M 4 (slF A n 0 : Int)) + gw (fun e => M 4 (slF A n e : Int)) (cntb A n) (rm (2 ^ cntb A n - 1) 0) 0 ≤ 420 := by
          have q1 := dst_b (a := 0) (by unfold pl; omega) (hpm 0 hm1)
          have q2 := gw_400 (p := fun e => M 4 (slF A n e : Int)) (m := cntb A n) (by omega) hpm (R := rm (2 ^ cntb A n - 1) 0) (f := 0) (by have : rm (2 ^ cntb A n - 1) 0 < 2 ^ cntb A n - 1 := rm_lt (by rw [Nat.testBit_two_pow_sub_one]; simpa using hm1); omega) hm1
          omega
        have ref : ∀ M1, Fr61 M M1 → ∀ r : Int, r = (if w = 0 then (chI (fun e => dst 0 (M 4 (slF A n e : Int)) + gw (fun e => M 4 (slF A n e : Int)) (cntb A n) (rm (2 ^ cntb A n - 1) e) e) (fun e => (slF A n e : Int)) (cntb A n) 0 (1000000, -1)).1 else (chI (fun e => dst 0 (M 4 (slF A n e : Int)) + gw (fun e => M 4 (slF A n e : Int)) (cntb A n) (rm (2 ^ cntb A n - 1) e) e) (fun e => (slF A n e : Int)) (cntb A n) 0 (1000000, -1)).2) → Calls 3 mX12_round [.inr 76, .inl (A : Int), .inl w] M1 (fun r' M2 => r = r' ∧ P M2) := by
          intro M1 f1 r hr
          have h80 : ∀ i, M1 80 i = M 80 i := fun i => f1 80 i (by decide) (by decide) (by decide) (by decide)
          have e11 : M1 76 11 = n := by rw [f1 76 11 (by decide) (by decide) (by decide) (by decide)]; exact hn76
          refine e_X12_round ?_
          rw [e11]
          refine ⟨fun _ => ⟨fun v => absurd ((shr_zero (by omega) hn16).mpr hA) v, fun _ => p_X12_bits (by omega) ⟨fun v => by exfalso; omega, fun _ => ⟨fun _ => ?_, fun v => by exfalso; omega⟩⟩⟩, fun v => by exfalso; omega⟩
          refine l_X12_round_47 (M0 := M1) (n := n) e11 hn16 (by omega) (by omega) hm1 (fun c hc => by rw [h80, (ht c hc).2]; exact (ht c hc).1) (fun M2 f2 => ⟨?_, h1 M2 (fun k i a1 a2 a3 a4 a5 a6 a7 => (f2 k i a5 a6 a7).trans (f1 k i a1 a2 a3 a4))⟩) n 0 _ (by omega) (fun k i a1 a2 a3 => by unfold mput; rw [if_neg a3]) (mput_same _ _ _ _) (fun e he => by simp [cntb] at he)
          have epp : ∀ e, e < cntb A n → M 4 (slF A n e : Int) = M1 80 (slF A n e : Int) := fun e he => by rw [h80, (ht _ (slF_lt A n e he)).2]
          have ech := chI_congr (v := fun e => dst 0 (M 4 (slF A n e : Int)) + gw (fun e => M 4 (slF A n e : Int)) (cntb A n) (rm (2 ^ cntb A n - 1) e) e) (v' := fun e => dst 0 (M1 80 (slF A n e : Int)) + gw (fun e => M1 80 (slF A n e : Int)) (cntb A n) (rm (2 ^ cntb A n - 1) e) e) (tl := fun e => (slF A n e : Int)) (tl' := fun e => (slF A n e : Int)) (cntb A n) 0 (1000000, -1) (fun i _ hi => by
            have hi' : i < cntb A n := by omega
            refine ⟨?_, rfl⟩
            rw [epp i hi', gw_congr epp _ (rm (2 ^ cntb A n - 1) i) i (Nat.le_refl _) (by have : rm (2 ^ cntb A n - 1) i < 2 ^ cntb A n - 1 := rm_lt (by rw [Nat.testBit_two_pow_sub_one]; simpa using hi'); omega) hi'])
          rw [hr, ech]
        have body : Calls 3 mX6_tellRound [.inr 61, .inr 3, .inl (A : Int)] M (fun r55 M55 => ((w ≠ 0 → Calls 3 mX12_round [.inr 76, .inl (A : Int), .inl w] M55 (fun r' M2 => M55 61 5 = r' ∧ P M2)) ∧ (w = 0 → Calls 3 mX12_round [.inr 76, .inl (A : Int), .inl w] M55 (fun r' M2 => M55 61 4 = r' ∧ P M2)))) := by
          refine e_X6_tellRound (l_X6_tell_5 hn hn16 (by omega) (by omega) (fun c hc => (ht c hc).1) (fun M' f' old hch => ?_) n 0 M (by omega) (fun _ _ _ _ _ _ => rfl) (fun e he => by simp [cntb] at he))
          obtain ⟨mm, hmm⟩ : ∃ mm, cntb A n = mm + 1 := ⟨cntb A n - 1, by omega⟩
          have hfirst : chI (fun e => dst 0 (M 4 (slF A n e : Int)) + gw (fun e => M 4 (slF A n e : Int)) (cntb A n) (rm (2 ^ cntb A n - 1) e) e) (fun e => (slF A n e : Int)) (cntb A n) 0 (1000000, old) = chI (fun e => dst 0 (M 4 (slF A n e : Int)) + gw (fun e => M 4 (slF A n e : Int)) (cntb A n) (rm (2 ^ cntb A n - 1) e) e) (fun e => (slF A n e : Int)) (cntb A n) 0 (1000000, -1) := by
            generalize hvv : (fun e => dst 0 (M 4 (slF A n e : Int)) + gw (fun e => M 4 (slF A n e : Int)) (cntb A n) (rm (2 ^ cntb A n - 1) e) e) = vv
            have hv1 : vv 0 ≤ 420 := by rw [← hvv]; exact hv0
            rw [hmm]
            exact chI_first (show vv 0 < 1000000 by omega) (show vv 0 < 1000000 by omega)
          rw [hfirst] at hch
          refine ⟨fun v => ref M' f' _ ?_, fun v => ref M' f' _ ?_⟩
          · rw [if_neg v, ← hch]
          · rw [if_pos v, ← hch]
        refine e_X11_round ?_
        rw [hn]
        exact ⟨fun v => by exfalso; omega, fun _ => ⟨fun v => absurd ((shr_zero (by omega) hn16).mpr hA) v, fun _ => p_bitCount (by omega) ⟨fun v => by exfalso; omega, fun _ => ⟨fun _ => body, fun _ => ⟨fun _ => body, fun v => by exfalso; omega⟩⟩⟩⟩⟩
      · have go : Calls 3 mX12_round [.inr 76, .inl (A : Int), .inl w] M (fun r' M2 => (-1 : Int) = r' ∧ P M2) := by
          refine e_X12_round ?_
          rw [hn76]
          exact ⟨fun _ => ⟨fun _ => ⟨rfl, h2⟩, fun _ => p_X12_bits (by omega) ⟨fun v => ⟨rfl, h2⟩, fun _ => ⟨fun v => by exfalso; omega, fun _ => ⟨rfl, h2⟩⟩⟩⟩, fun _ => ⟨rfl, h2⟩⟩
        refine e_X11_round ?_
        rw [hn]
        exact ⟨fun _ => go, fun _ => ⟨fun _ => go, fun _ => p_bitCount (by omega) ⟨fun _ => go, fun _ => ⟨fun v => by exfalso; omega, fun _ => ⟨fun v => by exfalso; omega, fun _ => go⟩⟩⟩⟩⟩
    · have go : Calls 3 mX12_round [.inr 76, .inl (A : Int), .inl w] M (fun r' M2 => (-1 : Int) = r' ∧ P M2) := by
        refine e_X12_round ?_
        rw [hn76]
        exact ⟨fun _ => ⟨fun _ => ⟨rfl, h2⟩, fun v => absurd ((shr_zero (by omega) hn16).mp v) hA⟩, fun _ => ⟨rfl, h2⟩⟩
      refine e_X11_round ?_
      rw [hn]
      exact ⟨fun _ => go, fun _ => ⟨fun _ => go, fun v => absurd ((shr_zero (by omega) hn16).mp v) hA⟩⟩
  · have go : Calls 3 mX12_round [.inr 76, .inl a, .inl w] M (fun r' M2 => (-1 : Int) = r' ∧ P M2) :=
      e_X12_round ⟨fun v => by exfalso; omega, fun _ => ⟨rfl, h2⟩⟩
    exact e_X11_round ⟨fun _ => go, fun v => by exfalso; omega⟩
