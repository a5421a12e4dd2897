/-- the e-th of the cuts told -/
def slF (a : Nat) : Nat → Nat → Nat
  | 0 => fun _ => 0
  | c + 1 => fun e => if a.testBit c = true ∧ e = cntb a c then c else slF a c e
theorem slF_lt (a : Nat) : ∀ (c e : Nat), e < cntb a c → slF a c e < c
  | 0, e, h => by simp [cntb] at h
  | c + 1, e, h => by
    simp only [slF]
    split
    · omega
    · next q =>
      simp only [cntb] at h
      have : e < cntb a c := by
        by_cases hb : a.testBit c = true
        · rw [if_pos hb] at h
          have : e ≠ cntb a c := fun z => q ⟨hb, z⟩
          omega
        · rw [if_neg hb] at h; omega
      have := slF_lt a c e this
      omega
theorem slF_old {a c e : Nat} (h : e < cntb a c) : slF a (c + 1) e = slF a c e := by
  simp only [slF]
  rw [if_neg (fun q => by omega)]
theorem slF_new {a c : Nat} (h : a.testBit c = true) : slF a (c + 1) (cntb a c) = c := by
  simp only [slF]
  rw [if_pos ⟨h, trivial⟩]
theorem cntb_up (a : Nat) : ∀ (n m : Nat), n ≤ m → cntb a n ≤ cntb a m
  | n, 0, h => by have : n = 0 := by omega
                  subst this; exact Nat.le_refl _
  | n, m + 1, h => by
    by_cases e : n = m + 1
    · subst e; exact Nat.le_refl _
    · have := cntb_up a n m (by omega)
      simp only [cntb]
      omega
def Fr61 (M M' : Me) : Prop := ∀ k i, k ≠ 61 → k ≠ 62 → k ≠ 63 → k ≠ 64 → M' k i = M k i
def chI (v : Nat → Int) (tl : Nat → Int) : Nat → Nat → Int × Int → Int × Int
  | 0, _, x => x
  | k + 1, e, x => chI v tl k (e + 1) (if v e < x.1 then (v e, tl e) else x)
theorem chI_first {v tl : Nat → Int} {k : Nat} {x y : Int × Int} (hx : v 0 < x.1) (hy : v 0 < y.1) : chI v tl (k + 1) 0 x = chI v tl (k + 1) 0 y := by simp only [chI]; rw [if_pos hx, if_pos hy]
theorem chI_congr {v v' tl tl' : Nat → Int} : ∀ (k e : Nat) (x : Int × Int), (∀ i, e ≤ i → i < e + k → v i = v' i ∧ tl i = tl' i) → chI v tl k e x = chI v' tl' k e x
  | 0, _, _, _ => rfl
  | k + 1, e, x, h => by
    simp only [chI]
    obtain ⟨h1, h2⟩ := h e (by omega) (by omega)
    rw [h1, h2]
    exact chI_congr k (e + 1) _ (fun i a b => h i (by omega) (by omega))
/-! chooseFirst of the class -/
theorem l_X6_choose {Q : Int → Me → Prop} {M0 : Me} {p tl : Nat → Int} {m : Nat} (hm : m ≤ 9) (hp : ∀ e, e < m → pl (p e)) (hsp : ∀ e : Nat, e < m → M0 64 (e : Int) = p e) (htl : ∀ e : Nat, e < m → M0 63 (e : Int) = tl e) (hT : ∀ e : Nat, e < m → M0 62 (9 * ((2 ^ m - 1 : Nat) : Int) + e) = gw p m (rm (2 ^ m - 1) e) e)
    : ∀ (k e : Nat) (M : Me), e + k = m → (∀ c i, c ≠ 61 → M c i = M0 c i) → (∀ M', (∀ c i, c ≠ 61 → M' c i = M0 c i) → (M' 61 4, M' 61 5) = chI (fun e => dst 0 (p e) + gw p m (rm (2 ^ m - 1) e) e) tl k e (M 61 4, M 61 5) → Q 0 M') → Go (km 2 mX6_chooseFirst Q) 8 [some (.inr 61), some (.inl ((2 ^ m - 1 : Nat) : Int)), some (.inl (m : Int)), some (.inl (e : Int)), none] [] M := by
  have h9 := pow9 hm
  have hpos := Nat.two_pow_pos m
  intro k
  induction k with
  | zero =>
    intro e M he f hQ
    exact s_X6_chooseFirst_8 _ m e M ⟨fun _ => hQ M f rfl, fun v => by exfalso; omega⟩
  | succ k ih =>
    intro e M he f hQ
    have hem : e < m := by omega
    have pe := hp e hem
    have hd := dst_b (a := 0) (b := p e) (by unfold pl; omega) pe
    have hg := gw_400 hm hp (R := rm (2 ^ m - 1) e) (f := e) (by have : rm (2 ^ m - 1) e < 2 ^ m - 1 := rm_lt (by rw [Nat.testBit_two_pow_sub_one]; simpa using hem); omega) hem
    unfold pl at pe
    refine s_X6_chooseFirst_8 _ m e M ?_
    rw [f 64 e (by decide), f 62 _ (by decide), f 63 e (by decide), hsp e hem, htl e hem, hT e hem]
    refine ⟨fun v => by exfalso; omega, fun _ => ⟨by omega, by omega, by omega, by unfold cn; omega, by unfold cn; omega, by omega, by unfold cn; omega, fun v => ⟨by unfold cn; omega, ?_⟩, fun v => ⟨by omega, by unfold cn; omega, ?_⟩⟩⟩
    · refine ih (e + 1) M (by omega) f (fun M' f' h => hQ M' f' ?_)
      rw [h]
      simp only [chI]
      rw [if_neg (by omega)]
    · refine ih (e + 1) _ (by omega) (fun c i h => (mput_ne _ _ _ _ h).trans ((mput_ne _ _ _ _ h).trans (f c i h))) (fun M' f' h => hQ M' f' ?_)
      rw [h]
      have q4 : mput (mput M 61 4 (dst 0 (p e) + gw p m (rm (2 ^ m - 1) e) e)) 61 5 (tl e) 61 4 = dst 0 (p e) + gw p m (rm (2 ^ m - 1) e) e := by rw [mput_ni _ _ _ _ (by decide), mput_same]
      have q5 : mput (mput M 61 4 (dst 0 (p e) + gw p m (rm (2 ^ m - 1) e) e)) 61 5 (tl e) 61 5 = tl e := mput_same _ _ _ _
      rw [q4, q5]
      simp only [chI]
      rw [if_pos (by omega)]
/-! the class's table -/
def tabOK (p : Nat → Int) (m s : Nat) (M : Me) : Prop := ∀ S f : Nat, S < s → f < m → S.testBit f = true → M 62 (9 * (S : Int) + f) = gw p m (rm S f) f
theorem l_X6_tell_80 {Q : Int → Me → Prop} {M0 : Me} {p : Nat → Int} {m s : Nat} (hm : m ≤ 9) (hp : ∀ e, e < m → pl (p e)) (hsp : ∀ e : Nat, e < m → M0 64 (e : Int) = p e) (hs : s < 2 ^ m)
    (hk : ∀ M, (∀ c i, c ≠ 62 → M c i = M0 c i) → tabOK p m (s + 1) M → Go (km 3 mX6_tellRound Q) 70 [some (.inr 61), none, none, some (.inl (m : Int)), some (.inl ((2 ^ m - 1 : Nat) : Int)), some (.inl ((s + 1 : Nat) : Int)), none] [] M) :
    ∀ (k f : Nat) (M : Me), f + k = m → (∀ c i, c ≠ 62 → M c i = M0 c i) → tabOK p m s M → (∀ g : Nat, g < f → s.testBit g = true → M 62 (9 * (s : Int) + g) = gw p m (rm s g) g) → Go (km 3 mX6_tellRound Q) 80 [some (.inr 61), none, none, some (.inl (m : Int)), some (.inl ((2 ^ m - 1 : Nat) : Int)), some (.inl (s : Int)), some (.inl (f : Int))] [] M := by
  have h9 := pow9 hm
  intro k
  induction k with
  | zero =>
    intro f M hf fr ht hg
    refine s_X6_tellRound_80 m _ s f M ⟨fun _ => ⟨by unfold cn; omega, hk M fr (fun S g hS hgm hb => ?_)⟩, fun v => by exfalso; omega⟩
    by_cases e : S = s
    · subst e; exact hg g (by omega) hb
    · exact ht S g (by omega) hgm hb
  | succ k ih =>
    intro f M hf fr ht hg
    have hfm : f < m := by omega
    refine s_X6_tellRound_80 m _ s f M ⟨fun v => by exfalso; omega, fun _ => ⟨fun v => ⟨by unfold cn; omega, ?_⟩, fun v => ⟨by unfold cn; omega, by unfold cn; omega, ?_⟩⟩⟩
    · refine ih (f + 1) M (by omega) fr ht (fun g hgf hb => ?_)
      by_cases e : g = f
      · subst e; exact absurd ((has_iff (by omega) (by omega)).mpr hb) v
      · exact hg g (by omega) hb
    · have hb := (has_iff (by omega) (by omega)).mp v
      have hlt := rm_lt hb
      refine p_X6_wayHome hm hp (fun e he => by rw [fr 64 e (by decide)]; exact hsp e he) hfm hs hb (fun e he hbe => ht (rm s f) e hlt he hbe) ?_
      refine ⟨by omega, by unfold cn; omega, ?_⟩
      refine ih (f + 1) _ (by omega) (fun c i h => (mput_ne _ _ _ _ h).trans (fr c i h)) (fun S g hS hgm hbg => ?_) (fun g hgf hbg => ?_)
      · rw [mput_ni _ _ _ _ (by omega)]; exact ht S g hS hgm hbg
      · by_cases e : g = f
        · subst e; exact mput_same _ _ _ _
        · rw [mput_ni _ _ _ _ (by omega)]; exact hg g (by omega) hbg
theorem l_X6_tell_70 {Q : Int → Me → Prop} {M0 : Me} {p tl : Nat → Int} {m : Nat} (hm : m ≤ 9) (hp : ∀ e, e < m → pl (p e)) (hsp : ∀ e : Nat, e < m → M0 64 (e : Int) = p e) (htl : ∀ e : Nat, e < m → M0 63 (e : Int) = tl e)
    (hQ : ∀ M', (∀ c i, c ≠ 61 → c ≠ 62 → M' c i = M0 c i) → (M' 61 4, M' 61 5) = chI (fun e => dst 0 (p e) + gw p m (rm (2 ^ m - 1) e) e) tl m 0 (1000000, M0 61 5) → Q 0 M') :
    ∀ (k s : Nat) (M : Me), s + k = 2 ^ m → (∀ c i, c ≠ 62 → M c i = M0 c i) → tabOK p m s M → Go (km 3 mX6_tellRound Q) 70 [some (.inr 61), none, none, some (.inl (m : Int)), some (.inl ((2 ^ m - 1 : Nat) : Int)), some (.inl (s : Int)), none] [] M := by
  have h9 := pow9 hm
  have hpos := Nat.two_pow_pos m
  intro k
  induction k with
  | zero =>
    intro s M hs fr ht
    refine s_X6_tellRound_70 m _ s M ⟨fun _ => ?_, fun v => by exfalso; omega⟩
    refine e_X6_chooseFirst (l_X6_choose (M0 := M) (tl := tl) hm hp (fun e he => by rw [fr 64 e (by decide)]; exact hsp e he) (fun e he => by rw [fr 63 e (by decide)]; exact htl e he) (fun e he => ht (2 ^ m - 1) e (by omega) he (by rw [Nat.testBit_two_pow_sub_one]; simpa using he)) m 0 _ (by omega) (fun c i h => mput_ne _ _ _ _ h) (fun M' f' h => hQ M' (fun c i a b => (f' c i a).trans (fr c i b)) ?_))
    rw [h, mput_same, mput_ni _ _ _ _ (by decide), fr 61 5 (by decide)]
  | succ k ih =>
    intro s M hs fr ht
    refine s_X6_tellRound_70 m _ s M ⟨fun v => by exfalso; omega, fun _ => ?_⟩
    exact l_X6_tell_80 (M0 := M0) hm hp hsp (by omega) (fun M' f' ht' => ih (s + 1) M' (by omega) f' ht') m 0 M (by omega) fr ht (fun g hg => by omega)
theorem l_X6_tell_5 {Q : Int → Me → Prop} {M0 : Me} {a n : Nat} (hn : M0 3 8 = n) (hn16 : n ≤ 16) (ha : a < 65536) (hm : cntb a n ≤ 9) (hpl : ∀ c : Nat, c < n → pl (M0 4 (c : Int)))
    (hQ : ∀ M' , Fr61 M0 M' → ∀ old, (M' 61 4, M' 61 5) = chI (fun e => dst 0 (M0 4 (slF a n e : Int)) + gw (fun e => M0 4 (slF a n e : Int)) (cntb a n) (rm (2 ^ cntb a n - 1) e) e) (fun e => (slF a n e : Int)) (cntb a n) 0 (1000000, old) → Q 0 M') :
    ∀ (k c : Nat) (M : Me), c + k = n → Fr61 M0 M → (∀ e : Nat, e < cntb a c → M 63 (e : Int) = (slF a c e : Int) ∧ M 64 (e : Int) = M0 4 (slF a c e : Int)) → Go (km 3 mX6_tellRound Q) 5 [some (.inr 61), some (.inr 3), some (.inl (a : Int)), some (.inl (cntb a c : Int)), some (.inl (c : Int)), none, none] [] M := by
  have h9 := pow9 hm
  have hpos := Nat.two_pow_pos (cntb a n)
  intro k
  induction k with
  | zero =>
    intro c M hc f hs
    have : c = n := by omega
    subst this
    refine s_X6_tellRound_5 a _ c M ?_
    rw [f 3 8 (by decide) (by decide) (by decide) (by decide), hn, bshl_nat (by omega), show ((2 ^ cntb a c : Nat) : Int) - 1 = ((2 ^ cntb a c - 1 : Nat) : Int) by omega]
    refine ⟨fun _ => ⟨by unfold cn; omega, ?_⟩, fun v => by exfalso; omega⟩
    refine l_X6_tell_70 (M0 := M) (p := fun e => M0 4 (slF a c e : Int)) (tl := fun e => (slF a c e : Int)) hm (fun e he => hpl _ (slF_lt a c e he)) (fun e he => (hs e he).2) (fun e he => (hs e he).1) (fun M' f' h => hQ M' (fun k i a1 a2 a3 a4 => (f' k i a1 a2).trans (f k i a1 a2 a3 a4)) _ h) (2 ^ cntb a c - 1) 1 M (by omega) (fun _ _ _ => rfl) (fun S g hS hg hb => ?_)
    have : S = 0 := by omega
    rw [this, Nat.zero_testBit] at hb
    cases hb
  | succ k ih =>
    intro c M hc f hs
    have hup := cntb_up a (c + 1) n (by omega)
    have hcn : cntb a (c + 1) = cntb a c + if a.testBit c = true then 1 else 0 := rfl
    refine s_X6_tellRound_5 a _ c M ?_
    rw [f 3 8 (by decide) (by decide) (by decide) (by decide), hn, f 4 c (by decide) (by decide) (by decide) (by decide)]
    refine ⟨fun v => by exfalso; omega, fun _ => ⟨fun v => ⟨by unfold cn; omega, ?_⟩, fun v => ⟨fun v2 => ?_, fun v2 => ⟨by omega, by omega, by omega, by unfold cn; omega, by unfold cn; omega, ?_⟩⟩⟩⟩
    · have hb : ¬ a.testBit c = true := fun q => v ((has_iff (by omega) (by omega)).mpr q)
      rw [if_neg hb, Nat.add_zero] at hcn
      have g := ih (c + 1) M (by omega) f (fun e he => by
        rw [hcn] at he
        rw [slF_old he]; exact hs e he)
      rw [hcn] at g
      exact g
    · have hb := (has_iff (by omega) (by omega)).mp v
      rw [if_pos hb] at hcn
      exfalso; omega
    · have hb := (has_iff (by omega) (by omega)).mp v
      rw [if_pos hb] at hcn
      have g := ih (c + 1) (mput (mput M 63 (cntb a c : Int) c) 64 (cntb a c : Int) (M0 4 c)) (by omega) (fun k i a1 a2 a3 a4 => (mput_ne _ _ _ _ a4).trans ((mput_ne _ _ _ _ a3).trans (f k i a1 a2 a3 a4))) (fun e he => by
        rw [hcn] at he
        by_cases q : e = cntb a c
        · subst q
          rw [slF_new hb, mput_ne _ _ _ _ (by decide), mput_same, mput_same]
          exact ⟨rfl, rfl⟩
        · have := hs e (by omega)
          rw [slF_old (show e < cntb a c by omega), mput_ne _ _ _ _ (by decide), mput_ni _ _ _ _ (by omega), mput_ni _ _ _ _ (by omega), mput_ne _ _ _ _ (by decide)]
          exact this)
      rw [hcn] at g
      exact g
