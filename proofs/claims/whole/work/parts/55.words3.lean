def ndS (nd : Int → Int) (set : Nat) (L w acc : Int) : Int := acc + band (bshr (set : Int) w) 1 * nd (16 * w + L)
def okSp (nd hv : Int → Int) (W set : Nat) : Prop := ∀ L, 0 ≤ L → L < 16 → iter (ndS nd set L) W 0 0 ≤ hv L
theorem nd_bound {nd : Int → Int} {set : Nat} {L : Int} (hs : set < 256) (hL : 0 ≤ L ∧ L < 16) (hnd : ∀ j, 0 ≤ j → j < 128 → 0 ≤ nd j ∧ nd j ≤ 60) : ∀ (k w : Nat) (acc : Int), w + k ≤ 8 → acc ≤ iter (ndS nd set L) k (w : Int) acc ∧ iter (ndS nd set L) k (w : Int) acc ≤ acc + 60 * k
  | 0, w, acc, _ => by simp only [iter]; omega
  | k + 1, w, acc, h => by
    simp only [iter]
    have h1 := nd_bound hs hL hnd k (w + 1) (ndS nd set L w acc) (by omega)
    have h2 := hnd (16 * w + L) (by omega) (by omega)
    have h3 : acc ≤ ndS nd set L w acc ∧ ndS nd set L w acc ≤ acc + 60 := by
      unfold ndS
      rw [has_nat (by omega) (by omega)]
      split <;> omega
    have e : ((w + 1 : Nat) : Int) = (w : Int) + 1 := by omega
    rw [e] at h1
    omega
theorem bitv {x i : Nat} (hx : x < 256) (hi : i < 16) : (band (bshr (x : Int) (i : Int)) 1 = 1 ∨ band (bshr (x : Int) (i : Int)) 1 = 0) := by
  rw [has_nat (by omega) (by omega)]
  split
  · exact Or.inl rfl
  · exact Or.inr rfl
theorem l_X7_canSpell_18 {Q : Int → Me → Prop} {M : Me} {nd : Int → Int} {W set : Nat} (hW : M 66 2 = W) (hW8 : W ≤ 8) (hs : set < 256) (hnd : ∀ j, 0 ≤ j → j < 128 → M 68 j = nd j ∧ 0 ≤ nd j ∧ nd j ≤ 60) (hst : ∀ j, 0 ≤ j → j < 16 → 0 ≤ M 67 j ∧ M 67 j ≤ 32) {L : Int} (hL : 0 ≤ L ∧ L < 16)
    (hy : iter (ndS nd set L) W 0 0 ≤ M 67 L → Go (km 0 mX7_canSpell Q) 2 [some (.inr 66), some (.inl (set : Int)), some (.inl (L + 1)), none, none] [] M) (hn : ¬ iter (ndS nd set L) W 0 0 ≤ M 67 L → Q 0 M) :
    ∀ (k w : Nat) (x : Int), w + k = W → x = M 67 L - iter (ndS nd set L) w 0 0 → Go (km 0 mX7_canSpell Q) 18 [some (.inr 66), some (.inl (set : Int)), some (.inl L), some (.inl x), some (.inl (w : Int))] [] M := by
  intro k
  induction k with
  | zero =>
    intro w x hw hx
    have : w = W := by omega
    subst this
    refine s_X7_canSpell_18 set L x w M ?_
    rw [hW]
    exact ⟨fun _ => ⟨fun v => ⟨by unfold cn; omega, hy (by omega)⟩, fun v => hn (by omega)⟩, fun v => by exfalso; omega⟩
  | succ k ih =>
    intro w x hw hx
    have hb := nd_bound hs hL (fun j a b => (hnd j a b).2) w 0 0 (by omega)
    have hst' := hst L hL.1 hL.2
    have hd := hnd (16 * w + L) (by omega) (by omega)
    have hstep := iter_succ (ndS nd set L) w 0 0
    rw [Int.zero_add] at hstep
    simp only [Int.natCast_zero] at hb
    refine s_X7_canSpell_18 set L x w M ?_
    rw [hW, hd.1]
    have hbt := bitv (x := set) (i := w) hs (by omega)
    refine ⟨fun v => by exfalso; omega, fun _ => ⟨by unfold cn; omega, by unfold cn; omega, by omega, ?_, ?_, by unfold cn; omega, ?_⟩⟩
    · rcases hbt with q | q <;> rw [q] <;> unfold cn <;> omega
    · rcases hbt with q | q <;> rw [q] <;> unfold cn <;> omega
    · refine ih (w + 1) _ (by omega) ?_
      rw [hstep]
      conv => rhs; rw [ndS]
      omega
theorem l_X7_canSpell_2 {Q : Int → Me → Prop} {M : Me} {nd : Int → Int} {W set : Nat} (hW : M 66 2 = W) (hW8 : W ≤ 8) (hs : set < 256) (hnd : ∀ j, 0 ≤ j → j < 128 → M 68 j = nd j ∧ 0 ≤ nd j ∧ nd j ≤ 60) (hst : ∀ j, 0 ≤ j → j < 16 → 0 ≤ M 67 j ∧ M 67 j ≤ 32)
    (hy : okSp nd (M 67) W set → Q 1 M) (hn : ¬ okSp nd (M 67) W set → Q 0 M) :
    ∀ (k : Nat) (L : Int), 0 ≤ L → L + k = 16 → (∀ j, 0 ≤ j → j < L → iter (ndS nd set j) W 0 0 ≤ M 67 j) → Go (km 0 mX7_canSpell Q) 2 [some (.inr 66), some (.inl (set : Int)), some (.inl L), none, none] [] M := by
  intro k
  induction k with
  | zero => intro L l0 hL hp; exact s_X7_canSpell_2 set L M ⟨fun _ => hy (fun j a b => hp j a (by omega)), fun v => by exfalso; omega⟩
  | succ k ih =>
    intro L l0 hL hp
    refine s_X7_canSpell_2 set L M ⟨fun v => by exfalso; omega, fun _ => ⟨by omega, ?_⟩⟩
    refine l_X7_canSpell_18 hW hW8 hs hnd hst (by omega) (fun q => ih (L + 1) (by omega) (by omega) (fun j a b => ?_)) (fun q => hn (fun z => q (z L l0 (by omega)))) W 0 _ (by omega) (by simp [iter])
    by_cases e : j = L
    · subst e; exact q
    · exact hp j a (by omega)
theorem p_X7_canSpell {Q : Int → Me → Prop} {M : Me} {nd : Int → Int} {W set : Nat} (hW : M 66 2 = W) (hW8 : W ≤ 8) (hs : set < 256) (hnd : ∀ j, 0 ≤ j → j < 128 → M 68 j = nd j ∧ 0 ≤ nd j ∧ nd j ≤ 60) (hst : ∀ j, 0 ≤ j → j < 16 → 0 ≤ M 67 j ∧ M 67 j ≤ 32)
    (hy : okSp nd (M 67) W set → Q 1 M) (hn : ¬ okSp nd (M 67) W set → Q 0 M) : Calls 0 mX7_canSpell [.inr 66, .inl (set : Int)] M Q :=
  e_X7_canSpell (l_X7_canSpell_2 hW hW8 hs hnd hst hy hn 16 0 (by omega) (by omega) (fun j a b => by omega))
theorem l_X12_canBeSpelt_13 {Q : Int → Me → Prop} {M : Me} {nd : Int → Int} {W set : Nat} (hW : M 76 55 = W) (hW8 : W ≤ 8) (hs : set < 256) (hnd : ∀ j, 0 ≤ j → j < 128 → M 115 j = nd j ∧ 0 ≤ nd j ∧ nd j ≤ 60) {L : Int} (hL : 0 ≤ L ∧ L < 16)
    (hy : iter (ndS nd set L) W 0 0 ≤ M 114 L → Go (km 1 mX12_canBeSpelt Q) 2 [some (.inr 76), some (.inl (set : Int)), some (.inl (L + 1)), none, none] [] M) (hn : ¬ iter (ndS nd set L) W 0 0 ≤ M 114 L → Q 0 M) :
    ∀ (k w : Nat) (x : Int), w + k = W → x = iter (ndS nd set L) w 0 0 → Go (km 1 mX12_canBeSpelt Q) 13 [some (.inr 76), some (.inl (set : Int)), some (.inl L), some (.inl x), some (.inl (w : Int))] [] M := by
  intro k
  induction k with
  | zero =>
    intro w x hw hx
    have : w = W := by omega
    subst this
    refine s_X12_canBeSpelt_13 set L x w M ?_
    rw [hW]
    exact ⟨fun _ => ⟨hL, fun v => ⟨by unfold cn; omega, hy (by omega)⟩, fun v => hn (by omega)⟩, fun v => by exfalso; omega⟩
  | succ k ih =>
    intro w x hw hx
    have hb := nd_bound hs hL (fun j a b => (hnd j a b).2) w 0 0 (by omega)
    have hd := hnd (16 * w + L) (by omega) (by omega)
    have hstep := iter_succ (ndS nd set L) w 0 0
    rw [Int.zero_add] at hstep
    simp only [Int.natCast_zero] at hb
    refine s_X12_canBeSpelt_13 set L x w M ?_
    rw [hW, hd.1]
    have hbt := bitv (x := set) (i := w) hs (by omega)
    refine ⟨fun v => by exfalso; omega, fun _ => ⟨fun v => ⟨by unfold cn; omega, by unfold cn; omega, by omega, by unfold cn; omega, by unfold cn; omega, ?_⟩, fun v => ⟨by unfold cn; omega, ?_⟩⟩⟩
    · refine ih (w + 1) _ (by omega) ?_
      rw [hstep]
      conv => rhs; rw [ndS]
      rw [v]
      omega
    · refine ih (w + 1) _ (by omega) ?_
      rw [hstep]
      conv => rhs; rw [ndS]
      rw [hbt.resolve_left v]
      omega
theorem l_X12_canBeSpelt_2 {Q : Int → Me → Prop} {M : Me} {nd : Int → Int} {W set : Nat} (hW : M 76 55 = W) (hW8 : W ≤ 8) (hs : set < 256) (hnd : ∀ j, 0 ≤ j → j < 128 → M 115 j = nd j ∧ 0 ≤ nd j ∧ nd j ≤ 60)
    (hy : okSp nd (M 114) W set → Q 1 M) (hn : ¬ okSp nd (M 114) W set → Q 0 M) :
    ∀ (k : Nat) (L : Int), 0 ≤ L → L + k = 16 → (∀ j, 0 ≤ j → j < L → iter (ndS nd set j) W 0 0 ≤ M 114 j) → Go (km 1 mX12_canBeSpelt Q) 2 [some (.inr 76), some (.inl (set : Int)), some (.inl L), none, none] [] M := by
  intro k
  induction k with
  | zero => intro L l0 hL hp; exact s_X12_canBeSpelt_2 set L M ⟨fun _ => hy (fun j a b => hp j a (by omega)), fun v => by exfalso; omega⟩
  | succ k ih =>
    intro L l0 hL hp
    refine s_X12_canBeSpelt_2 set L M ⟨fun v => by exfalso; omega, fun _ => ?_⟩
    refine l_X12_canBeSpelt_13 hW hW8 hs hnd (by omega) (fun q => ih (L + 1) (by omega) (by omega) (fun j a b => ?_)) (fun q => hn (fun z => q (z L l0 (by omega)))) W 0 _ (by omega) (by simp [iter])
    by_cases e : j = L
    · subst e; exact q
    · exact hp j a (by omega)
theorem p_X12_canBeSpelt {Q : Int → Me → Prop} {M : Me} {nd : Int → Int} {W set : Nat} (hW : M 76 55 = W) (hW8 : W ≤ 8) (hs : set < 256) (hnd : ∀ j, 0 ≤ j → j < 128 → M 115 j = nd j ∧ 0 ≤ nd j ∧ nd j ≤ 60)
    (hy : okSp nd (M 114) W set → Q 1 M) (hn : ¬ okSp nd (M 114) W set → Q 0 M) : Calls 1 mX12_canBeSpelt [.inr 76, .inl (set : Int)] M Q :=
  e_X12_canBeSpelt (l_X12_canBeSpelt_2 hW hW8 hs hnd hy hn 16 0 (by omega) (by omega) (fun j a b => by omega))
/-! the most at once -/
noncomputable def msS (ok : Nat → Prop) (s best : Nat) : Nat := @ite Nat (popc best < popc s ∧ ok s) (Classical.propDecidable _) s best
noncomputable def msI (ok : Nat → Prop) : Nat → Nat → Nat → Nat
  | 0, _, b => b
  | k + 1, s, b => msI ok k (s + 1) (msS ok s b)
theorem msI_congr {ok ok' : Nat → Prop} : ∀ (k s b : Nat), (∀ i, s ≤ i → i < s + k → (ok i ↔ ok' i)) → msI ok k s b = msI ok' k s b
  | 0, _, _, _ => rfl
  | k + 1, s, b, h => by
    simp only [msI]
    have e : msS ok s b = msS ok' s b := by
      have := propext (h s (by omega) (by omega))
      unfold msS
      rw [this]
    rw [e]
    exact msI_congr k (s + 1) _ (fun i a b => h i (by omega) (by omega))
theorem msI_lt {ok : Nat → Prop} {B : Nat} : ∀ (k s b : Nat), s + k ≤ B → b < B → msI ok k s b < B
  | 0, _, _, _, hb => hb
  | k + 1, s, b, h, hb => by
    simp only [msI]
    refine msI_lt k (s + 1) _ (by omega) ?_
    unfold msS
    split
    · omega
    · exact hb
theorem l_X7_most {Q : Int → Me → Prop} {M : Me} {nd : Int → Int} {W : Nat} (hW : M 66 2 = W) (hW8 : W ≤ 8) (hnd : ∀ j, 0 ≤ j → j < 128 → M 68 j = nd j ∧ 0 ≤ nd j ∧ nd j ≤ 60) (hst : ∀ j, 0 ≤ j → j < 16 → 0 ≤ M 67 j ∧ M 67 j ≤ 32) : ∀ (k s b : Nat), s + k = 2 ^ W → b < 256 → Q (msI (okSp nd (M 67) W) k s b : Int) M → Go (km 1 mX7_mostAtOnce Q) 4 [some (.inr 66), some (.inl (b : Int)), some (.inl (s : Int))] [] M := by
  have hp : 2 ^ W ≤ 256 := Nat.pow_le_pow_right (n := 2) (by omega) hW8
  intro k
  induction k with
  | zero =>
    intro s b hs hb hQ
    refine s_X7_mostAtOnce_4 b s M ?_
    rw [hW, bshl_nat (by omega)]
    exact ⟨fun _ => hQ, fun v => by exfalso; omega⟩
  | succ k ih =>
    intro s b hs hb hQ
    simp only [msI] at hQ
    refine s_X7_mostAtOnce_4 b s M ?_
    rw [hW, bshl_nat (by omega)]
    refine ⟨fun v => by exfalso; omega, fun _ => ?_⟩
    refine p_bitCount (by omega) (p_bitCount (by omega) ⟨fun v => ⟨by unfold cn; omega, ?_⟩, fun v => ?_⟩)
    · refine ih (s + 1) b (by omega) hb ?_
      unfold msS at hQ
      rw [if_neg (fun q => by omega)] at hQ
      exact hQ
    · refine p_X7_canSpell hW hW8 (by omega) hnd hst (fun q => ⟨fun z => absurd z (by omega), fun _ => ⟨by unfold cn; omega, ?_⟩⟩) (fun q => ⟨fun _ => ⟨by unfold cn; omega, ?_⟩, fun z => absurd rfl z⟩)
      · refine ih (s + 1) s (by omega) (by omega) ?_
        unfold msS at hQ
        rw [if_pos ⟨by omega, q⟩] at hQ
        exact hQ
      · refine ih (s + 1) b (by omega) hb ?_
        unfold msS at hQ
        rw [if_neg (fun z => q z.2)] at hQ
        exact hQ
theorem l_X12_words {Q : Int → Me → Prop} {M : Me} {nd : Int → Int} {W : Nat} {b : Int} (hW : M 76 55 = W) (hW8 : W ≤ 8) (hnd : ∀ j, 0 ≤ j → j < 128 → M 115 j = nd j ∧ 0 ≤ nd j ∧ nd j ≤ 60) : ∀ (k s x : Nat), s + k = 2 ^ W → x < 256 → Q (if b = 0 then (popc (msI (okSp nd (M 114) W) k s x) : Int) else (msI (okSp nd (M 114) W) k s x : Int)) M → Go (km 2 mX12_words Q) 54 [some (.inr 76), none, some (.inl b), some (.inl (x : Int)), some (.inl (s : Int))] [] M := by
  have hp : 2 ^ W ≤ 256 := Nat.pow_le_pow_right (n := 2) (by omega) hW8
  intro k
  induction k with
  | zero =>
    intro s x hs hb hQ
    simp only [msI] at hQ
    refine s_X12_words_54 b x s M ?_
    rw [hW, bshl_nat (by omega)]
    refine ⟨fun _ => ⟨fun v => by rw [if_neg v] at hQ; exact hQ, fun v => p_X12_bits (by omega) (by rw [if_pos v] at hQ; exact hQ)⟩, fun v => by exfalso; omega⟩
  | succ k ih =>
    intro s x hs hb hQ
    simp only [msI] at hQ
    refine s_X12_words_54 b x s M ?_
    rw [hW, bshl_nat (by omega)]
    refine ⟨fun v => by exfalso; omega, fun _ => ?_⟩
    refine p_X12_bits (by omega) (p_X12_bits (by omega) ⟨fun v => ⟨by unfold cn; omega, ?_⟩, fun v => ?_⟩)
    · have e : msS (okSp nd (M 114) W) s x = x := by unfold msS; rw [if_neg (fun q => by omega)]
      rw [e] at hQ
      exact ih (s + 1) x (by omega) hb hQ
    · refine p_X12_canBeSpelt hW hW8 (by omega) hnd (fun q => ⟨fun z => absurd z (by omega), fun _ => ⟨by unfold cn; omega, ?_⟩⟩) (fun q => ⟨fun _ => ⟨by unfold cn; omega, ?_⟩, fun z => absurd rfl z⟩)
      · have e : msS (okSp nd (M 114) W) s x = s := by unfold msS; rw [if_pos ⟨by omega, q⟩]
        rw [e] at hQ
        exact ih (s + 1) s (by omega) (by omega) hQ
      · have e : msS (okSp nd (M 114) W) s x = x := by unfold msS; rw [if_neg (fun z => q z.2)]
        rw [e] at hQ
        exact ih (s + 1) x (by omega) hb hQ
theorem o_words {M : Me} (hC : RCuts M) (hS : RSt 37 77 (M 3 8) M) (hT : RTape M) (hne : ∀ c, 0 ≤ c → c < M 3 8 → M 6 c ≠ M 5 c) (n b : Int) (P : Me → Prop) (h2 : P M)
    (h1 : ∀ M2, (∀ k i, k ≠ 66 → k ≠ 67 → k ≠ 68 → k ≠ 114 → k ≠ 115 → ¬ (k = 76 ∧ i = 55) → ¬ (k = 1 ∧ i = 1) → ¬ (k = 76 ∧ i = 13) → M2 k i = M k i) → M2 1 1 = 0 → M2 76 13 = 0 → P M2) :
    Calls 2 mX11_words [.inr 0, .inl n, .inl b] M (fun r M1 => Calls 2 mX12_words [.inr 76, .inl n, .inl b] M1 (fun r' M2 => r = r' ∧ P M2)) := by
  obtain ⟨c0, c1, c2, c3⟩ := hC
  obtain ⟨t1, t2, t3, t4⟩ := hT
  have s1 := hS.1
  simp only [Nat.reduceAdd] at s1
  by_cases hr : (1 ≤ n ∧ n ≤ 60 ∧ n ≤ M 1 1) ∧ (b = 0 ∨ b = 1)
  · obtain ⟨⟨n1, n60, nt⟩, hb⟩ := hr
    have htn : ∀ j, 0 ≤ (fun j => if 0 ≤ j ∧ j < n then M 2 j else 0) j := fun j => by
      show 0 ≤ (if 0 ≤ j ∧ j < n then M 2 j else 0)
      split
      · next q => have := t4 j q.1 (by omega); omega
      · omega
    generalize ht : (fun j => if 0 ≤ j ∧ j < n then M 2 j else 0) = t at htn
    have htx : ∀ j, 0 ≤ j → j < n → M 2 j = t j := fun j a c => by rw [← ht]; simp only; rw [if_pos ⟨a, c⟩]
    -- the reference, over whatever the class left
    have ref : ∀ M1 : Me, (∀ k i, k ≠ 66 → k ≠ 67 → k ≠ 68 → ¬ (k = 1 ∧ i = 1) → M1 k i = M k i) → M1 1 1 = 0 → ∀ r : Int,
        (rdw t n.toNat 0 (fun _ => 0) 0 0 = none → r = -2) → (∀ nd w, rdw t n.toNat 0 (fun _ => 0) 0 0 = some (nd, w) → r = if b = 0 then (popc (msI (okSp nd (fun j => iter (hvS (M 38) (M 5) (M 6) j) (M 3 8).toNat 0 0) w.toNat) (2 ^ w.toNat - 1) 1 0) : Int) else (msI (okSp nd (fun j => iter (hvS (M 38) (M 5) (M 6) j) (M 3 8).toNat 0 0) w.toNat) (2 ^ w.toNat - 1) 1 0 : Int)) →
        Calls 2 mX12_words [.inr 76, .inl n, .inl b] M1 (fun r' M2 => r = r' ∧ P M2) := by
      intro M1 f1 z1 r hN hSm
      have e13 : M1 76 13 = M 76 13 := f1 76 13 (by decide) (by decide) (by decide) (by decide)
      have body : Calls 1 mX12_readsWords [.inr 76, .inl n] (mput M1 76 13 0) (fun r36 M36 => ((r36 ≠ 0 → Calls 0 mX12_counts [.inr 76] M36 (fun r46 M46 => Go (km 2 mX12_words (fun r' M2 => r = r' ∧ P M2)) 54 [some (.inr 76), none, some (.inl b), some (.inl 0), some (.inl 1)] [] M46)) ∧ (r36 = 0 → (fun r' M2 => r = r' ∧ P M2) (-2) M36))) := by
        refine p_X12_readsWords n1 n60 (t := t) (fun j a c => ?_) htn (fun h M' f => ⟨fun z => absurd rfl z, fun _ => ⟨hN h, h1 M' (fun k i a1 a2 a3 a4 a5 a6 a7 a8 => ?_) ?_ ?_⟩⟩) (fun nd w h M' f hw hnd w0 w8 => ⟨fun _ => ?_, fun z => absurd z (by omega)⟩)
        · rw [mput_ne _ _ _ _ (by decide), f1 88 j (by decide) (by decide) (by decide) (fun q => absurd q.1 (by decide)), (t4 j a (by omega)).1]
          exact htx j a c
        · rw [f k i a6 a5]; unfold mput; rw [if_neg a8]; exact f1 k i a1 a2 a3 a7
        · rw [f 1 1 (by decide) (by decide), mput_ne _ _ _ _ (by decide)]; exact z1
        · rw [f 76 13 (by decide) (by decide)]; exact mput_same _ _ _ _
        · have g : ∀ k i, k ≠ 66 → k ≠ 67 → k ≠ 68 → k ≠ 115 → ¬ (k = 76 ∧ i = 55) → ¬ (k = 1 ∧ i = 1) → ¬ (k = 76 ∧ i = 13) → M' k i = M k i := fun k i a1 a2 a3 a5 a6 a7 a8 => by
            rw [f k i a6 a5]; unfold mput; rw [if_neg a8]; exact f1 k i a1 a2 a3 a7
          have e11 : M' 76 11 = M 3 8 := by rw [g 76 11 (by decide) (by decide) (by decide) (by decide) (by decide) (by decide) (by decide)]; exact c2
          have e77 : ∀ j, M' 77 j = M 77 j := fun j => g 77 j (by decide) (by decide) (by decide) (by decide) (fun q => absurd q.1 (by decide)) (fun q => absurd q.1 (by decide)) (fun q => absurd q.1 (by decide))
          have e81 : ∀ j, M' 81 j = M 81 j := fun j => g 81 j (by decide) (by decide) (by decide) (by decide) (fun q => absurd q.1 (by decide)) (fun q => absurd q.1 (by decide)) (fun q => absurd q.1 (by decide))
          have e82 : ∀ j, M' 82 j = M 82 j := fun j => g 82 j (by decide) (by decide) (by decide) (by decide) (fun q => absurd q.1 (by decide)) (fun q => absurd q.1 (by decide)) (fun q => absurd q.1 (by decide))
          have hcut : ∀ c, 0 ≤ c → c < M 3 8 → (M' 77 c = M 38 c ∧ M' 81 c = M 5 c ∧ M' 82 c = M 6 c) := fun c a d => by
            obtain ⟨-, -, q1, q2, -⟩ := c3 c a d
            obtain ⟨-, q3, -⟩ := s1 c a d
            exact ⟨by rw [e77]; exact q3, by rw [e81]; exact q1, by rw [e82]; exact q2⟩
          refine p_X12_counts (by omega) (by omega) (fun c a d => ?_) (fun M3 f3 h3 => ?_)
          · obtain ⟨q1, q2, q3⟩ := hcut c a (by omega)
            obtain ⟨⟨-, q4, q5, -⟩, -⟩ := c3 c a (by omega)
            rw [q2, q3]
            exact ⟨q4, q5.2.2, hne c a (by omega)⟩
          · obtain ⟨W, hW⟩ : ∃ W : Nat, w = W := ⟨w.toNat, by omega⟩
            subst hW
            have hv : ∀ j, 0 ≤ j → j < 16 → M3 114 j = iter (hvS (M 38) (M 5) (M 6) j) (M 3 8).toNat 0 0 := fun j a d => by
              rw [h3 j a d, e11]
              refine iter_fun _ _ rfl _ (fun i i0 i1 x => ?_)
              obtain ⟨q1, q2, q3⟩ := hcut i i0 i1
              simp only [hvS, q1, q2, q3]
            refine l_X12_words (nd := nd) (W := W) (by rw [f3 76 55 (by decide)]; exact hw) (by omega) (fun j a d => ?_) (2 ^ W - 1) 1 0 (by have := Nat.two_pow_pos W; omega) (by omega) ⟨?_, h1 M3 (fun k i a1 a2 a3 a4 a5 a6 a7 a8 => ?_) ?_ ?_⟩
            · rw [f3 115 j (by decide)]
              have := hnd j a d
              exact ⟨this.1, this.2.1, by omega⟩
            · have e := msI_congr (ok := okSp nd (M3 114) W) (ok' := okSp nd (fun j => iter (hvS (M 38) (M 5) (M 6) j) (M 3 8).toNat 0 0) W) (2 ^ W - 1) 1 0 (fun i _ _ => ⟨fun q L a d => by have := q L a d; rw [hv L a d] at this; exact this, fun q L a d => by rw [hv L a d]; exact q L a d⟩)
              rw [e]
              have := hSm nd (W : Int) h
              simp only [Int.toNat_natCast] at this
              exact this
            · rw [f3 k i a4]; exact g k i a1 a2 a3 a5 a6 a7 a8
            · rw [f3 1 1 (by decide), f 1 1 (by decide) (by decide), mput_ne _ _ _ _ (by decide)]; exact z1
            · rw [f3 76 13 (by decide), f 76 13 (by decide) (by decide)]; exact mput_same _ _ _ _
      refine e_X12_words ?_
      rw [e13]
      exact ⟨fun _ => ⟨fun _ => ⟨fun _ => body, fun v => by exfalso; omega⟩, fun v => by exfalso; omega⟩, fun v => by exfalso; omega⟩
    -- the class
    have body : Calls 1 mX7_read [.inr 66, .inr 1, .inl n] M (fun r42 M42 => ((r42 ≠ 0 → Calls 1 mX7_stock [.inr 66, .inr 3, .inr 37] (mput M42 1 1 0) (fun r72 M72 => Calls 1 mX7_mostAtOnce [.inr 66] M72 (fun r79 M79 => ((b ≠ 0 → Calls 2 mX12_words [.inr 76, .inl n, .inl b] M79 (fun r' M2 => r79 = r' ∧ P M2)) ∧ (b = 0 → Calls 0 mJ6_bitCount_0f7a4 [.inl r79] M79 (fun r90 M90 => Calls 2 mX12_words [.inr 76, .inl n, .inl b] M90 (fun r' M2 => r90 = r' ∧ P M2))))))) ∧ (r42 = 0 → Calls 2 mX12_words [.inr 76, .inl n, .inl b] (mput M42 1 1 0) (fun r' M2 => (-2 : Int) = r' ∧ P M2)))) := by
      refine p_X7_read n1 n60 nt t3 htx htn (fun h M' f => ⟨fun z => absurd rfl z, fun _ => ref _ (fun k i a1 a2 a3 a4 => ?_) (mput_same _ _ _ _) (-2) (fun _ => rfl) (fun nd w h' => ?_)⟩) (fun nd w h M' f hw hnd w0 w8 => ⟨fun _ => ?_, fun z => absurd z (by omega)⟩)
      · unfold mput; rw [if_neg a4]; exact f k i (fun q => a1 q.1) a3
      · rw [h] at h'; cases h'
      · have g : ∀ k i, k ≠ 66 → k ≠ 68 → ¬ (k = 1 ∧ i = 1) → mput M' 1 1 0 k i = M k i := fun k i a1 a3 a4 => by
          unfold mput; rw [if_neg a4]; exact f k i (fun q => a1 q.1) a3
        have e38 : mput M' 1 1 0 3 8 = M 3 8 := g 3 8 (by decide) (by decide) (by decide)
        have ec : ∀ k i, k = 5 ∨ k = 6 ∨ k = 38 → mput M' 1 1 0 k i = M k i := fun k i hk => g k i (by omega) (by omega) (by omega)
        refine p_X7_stock (by omega) (by omega) (fun c a d => ?_) (fun M3 f3 h3 => ?_)
        · rw [ec 5 c (by omega), ec 6 c (by omega)]
          obtain ⟨⟨-, q4, q5, -⟩, -⟩ := c3 c a (by omega)
          exact ⟨q4, q5.2.2, hne c a (by omega)⟩
        · obtain ⟨W, hW⟩ : ∃ W : Nat, w = W := ⟨w.toNat, by omega⟩
          subst hW
          have hv : ∀ j, 0 ≤ j → j < 16 → M3 67 j = iter (hvS (M 38) (M 5) (M 6) j) (M 3 8).toNat 0 0 := fun j a d => by
            rw [h3 j a d, e38]
            exact iter_fun _ _ rfl _ (fun i i0 i1 x => by simp only [hvS, ec 5 i (by omega), ec 6 i (by omega), ec 38 i (by omega)])
          have fr : ∀ k i, k ≠ 66 → k ≠ 67 → k ≠ 68 → ¬ (k = 1 ∧ i = 1) → M3 k i = M k i := fun k i a1 a2 a3 a4 => by rw [f3 k i a2]; exact g k i a1 a3 a4
          have z3 : M3 1 1 = 0 := by rw [f3 1 1 (by decide)]; exact mput_same _ _ _ _
          have h8 : 2 ^ W ≤ 256 := Nat.pow_le_pow_right (n := 2) (by omega) (show W ≤ 8 by omega)
          have hpos := Nat.two_pow_pos W
          refine e_X7_mostAtOnce (l_X7_most (nd := nd) (W := W) (by rw [f3 66 2 (by decide), mput_ne _ _ _ _ (by decide)]; exact hw) (by omega) (fun j a d => ?_) (fun j a d => ?_) (2 ^ W - 1) 1 0 (by omega) (by omega) ?_)
          · rw [f3 68 j (by decide), mput_ne _ _ _ _ (by decide)]
            have := hnd j a d
            exact ⟨this.1, this.2.1, by omega⟩
          · rw [hv j a d]
            have := hv_bound (M 38) (M 5) (M 6) j (M 3 8).toNat 0 0
            omega
          · have e := msI_congr (ok := okSp nd (M3 67) W) (ok' := okSp nd (fun j => iter (hvS (M 38) (M 5) (M 6) j) (M 3 8).toNat 0 0) W) (2 ^ W - 1) 1 0 (fun i _ _ => ⟨fun q L a d => by have := q L a d; rw [hv L a d] at this; exact this, fun q L a d => by rw [hv L a d]; exact q L a d⟩)
            rw [e]
            have hlt := msI_lt (ok := okSp nd (fun j => iter (hvS (M 38) (M 5) (M 6) j) (M 3 8).toNat 0 0) W) (B := 256) (2 ^ W - 1) 1 0 (by omega) (by omega)
            refine ⟨fun v => ref M3 fr z3 _ (fun q => by rw [h] at q; cases q) (fun nd' w' q => ?_), fun v => p_bitCount (by omega) (ref M3 fr z3 _ (fun q => by rw [h] at q; cases q) (fun nd' w' q => ?_))⟩
            · rw [h] at q; cases q
              simp only [Int.toNat_natCast]
              rw [if_neg v]
            · rw [h] at q; cases q
              simp only [Int.toNat_natCast]
              rw [if_pos v]
    refine e_X11_words ?_
    exact ⟨fun v => by exfalso; omega, fun _ => ⟨fun v => by exfalso; omega, fun _ => ⟨fun v => by exfalso; omega, fun _ => ⟨fun _ => body, fun _ => ⟨fun _ => body, fun v => by exfalso; omega⟩⟩⟩⟩⟩
  · have go : Calls 2 mX12_words [.inr 76, .inl n, .inl b] M (fun r' M2 => (-1 : Int) = r' ∧ P M2) := by
      refine e_X12_words ⟨fun v1 => ⟨fun v2 => ⟨fun v3 => (by exfalso; omega), fun v3 => (by exact ⟨rfl, h2⟩)⟩, fun v2 => (by exact ⟨rfl, h2⟩)⟩, fun v1 => (by exact ⟨rfl, h2⟩)⟩
    refine e_X11_words ⟨fun v1 => (by exact go), fun v1 => ⟨fun v2 => (by exact go), fun v2 => ⟨fun v3 => (by exact go), fun v3 => ⟨fun v4 => (by exfalso; omega), fun v4 => ⟨fun v5 => (by exfalso; omega), fun v5 => (by exact go)⟩⟩⟩⟩⟩
