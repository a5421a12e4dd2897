/-! ===== the reference reads a whole law ===== -/
def AR (L : Me) (j : Int) (M : Me) : Prop := ∀ r, 0 ≤ r → r < j → M 91 r = L 1 r ∧ M 92 r = L 2 r ∧ M 93 r = L 3 r ∧ M 94 r = L 4 r ∧ ∀ i, L 2 r ≤ i → i < L 4 r → RC L (L 3 r) i (M 89 i)
def FRz (M M' : Me) : Prop := ∀ k i, (k < 89 ∨ 94 < k) → (k = 76 → i ≠ 14 ∧ i ≠ 15 ∧ i ≠ 16 ∧ i ≠ 17 ∧ i ≠ 18 ∧ i ≠ 19 ∧ i ≠ 20 ∧ i ≠ 21) → M' k i = M k i
theorem FRz.tr {A B C : Me} (h : FRz A B) (h' : FRz B C) : FRz A C := fun k i a b => (h' k i a b).trans (h k i a b)
theorem FRz.q {m : Int} {M M' : Me} (h : FRq m M M') : FRz M M' := fun k i a b => h k i (by omega) (by omega) (fun z => by have := b z; exact ⟨this.1, this.2.2.1, this.2.2.2.1, this.2.2.2.2.1, this.2.2.2.2.2.1, this.2.2.2.2.2.2.1, this.2.2.2.2.2.2.2⟩) (fun z => by omega)
theorem FRz.p {j v : Int} (M : Me) (hj : j = 14 ∨ j = 15 ∨ j = 16 ∨ j = 19 ∨ j = 21) : FRz M (mput M 76 j v) := fun k i a b => by
  unfold mput
  rw [if_neg (fun z => by have := b z.1; omega)]
theorem PreL.mono {S : Int → Int} {L : Me} {P N : Int → Int} {e m : Int} (hS : Sg S e) (e0 : 0 ≤ e) (h : PreL S L P N m) {r : Int} (r0 : 0 ≤ r) : ∀ k : Nat, r + k ≤ m → N r ≤ N (r + k) := by
  intro k
  induction k with
  | zero => intro _; rw [show r + ((0 : Nat) : Int) = r by omega]; exact Int.le_refl _
  | succ k ih =>
    intro hk
    have a := ih (by omega)
    obtain ⟨⟨z, -⟩, -⟩ := h.2.2 (r + k) (by omega) (by omega)
    have b := h.at hS e0 (j := r + k) (by omega) (by omega)
    have l := z.le hS b.1 b.2.1
    rw [show r + ((k + 1 : Nat) : Int) = r + k + 1 by omega]
    omega
theorem RC.cd {L : Me} {h i x : Int} (z : RC L h i x) (i0 : 0 ≤ i) (ok : (0 ≤ L 5 i ∧ L 5 i ≤ 12) ∧ 0 ≤ L 6 i ∧ L 6 i < 1048576) : 0 ≤ x ∧ x / 1048576 ≤ 12 := by
  obtain ⟨V, e, z⟩ := z
  have hV : 0 ≤ V ∧ V < 1048576 := by
    rcases z with z | ⟨-, -, z1, z2, -⟩
    · omega
    · omega
  omega
theorem l_rules {T : Int → Int} {e m R : Int} {L M0 : Me} {P N : Int → Int} {Q : Int → Me → Prop} (hS : Sg (Sx T e) e) (e0 : 0 ≤ e) (ho : Out (Sx T e) e L P N m R)
    (hF : R < 0 → ∀ M', FRz M0 M' → M' 76 16 = R → Go (km 8 mX12_law Q) 31 [some (.inr 76), none, some (.inl 0), none] [] M')
    (hE : R = m + 1 → ∀ M', FRz M0 M' → M' 76 15 ≤ M' 76 14 → M' 76 21 = m + 1 → M' 76 19 = N (m + 1) → 0 ≤ N (m + 1) → N (m + 1) ≤ 240 → (∀ r, 0 ≤ r → r < m + 1 → 0 ≤ L 2 r ∧ L 4 r ≤ N (m + 1)) → AR L (m + 1) M' → Go (km 8 mX12_law Q) 31 [some (.inr 76), none, some (.inl 1), none] [] M') :
    ∀ (d : Nat) (j : Int) (M : Me), 0 ≤ j → j + d = m → RB T e (P j) (N j) M → M 76 21 = j → AR L j M → cdW (N j) M → FRz M0 M →
    Calls 7 mX12_readsRule [.inr 76] M (fun r M' => (r = 0 ∧ Go (km 8 mX12_law Q) 31 [some (.inr 76), none, some (.inl 0), none] [] M') ∨ (r = 1 ∧ Go (km 8 mX12_law Q) 31 [some (.inr 76), none, some (.inl 1), none] [] M')) := by
  have he : e ≤ 240 := hS.1
  obtain ⟨m0, m16, hp, hout⟩ := ho
  have step : ∀ (j : Int) (M : Me), 0 ≤ j → j ≤ m → j < 16 → Rr (Sx T e) L P N j → RB T e (P j) (N j) M → M 76 21 = j → AR L j M → cdW (N j) M → FRz M0 M →
      (∀ M', RS T e (P (j + 1) - 1) 0 (N (j + 1)) [] M' → M' 76 21 = j + 1 → AR L (j + 1) M' → cdW (N (j + 1)) M' → FRz M0 M' → Go (km 8 mX12_law Q) 31 [some (.inr 76), none, some (.inl 1), none] [] M') →
      Calls 7 mX12_readsRule [.inr 76] M (fun r M' => (r = 0 ∧ Go (km 8 mX12_law Q) 31 [some (.inr 76), none, some (.inl 0), none] [] M') ∨ (r = 1 ∧ Go (km 8 mX12_law Q) 31 [some (.inr 76), none, some (.inl 1), none] [] M')) := by
    intro j M j0 jm j16 rr rb h21 ar cd fr hk
    obtain ⟨z, r1, r2, r4⟩ := rr
    have b := hp.at hS e0 j0 jm
    have l := z.le hS b.1 b.2.1
    have w := z.wf hS b.1 b.2.1
    refine q_rule hS he z b.1 b.2.1 rb h21 ⟨j0, j16⟩ (fun M' rs' e21 a91 a92 a93 a94 c1 c2 c3 f' => Or.inr ⟨rfl, hk M' rs' e21 (fun r q0 q1 => ?_) (fun i i0 i1 => ?_) (fr.tr (FRz.q f'))⟩)
    · by_cases q : r = j
      · subst q
        refine ⟨a91.trans r1.symm, a92.trans r2.symm, a93, a94.trans r4.symm, fun i x y => ?_⟩
        rw [r2] at x
        rw [r4] at y
        by_cases qi : i < L 3 r
        · exact RC.pl (c2 i x qi)
        · rcases c3 i (by omega) y with z2 | ⟨-, -, z2, -⟩
          · exact z2
          · cases z2
      · obtain ⟨o1, o2, o3, o4, o5⟩ := ar r q0 (by omega)
        have k9 : ∀ k, 91 ≤ k → k ≤ 94 → M' k r = M k r := fun k x y => f' k r (by omega) (by omega) (fun z => by omega) (fun _ => q)
        refine ⟨(k9 91 (by omega) (by omega)).trans o1, (k9 92 (by omega) (by omega)).trans o2, (k9 93 (by omega) (by omega)).trans o3, (k9 94 (by omega) (by omega)).trans o4, fun i x y => ?_⟩
        have s4 := (hp.2.2 r q0 (by omega)).1.2.2.2
        have mo := hp.mono hS e0 (r := r + 1) (by omega) (j - (r + 1)).toNat (by omega)
        rw [show r + 1 + ((j - (r + 1)).toNat : Int) = j by omega] at mo
        rw [c1 i (by omega)]
        exact o5 i x y
    · by_cases q : i < N j
      · rw [c1 i q]; exact cd i i0 q
      · have ok := w.2.2 i (by omega) i1
        by_cases qi : i < L 3 j
        · rw [c2 i (by omega) qi]; omega
        · rcases c3 i (by omega) i1 with z2 | ⟨-, -, z2, -⟩
          · exact z2.cd i0 ok
          · cases z2
  intro d
  induction d with
  | zero =>
    intro j M j0 jd rb h21 ar cd fr
    have : j = m := by omega
    subst this
    have b := hp.at hS e0 j0 (Int.le_refl j)
    rcases hout with ⟨hr, hb⟩ | ⟨j16, rr, hend⟩
    · exact q_ruleB hS he hb b.1 b.2.1 b.2.2 rb cd h21 ⟨j0, m16⟩ (fun M' f' g' => Or.inl ⟨rfl, hF hr M' (fr.tr (FRz.q f')) g'⟩)
    · have l := rr.1.le hS b.1 b.2.1
      refine step j M j0 (Int.le_refl j) j16 rr rb h21 ar cd fr (fun M' rs' e21 ar' cd' fr' => ?_)
      rcases hend with ⟨h1, h2, h3⟩ | ⟨h1, h2⟩
      · refine s_X12_law_31 _ M' ⟨fun z => absurd z (by decide), fun _ => ⟨fun z => ?_, fun _ => q_takes rs'.1 (by rw [rs'.2.1]; omega) (by rw [rs'.2.1]; omega) (fun z => ?_) (fun _ => ⟨fun _ => hF (by omega) _ (fr'.tr (FRz.p _ (by omega))) ?_, fun z => absurd rfl z⟩)⟩⟩
        · rw [rs'.1.1, rs'.2.1] at z; exfalso; omega
        · rw [rs'.2.1] at z; exact absurd z h2
        · rw [mput_same, rs'.2.1, h3]
      · refine hE h2 M' fr' (by rw [rs'.1.1, rs'.2.1]; omega) e21 rs'.2.2.2.1 (by omega) (by omega) (fun r r0 r1 => ?_) ar'
        by_cases q : r = j
        · subst q
          have := rr.2.2.1
          have := rr.2.2.2
          omega
        · have s := (hp.2.2 r r0 (by omega)).1.2.2
          have br := hp.at hS e0 r0 (by omega)
          have mo := hp.mono hS e0 (r := r + 1) (by omega) (j - (r + 1)).toNat (by omega)
          rw [show r + 1 + ((j - (r + 1)).toNat : Int) = j by omega] at mo
          omega
  | succ d ih =>
    intro j M j0 jd rb h21 ar cd fr
    obtain ⟨rr, h59⟩ := hp.2.2 j j0 (by omega)
    have b := hp.at hS e0 j0 (by omega)
    have l := rr.1.le hS b.1 b.2.1
    refine step j M j0 (by omega) (by omega) rr rb h21 ar cd fr (fun M' rs' e21 ar' cd' fr' => ?_)
    have hpe := hS.2 (P (j + 1) - 1) (by omega)
    refine s_X12_law_31 _ M' ⟨fun z => absurd z (by decide), fun _ => ⟨fun z => ?_, fun _ => q_takes rs'.1 (by rw [rs'.2.1]; omega) (by rw [rs'.2.1]; omega) (fun _ => ⟨fun z => absurd z (by decide), fun _ => ?_⟩) (fun z => ?_)⟩⟩
    · rw [rs'.1.1, rs'.2.1] at z; exfalso; omega
    · rw [rs'.2.1, show P (j + 1) - 1 + 1 = P (j + 1) by omega]
      have o : ∀ k i, k ≠ 76 → mput M' 76 14 (P (j + 1)) k i = M' k i := fun k i hk => mput_ne _ _ _ _ hk
      refine Calls.mono (fun r M2 _ _ hh => ?_) (ih (j + 1) (mput M' 76 14 (P (j + 1))) (by omega) (by omega) ⟨⟨?_, rs'.1.2.1, fun i x y => ?_⟩, mput_same .., ?_⟩ ?_ (fun r x y => ?_) (fun i x y => ?_) (fr'.tr (FRz.p _ (by omega))))
      · rcases hh with ⟨a, c⟩ | ⟨a, c⟩
        · subst a; exact ⟨fun _ => c, fun z => absurd rfl z⟩
        · subst a; exact ⟨fun z => absurd z (by decide), fun _ => c⟩
      · rw [mput_ni _ _ _ _ (by decide)]; exact rs'.1.1
      · rw [o 88 i (by decide)]; exact rs'.1.2.2 i x y
      · rw [mput_ni _ _ _ _ (by decide)]; exact rs'.2.2.2.1
      · rw [mput_ni _ _ _ _ (by decide)]; exact e21
      · obtain ⟨o1, o2, o3, o4, o5⟩ := ar' r x y
        rw [o 91 r (by decide), o 92 r (by decide), o 93 r (by decide), o 94 r (by decide)]
        exact ⟨o1, o2, o3, o4, fun i u v => by rw [o 89 i (by decide)]; exact o5 i u v⟩
      · rw [o 89 i (by decide)]; exact cd' i x y
    · rw [rs'.2.1] at z; exact absurd h59 z
theorem l_cp95 {Mb : Me} {n : Int} {Q : Int → Me → Prop} (hn : Mb 76 19 = n) (n1 : n ≤ 240)
    (hQ : ∀ M', (∀ i, 0 ≤ i → i < n → M' 95 i = Mb 89 i) → (∀ k i, k ≠ 95 → M' k i = Mb k i) → Go (km 8 mX12_law Q) 123 [some (.inr 76), none, none, some (.inl 0)] [] M') :
    ∀ (K : Nat) (k : Int) (M : Me), 0 ≤ k → k + K = n → (∀ i, 0 ≤ i → i < k → M 95 i = Mb 89 i) → (∀ k i, k ≠ 95 → M k i = Mb k i) → Go (km 8 mX12_law Q) 95 [some (.inr 76), none, none, some (.inl k)] [] M := by
  intro K
  induction K with
  | zero =>
    intro k M k0 kn h1 h2
    have e : M 76 19 = n := by rw [h2 76 19 (by decide)]; exact hn
    exact s_X12_law_95 _ M ⟨fun _ => hQ M (fun i a b => h1 i a (by omega)) h2, fun z => by exfalso; omega⟩
  | succ K ih =>
    intro k M k0 kn h1 h2
    have e : M 76 19 = n := by rw [h2 76 19 (by decide)]; exact hn
    refine s_X12_law_95 _ M ⟨fun z => by exfalso; omega, fun _ => ⟨by omega, by omega, by unfold cn; omega, ih (k + 1) _ (by omega) (by omega) (fun i a b => ?_) (fun q i hq => ?_)⟩⟩
    · by_cases q : i = k
      · subst q; rw [mput_same]; exact h2 89 i (by decide)
      · rw [mput_ni _ _ _ _ q]; exact h1 i a (by omega)
    · rw [mput_ne _ _ _ _ hq]; exact h2 q i hq
theorem l_cp96 {Mb : Me} {n : Int} {Q : Int → Me → Prop} (hn : Mb 76 21 = n) (n1 : n ≤ 16)
    (hQ : ∀ M', (∀ i, 0 ≤ i → i < n → M' 96 i = Mb 91 i ∧ M' 97 i = Mb 92 i ∧ M' 98 i = Mb 93 i ∧ M' 99 i = Mb 94 i) → (∀ k i, (k < 96 ∨ 99 < k) → M' k i = Mb k i) → Q n M') :
    ∀ (K : Nat) (k : Int) (M : Me), 0 ≤ k → k + K = n → (∀ i, 0 ≤ i → i < k → M 96 i = Mb 91 i ∧ M 97 i = Mb 92 i ∧ M 98 i = Mb 93 i ∧ M 99 i = Mb 94 i) → (∀ k i, (k < 96 ∨ 99 < k) → M k i = Mb k i) → Go (km 8 mX12_law Q) 123 [some (.inr 76), none, none, some (.inl k)] [] M := by
  intro K
  induction K with
  | zero =>
    intro k M k0 kn h1 h2
    have e : M 76 21 = n := by rw [h2 76 21 (by omega)]; exact hn
    exact s_X12_law_123 _ M ⟨fun _ => by rw [e]; exact hQ M (fun i a b => h1 i a (by omega)) h2, fun z => by exfalso; omega⟩
  | succ K ih =>
    intro k M k0 kn h1 h2
    have e : M 76 21 = n := by rw [h2 76 21 (by omega)]; exact hn
    have r : 0 ≤ k ∧ k < 16 := by omega
    refine s_X12_law_123 _ M ⟨fun z => by exfalso; omega, fun _ => ⟨r, r, r, r, r, r, r, r, by unfold cn; omega, ih (k + 1) _ (by omega) (by omega) (fun i a b => ?_) (fun q i hq => ?_)⟩⟩
    · by_cases q : i = k
      · subst q
        refine ⟨?_, ?_, ?_, ?_⟩
        · rw [mput_ne _ _ _ _ (by decide), mput_ne _ _ _ _ (by decide), mput_ne _ _ _ _ (by decide), mput_same]; exact h2 91 i (by omega)
        · rw [mput_ne _ _ _ _ (by decide), mput_ne _ _ _ _ (by decide), mput_same]; exact h2 92 i (by omega)
        · rw [mput_ne _ _ _ _ (by decide), mput_same]; exact h2 93 i (by omega)
        · rw [mput_same]; exact h2 94 i (by omega)
      · have o : ∀ j, (mput (mput (mput (mput M 96 k (M 91 k)) 97 k (M 92 k)) 98 k (M 93 k)) 99 k (M 94 k)) j i = M j i := fun j => by
          unfold mput
          rw [if_neg (fun z => q z.2), if_neg (fun z => q z.2), if_neg (fun z => q z.2), if_neg (fun z => q z.2)]
        rw [o 96, o 97, o 98, o 99]
        exact h1 i a (by omega)
    · rw [mput_ne _ _ _ _ (by omega), mput_ne _ _ _ _ (by omega), mput_ne _ _ _ _ (by omega), mput_ne _ _ _ _ (by omega)]; exact h2 q i hq
theorem m_law {T : Int → Int} {a m R : Int} {L M : Me} {P N : Int → Int} {Q : Int → Me → Prop} (ha : 1 ≤ a ∧ a ≤ 240) (hs : a ≤ M 76 13) (hT : ∀ i, 0 ≤ i → i < a → band (M 88 i) 255 = T i) (ho : Out (Sx T a) a L P N m R)
    (hB : R ≤ 0 → ∀ M', (∀ k i, (k < 89 ∨ 94 < k) → (k = 76 → i < 13 ∨ 21 < i) → M' k i = M k i) → M' 76 13 = 0 → Q R M')
    (hG : R = m + 1 → ∀ M', (∀ k i, (k < 89 ∨ 99 < k) → (k = 76 → i < 13 ∨ 22 < i) → M' k i = M k i) → M' 76 13 = 0 → M' 76 22 = m + 1 → (∀ r, 0 ≤ r → r < m + 1 → M' 96 r = L 1 r ∧ M' 97 r = L 2 r ∧ M' 98 r = L 3 r ∧ M' 99 r = L 4 r ∧ ∀ i, L 2 r ≤ i → i < L 4 r → RC L (L 3 r) i (M' 95 i)) → Q R M') : Calls 8 mX12_law [.inr 76, .inl a] M Q := by
  have hS : Sg (Sx T a) a := ⟨ha.2, fun p hp => by
    have := sg_pos (T := T) (e := a) (s := (p, 0)) hp
    exact ⟨this.2.1, this.2.2.1⟩⟩
  obtain ⟨M1, hM1⟩ : ∃ M1, mput (mput (mput (mput M 76 14 0) 76 15 a) 76 19 0) 76 21 0 = M1 := ⟨_, rfl⟩
  have f1 : FRz M M1 := by rw [← hM1]; exact (((FRz.p _ (by omega)).tr (FRz.p _ (by omega))).tr (FRz.p _ (by omega))).tr (FRz.p _ (by omega))
  have o1 : ∀ k i, k ≠ 76 → M1 k i = M k i := fun k i hk => by rw [← hM1, mput_ne _ _ _ _ hk, mput_ne _ _ _ _ hk, mput_ne _ _ _ _ hk, mput_ne _ _ _ _ hk]
  have hm0 := ho.1
  have hm16 := ho.2.1
  have hp := ho.2.2.1
  refine e_X12_law ⟨fun _ => ⟨fun _ => e_X12_beginsText ?_, fun z => by exfalso; omega⟩, fun z => absurd ha z⟩
  rw [hM1]
  refine Calls.mono (fun r M2 _ _ hh => ?_) (l_rules (M0 := M1) (Q := Q) hS (by omega) ho (fun hR0 M' f' g' => ?_) (fun hR M' f' g1 g2 g3 g4 g5 g6 ar => ?_) m.toNat 0 M1 (by omega) (by omega) ⟨⟨?_, by omega, fun i x y => ?_⟩, ?_, ?_⟩ ?_ (fun r x y => by exfalso; omega) (fun i x y => ?_) (fun _ _ _ _ => rfl))
  · rcases hh with ⟨b, c⟩ | ⟨b, c⟩
    · subst b; exact c
    · subst b; exact c
  · refine s_X12_law_31 _ M' ⟨fun _ => ⟨fun z => absurd rfl z, fun _ => ?_⟩, fun z => absurd rfl z⟩
    rw [g']
    refine hB (by omega) _ (fun k i x y => ?_) (mput_same ..)
    have z : mput M' 76 13 0 k i = M' k i := by unfold mput; rw [if_neg (fun w => by have := y w.1; omega)]
    rw [z]
    exact (f1.tr f') k i x (fun w => by have := y w; omega)
  · refine s_X12_law_31 _ M' ⟨fun z => absurd z (by decide), fun _ => ⟨fun _ => ⟨fun _ => ?_, fun z => absurd z (by decide)⟩, fun z => by exfalso; omega⟩⟩
    rw [g2]
    obtain ⟨Mb, hMb⟩ : ∃ Mb, mput (mput M' 76 13 0) 76 22 (m + 1) = Mb := ⟨_, rfl⟩
    rw [hMb]
    have ob : ∀ k i, k ≠ 76 → Mb k i = M' k i := fun k i hk => by rw [← hMb, mput_ne _ _ _ _ hk, mput_ne _ _ _ _ hk]
    have b19 : Mb 76 19 = N (m + 1) := by rw [← hMb, mput_ni _ _ _ _ (by decide), mput_ni _ _ _ _ (by decide)]; exact g3
    have b21 : Mb 76 21 = m + 1 := by rw [← hMb, mput_ni _ _ _ _ (by decide), mput_ni _ _ _ _ (by decide)]; exact g2
    have b13 : Mb 76 13 = 0 := by rw [← hMb, mput_ni _ _ _ _ (by decide), mput_same]
    have b22 : Mb 76 22 = m + 1 := by rw [← hMb, mput_same]
    have m16 : m < 16 := by
      rcases ho.2.2.2 with ⟨z, -⟩ | ⟨z, -⟩
      · omega
      · exact z
    refine l_cp95 (Mb := Mb) (n := N (m + 1)) b19 g5 (fun Mc c1 c2 => ?_) (N (m + 1)).toNat 0 Mb (by omega) (by omega) (fun i x y => by exfalso; omega) (fun _ _ _ => rfl)
    refine l_cp96 (Mb := Mc) (n := m + 1) (by rw [c2 76 21 (by decide)]; exact b21) (by omega) (fun Md d1 d2 => ?_) (m + 1).toNat 0 Mc (by omega) (by omega) (fun i x y => by exfalso; omega) (fun _ _ _ => rfl)
    rw [← hR]
    refine hG hR Md (fun k i x y => ?_) ?_ ?_ (fun r x y => ?_)
    · rw [d2 k i (by omega), c2 k i (by omega)]
      have z : Mb k i = M' k i := by rw [← hMb]; unfold mput; rw [if_neg (fun w => by have := y w.1; omega), if_neg (fun w => by have := y w.1; omega)]
      rw [z]
      exact (f1.tr f') k i (by omega) (fun w => by have := y w; omega)
    · rw [d2 76 13 (by omega), c2 76 13 (by decide)]; exact b13
    · rw [d2 76 22 (by omega), c2 76 22 (by decide)]; exact b22
    · obtain ⟨e1, e2, e3, e4⟩ := d1 r x y
      obtain ⟨u1, u2, u3, u4, u5⟩ := ar r x y
      have t : ∀ k, 91 ≤ k → k ≤ 94 → Mc k r = M' k r := fun k z1 z2 => by rw [c2 k r (by omega), ob k r (by omega)]
      refine ⟨by rw [e1, t 91 (by omega) (by omega)]; exact u1, by rw [e2, t 92 (by omega) (by omega)]; exact u2, by rw [e3, t 93 (by omega) (by omega)]; exact u3, by rw [e4, t 94 (by omega) (by omega)]; exact u4, fun i z1 z2 => ?_⟩
      have g := g6 r x y
      rw [d2 95 i (by omega), c1 i (by omega) (by omega), ob 89 i (by decide)]
      exact u5 i z1 z2
  · rw [← hM1, mput_ni _ _ _ _ (by decide), mput_ni _ _ _ _ (by decide), mput_same]
  · rw [o1 88 i (by decide)]; exact hT i x y
  · rw [← hM1, mput_ni _ _ _ _ (by decide), mput_ni _ _ _ _ (by decide), mput_ni _ _ _ _ (by decide), mput_same]; exact hp.1.symm
  · rw [← hM1, mput_ni _ _ _ _ (by decide), mput_same]; exact hp.2.1.symm
  · rw [← hM1, mput_same]
  · rw [hp.2.1] at y; exfalso; omega
/-! ===== law, on both sides ===== -/
def FrL (M M' : Me) : Prop := ∀ k i, (k = 1 → i ≠ 1 ∧ i ≠ 2 ∧ i ≠ 3 ∧ i ≠ 4) → (k < 22 ∨ 27 < k) → (k < 30 ∨ 35 < k) → (k = 76 → i < 13 ∨ 22 < i) → (k < 89 ∨ 99 < k) → M' k i = M k i
theorem LawC.ld {M M' : Me} {m : Int} (h6 : M' 22 6 = M 30 6) (hm : M 30 6 = m) (hr : ∀ r, 0 ≤ r → r < m → M' 23 r = M 31 r ∧ M' 24 r = M 32 r ∧ M' 25 r = M 33 r ∧ M' 26 r = M 34 r ∧ ∀ i, M 32 r ≤ i → i < M 34 r → M' 27 i = M 35 i ∧ dop (M 35 i % 256) ≠ -1) : LawC M' (LD M) := by
  refine ⟨h6, fun r r0 r1 => ?_⟩
  have e0 : LD M 0 0 = m := hm
  obtain ⟨a, b, c, d, f⟩ := hr r r0 (by omega)
  refine ⟨a, b, c, d, fun i x y => ?_⟩
  obtain ⟨f1, f2⟩ := f i x y
  rw [f1, LD_5, LD_6, dop_sg f2]
  omega
theorem o_law {M : Me} (hT : RTape M) (a : Int) (P : Me → Prop) (hP0 : P M) (hPB : ∀ M', FrL M M' → M' 1 1 = 0 → M' 76 13 = 0 → (∀ k i, 22 ≤ k → k ≤ 27 → M' k i = M k i) → (∀ k i, 95 ≤ k → k ≤ 99 → M' k i = M k i) → M' 76 22 = M 76 22 → P M')
    (hPG : ∀ M' L, FrL M M' → M' 1 1 = 0 → M' 76 13 = 0 → LawC M' L → LawR M' L → LawW L → P M') : Calls 25 mX11_law [.inr 0, .inl a] M (fun r M1 => Calls 8 mX12_law [.inr 76, .inl a] M1 (fun r' M2 => r = r' ∧ P M2)) := by
  obtain ⟨t1, t2, t3, t4⟩ := hT
  by_cases hv : (1 ≤ a ∧ a ≤ 240) ∧ a ≤ M 1 1
  · obtain ⟨ha, hs⟩ := hv
    have hS : Sg (Sx (M 2) a) a := ⟨ha.2, fun p hp => by
      have := sg_pos (T := M 2) (e := a) (s := (p, 0)) hp
      exact ⟨this.2.1, this.2.2.1⟩⟩
    refine e_X11_law ⟨fun z => by exfalso; omega, fun _ => ⟨fun z => by exfalso; omega, fun _ => ⟨fun _ => k_read ha hs (fun i x y => (t4 i x y).2) (fun M1 R L P' N m ho hl fv => ⟨fun z => ?_, fun z => ?_⟩), fun z => by exfalso; omega⟩⟩⟩
    · have o : ∀ k i, (k = 1 → i ≠ 1) → mput M1 1 1 0 k i = M1 k i := fun k i h => by unfold mput; rw [if_neg (fun w => h w.1 w.2)]
      have c : ∀ k i, 36 ≤ k → mput M1 1 1 0 k i = M k i := fun k i h => by rw [o k i (fun w => by omega)]; exact fv k i (fun w => by omega) (fun w => by omega) (by omega)
      refine m_law ha (by rw [c 76 13 (by omega), t1]; exact hs) (fun i x y => by rw [c 88 i (by omega)]; exact (t4 i x (by omega)).1) ho (fun _ M' f g => ⟨rfl, hPB M' (fun k i a1 a2 a3 a4 a5 => ?_) ?_ g (fun k i a1 a2 => ?_) (fun k i a1 a2 => ?_) ?_⟩) (fun hR => by have := ho.1; exfalso; omega)
      · rw [f k i (by omega) (fun w => by have := a4 w; omega), o k i (fun w => (a1 w).1)]
        exact fv k i (fun w => (a1 w).2) (fun w => by omega) (by omega)
      · rw [f 1 1 (by omega) (fun w => absurd w (by decide)), mput_same]
      · rw [f k i (by omega) (fun w => by omega), o k i (fun w => by omega)]
        exact fv k i (fun w => by omega) (fun w => by omega) (by omega)
      · rw [f k i (by omega) (fun w => by omega)]; exact c k i (by omega)
      · rw [f 76 22 (by omega) (fun _ => by omega)]; exact c 76 22 (by omega)
    · obtain ⟨rfl, h6⟩ := hl z
      obtain ⟨M2, hM2⟩ : ∃ M2, mput (mput (mcopy (mcopy (mcopy (mcopy (mcopy (mput M1 1 1 0) 31 23 16) 32 24 16) 33 25 16) 34 26 16) 35 27 240) 22 6 ((mput M1 1 1 0) 30 6)) 22 7 ((mput M1 1 1 0) 30 7) = M2 := ⟨_, rfl⟩
      refine e_X3_copyOf ?_
      rw [hM2]
      have o : ∀ k i, (k < 22 ∨ 27 < k) → (k = 1 → i ≠ 1) → M2 k i = M1 k i := fun k i h h' => by
        rw [← hM2, mput_ne _ _ _ _ (by omega), mput_ne _ _ _ _ (by omega), mcopy_ne _ _ _ (by omega), mcopy_ne _ _ _ (by omega), mcopy_ne _ _ _ (by omega), mcopy_ne _ _ _ (by omega), mcopy_ne _ _ _ (by omega)]
        unfold mput; rw [if_neg (fun w => h' w.1 w.2)]
      have c : ∀ k i, 36 ≤ k → M2 k i = M k i := fun k i h => by rw [o k i (by omega) (fun w => by omega)]; exact fv k i (fun w => by omega) (fun w => by omega) (by omega)
      have c11 : M2 1 1 = 0 := by rw [← hM2, mput_ne _ _ _ _ (by decide), mput_ne _ _ _ _ (by decide), mcopy_ne _ _ _ (by decide), mcopy_ne _ _ _ (by decide), mcopy_ne _ _ _ (by decide), mcopy_ne _ _ _ (by decide), mcopy_ne _ _ _ (by decide), mput_same]
      have i6 : M2 22 6 = M1 30 6 := by rw [← hM2, mput_ni _ _ _ _ (by decide), mput_same, mput_ne _ _ _ _ (by decide)]
      have i23 : ∀ r, 0 ≤ r → r < 16 → M2 23 r = M1 31 r ∧ M2 24 r = M1 32 r ∧ M2 25 r = M1 33 r ∧ M2 26 r = M1 34 r := fun r x y => by
        refine ⟨?_, ?_, ?_, ?_⟩
        · rw [← hM2, mput_ne _ _ _ _ (by decide), mput_ne _ _ _ _ (by decide), mcopy_ne _ _ _ (by decide), mcopy_ne _ _ _ (by decide), mcopy_ne _ _ _ (by decide), mcopy_ne _ _ _ (by decide), mcopy_at _ _ _ x y, mput_ne _ _ _ _ (by decide)]
        · rw [← hM2, mput_ne _ _ _ _ (by decide), mput_ne _ _ _ _ (by decide), mcopy_ne _ _ _ (by decide), mcopy_ne _ _ _ (by decide), mcopy_ne _ _ _ (by decide), mcopy_at _ _ _ x y, mcopy_ne _ _ _ (by decide), mput_ne _ _ _ _ (by decide)]
        · rw [← hM2, mput_ne _ _ _ _ (by decide), mput_ne _ _ _ _ (by decide), mcopy_ne _ _ _ (by decide), mcopy_ne _ _ _ (by decide), mcopy_at _ _ _ x y, mcopy_ne _ _ _ (by decide), mcopy_ne _ _ _ (by decide), mput_ne _ _ _ _ (by decide)]
        · rw [← hM2, mput_ne _ _ _ _ (by decide), mput_ne _ _ _ _ (by decide), mcopy_ne _ _ _ (by decide), mcopy_at _ _ _ x y, mcopy_ne _ _ _ (by decide), mcopy_ne _ _ _ (by decide), mcopy_ne _ _ _ (by decide), mput_ne _ _ _ _ (by decide)]
      have i27 : ∀ i, 0 ≤ i → i < 240 → M2 27 i = M1 35 i := fun i x y => by
        rw [← hM2, mput_ne _ _ _ _ (by decide), mput_ne _ _ _ _ (by decide), mcopy_at _ _ _ x y, mcopy_ne _ _ _ (by decide), mcopy_ne _ _ _ (by decide), mcopy_ne _ _ _ (by decide), mcopy_ne _ _ _ (by decide), mput_ne _ _ _ _ (by decide)]
      have m0 := ho.1
      have hp := ho.2.2.1
      have all : R = m + 1 ∧ m < 16 ∧ ∀ r, 0 ≤ r → r < m + 1 → Rr (Sx (M 2) a) (LD M1) P' N r ∧ 0 ≤ N r ∧ N r ≤ P' r := by
        rcases ho.2.2.2 with ⟨q, -⟩ | ⟨q, rr, q2⟩
        · exfalso; omega
        · have bm := hp.at hS (by omega) m0 (Int.le_refl m)
          have l := rr.1.le hS bm.1 bm.2.1
          refine ⟨by omega, q, fun r x y => ?_⟩
          by_cases qr : r = m
          · subst qr; exact ⟨rr, bm.1, bm.2.1⟩
          · have br := hp.at hS (by omega) x (by omega)
            exact ⟨(hp.2.2 r x (by omega)).1, br.1, br.2.1⟩
      obtain ⟨hR, m16, all⟩ := all
      have hC : LawC M2 (LD M1) := by
        refine LawC.ld i6 h6 (fun r x y => ?_)
        obtain ⟨⟨zr, r1, r2, r4⟩, b1, b2⟩ := all r x (by omega)
        obtain ⟨j1, j2, j3, j4⟩ := i23 r x (by omega)
        have l := zr.le hS b1 b2
        refine ⟨j1, j2, j3, j4, fun i u v => ?_⟩
        have e2 : M1 32 r = N r := r2
        have e4 : M1 34 r = N (r + 1) := r4
        have w := (zr.wf hS b1 b2).2.2 i (by omega) (by omega)
        refine ⟨i27 i (by omega) (by omega), fun q => ?_⟩
        have := w.1.1
        rw [LD_5, q] at this
        omega
      have hW : LawW (LD M1) := by
        have e0 : LD M1 0 0 = R := h6
        refine ⟨by omega, by omega, fun r x y => ?_⟩
        obtain ⟨⟨zr, r1, r2, r4⟩, b1, b2⟩ := all r x (by omega)
        have l := zr.le hS b1 b2
        have w := zr.wf hS b1 b2
        rw [r2, r4, r1]
        exact ⟨l.1, l.2.1, w.1, w.2.1⟩
      refine m_law ha (by rw [c 76 13 (by omega), t1]; exact hs) (fun i x y => by rw [c 88 i (by omega)]; exact (t4 i x (by omega)).1) ho (fun q => by exfalso; omega) (fun _ M' f g g22 ga => ⟨rfl, hPG M' (LD M1) (fun k i a1 a2 a3 a4 a5 => ?_) ?_ g ?_ ⟨?_, fun r x y => ?_⟩ hW⟩)
      · rw [f k i a5 a4, o k i a2 (fun w => (a1 w).1)]
        exact fv k i (fun w => (a1 w).2) (fun w => by omega) (by omega)
      · rw [f 1 1 (by omega) (fun w => absurd w (by decide))]; exact c11
      · have fc : ∀ k i, k < 28 → M' k i = M2 k i := fun k i h => f k i (by omega) (fun w => by omega)
        refine ⟨by rw [fc 22 6 (by omega)]; exact hC.1, fun r x y => ?_⟩
        obtain ⟨k1, k2, k3, k4, k5⟩ := hC.2 r x y
        exact ⟨by rw [fc 23 r (by omega)]; exact k1, by rw [fc 24 r (by omega)]; exact k2, by rw [fc 25 r (by omega)]; exact k3, by rw [fc 26 r (by omega)]; exact k4, fun i u v => by rw [fc 27 i (by omega)]; exact k5 i u v⟩
      · have e0 : LD M1 0 0 = R := h6
        rw [g22, e0]; omega
      · have e0 : LD M1 0 0 = R := h6
        exact ga r x (by omega)
  · have hq : Calls 8 mX12_law [.inr 76, .inl a] M (fun r' M2 => -1 = r' ∧ P M2) := by
      refine e_X12_law ⟨fun z => ⟨fun y => by exfalso; omega, fun _ => ⟨rfl, hP0⟩⟩, fun _ => ⟨rfl, hP0⟩⟩
    exact e_X11_law ⟨fun _ => hq, fun z => ⟨fun _ => hq, fun z2 => ⟨fun z3 => by exfalso; omega, fun _ => hq⟩⟩⟩
