/-! ===== marriages: the rows of both sides ===== -/
def RowOk (T : Int → Int) (n fr : Int) : Prop := (∀ k, 0 ≤ k → k < n → T (fr + k) < n) ∧ (∀ j k, 0 ≤ j → j < k → k < n → T (fr + j) ≠ T (fr + k))
theorem mask_step {m : Nat} {v : Int} (hm : m < 64) (v0 : 0 ≤ v) (v6 : v < 6) : bor (m : Int) (bshl 1 v) = ((m ||| 2 ^ v.toNat : Nat) : Int) ∧ (m ||| 2 ^ v.toNat) < 64 ∧ ∀ j : Nat, (m ||| 2 ^ v.toNat).testBit j = (m.testBit j || decide (v.toNat = j)) := by
  obtain ⟨k, hk⟩ : ∃ k : Nat, v = k := ⟨v.toNat, by omega⟩
  subst hk
  have hk6 : k < 6 := by omega
  have hp : 2 ^ k < 2 ^ 31 := Nat.pow_lt_pow_right (by decide) (by omega)
  have hp6 : 2 ^ k < 2 ^ 6 := Nat.pow_lt_pow_right (by decide) hk6
  rw [Int.toNat_natCast]
  refine ⟨?_, ?_, fun j => or_bit_self m k j⟩
  · rw [bshl_nat (by omega), bor_nat (by omega) hp]
  · exact Nat.or_lt_two_pow (n := 6) hm hp6
theorem mask_has {m : Nat} {v : Int} (hm : m < 64) (v0 : 0 ≤ v) (v6 : v < 6) : band (bshr (m : Int) v) 1 = 1 ↔ m.testBit v.toNat = true := by
  obtain ⟨k, hk⟩ : ∃ k : Nat, v = k := ⟨v.toNat, by omega⟩
  subst hk
  rw [Int.toNat_natCast]
  exact has_iff (by omega) (by omega)
def WrF (w : Nat) (st : Int) (M M' : Me) : Prop := ∀ k i, (k = w → i < st ∨ st + 6 ≤ i) → M' k i = M k i
theorem WrF.tr {w : Nat} {st : Int} {A B C : Me} (h : WrF w st A B) (h' : WrF w st B C) : WrF w st A C := fun k i a => (h' k i a).trans (h k i a)
def named (T : Int → Int) (fr i : Int) (m : Nat) : Prop := m < 64 ∧ ∀ v : Nat, m.testBit v = true ↔ ∃ j, 0 ≤ j ∧ j < i ∧ T (fr + j) = (v : Int)
theorem named_step {T : Int → Int} {fr i : Int} {m : Nat} (h : named T fr i m) (i0 : 0 ≤ i) (v0 : 0 ≤ T (fr + i)) (v6 : T (fr + i) < 6) : ∃ m' : Nat, bor (m : Int) (bshl 1 (T (fr + i))) = (m' : Int) ∧ named T fr (i + 1) m' := by
  obtain ⟨e1, e2, e3⟩ := mask_step h.1 v0 v6
  refine ⟨_, e1, e2, fun v => ?_⟩
  rw [e3 v, Bool.or_eq_true, h.2 v, decide_eq_true_eq]
  constructor
  · rintro (⟨j, j0, j1, j2⟩ | q)
    · exact ⟨j, j0, by omega, j2⟩
    · exact ⟨i, i0, by omega, by omega⟩
  · rintro ⟨j, j0, j1, j2⟩
    by_cases q : j = i
    · subst q; exact Or.inr (by omega)
    · exact Or.inl ⟨j, j0, by omega, j2⟩
theorem t_readRow {w : Nat} (hw : lay[w]? = some (.inl (false, 36))) (hw1 : w = 71 ∨ w = 72) {Q : Int → Me → Prop} {M0 : Me} {T : Int → Int} {n fr st : Int} (n2 : 2 ≤ n) (n6 : n ≤ 6) (hn : M0 69 6 = n) (f0 : 0 ≤ fr) (hsz : fr + n ≤ M0 1 1) (h260 : M0 1 1 ≤ 260) (hT : ∀ i, 0 ≤ i → i < M0 1 1 → M0 2 i = T i ∧ 0 ≤ T i) (s0 : 0 ≤ st) (s30 : st ≤ 30)
    (h1 : RowOk T n fr → ∀ M', WrF w st M0 M' → (∀ k, 0 ≤ k → k < n → M' w (st + T (fr + k)) = k) → Q 1 M') (h0 : ¬ RowOk T n fr → ∀ M', WrF w st M0 M' → Q 0 M') :
    Calls 1 mX5_readRow [.inr 69, .inr 1, .inl fr, .inr w, .inl st] M0 Q := by
  have loop : ∀ (k : Nat) (i : Int) (m : Nat) (M : Me), 0 ≤ i → i + k = n → WrF w st M0 M → named T fr i m → (∀ j, 0 ≤ j → j < i → T (fr + j) < n ∧ M w (st + T (fr + j)) = j) → (∀ j l, 0 ≤ j → j < l → l < i → T (fr + j) ≠ T (fr + l)) → Go (km 1 mX5_readRow Q) 6 [some (.inr 69), some (.inr 1), some (.inl fr), some (.inr w), some (.inl st), some (.inl (m : Int)), some (.inl i), none] [] M := by
    intro k
    induction k with
    | zero =>
      intro i m M i0 hi f hm hd hu
      have e69 : M 69 6 = n := by rw [f 69 6 (by omega)]; exact hn
      refine s_X5_readRow_6 hw _ _ _ _ M ⟨fun _ => h1 ⟨fun k k0 k1 => (hd k k0 (by omega)).1, fun j k a b c => hu j k a b (by omega)⟩ M f (fun k k0 k1 => (hd k k0 (by omega)).2), fun z => by exfalso; omega⟩
    | succ k ih =>
      intro i m M i0 hi f hm hd hu
      have e69 : M 69 6 = n := by rw [f 69 6 (by omega)]; exact hn
      have e11 : M 1 1 = M0 1 1 := f 1 1 (by omega)
      have e2 : M 2 (fr + i) = T (fr + i) := by rw [f 2 (fr + i) (by omega)]; exact (hT (fr + i) (by omega) (by omega)).1
      have t0 := (hT (fr + i) (by omega) (by omega)).2
      refine s_X5_readRow_6 hw _ _ _ _ M ?_
      rw [e69, e11, e2]
      refine ⟨fun z => by exfalso; omega, fun _ => ⟨by unfold cn; omega, h260, fun _ => ⟨fun z => by exfalso; omega, fun _ => ⟨fun z => h0 (fun q => ?_) M f, fun z => ⟨fun y => ⟨by unfold cn; omega, by omega, by unfold cn; omega, ?_⟩, fun y => h0 (fun q => ?_) M f⟩⟩⟩, fun z => by exfalso; omega⟩⟩
      · have := q.1 i i0 (by omega); omega
      · obtain ⟨m', em, hm'⟩ := named_step hm i0 t0 (by omega)
        rw [em]
        have hnew : ∀ j, 0 ≤ j → j < i → T (fr + j) ≠ T (fr + i) := fun j j0 j1 q => by
          apply y
          rw [mask_has hm.1 t0 (by omega)]
          exact (hm.2 _).mpr ⟨j, j0, j1, by omega⟩
        refine ih (i + 1) m' _ (by omega) (by omega) (f.tr (fun k x q => ?_)) hm' (fun j j0 j1 => ?_) (fun j l j0 j1 l1 => ?_)
        · by_cases e : k = w
          · subst e
            have := q rfl
            exact mput_ni _ _ _ _ (by omega)
          · exact mput_ne _ _ _ _ e
        · by_cases e : j = i
          · subst e
            exact ⟨z, mput_same _ _ _ _⟩
          · have := hd j j0 (by omega)
            refine ⟨this.1, ?_⟩
            rw [mput_ni _ _ _ _ (by have := hnew j j0 (by omega); omega)]
            exact this.2
        · by_cases e : l = i
          · subst e; exact hnew j j0 j1
          · exact hu j l j0 j1 (by omega)
      · rw [mask_has hm.1 t0 (by omega)] at y
        obtain ⟨j, j0, j1, j2⟩ := (hm.2 _).mp y
        exact q.2 j i j0 j1 (by omega) (by omega)
  exact e_X5_readRow hw (loop n.toNat 0 0 M0 (by omega) (by omega) (fun _ _ _ => rfl) ⟨by omega, fun v => by simp; intro j a b; omega⟩ (fun j a b => by omega) (fun j l a b c => by omega))
theorem row_all {T : Int → Int} {n fr : Int} (n0 : 0 ≤ n) (h : RowOk T n fr) (ht : ∀ k, 0 ≤ k → k < n → 0 ≤ T (fr + k)) : ∀ v, 0 ≤ v → v < n → ∃ k, 0 ≤ k ∧ k < n ∧ T (fr + k) = v := by
  intro v v0 v1
  by_cases e : ∃ k, 0 ≤ k ∧ k < n ∧ T (fr + k) = v
  · exact e
  · exfalso
    have hnd : (rl (fun k => T (fr + k)) n).Nodup := rl_nodup (fun i j a b c => h.2 i j a b c)
    have := nodup_le (l1 := v :: rl (fun k => T (fr + k)) n) (l2 := rl (fun k => k) n) (List.nodup_cons.mpr ⟨fun q => by
      obtain ⟨k, k0, k1, k2⟩ := mem_rl.mp q
      exact e ⟨k, k0, k1, k2⟩, hnd⟩) (fun z hz => by
      rcases List.mem_cons.mp hz with q | q
      · rw [q]; exact mem_rl.mpr ⟨v, v0, v1, rfl⟩
      · obtain ⟨k, k0, k1, k2⟩ := mem_rl.mp q
        refine mem_rl.mpr ⟨z, ?_, ?_, rfl⟩
        · have := ht k k0 k1; simp only at k2; omega
        · have := h.1 k k0 k1; simp only at k2; omega)
    rw [List.length_cons, rl_length, rl_length] at this
    omega
theorem mul_b {n a : Int} (a0 : 0 ≤ a) (a1 : a < n) : 0 ≤ n * a ∧ n * a + n ≤ n * n := by
  have h1 := Int.mul_nonneg (show 0 ≤ n by omega) a0
  have h2 := Int.mul_le_mul_of_nonneg_left (show a + 1 ≤ n by omega) (show 0 ≤ n by omega)
  rw [Int.mul_add, Int.mul_one] at h2
  exact ⟨h1, h2⟩
theorem sq_b {n : Int} (n2 : 2 ≤ n) (n6 : n ≤ 6) : 4 ≤ n * n ∧ n * n ≤ 36 := by
  rcases (show n = 2 ∨ n = 3 ∨ n = 4 ∨ n = 5 ∨ n = 6 by omega) with rfl | rfl | rfl | rfl | rfl <;> omega
/-- the class's rows of the first j of each side -/
def MR (T : Int → Int) (n j : Int) (M : Me) : Prop := ∀ o, 0 ≤ o → o < j → (∀ k, 0 ≤ k → k < n → M 71 (6 * o + T (n * o + k)) = k ∧ M 70 (6 * o + k) = T (n * o + k) ∧ M 72 (6 * o + T (n * n + n * o + k)) = k)
def AllOk (T : Int → Int) (n j : Int) : Prop := ∀ o, 0 ≤ o → o < j → RowOk T n (n * o) ∧ RowOk T n (n * n + n * o)
def MFr (M M' : Me) : Prop := ∀ k i, k ≠ 70 → k ≠ 71 → k ≠ 72 → (k = 69 → i ≠ 6) → M' k i = M k i
theorem MFr.tr {A B C : Me} (h : MFr A B) (h' : MFr B C) : MFr A C := fun k i a b c d => (h' k i a b c d).trans (h k i a b c d)
theorem WrF.m {w : Nat} {st : Int} {A B : Me} (hw : w = 70 ∨ w = 71 ∨ w = 72) (h : WrF w st A B) : MFr A B := fun k i a b c _ => h k i (fun q => by omega)
theorem t_read {Q : Int → Me → Prop} {M0 : Me} {T : Int → Int} {n : Int} (n2 : 2 ≤ n) (n6 : n ≤ 6) (hsz : 2 * (n * n) ≤ M0 1 1) (h260 : M0 1 1 ≤ 260) (hT : ∀ i, 0 ≤ i → i < M0 1 1 → M0 2 i = T i ∧ 0 ≤ T i)
    (h1 : AllOk T n n → ∀ M', MFr M0 M' → M' 69 6 = n → MR T n n M' → Q 1 M') (h0 : ¬ AllOk T n n → ∀ M', MFr M0 M' → Q 0 M') : Calls 2 mX5_read [.inr 69, .inr 1, .inl n] M0 Q := by
  have sq := sq_b n2 n6
  have wish : ∀ (o : Int) (o0 : 0 ≤ o) (o1 : o < n) (hok : RowOk T n (n * o)) (hnx : ∀ M', MFr M0 M' → M' 69 6 = n → MR T n (o + 1) M' → Go (km 2 mX5_read Q) 7 [some (.inr 69), some (.inr 1), some (.inl n), some (.inl (o + 1)), none, none] [] M') (M1 : Me) (f1 : MFr M0 M1) (s1 : M1 69 6 = n) (hmr : MR T n o M1) (h71 : ∀ k, 0 ≤ k → k < n → M1 71 (6 * o + T (n * o + k)) = k) (h72 : ∀ k, 0 ≤ k → k < n → M1 72 (6 * o + T (n * n + n * o + k)) = k), Go (km 2 mX5_read Q) 71 [some (.inr 69), some (.inr 1), some (.inl n), some (.inl o), none, some (.inl 0)] [] M1 := fun o o0 o1 hok hnx M1 f1 s1 hmr h71 h72 => by
    have mb := mul_b o0 o1
    have ht : ∀ k, 0 ≤ k → k < n → 0 ≤ T (n * o + k) := fun k k0 k1 => (hT (n * o + k) (by omega) (by omega)).2
    have hp : ∀ v, 0 ≤ v → v < n → 0 ≤ M1 71 (6 * o + v) ∧ M1 71 (6 * o + v) < n ∧ T (n * o + M1 71 (6 * o + v)) = v := fun v v0 v1 => by
      obtain ⟨k, k0, k1, k2⟩ := row_all (by omega) hok ht v v0 v1
      have := h71 k k0 k1
      rw [k2] at this
      rw [this]
      exact ⟨k0, k1, k2⟩
    have loop : ∀ (k : Nat) (i : Int) (M : Me), 0 ≤ i → i + k = n → WrF 70 (6 * o) M1 M → (∀ v, 0 ≤ v → v < i → M 70 (6 * o + M1 71 (6 * o + v)) = v) → Go (km 2 mX5_read Q) 71 [some (.inr 69), some (.inr 1), some (.inl n), some (.inl o), none, some (.inl i)] [] M := by
      intro k
      induction k with
      | zero =>
        intro i M i0 hi f hd
        refine s_X5_read_71 _ _ _ M ⟨fun _ => ⟨by unfold cn; omega, hnx M (f1.tr (f.m (Or.inl rfl))) (by rw [f 69 6 (by omega)]; exact s1) (fun q q0 q1 k k0 k1 => ?_)⟩, fun z => by exfalso; omega⟩
        by_cases e : q = o
        · subst e
          have tk := hok.1 k k0 k1
          have tk0 := ht k k0 k1
          refine ⟨by rw [f 71 _ (by omega)]; exact h71 k k0 k1, ?_, by rw [f 72 _ (by omega)]; exact h72 k k0 k1⟩
          have := hd (T (n * q + k)) tk0 (by omega)
          rw [h71 k k0 k1] at this
          exact this
        · have := hmr q q0 (by omega) k k0 k1
          rw [f 71 _ (by omega), f 72 _ (by omega), f 70 (6 * q + k) (by omega)]
          exact this
      | succ k ih =>
        intro i M i0 hi f hd
        have e71 : M 71 (6 * o + i) = M1 71 (6 * o + i) := f 71 _ (by omega)
        have hpi := hp i i0 (by omega)
        refine s_X5_read_71 _ _ _ M ?_
        rw [e71]
        refine ⟨fun z => by exfalso; omega, fun _ => ⟨by unfold cn; omega, by unfold cn; omega, by unfold cn; omega, by omega, by unfold cn; omega, by omega, by unfold cn; omega, ?_⟩⟩
        refine ih (i + 1) _ (by omega) (by omega) (f.tr (fun k x q => ?_)) (fun v v0 v1 => ?_)
        · by_cases e : k = 70
          · subst e
            have := q rfl
            exact mput_ni _ _ _ _ (by omega)
          · exact mput_ne _ _ _ _ e
        · by_cases e : v = i
          · subst e; exact mput_same _ _ _ _
          · have hpv := hp v v0 (by omega)
            rw [mput_ni _ _ _ _ (fun q => by
              have q2 : M1 71 (6 * o + v) = M1 71 (6 * o + i) := by omega
              have h3 := hpv.2.2
              rw [q2, hpi.2.2] at h3
              exact e h3.symm)]
            exact hd v v0 (by omega)
    exact loop n.toNat 0 M1 (by omega) (by omega) (fun _ _ _ => rfl) (fun v a b => by omega)
  have outer : ∀ (k : Nat) (o : Int) (M : Me), 0 ≤ o → o + k = n → MFr M0 M → M 69 6 = n → AllOk T n o → MR T n o M → Go (km 2 mX5_read Q) 7 [some (.inr 69), some (.inr 1), some (.inl n), some (.inl o), none, none] [] M := by
    intro k
    induction k with
    | zero =>
      intro o M o0 ho f s1 hok hmr
      have : o = n := by omega
      subst this
      exact s_X5_read_7 _ _ M ⟨fun _ => h1 hok M f s1 hmr, fun z => by exfalso; omega⟩
    | succ k ih =>
      intro o M o0 ho f s1 hok hmr
      have mb := mul_b o0 (show o < n by omega)
      have e11 : M 1 1 = M0 1 1 := f 1 1 (by omega) (by omega) (by omega) (by omega)
      have e2 : ∀ i, M 2 i = M0 2 i := fun i => f 2 i (by omega) (by omega) (by omega) (by omega)
      refine s_X5_read_7 _ _ M ⟨fun z => by exfalso; omega, fun _ => ⟨by unfold cn; omega, by unfold cn; omega, ?_⟩⟩
      refine t_readRow (w := 71) rfl (Or.inl rfl) n2 n6 s1 mb.1 (by omega) (by omega) (fun i a b => by rw [e2]; exact hT i a (by omega)) (by omega) (by omega) (fun hr1 M1 g1 d1 => ⟨fun z => by exfalso; omega, fun _ => ⟨by unfold cn; omega, by unfold cn; omega, by unfold cn; omega, by unfold cn; omega, ?_⟩⟩) (fun hr1 M1 g1 => ⟨fun _ => h0 (fun q => hr1 (q o o0 (by omega)).1) M1 (f.tr (g1.m (by omega))), fun z => absurd rfl z⟩)
      have f1 := f.tr (g1.m (by omega))
      have s1' : M1 69 6 = n := by rw [g1 69 6 (by omega)]; exact s1
      have e11' : M1 1 1 = M0 1 1 := by rw [g1 1 1 (by omega)]; exact e11
      refine t_readRow (w := 72) rfl (Or.inr rfl) n2 n6 s1' (by omega) (by omega) (by omega) (fun i a b => by rw [g1 2 i (by omega), e2]; exact hT i a (by omega)) (by omega) (by omega) (fun hr2 M2 g2 d2 => ⟨fun z => by exfalso; omega, fun _ => ?_⟩) (fun hr2 M2 g2 => ⟨fun _ => h0 (fun q => hr2 (q o o0 (by omega)).2) M2 (f1.tr (g2.m (by omega))), fun z => absurd rfl z⟩)
      have hok' : AllOk T n (o + 1) := fun q q0 q1 => by
        by_cases e : q = o
        · subst e; exact ⟨hr1, hr2⟩
        · exact hok q q0 (by omega)
      refine wish o o0 (by omega) hr1 (fun M3 f3 s3 m3 => ih (o + 1) M3 (by omega) (by omega) f3 s3 hok' m3) M2 (f1.tr (g2.m (by omega))) (by rw [g2 69 6 (by omega)]; exact s1') (fun q q0 q1 k k0 k1 => ?_) (fun k k0 k1 => ?_) d2
      · have := hmr q q0 q1 k k0 k1
        have tq := (hok q q0 q1).1.1 k k0 k1
        have tq2 := (hok q q0 q1).2.1 k k0 k1
        rw [g2 71 _ (by omega), g2 70 _ (by omega), g2 72 _ (fun _ => Or.inl (by omega)), g1 70 _ (by omega), g1 72 _ (by omega), g1 71 _ (fun _ => Or.inl (by omega))]
        exact this
      · rw [g2 71 _ (by omega)]; exact d1 k k0 k1
  refine e_X5_read (outer n.toNat 0 _ (by omega) (by omega) (fun k i a b c d => ?_) (mput_same _ _ _ _) (fun o a b => by omega) (fun o a b => by omega))
  by_cases e : k = 69
  · subst e; exact mput_ni _ _ _ _ (d rfl)
  · exact mput_ne _ _ _ _ e
/-! the reference's rows -/
def NR (T : Int → Int) (n j : Int) (M : Me) : Prop := ∀ o, 0 ≤ o → o < j → ∀ k, 0 ≤ k → k < n → M 117 (6 * o + k) = T (n * o + k) ∧ M 116 (6 * o + T (n * o + k)) = k
def AllOk2 (T : Int → Int) (n j : Int) : Prop := ∀ o, 0 ≤ o → o < j → RowOk T n (n * o)
def RFr2 (M M' : Me) : Prop := ∀ k i, k ≠ 116 → k ≠ 117 → M' k i = M k i
theorem mul_b2 {n a : Int} (n0 : 0 ≤ n) (a0 : 0 ≤ a) (a1 : a < 2 * n) : 0 ≤ n * a ∧ n * a + n ≤ 2 * (n * n) := by
  have h1 := Int.mul_nonneg n0 a0
  have h2 := Int.mul_le_mul_of_nonneg_left (show a + 1 ≤ 2 * n by omega) n0
  rw [Int.mul_add, Int.mul_one, show n * (2 * n) = 2 * (n * n) by rw [← Int.mul_assoc, Int.mul_comm n 2, Int.mul_assoc]] at h2
  exact ⟨h1, h2⟩
theorem q_rows {Q : Int → Me → Prop} {M0 : Me} {T : Int → Int} {n : Int} (n2 : 2 ≤ n) (n6 : n ≤ 6) (hT : ∀ i, 0 ≤ i → i < 2 * (n * n) → band (M0 88 i) 255 = T i ∧ 0 ≤ T i)
    (h1 : AllOk2 T n (2 * n) → ∀ M', RFr2 M0 M' → NR T n (2 * n) M' → Q 1 M') (h0 : ¬ AllOk2 T n (2 * n) → ∀ M', RFr2 M0 M' → Q 0 M') : Calls 1 mX12_readsRows [.inr 76, .inl n] M0 Q := by
  have sq := sq_b n2 n6
  have outer : ∀ (k : Nat) (o : Int) (M : Me), 0 ≤ o → o + k = 2 * n → RFr2 M0 M → AllOk2 T n o → NR T n o M → Go (km 1 mX12_readsRows Q) 2 [some (.inr 76), some (.inl n), some (.inl o), none, none, none] [] M := by
    intro k
    induction k with
    | zero =>
      intro o M o0 ho f hok hnr
      have : o = 2 * n := by omega
      subst this
      exact s_X12_readsRows_2 _ _ M ⟨by unfold cn; omega, fun _ => h1 hok M f hnr, fun z => by exfalso; omega⟩
    | succ k iho =>
      intro o M o0 ho f hok hnr
      have mb := mul_b2 (show 0 ≤ n by omega) o0 (show o < 2 * n by omega)
      have loop : ∀ (k : Nat) (i : Int) (m : Nat) (M : Me), 0 ≤ i → i + k = n → RFr2 M0 M → named T (n * o) i m → (∀ j, 0 ≤ j → j < i → T (n * o + j) < n ∧ M 117 (6 * o + j) = T (n * o + j) ∧ M 116 (6 * o + T (n * o + j)) = j) → (∀ j l, 0 ≤ j → j < l → l < i → T (n * o + j) ≠ T (n * o + l)) → NR T n o M → Go (km 1 mX12_readsRows Q) 14 [some (.inr 76), some (.inl n), some (.inl o), some (.inl (m : Int)), some (.inl i), none] [] M := by
        intro k
        induction k with
        | zero =>
          intro i m M i0 hi f hm hd hu hnr
          refine s_X12_readsRows_14 _ _ _ _ M ⟨fun _ => ⟨by unfold cn; omega, iho (o + 1) M (by omega) (by omega) f (fun q q0 q1 => ?_) (fun q q0 q1 k k0 k1 => ?_)⟩, fun z => by exfalso; omega⟩
          · by_cases e : q = o
            · subst e; exact ⟨fun k k0 k1 => (hd k k0 (by omega)).1, fun j k a b c => hu j k a b (by omega)⟩
            · exact hok q q0 (by omega)
          · by_cases e : q = o
            · subst e; exact (hd k k0 (by omega)).2
            · exact hnr q q0 (by omega) k k0 k1
        | succ k ih =>
          intro i m M i0 hi f hm hd hu hnr
          have e88 : band (M 88 (n * o + i)) 255 = T (n * o + i) := by rw [f 88 _ (by omega) (by omega)]; exact (hT (n * o + i) (by omega) (by omega)).1
          have t0 := (hT (n * o + i) (by omega) (by omega)).2
          refine s_X12_readsRows_14 _ _ _ _ M ?_
          rw [e88]
          refine ⟨fun z => by exfalso; omega, fun _ => ⟨by unfold cn; omega, by unfold cn; omega, by omega, fun z => h0 (fun q => ?_) M f, fun z => ⟨fun y => h0 (fun q => ?_) M f, fun y => ⟨by unfold cn; omega, by unfold cn; omega, by omega, by unfold cn; omega, by unfold cn; omega, by omega, by unfold cn; omega, ?_⟩⟩⟩⟩
          · have := (q o o0 (by omega)).1 i i0 (by omega); omega
          · rw [mask_has hm.1 t0 (by omega)] at y
            obtain ⟨j, j0, j1, j2⟩ := (hm.2 _).mp y
            exact (q o o0 (by omega)).2 j i j0 j1 (by omega) (by omega)
          · obtain ⟨m', em, hm'⟩ := named_step hm i0 t0 (by omega)
            rw [em]
            have hnew : ∀ j, 0 ≤ j → j < i → T (n * o + j) ≠ T (n * o + i) := fun j j0 j1 q => by
              apply y
              rw [mask_has hm.1 t0 (by omega)]
              exact (hm.2 _).mpr ⟨j, j0, j1, by omega⟩
            have g117 : ∀ x, x ≠ 6 * o + i → mput (mput M 117 (6 * o + i) (T (n * o + i))) 116 (6 * o + T (n * o + i)) i 117 x = M 117 x := fun x q => by rw [mput_ne _ _ _ _ (by decide), mput_ni _ _ _ _ q]
            have g116 : ∀ x, x ≠ 6 * o + T (n * o + i) → mput (mput M 117 (6 * o + i) (T (n * o + i))) 116 (6 * o + T (n * o + i)) i 116 x = M 116 x := fun x q => by rw [mput_ni _ _ _ _ q, mput_ne _ _ _ _ (by decide)]
            refine ih (i + 1) m' _ (by omega) (by omega) (fun k x a b => by rw [mput_ne _ _ _ _ a, mput_ne _ _ _ _ b]; exact f k x a b) hm' (fun j j0 j1 => ?_) (fun j l j0 j1 l1 => ?_) (fun q q0 q1 k k0 k1 => ?_)
            · by_cases e : j = i
              · subst e
                exact ⟨z, by rw [mput_ne _ _ _ _ (by decide), mput_same], mput_same _ _ _ _⟩
              · have h3 := hd j j0 (by omega)
                have h4 := hnew j j0 (by omega)
                rw [g117 _ (by omega), g116 _ (by omega)]
                exact h3
            · by_cases e : l = i
              · subst e; exact hnew j j0 j1
              · exact hu j l j0 j1 (by omega)
            · have h3 := hnr q q0 q1 k k0 k1
              have tq := (hok q q0 q1).1 k k0 k1
              have mq := mul_b2 (show 0 ≤ n by omega) q0 (show q < 2 * n by omega)
              have tq0 := (hT (n * q + k) (by omega) (by omega)).2
              rw [g117 _ (by omega), g116 _ (by omega)]
              exact h3
      exact s_X12_readsRows_2 _ _ M ⟨by unfold cn; omega, fun z => by exfalso; omega, fun _ => loop n.toNat 0 0 M (by omega) (by omega) f ⟨by omega, fun v => by simp; intro j a b; omega⟩ (fun j a b => by omega) (fun j l a b c => by omega) hnr⟩
  exact e_X12_readsRows (outer (2 * n).toNat 0 M0 (by omega) (by omega) (fun _ _ _ _ => rfl) (fun o a b => by omega) (fun o a b => by omega))
theorem allok_iff {T : Int → Int} {n : Int} (n0 : 0 ≤ n) : AllOk T n n ↔ AllOk2 T n (2 * n) := by
  constructor
  · intro h o o0 o1
    by_cases q : o < n
    · exact (h o o0 q).1
    · have := (h (o - n) (by omega) (by omega)).2
      rw [show n * n + n * (o - n) = n * o by rw [← Int.mul_add]; congr 1; omega] at this
      exact this
  · intro h o o0 o1
    refine ⟨h o o0 (by omega), ?_⟩
    have := h (n + o) (by omega) (by omega)
    rw [Int.mul_add] at this
    exact this
