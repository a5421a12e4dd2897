/-! ===== reading the twos ===== -/
def updo (A : Int → Int) (x o : Int) : Int → Int := fun j => if j = x then bor (A x) (bshl 1 o) else A j
def rdo (t : Int → Int) (N : Nat) : Nat → Int → (Int → Int) → Option (Int → Int)
  | 0, _, A => some A
  | k + 1, i, A => if (0 ≤ t (2 * i) ∧ t (2 * i) < N) ∧ (0 ≤ t (2 * i + 1) ∧ t (2 * i + 1) < N) ∧ t (2 * i) ≠ t (2 * i + 1) then rdo t N k (i + 1) (updo A (t (2 * i + 1)) (t (2 * i))) else none
def okA (N : Nat) (A : Int → Int) : Prop := ∀ x : Int, 0 ≤ x → x < (N : Int) → ∃ a : Nat, A x = a ∧ a < 2 ^ N
theorem okA_upd {N : Nat} {A : Int → Int} (hN : N ≤ 10) (h : okA N A) {x o : Int} (hx : 0 ≤ x ∧ x < N) (ho : 0 ≤ o ∧ o < N) : okA N (updo A x o) := by
  intro j j0 j1
  unfold updo
  have hp := pow10 hN
  split
  · obtain ⟨a, e, ha⟩ := h x hx.1 hx.2
    obtain ⟨b, rfl⟩ : ∃ b : Nat, o = b := ⟨o.toNat, by omega⟩
    have hb : 2 ^ b < 2 ^ N := Nat.pow_lt_pow_right (by omega) (by omega)
    refine ⟨a ||| 2 ^ b, ?_, Nat.or_lt_two_pow ha hb⟩
    rw [e, bshl_nat (by omega), bor_nat (by omega) (by omega)]
  · exact h j j0 j1
theorem rdo_ok {t : Int → Int} {N : Nat} (hN : N ≤ 10) : ∀ (k : Nat) (i : Int) (A A' : Int → Int), okA N A → rdo t N k i A = some A' → okA N A'
  | 0, i, A, A', h, e => by simp only [rdo, Option.some.injEq] at e; rw [← e]; exact h
  | k + 1, i, A, A', h, e => by
    simp only [rdo] at e
    split at e
    · next q => exact rdo_ok hN k (i + 1) _ A' (okA_upd hN h q.2.1 q.1) e
    · cases e
def Fc65 (M M' : Me) : Prop := ∀ k i, k ≠ 65 → M' k i = M k i
theorem l_X6_twos {Q : Int → Me → Prop} {t : Int → Int} {N : Nat} {m : Int} (hN : N ≤ 10) (hm : m ≤ 20) : ∀ (k : Nat) (i : Int) (M : Me) (A : Int → Int), 0 ≤ i → i + k = m → 2 * m ≤ M 1 1 → M 1 1 ≤ 260 → (∀ j, 0 ≤ j → j < 2 * m → M 2 j = t j) → (∀ x : Int, 0 ≤ x → x < (N : Int) → M 65 x = A x) →
    (rdo t N k i A = none → ∀ M', Fc65 M M' → Q 0 M') → (∀ A', rdo t N k i A = some A' → ∀ M', Fc65 M M' → (∀ x : Int, 0 ≤ x → x < (N : Int) → M' 65 x = A' x) → Q 1 M') → Go (km 1 mX6_readTwos Q) 27 [some (.inr 61), some (.inr 1), some (.inl (N : Int)), some (.inl m), some (.inl i), none, none] [] M := by
  intro k
  induction k with
  | zero =>
    intro i M A i0 ik g1 g2 ht hA hNo hS
    exact s_X6_readTwos_27 N m i M ⟨fun _ => hS A rfl M (fun _ _ _ => rfl) hA, fun v => by exfalso; omega⟩
  | succ k ih =>
    intro i M A i0 ik g1 g2 ht hA hNo hS
    have e1 := ht (2 * i) (by omega) (by omega)
    have e2 := ht (2 * i + 1) (by omega) (by omega)
    refine s_X6_readTwos_27 N m i M ?_
    rw [e1, e2]
    by_cases c : (0 ≤ t (2 * i) ∧ t (2 * i) < N) ∧ (0 ≤ t (2 * i + 1) ∧ t (2 * i + 1) < N) ∧ t (2 * i) ≠ t (2 * i + 1)
    · have er : rdo t N (k + 1) i A = rdo t N k (i + 1) (updo A (t (2 * i + 1)) (t (2 * i))) := by simp only [rdo, if_pos c]
      have go : Go (km 1 mX6_readTwos Q) 27 [some (.inr 61), some (.inr 1), some (.inl (N : Int)), some (.inl m), some (.inl (i + 1)), none, none] [] (mput M 65 (t (2 * i + 1)) (bor (M 65 (t (2 * i + 1))) (bshl 1 (t (2 * i))))) := by
        refine ih (i + 1) _ (updo A (t (2 * i + 1)) (t (2 * i))) (by omega) (by omega) (by rw [mput_ne _ _ _ _ (by decide)]; exact g1) (by rw [mput_ne _ _ _ _ (by decide)]; exact g2) (fun j a b => by rw [mput_ne _ _ _ _ (by decide)]; exact ht j a b) (fun x a b => ?_) (fun h M' f => hNo (er.trans h) M' (fun k i h => (f k i h).trans (mput_ne _ _ _ _ h))) (fun A' h M' f => hS A' (er.trans h) M' (fun k i h => (f k i h).trans (mput_ne _ _ _ _ h)))
        unfold updo
        by_cases q : x = t (2 * i + 1)
        · subst q; rw [mput_same, if_pos rfl, hA _ a b]
        · rw [mput_ni _ _ _ _ q, if_neg q]; exact hA x a b
      exact ⟨fun v1 => (by exfalso; omega), fun v1 => ⟨by first | omega | (unfold cn; omega), ⟨by first | omega | (unfold cn; omega), ⟨fun v2 => ⟨by first | omega | (unfold cn; omega), ⟨by first | omega | (unfold cn; omega), ⟨by first | omega | (unfold cn; omega), ⟨fun v3 => ⟨fun v4 => (by exfalso; omega), fun v4 => ⟨fun v5 => (by exfalso; omega), fun v5 => ⟨fun v6 => (by exfalso; omega), fun v6 => ⟨fun v7 => (by exfalso; omega), fun v7 => ⟨fun v8 => ⟨by first | omega | (unfold cn; omega), ⟨by first | omega | (unfold cn; omega), ⟨by first | omega | (unfold cn; omega), (by first | exact go | (exfalso; omega))⟩⟩⟩, fun v8 => (by exfalso; omega)⟩⟩⟩⟩⟩, fun v3 => ⟨fun v4 => (by exfalso; omega), fun v4 => ⟨fun v5 => (by exfalso; omega), fun v5 => (by exfalso; omega)⟩⟩⟩⟩⟩⟩, fun v2 => ⟨by first | omega | (unfold cn; omega), ⟨by first | omega | (unfold cn; omega), ⟨by first | omega | (unfold cn; omega), ⟨fun v3 => (by exfalso; omega), fun v3 => (by exfalso; omega)⟩⟩⟩⟩⟩⟩⟩⟩
    · have er : rdo t N (k + 1) i A = none := by simp only [rdo, if_neg c]
      have no : Q 0 M := hNo er M (fun _ _ _ => rfl)
      exact ⟨fun v1 => (by first | exact no | (exfalso; omega)), fun v1 => ⟨by first | omega | (unfold cn; omega) | (exfalso; omega), ⟨by first | omega | (unfold cn; omega) | (exfalso; omega), ⟨fun v2 => ⟨by first | omega | (unfold cn; omega) | (exfalso; omega), ⟨by first | omega | (unfold cn; omega) | (exfalso; omega), ⟨by first | omega | (unfold cn; omega) | (exfalso; omega), ⟨fun v3 => ⟨fun v4 => (by first | exact no | (exfalso; omega)), fun v4 => ⟨fun v5 => (by first | exact no | (exfalso; omega)), fun v5 => ⟨fun v6 => (by first | exact no | (exfalso; omega)), fun v6 => ⟨fun v7 => (by first | exact no | (exfalso; omega)), fun v7 => ⟨fun v8 => ⟨by first | omega | (unfold cn; omega) | (exfalso; omega), ⟨by first | omega | (unfold cn; omega) | (exfalso; omega), ⟨by first | omega | (unfold cn; omega) | (exfalso; omega), (by exfalso; omega)⟩⟩⟩, fun v8 => (by first | exact no | (exfalso; omega))⟩⟩⟩⟩⟩, fun v3 => ⟨fun v4 => (by first | exact no | (exfalso; omega)), fun v4 => ⟨fun v5 => (by first | exact no | (exfalso; omega)), fun v5 => (by first | exact no | (exfalso; omega))⟩⟩⟩⟩⟩⟩, fun v2 => ⟨by first | omega | (unfold cn; omega) | (exfalso; omega), ⟨by first | omega | (unfold cn; omega) | (exfalso; omega), ⟨by first | omega | (unfold cn; omega) | (exfalso; omega), ⟨fun v3 => (by first | exact no | (exfalso; omega)), fun v3 => (by first | exact no | (exfalso; omega))⟩⟩⟩⟩⟩⟩⟩⟩
theorem l_X6_twos_3 {Q : Int → Me → Prop} {n m : Int} {M0 : Me} (h : ∀ M, Fc65 M0 M → (∀ j, 0 ≤ j → j < 10 → M 65 j = 0) → Go (km 1 mX6_readTwos Q) 27 [some (.inr 61), some (.inr 1), some (.inl n), some (.inl m), some (.inl 0), none, none] [] M) : ∀ (k : Nat) (i : Int) (M : Me), 0 ≤ i → i + k = 10 → Fc65 M0 M → (∀ j, 0 ≤ j → j < i → M 65 j = 0) → Go (km 1 mX6_readTwos Q) 3 [some (.inr 61), some (.inr 1), some (.inl n), some (.inl m), some (.inl i), none, none] [] M := by
  intro k
  induction k with
  | zero => intro i M i0 ik f hz; exact s_X6_readTwos_3 n m i M ⟨fun _ => h M f (fun j a b => hz j a (by omega)), fun v => by exfalso; omega⟩
  | succ k ih =>
    intro i M i0 ik f hz
    refine s_X6_readTwos_3 n m i M ⟨fun v => by exfalso; omega, fun _ => ⟨by omega, by unfold cn; omega, ?_⟩⟩
    refine ih (i + 1) _ (by omega) (by omega) (fun k i h => (mput_ne _ _ _ _ h).trans (f k i h)) (fun j a b => ?_)
    by_cases q : j = i
    · subst q; exact mput_same _ _ _ _
    · rw [mput_ni _ _ _ _ q]; exact hz j a (by omega)
theorem p_X6_readTwos {Q : Int → Me → Prop} {t : Int → Int} {N : Nat} {m : Int} {M : Me} (hN : N ≤ 10) (hm0 : 0 ≤ m) (hm : m ≤ 20) (g1 : 2 * m ≤ M 1 1) (g2 : M 1 1 ≤ 260) (ht : ∀ j, 0 ≤ j → j < 2 * m → M 2 j = t j)
    (hNo : rdo t N m.toNat 0 (fun _ => 0) = none → ∀ M', Fc65 M M' → Q 0 M') (hS : ∀ A', rdo t N m.toNat 0 (fun _ => 0) = some A' → ∀ M', Fc65 M M' → (∀ x : Int, 0 ≤ x → x < (N : Int) → M' 65 x = A' x) → Q 1 M') : Calls 1 mX6_readTwos [.inr 61, .inr 1, .inl (N : Int), .inl m] M Q := by
  refine e_X6_readTwos (l_X6_twos_3 (M0 := M) (fun M1 f1 z1 => ?_) 10 0 M (by omega) (by omega) (fun _ _ _ => rfl) (fun j a b => by omega))
  have e1 : M1 1 1 = M 1 1 := f1 1 1 (by decide)
  exact l_X6_twos hN hm m.toNat 0 M1 (fun _ => 0) (by omega) (by omega) (by omega) (by omega) (fun j a b => by rw [f1 2 j (by decide)]; exact ht j a b) (fun x a b => z1 x a (by omega)) (fun h M' f => hNo h M' (fun k i h => (f k i h).trans (f1 k i h))) (fun A' h M' f => hS A' h M' (fun k i h => (f k i h).trans (f1 k i h)))
def exVC (Q : Int → Me → Prop) (N : Nat) (c : Int) (M : Me) : Prop := Calls 1 mX12_closes [.inr 76, .inl (N : Int)] M (fun _ M157 => Calls 1 mX12_waysOf [.inr 76, .inl (N : Int)] M157 (fun r162 M162 => ((c ≠ 100 → ((r162 ≠ 0 → (0 ≤ c ∧ c < 10) ∧ Calls 0 mX12_bits [.inl (M162 122 c)] M162 (fun r192 M192 => Q r192 M192)) ∧ (r162 = 0 → Q (-2) M162))) ∧ (c = 100 → Q r162 M162))))
theorem l_X12_orders_80 {Q : Int → Me → Prop} {t : Int → Int} {N : Nat} {m c : Int} (hN : N ≤ 10) (hm : m ≤ 20) (tn : ∀ j, 0 ≤ t j) : ∀ (k : Nat) (i : Int) (M : Me) (A : Int → Int), 0 ≤ i → i + k = m → (∀ j, 0 ≤ j → j < 2 * m → band (M 88 j) 255 = t j) → (∀ x : Int, 0 ≤ x → x < (N : Int) → M 122 x = A x) →
    (rdo t N k i A = none → ∀ M', Fc122 M M' → Q (-3) M') → (∀ A', rdo t N k i A = some A' → ∀ M', Fc122 M M' → (∀ x : Int, 0 ≤ x → x < (N : Int) → M' 122 x = A' x) → exVC Q N c M') → Go (km 2 mX12_orders Q) 80 [some (.inr 76), some (.inl (N : Int)), some (.inl m), some (.inl c), some (.inl i), none, none] [] M := by
  intro k
  induction k with
  | zero =>
    intro i M A i0 ik ht hA hNo hS
    exact s_X12_orders_80 N m c i M ⟨fun _ => hS A rfl M (fun _ _ _ => rfl) hA, fun v => by exfalso; omega⟩
  | succ k ih =>
    intro i M A i0 ik ht hA hNo hS
    have e1 := ht (2 * i) (by omega) (by omega)
    have e2 := ht (2 * i + 1) (by omega) (by omega)
    have n1 := tn (2 * i)
    have n2 := tn (2 * i + 1)
    refine s_X12_orders_80 N m c i M ?_
    rw [e1, e2]
    refine ⟨fun v => by exfalso; omega, fun _ => ⟨by unfold cn; omega, by omega, by unfold cn; omega, by unfold cn; omega, by omega, ?_⟩⟩
    by_cases c : (0 ≤ t (2 * i) ∧ t (2 * i) < N) ∧ (0 ≤ t (2 * i + 1) ∧ t (2 * i + 1) < N) ∧ t (2 * i) ≠ t (2 * i + 1)
    · have er : rdo t N (k + 1) i A = rdo t N k (i + 1) (updo A (t (2 * i + 1)) (t (2 * i))) := by simp only [rdo, if_pos c]
      refine ⟨fun v => by exfalso; omega, fun _ => ⟨fun v => by exfalso; omega, fun _ => ⟨fun _ => ⟨by omega, by omega, by unfold cn; omega, ?_⟩, fun v => by exfalso; omega⟩⟩⟩
      refine ih (i + 1) _ (updo A (t (2 * i + 1)) (t (2 * i))) (by omega) (by omega) (fun j a b => by rw [mput_ne _ _ _ _ (by decide)]; exact ht j a b) (fun x a b => ?_) (fun h M' f => hNo (er.trans h) M' (fun k i h => (f k i h).trans (mput_ne _ _ _ _ h))) (fun A' h M' f => hS A' (er.trans h) M' (fun k i h => (f k i h).trans (mput_ne _ _ _ _ h)))
      unfold updo
      by_cases q : x = t (2 * i + 1)
      · subst q; rw [mput_same, if_pos rfl, hA _ a b]
      · rw [mput_ni _ _ _ _ q, if_neg q]; exact hA x a b
    · have er : rdo t N (k + 1) i A = none := by simp only [rdo, if_neg c]
      have no : Q (-3) M := hNo er M (fun _ _ _ => rfl)
      exact ⟨fun _ => no, fun _ => ⟨fun _ => no, fun _ => ⟨fun v => by exfalso; omega, fun _ => no⟩⟩⟩
theorem l_X12_orders_57 {Q : Int → Me → Prop} {N : Nat} {m c : Int} {M0 : Me} (hN : N ≤ 10) (h : ∀ M, Fc122 M0 M → (∀ j : Int, 0 ≤ j → j < (N : Int) → M 122 j = 0) → Go (km 2 mX12_orders Q) 80 [some (.inr 76), some (.inl (N : Int)), some (.inl m), some (.inl c), some (.inl 0), none, none] [] M) : ∀ (k : Nat) (i : Int) (M : Me), 0 ≤ i → i + k = N → Fc122 M0 M → (∀ j, 0 ≤ j → j < i → M 122 j = 0) → Go (km 2 mX12_orders Q) 57 [some (.inr 76), some (.inl (N : Int)), some (.inl m), some (.inl c), some (.inl i), none, none] [] M := by
  intro k
  induction k with
  | zero => intro i M i0 ik f hz; exact s_X12_orders_57 N m c i M ⟨fun _ => h M f (fun j a b => hz j a (by omega)), fun v => by exfalso; omega⟩
  | succ k ih =>
    intro i M i0 ik f hz
    refine s_X12_orders_57 N m c i M ⟨fun v => by exfalso; omega, fun _ => ⟨by omega, by unfold cn; omega, ?_⟩⟩
    refine ih (i + 1) _ (by omega) (by omega) (fun k i h => (mput_ne _ _ _ _ h).trans (f k i h)) (fun j a b => ?_)
    by_cases q : j = i
    · subst q; exact mput_same _ _ _ _
    · rw [mput_ni _ _ _ _ q]; exact hz j a (by omega)
def anA (A : Int → Int) (l : Nat) : Nat := (A (l : Int)).toNat
theorem anA_spec {N : Nat} {A : Int → Int} (h : okA N A) {l : Nat} (hl : l < N) : A (l : Int) = (anA A l : Int) ∧ anA A l < 2 ^ N := by
  obtain ⟨a, e, ha⟩ := h l (by omega) (by omega)
  unfold anA
  rw [e]
  exact ⟨rfl, by simpa using ha⟩
theorem o_orders {M : Me} (hT : RTape M) (n m c : Int) (P : Me → Prop) (h2 : P M)
    (h1 : ∀ M2, (∀ k i, k ≠ 62 → k ≠ 65 → k ≠ 122 → k ≠ 123 → ¬ (k = 1 ∧ i = 1) → ¬ (k = 76 ∧ i = 13) → M2 k i = M k i) → M2 1 1 = 0 → M2 76 13 = 0 → P M2) :
    Calls 2 mX11_orders [.inr 0, .inl n, .inl m, .inl c] M (fun r M1 => Calls 2 mX12_orders [.inr 76, .inl n, .inl m, .inl c] M1 (fun r' M2 => r = r' ∧ P M2)) := by
  obtain ⟨t1, t2, t3, t4⟩ := hT
  by_cases hr : (2 ≤ n ∧ n ≤ 10) ∧ (1 ≤ m ∧ m ≤ 20) ∧ (c = 100 ∨ (0 ≤ c ∧ c < n)) ∧ 2 * m ≤ M 1 1
  · obtain ⟨⟨n2, n10⟩, ⟨m1, m20⟩, hc, hmt⟩ := hr
    obtain ⟨N, rfl⟩ : ∃ N : Nat, n = N := ⟨n.toNat, by omega⟩
    have hN : N ≤ 10 := by omega
    have htn : ∀ j, 0 ≤ (fun j => if 0 ≤ j ∧ j < 2 * m then M 2 j else 0) j := fun j => by
      show 0 ≤ (if 0 ≤ j ∧ j < 2 * m then M 2 j else 0)
      split
      · next q => have := t4 j q.1 (by omega); omega
      · omega
    generalize ht : (fun j => if 0 ≤ j ∧ j < 2 * m then M 2 j else 0) = t at htn
    have htx : ∀ j, 0 ≤ j → j < 2 * m → M 2 j = t j := fun j a b => by rw [← ht]; simp only; rw [if_pos ⟨a, b⟩]
    have ok0 : okA N (fun _ => 0) := fun x _ _ => ⟨0, rfl, Nat.two_pow_pos N⟩
    have ref : ∀ M1 : Me, (∀ k i, k ≠ 62 → k ≠ 65 → ¬ (k = 1 ∧ i = 1) → M1 k i = M k i) → M1 1 1 = 0 → ∀ r : Int,
        (rdo t N m.toNat 0 (fun _ => 0) = none → r = -3) → (∀ A, rdo t N m.toNat 0 (fun _ => 0) = some A → r = if c = 100 then (ordT N (anA A) (2 ^ N - 1) : Int) else if ordT N (anA A) (2 ^ N - 1) = 0 then -2 else (popc (clos N (anA A) c.toNat) : Int)) →
        Calls 2 mX12_orders [.inr 76, .inl (N : Int), .inl m, .inl c] M1 (fun r' M2 => r = r' ∧ P M2) := by
      intro M1 f1 z1 r hNo hSo
      have e13 : M1 76 13 = M 76 13 := f1 76 13 (by decide) (by decide) (by decide)
      have fin : ∀ M', (∀ k i, k ≠ 122 → k ≠ 123 → M' k i = mput M1 76 13 0 k i) → P M' := fun M' f => by
        refine h1 M' (fun k i a1 a2 a3 a4 a5 a6 => ?_) ?_ ?_
        · rw [f k i a3 a4]; unfold mput; rw [if_neg a6]; exact f1 k i a1 a2 a5
        · rw [f 1 1 (by decide) (by decide), mput_ne _ _ _ _ (by decide)]; exact z1
        · rw [f 76 13 (by decide) (by decide)]; exact mput_same _ _ _ _
      have body : Go (km 2 mX12_orders (fun r' M2 => r = r' ∧ P M2)) 57 [some (.inr 76), some (.inl (N : Int)), some (.inl m), some (.inl c), some (.inl 0), none, none] [] (mput M1 76 13 0) := by
        refine l_X12_orders_57 hN (fun Mz fz zz => ?_) N 0 _ (by omega) (by omega) (fun _ _ _ => rfl) (fun j a b => by omega)
        refine l_X12_orders_80 (t := t) hN m20 htn m.toNat 0 Mz (fun _ => 0) (by omega) (by omega) (fun j a b => ?_) (fun x a b => zz x a b) (fun h M' f => ⟨hNo h, fin M' (fun k i a _ => (f k i a).trans (fz k i a))⟩) (fun A h M' f hA => ?_)
        · rw [fz 88 j (by decide), mput_ne _ _ _ _ (by decide), f1 88 j (by decide) (by decide) (fun q => absurd q.1 (by decide)), (t4 j a (by omega)).1]
          exact htx j a b
        · have okA' := rdo_ok hN _ _ _ _ ok0 h
          have hA' : ∀ l : Nat, l < N → M' 122 (l : Int) = (anA A l : Int) ∧ anA A l < 2 ^ N := fun l hl => by
            rw [hA l (by omega) (by omega)]; exact anA_spec okA' hl
          have hC := isCl_clos (fun k hk => (hA' k hk).2)
          refine p_X12_closes hN hA' (fun M3 f3 h3 => ?_)
          refine p_X12_waysOf hN (fun l hl => ⟨h3 l hl, hC.2.2.2 l hl⟩) (fun M4 f4 => ?_)
          have eqT : ordT N (clos N (anA A)) (2 ^ N - 1) = ordT N (anA A) (2 ^ N - 1) := (IsT_eq (IsT_ordT N (anA A)) (IsT_ordT N (clos N (anA A))) hC (2 ^ N - 1) (2 ^ N - 1) (by omega) (by have := Nat.two_pow_pos N; omega)).symm
          rw [eqT]
          have pf : P M4 := fin M4 (fun k i a b => (f4 k i b).trans ((f3 k i a).trans ((f k i a).trans (fz k i a))))
          have hr := hSo A h
          refine ⟨fun v => ⟨fun v2 => ⟨by omega, ?_⟩, fun v2 => ⟨?_, pf⟩⟩, fun v => ⟨?_, pf⟩⟩
          · rw [if_neg v, if_neg (by omega)] at hr
            obtain ⟨C, rfl⟩ : ∃ C : Nat, c = C := ⟨c.toNat, by omega⟩
            rw [f4 122 _ (by decide), h3 C (by omega)]
            have hlt := hC.2.2.2 C (by omega)
            have hp := pow10 hN
            refine p_X12_bits (by omega) ⟨?_, pf⟩
            rw [hr, Int.toNat_natCast]
          · rw [if_neg v, if_pos (by omega)] at hr
            exact hr
          · rw [if_pos v] at hr
            exact hr
      refine e_X12_orders ?_
      rw [e13]
      exact ⟨fun _ => ⟨fun _ => ⟨by unfold cn; omega, fun _ => ⟨by unfold cn; omega, fun _ => body, fun v => by exfalso; omega⟩, fun v => ⟨fun v => by exfalso; omega, fun _ => ⟨by unfold cn; omega, fun _ => body, fun v => by exfalso; omega⟩⟩⟩, fun v => by exfalso; omega⟩, fun v => by exfalso; omega⟩
    have body : Calls 1 mX6_readTwos [.inr 61, .inr 1, .inl (N : Int), .inl m] M (fun r64 M64 => ((r64 ≠ 0 → Calls 0 mX6_tellOrders [.inr 61, .inl (N : Int)] (mput M64 1 1 0) (fun r89 M89 => ((c ≠ 100 → Calls 1 mX6_earliest [.inr 61, .inl (N : Int), .inl c] M89 (fun r111 M111 => Calls 2 mX12_orders [.inr 76, .inl (N : Int), .inl m, .inl c] M111 (fun r' M2 => r111 = r' ∧ P M2))) ∧ (c = 100 → Calls 2 mX12_orders [.inr 76, .inl (N : Int), .inl m, .inl c] M89 (fun r' M2 => r89 = r' ∧ P M2))))) ∧ (r64 = 0 → Calls 2 mX12_orders [.inr 76, .inl (N : Int), .inl m, .inl c] (mput M64 1 1 0) (fun r' M2 => (-3 : Int) = r' ∧ P M2)))) := by
      refine p_X6_readTwos hN (by omega) m20 hmt t3 htx (fun h M' f => ⟨fun z => absurd rfl z, fun _ => ref _ (fun k i a1 a2 a3 => ?_) (mput_same _ _ _ _) (-3) (fun _ => rfl) (fun A h' => by rw [h] at h'; cases h')⟩) (fun A h M' f hA => ⟨fun _ => ?_, fun z => absurd z (by omega)⟩)
      · unfold mput; rw [if_neg a3]; exact f k i a2
      · have okA' := rdo_ok hN _ _ _ _ ok0 h
        have hA' : ∀ l : Nat, l < N → mput M' 1 1 0 65 (l : Int) = (anA A l : Int) ∧ anA A l < 2 ^ N := fun l hl => by
          rw [mput_ne _ _ _ _ (by decide), hA l (by omega) (by omega)]; exact anA_spec okA' hl
        refine p_X6_tellOrders hN (by omega) hA' (fun M3 f3 h3 => ?_)
        have fr : ∀ k i, k ≠ 62 → k ≠ 65 → ¬ (k = 1 ∧ i = 1) → M3 k i = M k i := fun k i a1 a2 a3 => by
          rw [f3 k i a1]; unfold mput; rw [if_neg a3]; exact f k i a2
        have z3 : M3 1 1 = 0 := by rw [f3 1 1 (by decide)]; exact mput_same _ _ _ _
        refine ⟨fun v => ?_, fun v => ref M3 fr z3 _ (fun q => by rw [h] at q; cases q) (fun A2 q => ?_)⟩
        · obtain ⟨C, rfl⟩ : ∃ C : Nat, c = C := ⟨c.toNat, by omega⟩
          refine p_X6_earliest (A := anA A) hN (by omega) (fun l hl => by rw [f3 65 l (by decide)]; exact hA' l hl) h3 (ref M3 fr z3 _ (fun q => by rw [h] at q; cases q) (fun A2 q => ?_))
          rw [h] at q; cases q
          rw [if_neg v, Int.toNat_natCast]
        · rw [h] at q; cases q
          rw [if_pos v]
    refine e_X11_orders ?_
    exact ⟨fun v => by exfalso; omega, fun _ => ⟨fun v => by exfalso; omega, fun _ => ⟨fun v => by exfalso; omega, fun _ => ⟨fun v => by exfalso; omega, fun _ => ⟨by unfold cn; omega, fun _ => ⟨fun _ => body, fun _ => ⟨fun v => by exfalso; omega, fun _ => ⟨fun _ => body, fun v => by exfalso; omega⟩⟩⟩, fun v => by exfalso; omega⟩⟩⟩⟩⟩
  · have go : Calls 2 mX12_orders [.inr 76, .inl n, .inl m, .inl c] M (fun r' M2 => (-1 : Int) = r' ∧ P M2) := by
      refine e_X12_orders ⟨fun v1 => ⟨fun v2 => ⟨by first | omega | (unfold cn; omega), ⟨fun v3 => ⟨by first | omega | (unfold cn; omega), ⟨fun v4 => (by exfalso; omega), fun v4 => (by exact ⟨rfl, h2⟩)⟩⟩, fun v3 => ⟨fun v4 => (by exact ⟨rfl, h2⟩), fun v4 => ⟨by first | omega | (unfold cn; omega), ⟨fun v5 => (by exfalso; omega), fun v5 => (by exact ⟨rfl, h2⟩)⟩⟩⟩⟩⟩, fun v2 => (by exact ⟨rfl, h2⟩)⟩, fun v1 => (by exact ⟨rfl, h2⟩)⟩
    refine e_X11_orders ⟨fun v1 => (by exact go), fun v1 => ⟨fun v2 => (by exact go), fun v2 => ⟨fun v3 => (by exact go), fun v3 => ⟨fun v4 => (by exact go), fun v4 => ⟨by first | omega | (unfold cn; omega), ⟨fun v5 => ⟨fun v6 => (by exfalso; omega), fun v6 => ⟨fun v7 => (by exact go), fun v7 => ⟨fun v8 => (by exfalso; omega), fun v8 => (by exact go)⟩⟩⟩, fun v5 => (by exact go)⟩⟩⟩⟩⟩⟩
