/-! ===== marriages: how many last, the class ===== -/
def sumFr (f : Nat → Int) : Nat → Nat → Int
  | _, 0 => 0
  | w, k + 1 => f w + sumFr f (w + 1) k
theorem sumFr_snoc (f : Nat → Int) : ∀ (k w : Nat), sumFr f w (k + 1) = sumFr f w k + f (w + k)
  | 0, w => by simp [sumFr]
  | k + 1, w => by
    have := sumFr_snoc f k (w + 1)
    rw [sumFr, this, sumFr, show w + 1 + k = w + (k + 1) by omega]
    omega
theorem sumFr_range (f : Nat → Int) : ∀ n : Nat, sumI f (List.range n) = sumFr f 0 n
  | 0 => rfl
  | n + 1 => by
    rw [List.range_succ, sumI_append, sumFr_range f n, sumFr_snoc, Nat.zero_add]
    simp only [sumI]
    omega
theorem sumFr_nn {f : Nat → Int} (h : ∀ w, 0 ≤ f w) : ∀ (k w : Nat), 0 ≤ sumFr f w k
  | 0, _ => Int.le_refl _
  | k + 1, w => by
    have := sumFr_nn h k (w + 1)
    have := h w
    simp only [sumFr]
    omega
def Tab (n : Nat) (rk pc : Int → Int → Int) (M : Me) : Prop := M 69 6 = n ∧ ∀ x v : Nat, x < n → v < n → M 71 (6 * (x : Int) + v) = rk x v ∧ M 72 (6 * (x : Int) + v) = pc x v
theorem t_rather {Q : Int → Me → Prop} {M : Me} {n : Nat} {rk pc : Int → Int → Int} {q : List Nat} {x y : Nat} (n6 : n ≤ 6) (hT : Tab n rk pc M) (hx : x < n) (hy : y < n) (qx : q.getD x 0 < n) (qy : q.getD y 0 < n) (ex : M 73 x = (q.getD x 0 : Nat)) (ey : M 73 y = (q.getD y 0 : Nat)) (h1 : rtB rk pc q x y = true → Q 1 M) (h0 : rtB rk pc q x y = false → Q 0 M) : Calls 0 mX5_wouldRather [.inr 69, .inl x, .inl y] M Q := by
  unfold rtB at h1 h0
  generalize q.getD x 0 = a at *
  generalize q.getD y 0 = b at *
  obtain ⟨-, hT⟩ := hT
  refine e_X5_wouldRather ?_
  rw [ex, ey, (hT x b hx qy).1, (hT x a hx qx).1, (hT b x qy hx).2, (hT b y qy hy).2]
  refine ⟨by omega, by unfold cn; omega, by unfold cn; omega, by omega, by unfold cn; omega, by omega, by unfold cn; omega, by omega, fun z => h0 (decide_eq_false (fun w => by omega)), fun z => ⟨by unfold cn; omega, by unfold cn; omega, by omega, by unfold cn; omega, by unfold cn; omega, by omega, fun y => h0 (decide_eq_false (fun w => by omega)), fun y => h1 (decide_eq_true ⟨z, y⟩)⟩⟩
theorem t_isAtPeace {Q : Int → Me → Prop} {M : Me} {n : Nat} {rk pc : Int → Int → Int} {q : List Nat} {one : Nat} (n6 : n ≤ 6) (hT : Tab n rk pc M) (h1n : one < n) (hq : ∀ i, i ≤ one → q.getD i 0 < n ∧ M 73 i = (q.getD i 0 : Nat)) (h1 : pkB rk pc q one = true → Q 1 M) (h0 : pkB rk pc q one = false → Q 0 M) : Calls 1 mX5_isAtPeace [.inr 69, .inl one] M Q := by
  have loop : ∀ (k o : Nat), o + k = one → (∀ j, j < o → rtB rk pc q one j = false ∧ rtB rk pc q j one = false) → Go (km 1 mX5_isAtPeace Q) 2 [some (.inr 69), some (.inl (one : Int)), some (.inl (o : Int))] [] M := by
    intro k
    induction k with
    | zero =>
      intro o ho hd
      refine s_X5_isAtPeace_2 _ _ M ⟨fun _ => h1 ?_, fun z => by exfalso; omega⟩
      unfold pkB
      rw [List.all_eq_true]
      intro j hj
      rw [List.mem_range] at hj
      obtain ⟨a, b⟩ := hd j (by omega)
      rw [a, b]; rfl
    | succ k ih =>
      intro o ho hd
      have bad : (rtB rk pc q one o = true ∨ rtB rk pc q o one = true) → pkB rk pc q one = false := fun z => by
        cases hh : pkB rk pc q one with
        | false => rfl
        | true =>
          exfalso
          unfold pkB at hh
          rw [List.all_eq_true] at hh
          have := hh o (List.mem_range.mpr (by omega))
          rw [Bool.and_eq_true] at this
          rcases z with z | z
          · rw [z] at this; exact absurd this.1 (by decide)
          · rw [z] at this; exact absurd this.2 (by decide)
      refine s_X5_isAtPeace_2 _ _ M ⟨fun z => by exfalso; omega, fun _ => ?_⟩
      refine t_rather n6 hT h1n (by omega) (hq one (Nat.le_refl _)).1 (hq o (by omega)).1 (hq one (Nat.le_refl _)).2 (hq o (by omega)).2 (fun z => ⟨fun _ => h0 (bad (Or.inl z)), fun y => absurd y (by decide)⟩) (fun z => ⟨fun y => absurd rfl y, fun _ => ?_⟩)
      refine t_rather n6 hT (by omega) h1n (hq o (by omega)).1 (hq one (Nat.le_refl _)).1 (hq o (by omega)).2 (hq one (Nat.le_refl _)).2 (fun y => ⟨fun x => absurd x (by decide), fun _ => h0 (bad (Or.inr y))⟩) (fun y => ⟨fun _ => ⟨by unfold cn; omega, ?_⟩, fun x => absurd rfl x⟩)
      have := ih (o + 1) (by omega) (fun j hj => by
        by_cases e : j = o
        · subst e; exact ⟨z, y⟩
        · exact hd j (by omega))
      rw [show ((o + 1 : Nat) : Int) = (o : Int) + 1 by omega] at this
      exact this
  exact e_X5_isAtPeace (loop one 0 (by omega) (fun j hj => by omega))
def LFr (o : Nat) (M M' : Me) : Prop := ∀ k i, (k = 73 → i < (o : Int)) → M' k i = M k i
theorem Tab.mv {n : Nat} {rk pc : Int → Int → Int} {M M' : Me} (h : Tab n rk pc M) (f : ∀ k i, k ≠ 73 → M' k i = M k i) : Tab n rk pc M' := ⟨by rw [f 69 6 (by decide)]; exact h.1, fun x v hx hv => by rw [f 71 _ (by decide), f 72 _ (by decide)]; exact h.2 x v hx hv⟩
theorem pow6 {n : Nat} (n6 : n ≤ 6) : ∀ m : Nat, m ≤ 6 → (n : Int) ^ m ≤ 46656 := by
  intro m m6
  have h1 : n ^ m ≤ 6 ^ m := Nat.pow_le_pow_left n6 m
  have h2 : 6 ^ m ≤ 6 ^ 6 := Nat.pow_le_pow_right (by decide) m6
  have h3 : n ^ m ≤ 46656 := Nat.le_trans h1 h2
  have : ((n ^ m : Nat) : Int) ≤ 46656 := by omega
  rw [Int.natCast_pow] at this
  exact this
theorem t_lasting {n : Nat} {rk pc : Int → Int → Int} (n2 : 2 ≤ n) (n6 : n ≤ 6) : ∀ (m D : Nat) (pre : List Nat) (tm : Nat) (M : Me) (Q : Int → Me → Prop), m ≤ D → pre.length + m = n → (∀ x, x ∈ pre → x < n) → tm < 64 → (∀ v, tm.testBit v = true ↔ v ∈ pre) → Tab n rk pc M → (∀ i, i < pre.length → M 73 i = (pre.getD i 0 : Nat)) → (∀ M', LFr pre.length M M' → Q (lstC rk pc n m pre) M') → Calls (D + 4) mX5_lasting [.inr 69, .inl (pre.length : Int), .inl (tm : Int)] M Q := by
  intro m
  induction m with
  | zero =>
    intro D pre tm M Q hD hl hx ht hb hT hp hQ
    refine e_X5_lasting ⟨fun z => by rw [hT.1] at z; exfalso; omega, fun _ => hQ M (fun _ _ _ => rfl)⟩
  | succ m ihm =>
    intro D pre tm M0 Q hD hl hx ht hb hT hp hQ
    obtain ⟨D, rfl⟩ : ∃ D', D = D' + 1 := ⟨D - 1, by omega⟩
    have hR0 : lstC rk pc n (m + 1) pre = sumFr (fun w => if w ∉ pre ∧ pkB rk pc (pre ++ [w]) pre.length = true then lstC rk pc n m (pre ++ [w]) else 0) 0 n := by
      simp only [lstC]
      exact sumFr_range _ n
    have hbd := lst_b (rk := rk) (pc := pc) (n := n) (m + 1) pre
    have hp6 := pow6 n6 (m + 1) (by omega)
    have hnn : ∀ w, 0 ≤ (fun w => if w ∉ pre ∧ pkB rk pc (pre ++ [w]) pre.length = true then lstC rk pc n m (pre ++ [w]) else 0) w := fun w => by
      simp only
      split
      · exact (lst_b m _).1
      · exact Int.le_refl _
    have loop : ∀ (k w : Nat) (acc : Int) (M : Me), w + k = n → 0 ≤ acc → LFr pre.length M0 M → acc + sumFr (fun w => if w ∉ pre ∧ pkB rk pc (pre ++ [w]) pre.length = true then lstC rk pc n m (pre ++ [w]) else 0) w k = lstC rk pc n (m + 1) pre → Go (km (D + 1 + 4) mX5_lasting Q) 15 [some (.inr 69), some (.inl (pre.length : Int)), some (.inl (tm : Int)), some (.inl acc), some (.inl (w : Int))] [] M := by
      intro k
      induction k with
      | zero =>
        intro w acc M hw a0 f hs
        have e69 : M 69 6 = n := by rw [f 69 6 (by omega)]; exact hT.1
        refine s_X5_lasting_15 _ _ _ _ M ⟨fun _ => ?_, fun z => by rw [e69] at z; exfalso; omega⟩
        simp only [sumFr, Int.add_zero] at hs
        rw [hs]
        exact hQ M f
      | succ k ih =>
        intro w acc M hw a0 f hs
        have e69 : M 69 6 = n := by rw [f 69 6 (by omega)]; exact hT.1
        simp only [sumFr] at hs
        have rest := sumFr_nn hnn k (w + 1)
        have nx : ∀ (acc' : Int) (M' : Me), LFr pre.length M0 M' → 0 ≤ acc' → acc' = acc + (if w ∉ pre ∧ pkB rk pc (pre ++ [w]) pre.length = true then lstC rk pc n m (pre ++ [w]) else 0) → Go (km (D + 1 + 4) mX5_lasting Q) 15 [some (.inr 69), some (.inl (pre.length : Int)), some (.inl (tm : Int)), some (.inl acc'), some (.inl ((w : Int) + 1))] [] M' := fun acc' M' f' a0' ha => by
          have := ih (w + 1) acc' M' (by omega) a0' f' (by rw [ha]; omega)
          rw [show ((w + 1 : Nat) : Int) = (w : Int) + 1 by omega] at this
          exact this
        have f1 : LFr pre.length M0 (mput M 73 (pre.length : Int) (w : Int)) := fun k i q => by
          by_cases e : k = 73
          · subst e
            have := q rfl
            rw [mput_ni _ _ _ _ (by omega)]; exact f _ _ q
          · rw [mput_ne _ _ _ _ e]; exact f _ _ q
        refine s_X5_lasting_15 _ _ _ _ M ⟨fun z => by rw [e69] at z; exfalso; omega, fun _ => ⟨by omega, fun z => ⟨by unfold cn; omega, ?_⟩, fun z => ?_⟩⟩
        · have hin : w ∈ pre := by
            have : band (bshr (tm : Int) (w : Int)) 1 = 1 := by
              rcases Bool.eq_false_or_eq_true (tm.testBit w) with y | y
              · exact (has_iff (by omega) (by omega)).mpr y
              · exact absurd ((has_iff0 (by omega) (by omega)).mpr y) z
            exact (hb w).mp ((has_iff (by omega) (by omega)).mp this)
          exact nx acc _ f1 a0 (by rw [if_neg (fun y => y.1 hin)]; omega)
        · have hnot : w ∉ pre := fun hin => by
            have := (has_iff0 (x := tm) (i := w) (by omega) (by omega)).mp z
            rw [(hb w).mpr hin] at this
            cases this
          have hT1 : Tab n rk pc (mput M 73 (pre.length : Int) (w : Int)) := hT.mv (fun k i q => (f1 k i (fun y => absurd y q)))
          have hq : ∀ i, i ≤ pre.length → (pre ++ [w]).getD i 0 < n ∧ (mput M 73 (pre.length : Int) (w : Int)) 73 i = ((pre ++ [w]).getD i 0 : Nat) := fun i hi => by
            by_cases e : i = pre.length
            · subst e
              rw [mput_same]
              have : (pre ++ [w]).getD pre.length 0 = w := by simp
              rw [this]
              exact ⟨by omega, rfl⟩
            · rw [getD_app (by omega), mput_ni _ _ _ _ (by omega), f 73 i (fun _ => by omega)]
              refine ⟨hx _ ?_, hp i (by omega)⟩
              have : pre.getD i 0 = pre[i]'(by omega) := by simp [List.getD, show i < pre.length by omega]
              rw [this]
              exact List.getElem_mem _
          refine t_isAtPeace n6 hT1 (by omega) hq (fun y => ⟨fun x => absurd x (by decide), fun _ => ⟨by unfold cn; omega, ?_⟩⟩) (fun y => ⟨fun _ => ⟨by unfold cn; omega, nx acc _ f1 a0 (by rw [if_neg (fun x => by rw [y] at x; exact absurd x.2 (by decide))]; omega)⟩, fun x => absurd rfl x⟩)
          obtain ⟨e1, e2, e3⟩ := mask_step (m := tm) (v := (w : Int)) ht (by omega) (by omega)
          rw [e1, Int.toNat_natCast]
          rw [Int.toNat_natCast] at e2 e3
          have hlen : (pre ++ [w]).length = pre.length + 1 := by simp
          have hrec := ihm D (pre ++ [w]) (tm ||| 2 ^ w) (mput M 73 (pre.length : Int) (w : Int)) (fun r60 M60 => cn (acc + r60) ∧ cn ((w : Int) + 1) ∧ Go (km (D + 1 + 4) mX5_lasting Q) 15 [some (.inr 69), some (.inl (pre.length : Int)), some (.inl (tm : Int)), some (.inl (acc + r60)), some (.inl ((w : Int) + 1))] [] M60) (by omega) (by omega) (fun x hx' => by
            rcases List.mem_append.mp hx' with q | q
            · exact hx x q
            · have : x = w := by simpa using q
              omega) e2 (fun v => by
            rw [e3 v, Bool.or_eq_true, hb v, decide_eq_true_eq, List.mem_append, List.mem_singleton]
            exact ⟨fun q => q.elim Or.inl (fun y => Or.inr y.symm), fun q => q.elim Or.inl (fun y => Or.inr y.symm)⟩) hT1 (fun i hi => (hq i (by omega)).2) (fun M' f' => by
            have hb2 := lst_b (rk := rk) (pc := pc) (n := n) m (pre ++ [w])
            rw [if_pos ⟨hnot, y⟩] at hs
            refine ⟨by unfold cn; omega, by unfold cn; omega, nx _ M' (fun k i q => ?_) (by omega) (by rw [if_pos ⟨hnot, y⟩])⟩
            rw [f' k i (fun e => by have := q e; rw [hlen]; omega)]
            exact f1 k i q)
          rw [hlen, show ((pre.length + 1 : Nat) : Int) = (pre.length : Int) + 1 by omega] at hrec
          exact hrec
    refine e_X5_lasting ⟨fun _ => ?_, fun z => by rw [hT.1] at z; exfalso; omega⟩
    exact loop n 0 0 M0 (by omega) (Int.le_refl _) (fun _ _ _ => rfl) (by rw [hR0]; omega)
theorem t_howMany {n : Nat} {rk pc : Int → Int → Int} (n2 : 2 ≤ n) (n6 : n ≤ 6) {M : Me} {Q : Int → Me → Prop} (hT : Tab n rk pc M) (hQ : ∀ M', LFr 0 M M' → Q (cntA rk pc (px n n [])) M') : Calls 60 mX5_howManyLast [.inr 69] M Q := by
  rw [← lst_cnt n [] List.nodup_nil (fun x h => by cases h) rfl] at hQ
  exact e_X5_howManyLast (t_lasting n2 n6 n 55 [] 0 M _ (by omega) (by simp) (fun x h => by cases h) (by decide) (fun v => by simp) hT (fun i hi => by simp at hi) hQ)
