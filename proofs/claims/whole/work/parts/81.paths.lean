/-! ===== paths: the class ===== -/
def Fr60 (M M' : Me) : Prop := ∀ k i, k ≠ 60 → M' k i = M k i
def Jn (f far : Int → Int) (n : Int) (l : List (Int × Int)) : Prop := Prm (memF f n) l ∧ ∀ i, 0 ≤ i → i < n → (∃ x, x ∈ l ∧ dst x.1 (f i) = far i) ∧ ∀ x, x ∈ l → far i ≤ dst x.1 (f i)
theorem Jn.z {f far : Int → Int} {n : Int} {l : List (Int × Int)} (h : Jn f far n l) {i : Int} (i0 : 0 ≤ i) (i1 : i < n) : 0 ≤ far i ∧ (far i = 0 ↔ ∃ x, x ∈ l ∧ x.1 = f i) := by
  obtain ⟨⟨x, hx, ex⟩, h2⟩ := h.2 i i0 i1
  have := dst_nn x.1 (f i)
  refine ⟨by omega, fun e => ⟨x, hx, dst_0 (by omega)⟩, ?_⟩
  rintro ⟨y, hy, ey⟩
  have h3 := h2 y hy
  rw [ey, dst_self] at h3
  omega
theorem Jn.step {f far far' : Int → Int} {n r : Int} {l : List (Int × Int)} (h : Jn f far n l) (r0 : 0 ≤ r) (r1 : r < n) (hr : 0 < far r) (hmin : ∀ j, 0 ≤ j → j < n → 0 < far j → far r ≤ far j) (hf : ∀ j, 0 ≤ j → j < n → far' j = min (far j) (dst (f r) (f j))) : Jn f far' n ((f r, far r) :: l) := by
  refine ⟨Prm_step h.1 ⟨r, r0, r1, rfl⟩ (fun x hx e => ?_) (h.2 r r0 r1).1 (fun y hy hn x hx => ?_), fun i i0 i1 => ⟨?_, fun x hx => ?_⟩⟩
  · have := (h.z r0 r1).2.mpr ⟨x, hx, e⟩
    omega
  · obtain ⟨j, j0, j1, j2⟩ := hy
    have hz := h.z j0 j1
    have hp : 0 < far j := by
      by_cases q : far j = 0
      · obtain ⟨w, hw, ew⟩ := hz.2.mp q
        exact absurd (ew.trans j2) (hn w hw)
      · omega
    have h1 := hmin j j0 j1 hp
    have h2 := (h.2 j j0 j1).2 x hx
    rw [j2] at h2
    omega
  · obtain ⟨x, hx, ex⟩ := (h.2 i i0 i1).1
    rw [hf i i0 i1]
    by_cases q : far i ≤ dst (f r) (f i)
    · exact ⟨x, List.mem_cons_of_mem _ hx, by omega⟩
    · exact ⟨(f r, far r), List.mem_cons_self, by show dst (f r) (f i) = _; omega⟩
  · rw [hf i i0 i1]
    rcases List.mem_cons.mp hx with e | e
    · rw [e]; show _ ≤ dst (f r) (f i); omega
    · have := (h.2 i i0 i1).2 x e
      omega
theorem l_X2_nearest {Q : Int → Me → Prop} {M : Me} {n : Int} (hn : M 57 3 = n) (h32 : n ≤ 32) (hf : ∀ i, 0 ≤ i → i < n → 0 ≤ M 60 i) (hex : ∃ i, 0 ≤ i ∧ i < n ∧ 0 < M 60 i) (hQ : ∀ r, 0 ≤ r → r < n → 0 < M 60 r → (∀ j, 0 ≤ j → j < n → 0 < M 60 j → M 60 r ≤ M 60 j) → Q r M) :
    ∀ (k : Nat) (x i : Int), 0 ≤ x → x < i → i + k = n → ((M 60 x = 0 ∧ ∀ j, 0 ≤ j → j < i → M 60 j = 0) ∨ (0 < M 60 x ∧ ∀ j, 0 ≤ j → j < i → 0 < M 60 j → M 60 x ≤ M 60 j)) → Go (km 0 mX2_nearestUnjoined Q) 4 [some (.inr 57), some (.inl x), some (.inl i)] [] M := by
  intro k
  induction k with
  | zero =>
    intro x i x0 xi hi hv
    refine s_X2_nearestUnjoined_4 _ _ M ⟨fun _ => ?_, fun v => by exfalso; omega⟩
    rcases hv with ⟨a, b⟩ | ⟨a, b⟩
    · exfalso
      obtain ⟨j, j0, j1, j2⟩ := hex
      have := b j j0 (by omega)
      omega
    · exact hQ x x0 (by omega) a (fun j j0 j1 j2 => b j j0 (by omega) j2)
  | succ k ih =>
    intro x i x0 xi hi hv
    have fi := hf i (by omega) (by omega)
    have fx := hf x (by omega) (by omega)
    refine s_X2_nearestUnjoined_4 _ _ M ⟨fun v => by exfalso; omega, fun _ => ⟨by omega, fun v => ⟨by unfold cn; omega, ?_⟩, fun v => ⟨by omega, fun v2 => ⟨by unfold cn; omega, ?_⟩, fun v2 => ⟨by omega, by omega, fun v3 => ⟨by unfold cn; omega, ?_⟩, fun v3 => ⟨by unfold cn; omega, ?_⟩⟩⟩⟩⟩
    · refine ih x (i + 1) x0 (by omega) (by omega) ?_
      rcases hv with ⟨a, b⟩ | ⟨a, b⟩
      · refine Or.inl ⟨a, fun j j0 j1 => ?_⟩
        by_cases q : j = i
        · subst q; omega
        · exact b j j0 (by omega)
      · refine Or.inr ⟨a, fun j j0 j1 j2 => ?_⟩
        by_cases q : j = i
        · subst q; omega
        · exact b j j0 (by omega) j2
    · refine ih i (i + 1) (by omega) (by omega) (by omega) (Or.inr ⟨v, fun j j0 j1 j2 => ?_⟩)
      by_cases q : j = i
      · subst q; omega
      · rcases hv with ⟨a, b⟩ | ⟨a, b⟩
        · have := b j j0 (by omega); omega
        · omega
    · refine ih x (i + 1) x0 (by omega) (by omega) (Or.inr ⟨by omega, fun j j0 j1 j2 => ?_⟩)
      by_cases q : j = i
      · subst q; exact v3
      · rcases hv with ⟨a, b⟩ | ⟨a, b⟩
        · omega
        · exact b j j0 (by omega) j2
    · refine ih i (i + 1) (by omega) (by omega) (by omega) (Or.inr ⟨v, fun j j0 j1 j2 => ?_⟩)
      by_cases q : j = i
      · subst q; omega
      · rcases hv with ⟨a, b⟩ | ⟨a, b⟩
        · omega
        · have := b j j0 (by omega) j2; omega
theorem l_X2_leastPaths_66 {Q : Int → Me → Prop} {M0 : Me} {n x1 x2 r : Int} (hn : M0 57 3 = n) (h32 : n ≤ 32) (x20 : 0 ≤ x2) (x2n : x2 < n) (r0 : 0 ≤ r) (r1 : r < n) (hp : ∀ i, 0 ≤ i → i < n → 0 ≤ M0 58 i) (hk : ∀ M, Fr60 M0 M → (∀ j, 0 ≤ j → j < n → M 60 j = min (M0 60 j) (dst (M0 58 r) (M0 58 j))) → Go (km 2 mX2_leastPaths Q) 41 [some (.inr 57), some (.inl x1), some (.inl (x2 + 1)), none, none] [] M) :
    ∀ (k : Nat) (i : Int) (M : Me), 0 ≤ i → i + k = n → Fr60 M0 M → (∀ j, 0 ≤ j → j < i → M 60 j = min (M0 60 j) (dst (M0 58 r) (M0 58 j))) → (∀ j, i ≤ j → M 60 j = M0 60 j) → Go (km 2 mX2_leastPaths Q) 66 [some (.inr 57), some (.inl x1), some (.inl x2), some (.inl r), some (.inl i)] [] M := by
  intro k
  induction k with
  | zero =>
    intro i M i0 hi f h1 h2
    refine s_X2_leastPaths_66 _ _ _ _ M ?_
    rw [f 57 3 (by first | omega | decide), hn]
    exact ⟨fun _ => ⟨by unfold cn; omega, hk M f (fun j j0 j1 => h1 j j0 (by omega))⟩, fun v => by exfalso; omega⟩
  | succ k ih =>
    intro i M i0 hi f h1 h2
    refine s_X2_leastPaths_66 _ _ _ _ M ?_
    rw [f 57 3 (by first | omega | decide), hn, f 58 i (by first | omega | decide), f 58 r (by first | omega | decide), h2 i (Int.le_refl _)]
    refine ⟨fun v => by exfalso; omega, fun _ => ⟨by omega, by omega, by omega, hp r r0 r1, hp i i0 (by omega), by omega, by unfold cn; omega, ?_⟩⟩
    refine ih (i + 1) _ (by omega) (by omega) (fun k i a => (mput_ne _ _ _ _ a).trans (f k i a)) (fun j j0 j1 => ?_) (fun j j0 => ?_)
    · by_cases q : j = i
      · subst q; rw [mput_same]
      · rw [mput_ni _ _ _ _ q]; exact h1 j j0 (by omega)
    · rw [mput_ni _ _ _ _ (by omega)]; exact h2 j (by omega)
theorem l_X2_leastPaths_41 {Q : Int → Me → Prop} {M0 : Me} {n : Int} (hn : M0 57 3 = n) (h32 : n ≤ 32) (hpl : ∀ y, memF (M0 58) n y → pl y) (hnd : (rl (M0 58) n).Nodup) (hQ : ∀ M l, Fr60 M0 M → Prm (memF (M0 58) n) l → n ≤ l.length → Q (sumI Prod.snd l) M) :
    ∀ (k : Nat) (l : List (Int × Int)) (M : Me), (l.length : Int) + k = n → Fr60 M0 M → Jn (M0 58) (M 60) n l → Go (km 2 mX2_leastPaths Q) 41 [some (.inr 57), some (.inl (sumI Prod.snd l)), some (.inl (l.length : Int)), none, none] [] M := by
  have hp : ∀ i, 0 ≤ i → i < n → 0 ≤ M0 58 i := fun i i0 i1 => (hpl _ ⟨i, i0, i1, rfl⟩).1
  intro k
  induction k with
  | zero =>
    intro l M hl f h
    refine s_X2_leastPaths_41 _ _ M ?_
    rw [f 57 3 (by first | omega | decide), hn]
    exact ⟨fun _ => hQ M l f h.1 (by omega), fun v => by exfalso; omega⟩
  | succ k ih =>
    intro l M hl f h
    refine s_X2_leastPaths_41 _ _ M ?_
    rw [f 57 3 (by first | omega | decide), hn]
    have hb := sum_bound (Prm_cost hpl l h.1)
    have hl0 : 0 < l.length := by
      cases l with
      | nil => exact absurd h.1 (fun z => z)
      | cons a b => simp
    refine ⟨fun v => by exfalso; omega, fun _ => ?_⟩
    refine e_X2_nearestUnjoined (l_X2_nearest (n := n) (by rw [f 57 3 (by first | omega | decide), hn]) h32 (fun i i0 i1 => (h.z i0 i1).1) ?_ (fun r r0 r1 hr hmin => ?_) (n - 1).toNat 0 1 (by omega) (by omega) (by omega) ?_)
    · obtain ⟨i, i0, i1, hi⟩ := Prm_some hnd (l := l) (by omega)
      have := h.z i0 i1
      refine ⟨i, i0, i1, ?_⟩
      by_cases q : M 60 i = 0
      · obtain ⟨x, hx, ex⟩ := this.2.mp q
        exact absurd ex (hi x hx)
      · omega
    · obtain ⟨⟨x, hx, ex⟩, -⟩ := h.2 r r0 r1
      have hx38 := dst_le (hpl _ (Prm_S l h.1 x hx)) (hpl _ ⟨r, r0, r1, rfl⟩)
      refine ⟨by omega, by unfold cn; omega, ?_⟩
      refine l_X2_leastPaths_66 (M0 := M) (n := n) (by rw [f 57 3 (by first | omega | decide), hn]) h32 (by omega) (by omega) r0 r1 (fun i i0 i1 => by rw [f 58 i (by first | omega | decide)]; exact hp i i0 i1) (fun M' f' hf' => ?_) n.toNat 0 M (by omega) (by omega) (fun _ _ _ => rfl) (fun j a b => by omega) (fun _ _ => rfl)
      have := ih ((M0 58 r, M 60 r) :: l) M' (by rw [List.length_cons]; omega) (fun k i a => (f' k i a).trans (f k i a)) (h.step r0 r1 hr hmin (fun j j0 j1 => by rw [hf' j j0 j1, f 58 j (by first | omega | decide), f 58 r (by first | omega | decide)]))
      simp only [sumI, List.length_cons] at this
      rw [show sumI Prod.snd l + M 60 r = M 60 r + sumI Prod.snd l by omega, show (l.length : Int) + 1 = ((l.length + 1 : Nat) : Int) by omega]
      exact this
    · have := (h.z (i := 0) (by omega) (by omega)).1
      by_cases q : M 60 0 = 0
      · exact Or.inl ⟨q, fun j a b => by rw [show j = 0 by omega]; exact q⟩
      · exact Or.inr ⟨by omega, fun j a b c => by rw [show j = 0 by omega]; omega⟩
theorem l_X2_leastPaths_2 {Q : Int → Me → Prop} {M0 : Me} {n : Int} (hn : M0 57 3 = n) (h32 : n ≤ 32) (hp : ∀ i, 0 ≤ i → i < n → 0 ≤ M0 58 i) (hk : ∀ M, Fr60 M0 M → (∀ j, 0 ≤ j → j < n → M 60 j = dst (M0 58 0) (M0 58 j)) → Go (km 2 mX2_leastPaths Q) 41 [some (.inr 57), some (.inl 0), some (.inl 1), none, none] [] M) :
    ∀ (k : Nat) (i : Int) (M : Me), 0 ≤ i → i + k = n → Fr60 M0 M → (∀ j, 0 ≤ j → j < i → M 60 j = dst (M0 58 0) (M0 58 j)) → Go (km 2 mX2_leastPaths Q) 2 [some (.inr 57), some (.inl i), none, none, none] [] M := by
  intro k
  induction k with
  | zero =>
    intro i M i0 hi f h1
    refine s_X2_leastPaths_2 _ M ?_
    rw [f 57 3 (by first | omega | decide), hn]
    exact ⟨fun _ => hk M f (fun j j0 j1 => h1 j j0 (by omega)), fun v => by exfalso; omega⟩
  | succ k ih =>
    intro i M i0 hi f h1
    refine s_X2_leastPaths_2 _ M ?_
    rw [f 57 3 (by first | omega | decide), hn, f 58 i (by first | omega | decide), f 58 0 (by first | omega | decide)]
    refine ⟨fun v => by exfalso; omega, fun _ => ⟨by omega, hp 0 (by omega) (by omega), hp i i0 (by omega), by omega, by unfold cn; omega, ?_⟩⟩
    refine ih (i + 1) _ (by omega) (by omega) (fun k i a => (mput_ne _ _ _ _ a).trans (f k i a)) (fun j j0 j1 => ?_)
    by_cases q : j = i
    · subst q; rw [mput_same]
    · rw [mput_ni _ _ _ _ q]; exact h1 j j0 (by omega)
theorem p_X2_leastPaths {Q : Int → Me → Prop} {M : Me} (h0 : 0 ≤ M 57 3) (h32 : M 57 3 ≤ 32) (hpl : ∀ y, memF (M 58) (M 57 3) y → pl y) (hnd : (rl (M 58) (M 57 3)).Nodup) (hQ0 : M 57 3 = 0 → ∀ M', Fr60 M M' → Q 0 M') (hQ : ∀ M' l, Fr60 M M' → Prm (memF (M 58) (M 57 3)) l → M 57 3 ≤ l.length → Q (sumI Prod.snd l) M') : Calls 2 mX2_leastPaths [.inr 57] M Q := by
  refine e_X2_leastPaths (l_X2_leastPaths_2 (M0 := M) rfl h32 (fun i i0 i1 => (hpl _ ⟨i, i0, i1, rfl⟩).1) (fun M1 f1 hf => ?_) (M 57 3).toNat 0 M (by omega) (by omega) (fun _ _ _ => rfl) (fun j a b => by omega))
  by_cases hz : M 57 3 = 0
  · refine s_X2_leastPaths_41 _ _ M1 ?_
    rw [f1 57 3 (by first | omega | decide)]
    exact ⟨fun _ => hQ0 hz M1 f1, fun v => by exfalso; omega⟩
  · have := l_X2_leastPaths_41 (M0 := M) rfl h32 hpl hnd hQ (M 57 3 - 1).toNat [(M 58 0, 0)] M1 (by simp only [List.length_cons, List.length_nil]; omega) f1 ⟨⟨⟨0, by omega, by omega, rfl⟩, rfl⟩, fun i i0 i1 => ⟨⟨(M 58 0, 0), by simp, (hf i i0 i1).symm⟩, fun x hx => by
      have : x = (M 58 0, 0) := by simpa using hx
      rw [this, hf i i0 i1]
      exact Int.le_refl _⟩⟩
    exact this
