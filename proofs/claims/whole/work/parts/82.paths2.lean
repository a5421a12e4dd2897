/-! ===== paths: the reference ===== -/
def Fr111 (M M' : Me) : Prop := ∀ k i, k ≠ 111 → M' k i = M k i
def Jr (f nr : Int → Int) (n : Int) (l : List (Int × Int)) : Prop := Prm (memF f n) l ∧ ∀ i, 0 ≤ i → i < n → (nr i = -1 ∧ ∃ x, x ∈ l ∧ x.1 = f i) ∨ (0 ≤ nr i ∧ (∀ x, x ∈ l → x.1 ≠ f i) ∧ (∃ x, x ∈ l ∧ dst x.1 (f i) = nr i) ∧ ∀ x, x ∈ l → nr i ≤ dst x.1 (f i))
theorem Jr.step {f nr nr' : Int → Int} {n r : Int} {l : List (Int × Int)} (h : Jr f nr n l) (hinj : ∀ i j, 0 ≤ i → i < n → 0 ≤ j → j < n → f i = f j → i = j) (r0 : 0 ≤ r) (r1 : r < n) (hr : nr r ≠ -1) (hmin : ∀ j, 0 ≤ j → j < n → nr j ≠ -1 → nr r ≤ nr j) (hf : ∀ j, 0 ≤ j → j < n → nr' j = if j = r ∨ nr j = -1 then -1 else min (nr j) (dst (f r) (f j))) : Jr f nr' n ((f r, nr r) :: l) := by
  have hr' : 0 ≤ nr r ∧ (∀ x, x ∈ l → x.1 ≠ f r) ∧ (∃ x, x ∈ l ∧ dst x.1 (f r) = nr r) := by
    rcases h.2 r r0 r1 with ⟨a, -⟩ | ⟨a, b, c, -⟩
    · exact absurd a hr
    · exact ⟨a, b, c⟩
  refine ⟨Prm_step h.1 ⟨r, r0, r1, rfl⟩ hr'.2.1 hr'.2.2 (fun y hy hn x hx => ?_), fun i i0 i1 => ?_⟩
  · obtain ⟨j, j0, j1, j2⟩ := hy
    rcases h.2 j j0 j1 with ⟨a, w, hw, ew⟩ | ⟨a, b, c, d⟩
    · exact absurd (ew.trans j2) (hn w hw)
    · have h1 := hmin j j0 j1 (by omega)
      have h2 := d x hx
      rw [j2] at h2
      omega
  · rw [hf i i0 i1]
    by_cases q : i = r
    · subst q
      rw [if_pos (Or.inl rfl)]
      exact Or.inl ⟨rfl, (f i, nr i), List.mem_cons_self, rfl⟩
    · rcases h.2 i i0 i1 with ⟨a, w, hw, ew⟩ | ⟨a, b, ⟨x, hx, ex⟩, d⟩
      · rw [if_pos (Or.inr a)]
        exact Or.inl ⟨rfl, w, List.mem_cons_of_mem _ hw, ew⟩
      · rw [if_neg (by omega)]
        have dn := dst_nn (f r) (f i)
        refine Or.inr ⟨by omega, fun z hz => ?_, ?_, fun z hz => ?_⟩
        · rcases List.mem_cons.mp hz with e | e
          · rw [e]
            intro e2
            exact q (hinj r i r0 r1 i0 i1 e2).symm
          · exact b z e
        · by_cases q : nr i ≤ dst (f r) (f i)
          · exact ⟨x, List.mem_cons_of_mem _ hx, by omega⟩
          · exact ⟨(f r, nr r), List.mem_cons_self, by show dst (f r) (f i) = _; omega⟩
        · rcases List.mem_cons.mp hz with e | e
          · rw [e]; show _ ≤ dst (f r) (f i); omega
          · have := d z e
            omega
theorem l_X12_paths_135 {Q : Int → Me → Prop} {M0 : Me} {n x1 x2 r : Int} (hn : M0 76 47 = n) (h32 : n ≤ 32) (x20 : 0 ≤ x2) (x2n : x2 < n) (r0 : 0 ≤ r) (r1 : r < n) (hp : ∀ i, 0 ≤ i → i < n → 0 ≤ M0 109 i) (hk : ∀ M, Fr111 M0 M → (∀ j, 0 ≤ j → j < n → M 111 j = if M0 111 j = -1 then -1 else min (M0 111 j) (dst (M0 109 r) (M0 109 j))) → Go (km 2 mX12_paths Q) 53 [some (.inr 76), some (.inl x1), some (.inl (x2 + 1)), none, none] [] M) :
    ∀ (k : Nat) (i : Int) (M : Me), 0 ≤ i → i + k = n → Fr111 M0 M → (∀ j, 0 ≤ j → j < i → M 111 j = if M0 111 j = -1 then -1 else min (M0 111 j) (dst (M0 109 r) (M0 109 j))) → (∀ j, i ≤ j → M 111 j = M0 111 j) → Go (km 2 mX12_paths Q) 135 [some (.inr 76), some (.inl x1), some (.inl x2), some (.inl r), some (.inl i)] [] M := by
  intro k
  induction k with
  | zero =>
    intro i M i0 hi f h1 h2
    refine s_X12_paths_135 _ _ _ _ M ?_
    rw [f 76 47 (by first | omega | decide), hn]
    exact ⟨fun _ => ⟨by unfold cn; omega, hk M f (fun j j0 j1 => h1 j j0 (by omega))⟩, fun v => by exfalso; omega⟩
  | succ k ih =>
    intro i M i0 hi f h1 h2
    refine s_X12_paths_135 _ _ _ _ M ?_
    rw [f 76 47 (by first | omega | decide), hn, f 109 i (by first | omega | decide), f 109 r (by first | omega | decide), h2 i (Int.le_refl _)]
    refine ⟨fun v => by exfalso; omega, fun _ => ⟨by omega, fun v => ⟨by unfold cn; omega, ?_⟩, fun v => ⟨by omega, by omega, by omega, hp r r0 r1, hp i i0 (by omega), by omega, by unfold cn; omega, ?_⟩⟩⟩
    · refine ih (i + 1) _ (by omega) (by omega) f (fun j j0 j1 => ?_) (fun j j0 => h2 j (by omega))
      by_cases q : j = i
      · subst q; rw [if_pos v, h2 j (Int.le_refl _)]; exact v
      · exact h1 j j0 (by omega)
    · refine ih (i + 1) _ (by omega) (by omega) (fun k i a => (mput_ne _ _ _ _ a).trans (f k i a)) (fun j j0 j1 => ?_) (fun j j0 => ?_)
      · by_cases q : j = i
        · subst q; rw [mput_same, if_neg v]
        · rw [mput_ni _ _ _ _ q]; exact h1 j j0 (by omega)
      · rw [mput_ni _ _ _ _ (by omega)]; exact h2 j (by omega)
theorem l_X12_paths_66 {Q : Int → Me → Prop} {M : Me} {n x1 x2 : Int} (hn : M 76 47 = n) (h32 : n ≤ 32) (hb : ∀ i, 0 ≤ i → i < n → cn (x1 + M 111 i)) (hex : ∃ i, 0 ≤ i ∧ i < n ∧ M 111 i ≠ -1) (hk : ∀ r, 0 ≤ r → r < n → M 111 r ≠ -1 → (∀ j, 0 ≤ j → j < n → M 111 j ≠ -1 → M 111 r ≤ M 111 j) → Go (km 2 mX12_paths Q) 135 [some (.inr 76), some (.inl (x1 + M 111 r)), some (.inl x2), some (.inl r), some (.inl 0)] [] (mput M 111 r (-1))) :
    ∀ (k : Nat) (x i : Int), 0 ≤ i → i + k = n → ((x = -1 ∧ ∀ j, 0 ≤ j → j < i → M 111 j = -1) ∨ (0 ≤ x ∧ x < i ∧ M 111 x ≠ -1 ∧ ∀ j, 0 ≤ j → j < i → M 111 j ≠ -1 → M 111 x ≤ M 111 j)) → Go (km 2 mX12_paths Q) 66 [some (.inr 76), some (.inl x1), some (.inl x2), some (.inl x), some (.inl i)] [] M := by
  intro k
  induction k with
  | zero =>
    intro x i i0 hi hv
    refine s_X12_paths_66 _ _ _ _ M ⟨fun _ => ?_, fun v => by exfalso; omega⟩
    rcases hv with ⟨a, b⟩ | ⟨a, a2, a3, b⟩
    · exfalso
      obtain ⟨j, j0, j1, j2⟩ := hex
      exact j2 (b j j0 (by omega))
    · exact ⟨by omega, hb x a (by omega), by omega, hk x a (by omega) a3 (fun j j0 j1 j2 => b j j0 (by omega) j2)⟩
  | succ k ih =>
    intro x i i0 hi hv
    refine s_X12_paths_66 _ _ _ _ M ⟨fun v => by exfalso; omega, fun _ => ⟨by omega, fun v => ⟨by unfold cn; omega, ?_⟩, fun v => ⟨fun v2 => ⟨by unfold cn; omega, ?_⟩, fun v2 => ⟨by omega, by omega, fun v3 => ⟨by unfold cn; omega, ?_⟩, fun v3 => ⟨by unfold cn; omega, ?_⟩⟩⟩⟩⟩
    · refine ih x (i + 1) (by omega) (by omega) ?_
      rcases hv with ⟨a, b⟩ | ⟨a, a2, a3, b⟩
      · refine Or.inl ⟨a, fun j j0 j1 => ?_⟩
        by_cases q : j = i
        · subst q; exact v
        · exact b j j0 (by omega)
      · refine Or.inr ⟨a, by omega, a3, fun j j0 j1 j2 => ?_⟩
        by_cases q : j = i
        · subst q; exact absurd v j2
        · exact b j j0 (by omega) j2
    · refine ih i (i + 1) (by omega) (by omega) (Or.inr ⟨i0, by omega, v, fun j j0 j1 j2 => ?_⟩)
      by_cases q : j = i
      · subst q; omega
      · rcases hv with ⟨a, b⟩ | ⟨a, a2, a3, b⟩
        · exact absurd (b j j0 (by omega)) j2
        · omega
    · rcases hv with ⟨a, b⟩ | ⟨a, a2, a3, b⟩
      · exact absurd a v2
      · refine ih x (i + 1) (by omega) (by omega) (Or.inr ⟨a, by omega, a3, fun j j0 j1 j2 => ?_⟩)
        by_cases q : j = i
        · subst q; exact v3
        · exact b j j0 (by omega) j2
    · rcases hv with ⟨a, b⟩ | ⟨a, a2, a3, b⟩
      · exact absurd a v2
      · refine ih i (i + 1) (by omega) (by omega) (Or.inr ⟨i0, by omega, v, fun j j0 j1 j2 => ?_⟩)
        by_cases q : j = i
        · subst q; omega
        · have := b j j0 (by omega) j2; omega
theorem rl_inj {f : Int → Int} {n : Int} (h : srtK f n) : ∀ i j, 0 ≤ i → i < n → 0 ≤ j → j < n → f i = f j → i = j := by
  intro i j i0 i1 j0 j1 e
  rcases Int.lt_trichotomy i j with q | q | q
  · have := h i j i0 q j1; rw [e] at this; omega
  · exact q
  · have := h j i j0 q i1; rw [e] at this; omega
theorem l_X12_paths_53 {Q : Int → Me → Prop} {M0 : Me} {n : Int} (hn : M0 76 47 = n) (h32 : n ≤ 32) (hpl : ∀ y, memF (M0 109) n y → pl y) (hso : srtK (M0 109) n) (hQ : ∀ M l, Fr111 M0 M → Prm (memF (M0 109) n) l → n ≤ l.length → Q (sumI Prod.snd l) M) :
    ∀ (k : Nat) (l : List (Int × Int)) (M : Me), (l.length : Int) + k = n → Fr111 M0 M → Jr (M0 109) (M 111) n l → Go (km 2 mX12_paths Q) 53 [some (.inr 76), some (.inl (sumI Prod.snd l)), some (.inl (l.length : Int)), none, none] [] M := by
  have hp : ∀ i, 0 ≤ i → i < n → 0 ≤ M0 109 i := fun i i0 i1 => (hpl _ ⟨i, i0, i1, rfl⟩).1
  intro k
  induction k with
  | zero =>
    intro l M hl f h
    refine s_X12_paths_53 _ _ M ?_
    rw [f 76 47 (by first | omega | decide), hn]
    exact ⟨fun _ => hQ M l f h.1 (by omega), fun v => by exfalso; omega⟩
  | succ k ih =>
    intro l M hl f h
    refine s_X12_paths_53 _ _ M ?_
    rw [f 76 47 (by first | omega | decide), hn]
    have hb := sum_bound (Prm_cost hpl l h.1)
    have hl0 : 0 < l.length := by
      cases l with
      | nil => exact absurd h.1 (fun z => z)
      | cons a b => simp
    have hc : ∀ i, 0 ≤ i → i < n → -1 ≤ M 111 i ∧ M 111 i ≤ 38 := fun i i0 i1 => by
      rcases h.2 i i0 i1 with ⟨a, -⟩ | ⟨a, b, ⟨x, hx, ex⟩, d⟩
      · omega
      · have := dst_le (hpl _ (Prm_S l h.1 x hx)) (hpl _ ⟨i, i0, i1, rfl⟩)
        omega
    refine ⟨fun v => by exfalso; omega, fun _ => ?_⟩
    refine l_X12_paths_66 (n := n) (by rw [f 76 47 (by first | omega | decide), hn]) h32 (fun i i0 i1 => by have := hc i i0 i1; unfold cn; omega) ?_ (fun r r0 r1 hr hmin => ?_) n.toNat (-1) 0 (by omega) (by omega) (Or.inl ⟨rfl, fun j a b => by omega⟩)
    · obtain ⟨i, i0, i1, hi⟩ := Prm_some (srtK_nodup hso) (l := l) (by omega)
      refine ⟨i, i0, i1, ?_⟩
      rcases h.2 i i0 i1 with ⟨a, x, hx, ex⟩ | ⟨a, -⟩
      · exact absurd ex (hi x hx)
      · omega
    · refine l_X12_paths_135 (M0 := mput M 111 r (-1)) (n := n) (by rw [mput_ne _ _ _ _ (by first | omega | decide), f 76 47 (by first | omega | decide), hn]) h32 (by omega) (by omega) r0 r1 (fun i i0 i1 => by rw [mput_ne _ _ _ _ (by first | omega | decide), f 109 i (by first | omega | decide)]; exact hp i i0 i1) (fun M' f' hf' => ?_) n.toNat 0 _ (by omega) (by omega) (fun _ _ _ => rfl) (fun j a b => by omega) (fun _ _ => rfl)
      have := ih ((M0 109 r, M 111 r) :: l) M' (by rw [List.length_cons]; omega) (fun k i a => (f' k i a).trans ((mput_ne _ _ _ _ a).trans (f k i a))) (h.step (rl_inj hso) r0 r1 hr hmin (fun j j0 j1 => by
        have e109 : ∀ i, mput M 111 r (-1) 109 i = M0 109 i := fun i => (mput_ne _ _ _ _ (by decide)).trans (f 109 i (by decide))
        rw [hf' j j0 j1, e109, e109]
        by_cases q : j = r
        · subst q
          rw [mput_same, if_pos rfl, if_pos (Or.inl rfl)]
        · rw [mput_ni _ _ _ _ q]
          by_cases q2 : M 111 j = -1
          · rw [if_pos q2, if_pos (Or.inr q2)]
          · rw [if_neg q2, if_neg (by omega)]))
      simp only [sumI, List.length_cons] at this
      rw [show sumI Prod.snd l + M 111 r = M 111 r + sumI Prod.snd l by omega, show (l.length : Int) + 1 = ((l.length + 1 : Nat) : Int) by omega]
      exact this
theorem l_X12_paths_8 {Q : Int → Me → Prop} {M0 : Me} {n : Int} (hn : M0 76 47 = n) (h32 : n ≤ 32) (hp : ∀ i, 0 ≤ i → i < n → 0 ≤ M0 109 i) (hk : ∀ M, Fr111 M0 M → (∀ j, 0 ≤ j → j < n → M 111 j = if j = 0 then -1 else dst (M0 109 0) (M0 109 j)) → Go (km 2 mX12_paths Q) 53 [some (.inr 76), some (.inl 0), some (.inl 1), none, none] [] M) :
    ∀ (k : Nat) (i : Int) (M : Me), 0 ≤ i → i + k = n → Fr111 M0 M → (∀ j, 0 ≤ j → j < i → M 111 j = if j = 0 then -1 else dst (M0 109 0) (M0 109 j)) → Go (km 2 mX12_paths Q) 8 [some (.inr 76), some (.inl 0), some (.inl i), none, none] [] M := by
  intro k
  induction k with
  | zero =>
    intro i M i0 hi f h1
    refine s_X12_paths_8 _ _ M ?_
    rw [f 76 47 (by first | omega | decide), hn]
    exact ⟨fun _ => hk M f (fun j j0 j1 => h1 j j0 (by omega)), fun v => by exfalso; omega⟩
  | succ k ih =>
    intro i M i0 hi f h1
    have nx : ∀ v, v = (if i = 0 then -1 else dst (M0 109 0) (M0 109 i)) → Go (km 2 mX12_paths Q) 8 [some (.inr 76), some (.inl 0), some (.inl (i + 1)), none, none] [] (mput M 111 i v) := fun v hv => by
      refine ih (i + 1) _ (by omega) (by omega) (fun k i a => (mput_ne _ _ _ _ a).trans (f k i a)) (fun j j0 j1 => ?_)
      by_cases q : j = i
      · subst q; rw [mput_same]; exact hv
      · rw [mput_ni _ _ _ _ q]; exact h1 j j0 (by omega)
    refine s_X12_paths_8 _ _ M ?_
    rw [f 76 47 (by first | omega | decide), hn, f 109 i (by first | omega | decide), f 109 0 (by first | omega | decide)]
    refine ⟨fun v => by exfalso; omega, fun _ => ⟨fun v => ⟨by omega, hp 0 (by omega) (by omega), hp i i0 (by omega), by omega, by unfold cn; omega, nx _ (by rw [if_neg v])⟩, fun v => ⟨by omega, by unfold cn; omega, nx _ (by rw [if_pos v])⟩⟩⟩
theorem m_pathsL {Q : Int → Me → Prop} {M : Me} (h0 : 0 ≤ M 76 47) (h32 : M 76 47 ≤ 32) (hpl : ∀ y, memF (M 109) (M 76 47) y → pl y) (hso : srtK (M 109) (M 76 47)) (hQ0 : M 76 47 = 0 → ∀ M', Fr111 M M' → Q 0 M') (hQ : ∀ M' l, Fr111 M M' → Prm (memF (M 109) (M 76 47)) l → M 76 47 ≤ l.length → Q (sumI Prod.snd l) M') : Go (km 2 mX12_paths Q) 8 [some (.inr 76), some (.inl 0), some (.inl 0), none, none] [] M := by
  refine l_X12_paths_8 (M0 := M) rfl h32 (fun i i0 i1 => (hpl _ ⟨i, i0, i1, rfl⟩).1) (fun M1 f1 hf => ?_) (M 76 47).toNat 0 M (by omega) (by omega) (fun _ _ _ => rfl) (fun j a b => by omega)
  by_cases hz : M 76 47 = 0
  · refine s_X12_paths_53 _ _ M1 ?_
    rw [f1 76 47 (by first | omega | decide)]
    exact ⟨fun _ => hQ0 hz M1 f1, fun v => by exfalso; omega⟩
  · have := l_X12_paths_53 (M0 := M) rfl h32 hpl hso hQ (M 76 47 - 1).toNat [(M 109 0, 0)] M1 (by simp only [List.length_cons, List.length_nil]; omega) f1 ⟨⟨⟨0, by omega, by omega, rfl⟩, rfl⟩, fun i i0 i1 => by
      rw [hf i i0 i1]
      by_cases q : i = 0
      · subst q
        rw [if_pos rfl]
        exact Or.inl ⟨rfl, (M 109 0, 0), by simp, rfl⟩
      · rw [if_neg q]
        refine Or.inr ⟨dst_nn _ _, fun x hx e => ?_, ⟨(M 109 0, 0), by simp, rfl⟩, fun x hx => ?_⟩
        · have : x = (M 109 0, 0) := by simpa using hx
          rw [this] at e
          exact q (rl_inj hso 0 i (by omega) (by omega) i0 i1 e).symm
        · have : x = (M 109 0, 0) := by simpa using hx
          rw [this]
          exact Int.le_refl _⟩
    exact this
def FrP (M M' : Me) : Prop := ∀ k i, k ≠ 57 → k ≠ 58 → k ≠ 60 → k ≠ 109 → k ≠ 111 → (k = 76 → i ≠ 47) → M' k i = M k i
theorem o_paths {M : Me} (hC : RCuts M) (hS : RSt 37 77 (M 3 8) M) (P : Me → Prop) (hP : ∀ M', FrP M M' → P M') : Calls 3 mX11_paths [.inr 0] M (fun r M1 => Calls 2 mX12_paths [.inr 76] M1 (fun r' M2 => r = r' ∧ P M2)) := by
  refine e_X11_paths (p_gather hC hS (fun M1 g => ?_))
  have hpl1 : ∀ y, memF (M1 58) (M1 57 3) y → pl y := fun y hy => g.pls y (mem_rl.mpr hy)
  have ref : ∀ M2 v, Fr60 M1 M2 → (∀ M3, LyT M2 (rl (M1 58) (M1 57 3)) 384 M3 → (rl (M3 109) (M3 76 47)).Perm (rl (M1 58) (M1 57 3)) → Go (km 2 mX12_paths (fun r' M2 => v = r' ∧ P M2)) 8 [some (.inr 76), some (.inl 0), some (.inl 0), none, none] [] M3) → Calls 2 mX12_paths [.inr 76] M2 (fun r' M2 => v = r' ∧ P M2) := fun M2 v f2 hk => by
    obtain ⟨h0, h1, h2, h3⟩ := hC
    have e11 : M2 76 11 = M 76 11 := (f2 76 11 (by first | omega | decide)).trans (g.f 76 11 (by first | omega | decide) (by first | omega | decide))
    have e80 : M2 80 = M 80 := funext (fun i => (f2 80 i (by first | omega | decide)).trans (g.f 80 i (by first | omega | decide) (by first | omega | decide)))
    have e77 : M2 77 = M 77 := funext (fun i => (f2 77 i (by first | omega | decide)).trans (g.f 77 i (by first | omega | decide) (by first | omega | decide)))
    refine e_X12_paths (p_X12_laysTrees (L := rl (M1 58) (M1 57 3)) (by omega) (by omega) (by rw [rl_length]; have := g.s1; omega) (fun x => ?_) g.pls (fun M3 h => hk M3 h (h.perm (srt_nodup g.so) g.pls)))
    rw [g.me]
    unfold tr12
    rw [e11, e80, e77]
  have frm : ∀ M2 M3 M4, Fr60 M1 M2 → LyT M2 (rl (M1 58) (M1 57 3)) 384 M3 → Fr111 M3 M4 → FrP M M4 := fun M2 M3 M4 f2 h3 f4 k i a b c d e f => (f4 k i e).trans ((h3.f k i d f).trans ((f2 k i c).trans (g.f k i a b)))
  refine p_X2_leastPaths g.s0 g.s1 hpl1 (srt_nodup g.so) (fun hz M2 f2 => ?_) (fun M2 l f2 hl hn => ?_)
  · refine ref M2 0 f2 (fun M3 h3 pm => ?_)
    have pl3 := perm_len h3.s0 g.s0 pm
    refine m_pathsL h3.s0 (by have := g.s1; omega) (fun y hy => hpl1 y (mem_rl.mp (pm.mem_iff.mp (mem_rl.mpr hy)))) h3.so (fun _ M4 f4 => ⟨rfl, hP _ (frm M2 M3 M4 f2 h3 f4)⟩) (fun M4 l4 f4 hp4 hl4 => ?_)
    exfalso
    have := Prm_len hp4
    cases l4 with
    | nil => exact absurd hp4 (fun z => z)
    | cons a b => simp at this; omega
  · refine ref M2 _ f2 (fun M3 h3 pm => ?_)
    have pl3 := perm_len h3.s0 g.s0 pm
    have hmem : memF (M3 109) (M3 76 47) = memF (M1 58) (M1 57 3) := funext (fun y => propext ⟨fun hy => mem_rl.mp (pm.mem_iff.mp (mem_rl.mpr hy)), fun hy => mem_rl.mp (pm.mem_iff.mpr (mem_rl.mpr hy))⟩)
    refine m_pathsL h3.s0 (by have := g.s1; omega) (fun y hy => hpl1 y (mem_rl.mp (pm.mem_iff.mp (mem_rl.mpr hy)))) h3.so (fun hz M4 f4 => ?_) (fun M4 l4 f4 hp4 hl4 => ⟨?_, hP _ (frm M2 M3 M4 f2 h3 f4)⟩)
    · exfalso
      have := Prm_len hl
      cases l with
      | nil => exact absurd hl (fun z => z)
      | cons a b => simp at this; omega
    · have c4 := Prm_all hp4 hl4
      rw [hmem] at hp4 c4
      exact Prm_sum hpl1 hl hp4 (Prm_all hl hn) c4
