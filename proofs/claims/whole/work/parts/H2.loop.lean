/-! ===== the law's loop ===== -/
theorem both_end {d d' : Nat} {y y' : Mi} {as : List AV} {b : Int} {M : Me} {G : Me → Prop} (h : Both d d' y y' as b M) (hG : ∀ M2, Rel (b + 17600) M2 → G M2) : Calls d y (.inr 0 :: as) M (fun r M1 => Calls d' y' (.inr 76 :: as) M1 (fun r' M2 => (r = r' → G M2) ∧ (r ≠ r' → (0 : Int) = 1))) :=
  Calls.mono (fun r M1 _ _ h1 => Calls.mono (fun r' M2 _ _ h2 => ⟨fun _ => hG M2 h2.2, fun z => absurd h2.1 z⟩) h1) h
theorem ob1 {d : Nat} {y : Mi} {as : List AV} {M : Me} {P Q : Int → Me → Prop} (h : Calls d y as M P) (hp : ∀ r M1, P r M1 → Q r M1) : Calls d y as M Q := Calls.mono (fun r M1 _ _ h1 => hp r M1 h1) h
theorem law_go {b L : Nat} {xs : Nat → Int32} (hL : L ≤ 3072) : ∀ (N : Nat) (x u : Int) (M : Me), (L : Int) ≤ x + 6 * N + 5 → 0 ≤ x → 0 ≤ u → u + 17600 * N ≤ 900000000 → Rel u M → Go (KL b L xs) 18 [some (.inr 1003), some (.inr 0), some (.inr 76), some (.inl x)] [] M := by
  intro N
  induction N with
  | zero =>
    intro x u M hN x0 u0 hu h
    exact s_L_law_18 hL x M ⟨by unfold cn; omega, fun _ => rfl, fun z => by exfalso; omega⟩
  | succ N ih =>
    intro x u M hN x0 u0 hu h
    by_cases hx : (L : Int) - 6 < x
    · exact s_L_law_18 hL x M ⟨by unfold cn; omega, fun _ => rfl, fun z => by exfalso; omega⟩
    have nx : ∀ M2, Rel (u + 17600) M2 → Go (KL b L xs) 1045 [some (.inr 1003), some (.inr 0), some (.inr 76), some (.inl x)] [] M2 := fun M2 h2 =>
      s_L_law_1045 hL x M2 ⟨by unfold cn; omega, ih (x + 6) (u + 17600) M2 (by omega) (by omega) (by omega) (by omega) h2⟩
    have ub : u ≤ 900000000 := by omega
    have c1 : cn (x + 1) := by unfold cn; omega
    have c2 : cn (x + 2) := by unfold cn; omega
    have c3 : cn (x + 3) := by unfold cn; omega
    have c4 : cn (x + 4) := by unfold cn; omega
    have c5 : cn (x + 5) := by unfold cn; omega
    have i1 : 0 ≤ x + 1 ∧ x + 1 < (L : Int) := by omega
    have i2 : 0 ≤ x + 2 ∧ x + 2 < (L : Int) := by omega
    have i3 : 0 ≤ x + 3 ∧ x + 3 < (L : Int) := by omega
    have i4 : 0 ≤ x + 4 ∧ x + 4 < (L : Int) := by omega
    have i5 : 0 ≤ x + 5 ∧ x + 5 < (L : Int) := by omega
    refine s_L_law_18 hL x M ⟨by unfold cn; omega, fun z => absurd z hx, fun _ => ⟨by omega, fun _ => nx M (h.up (by omega)), ⟨fun _ => s_L_law_172 hL x M ⟨c1, i1, c2, i2, c3, i3, ob1 (both_end (r_home h _ _ _) nx) (fun _ _ q => ⟨c1, i1, c2, i2, c3, i3, q⟩)⟩,
      ⟨fun _ => s_L_law_215 hL x M ⟨c1, i1, c2, i2, c3, i3, c4, i4, c5, i5, ob1 (both_end (r_feed h _ _ _ _ _) nx) (fun _ _ q => ⟨c1, i1, c2, i2, c3, i3, c4, i4, c5, i5, q⟩)⟩,
      ⟨fun _ => s_L_law_278 hL x M ⟨c1, i1, ob1 (both_end (r_law h _) nx) (fun _ _ q => ⟨c1, i1, q⟩)⟩,
      ⟨fun _ => s_L_law_301 hL x M ⟨c1, i1, ob1 (both_end (r_bark h _) nx) (fun _ _ q => ⟨c1, i1, q⟩)⟩,
      ⟨fun _ => s_L_law_324 hL x M ⟨c1, i1, ob1 (both_end (r_seasons h ub _) nx) (fun _ _ q => ⟨c1, i1, q⟩)⟩,
      ⟨fun _ => s_L_law_347 hL x M ⟨c1, i1, c2, i2, ob1 (both_end (r_tried h ub _ _) nx) (fun _ _ q => ⟨c1, i1, c2, i2, q⟩)⟩,
      ⟨fun _ => s_L_law_380 hL x M ⟨c1, i1, c2, i2, ob1 (both_end (r_cutIs h _ _) nx) (fun _ _ q => ⟨c1, i1, c2, i2, q⟩)⟩,
      ⟨fun _ => s_L_law_413 hL x M ⟨c1, i1, c2, i2, c3, i3, ob1 (both_end (r_meet h ub _ _ _) nx) (fun _ _ q => ⟨c1, i1, c2, i2, c3, i3, q⟩)⟩,
      ⟨fun _ => s_L_law_456 hL x M ⟨c1, i1, c2, i2, ob1 (both_end (r_roots h ub _ _) nx) (fun _ _ q => ⟨c1, i1, c2, i2, q⟩)⟩,
      ⟨fun _ => s_L_law_489 hL x M ⟨c1, i1, ob1 (both_end (r_single h _) nx) (fun _ _ q => ⟨c1, i1, q⟩)⟩,
      ⟨fun _ => s_L_law_512 hL x M ⟨c1, i1, ob1 (both_end (r_who h _) nx) (fun _ _ q => ⟨c1, i1, q⟩)⟩,
      ⟨fun _ => s_L_law_535 hL x M (both_end (r_letters h) nx),
      ⟨fun _ => s_L_law_548 hL x M ⟨c1, i1, c2, i2, ob1 (both_end (r_nearest h _ _) nx) (fun _ _ q => ⟨c1, i1, c2, i2, q⟩)⟩,
      ⟨fun _ => s_L_law_581 hL x M ⟨c1, i1, c2, i2, ob1 (both_end (r_strays h ub _ _) nx) (fun _ _ q => ⟨c1, i1, c2, i2, q⟩)⟩,
      ⟨fun _ => s_L_law_614 hL x M ⟨c1, i1, ob1 (both_end (r_dates h _) nx) (fun _ _ q => ⟨c1, i1, q⟩)⟩,
      ⟨fun _ => s_L_law_637 hL x M ⟨c1, i1, ob1 (both_end (r_busiest h _) nx) (fun _ _ q => ⟨c1, i1, q⟩)⟩,
      ⟨fun _ => s_L_law_660 hL x M ⟨c1, i1, c2, i2, c3, i3, c4, i4, ob1 (both_end (r_yard h _ _ _ _) nx) (fun _ _ q => ⟨c1, i1, c2, i2, c3, i3, c4, i4, q⟩)⟩,
      ⟨fun _ => s_L_law_713 hL x M ⟨c1, i1, c2, i2, ob1 (both_end (r_groups h _ _) nx) (fun _ _ q => ⟨c1, i1, c2, i2, q⟩)⟩,
      ⟨fun _ => s_L_law_746 hL x M ⟨c1, i1, ob1 (both_end (r_fence h _) nx) (fun _ _ q => ⟨c1, i1, q⟩)⟩,
      ⟨fun _ => s_L_law_769 hL x M (both_end (r_crossing h) nx),
      ⟨fun _ => s_L_law_782 hL x M (both_end (r_paths h) nx),
      ⟨fun _ => s_L_law_795 hL x M (both_end (r_trees h) nx),
      ⟨fun _ => s_L_law_808 hL x M ⟨c1, i1, c2, i2, ob1 (both_end (r_round h _ _) nx) (fun _ _ q => ⟨c1, i1, c2, i2, q⟩)⟩,
      ⟨fun _ => s_L_law_841 hL x M ⟨c1, i1, c2, i2, ob1 (both_end (r_words h _ _) nx) (fun _ _ q => ⟨c1, i1, c2, i2, q⟩)⟩,
      ⟨fun _ => s_L_law_874 hL x M ⟨c1, i1, c2, i2, ob1 (both_end (r_marriages h _ _) nx) (fun _ _ q => ⟨c1, i1, c2, i2, q⟩)⟩,
      ⟨fun _ => s_L_law_907 hL x M ⟨c1, i1, c2, i2, c3, i3, ob1 (both_end (r_orders h _ _ _) nx) (fun _ _ q => ⟨c1, i1, c2, i2, c3, i3, q⟩)⟩,
      ⟨fun _ => s_L_law_950 hL x M ⟨c1, i1, ob1 (both_end (r_seed h _) nx) (fun _ _ q => ⟨c1, i1, q⟩)⟩,
      ⟨fun _ => s_L_law_973 hL x M (both_end (r_keep h) nx),
      ⟨fun _ => s_L_law_986 hL x M (both_end (r_undo h) nx),
      ⟨fun _ => s_L_law_999 hL x M ⟨c1, i1, ob1 (both_end (r_check h _) nx) (fun _ _ q => ⟨c1, i1, q⟩)⟩,
      (fun _ => s_L_law_1022 hL x M ⟨c1, i1, ob1 (both_end (r_count h _) nx) (fun _ _ q => ⟨c1, i1, q⟩)⟩)⟩⟩⟩⟩⟩⟩⟩⟩⟩⟩⟩⟩⟩⟩⟩⟩⟩⟩⟩⟩⟩⟩⟩⟩⟩⟩⟩⟩⟩⟩⟩⟩
