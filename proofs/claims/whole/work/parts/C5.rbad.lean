/-! ===== the reference reads sums: faults ===== -/
def MBs (T : Int → Int) (e : Int) (base : Int) (Q : Int → Me → Prop) : Option (Int × Int) → Int → Int → Int → Int → Prop
  | none, o, p, n, f => 0 ≤ o → o ≤ 6 → 0 ≤ n → n ≤ p → p ≤ e → ∀ (W : List Int) (M : Me), base ≤ (W.length : Int) → (W.length : Int) ≤ p → RS T e p o n W M → (∀ M', FRr M M' → M' 76 16 = f → Q 0 M') → FSm Q base M
  | some (pl, tm), o, p, n, f => 0 ≤ o → o ≤ 6 → 0 ≤ n → n + pn pl + pn tm ≤ p → p ≤ e → ∀ (W : List Int) (M : Me), base ≤ (W.length : Int) → (W.length : Int) + pn pl + pn tm ≤ p → (hdW W < 2 ∨ 6 < hdW W) → (pl = 0 ∨ isP pl) → (tm = 0 ∨ isT tm) → RS T e p o n (pnd tm ++ (pnd pl ++ W)) M → (∀ M', FRr M M' → M' 76 16 = f → Q 0 M') → FSm Q base M
theorem Pb.ref {T : Int → Int} {e : Int} {base : Int} {Q : Int → Me → Prop} (hS : Sg (Sx T e) e) (he : e ≤ 240) (b0 : 0 ≤ base) {k : Option (Int × Int)} {o p n f : Int} (h : Pb (Sx T e) k o p n f) : MBs T e base Q k o p n f := by
  refine Pb.ind (P := fun k o p n f => MBs T e base Q k o p n f) ?_ ?_ ?_ ?_ ?_ ?_ ?_ ?_ h
  · intro o p n h1 h2
    simp only [MBs]
    intro o0 o6 n0 np pe W M hb hW r hQ
    have h91 : Sx T e p ≠ 91 := by have : 48 ≤ Sx T e p ∧ Sx T e p ≤ 57 := h1; omega
    refine s_X12_readsFactor_0 M (q_hereS r (by omega) ⟨fun _ => q_digS r (by omega) (fun _ => ⟨fun z => by exfalso; omega, fun _ => ?_⟩) (fun z => absurd h1 z), fun z => absurd z h91⟩)
    exact q_number (by omega) (by omega) (by omega) r (fun z => absurd h2 z) (fun _ M1 f1 g1 => ⟨fun z => absurd rfl z, fun _ => ⟨fun z => absurd rfl z, fun _ => hQ M1 f1 g1⟩⟩)
  · intro o p n h1 h2 h3
    simp only [MBs]
    intro o0 o6 n0 np pe W M hb hW r hQ
    refine s_X12_readsFactor_0 M (q_hereS r (by omega) ⟨fun _ => q_digS r (by omega) (fun z => absurd z h1) (fun _ => ⟨fun _ => q_hereS r (by omega) (q_factOf ⟨fun z => absurd h3 z, fun _ => ?_⟩), fun z => absurd rfl z⟩), fun z => absurd z h2⟩)
    rw [r.2.1]
    exact q_wrong (by omega) (by omega) ⟨Or.inl rfl, fun z => absurd rfl z, fun _ => hQ _ (FRr.p76 M _ (by omega)) (mput_same ..)⟩
  · intro o p n h1 h2
    simp only [MBs]
    intro o0 o6 n0 np pe W M hb hW r hQ
    exact s_X12_readsFactor_0 M (q_hereS r (by omega) ⟨fun z => absurd h1 z, fun _ => q_opens r (by omega) (by omega) (by omega) (by omega) (fun z => by exfalso; omega) (fun _ => ⟨fun z => absurd rfl z, fun _ => ⟨fun z => absurd rfl z, fun _ => hQ _ (FRr.p76 M _ (by omega)) (mput_same ..)⟩⟩)⟩)
  · intro o p n f h1 h2 h3 ih
    simp only [MBs] at ih ⊢
    intro o0 o6 n0 np pe W M hb hW r hQ
    have hp := hS.2 p (by omega)
    have hd14 : hdW (1048576 * 14 :: W) = 14 := rfl
    have e0 : pn 0 = 0 := if_pos rfl
    refine s_X12_readsFactor_0 M (q_hereS r (by omega) ⟨fun z => absurd h1 z, fun _ => q_opens r (by omega) (by omega) (by omega) (by omega) (fun _ M1 r1 f1 g1 => ⟨fun _ => ?_, fun z => by exfalso; omega⟩) (fun z => by exfalso; omega)⟩)
    exact ih (by omega) (by omega) n0 (by omega) (by omega) (1048576 * 14 :: W) M1 (by simp only [List.length_cons]; omega) (by simp only [List.length_cons]; omega) (by rw [hd14]; omega) (Or.inl trivial) (Or.inl trivial) (by rw [pnd0]; exact r1) (fun M' f' g' => hQ M' (f1.tr f') g')
  · intro L o p n p1 n1 h1 h2 h3 h4
    simp only [MBs]
    intro o0 o6 n0 np pe W M hb hW r hQ
    have hp := hS.2 p (by omega)
    have l3 := h3.le hS
    have hd14 : hdW (1048576 * 14 :: W) = 14 := rfl
    have e0 : pn 0 = 0 := if_pos rfl
    have ih := Pz.ref (Q := Q) hS he b0 h3
    simp only [MRs] at ih
    refine s_X12_readsFactor_0 M (q_hereS r (by omega) ⟨fun z => absurd h1 z, fun _ => q_opens r (by omega) (by omega) (by omega) (by omega) (fun _ M1 r1 f1 g1 => ⟨fun _ => ?_, fun z => by exfalso; omega⟩) (fun z => by exfalso; omega)⟩)
    refine ih (by omega) (by omega) n0 (by omega) (1048576 * 14 :: W) M1 (by simp only [List.length_cons]; omega) (by simp only [List.length_cons]; omega) (by rw [hd14]; omega) (Or.inl trivial) (Or.inl trivial) (by rw [pnd0]; exact r1) (fun M2 tm pl m1 m2 a1 a2 r2 x2 e1 e2 hpl htm np1 nt1 => ?_)
    have lt := pnd_len tm; have lp := pnd_len pl
    refine s_X12_readsSum_14 _ M2 (q_hereS r2 (by omega) (q_sumSign (fun z => by exfalso; rcases z with z | z; exact nt1 z; exact np1 z) (fun _ _ => ⟨fun _ => ?_, fun z => absurd rfl z⟩)))
    refine s_X12_readsSum_83 _ M2 (q_hereS r2 (by omega) ⟨fun _ => ?_, fun z => absurd z h4⟩)
    have r2' : RS T e p1 (o + 1) m1 ((pnd tm ++ pnd pl) ++ 1048576 * 14 :: W) M2 := by rw [List.append_assoc]; exact r2
    refine s_X12_readsSum_138 _ M2 (q_openY r2' (by simp only [List.length_append, List.length_cons]; omega) (by decide) b0 hb ⟨fun z => by exfalso; omega, fun _ => ?_⟩)
    rw [r2.2.1]
    exact q_wrong (by omega) (by omega) ⟨Or.inl rfl, hQ _ ((f1.tr x2.1).tr (FRr.p76 M2 _ (by omega))) (mput_same ..)⟩
  · intro pl tm o p n f h1 ih
    simp only [MBs] at ih ⊢
    intro o0 o6 n0 np pe W M hb hW hd hpl htm r hQ
    have lp := pnd_ln pl; have lt := pnd_ln tm
    have b1 : 0 ≤ pn pl ∧ pn pl ≤ 1 := by unfold pn; split <;> omega
    have b2 : 0 ≤ pn tm ∧ pn tm ≤ 1 := by unfold pn; split <;> omega
    exact ih o0 o6 n0 (by omega) pe (pnd tm ++ (pnd pl ++ W)) M (by simp only [List.length_append]; omega) (by simp only [List.length_append]; omega) r hQ
  · intro L pl tm o p n p1 n1 n2 f h1 h2 h3 h4 ih2
    have ih1 := Pz.ref (Q := Q) hS he b0 h1
    simp only [MRs] at ih1
    simp only [MBs] at ih2 ⊢
    intro o0 o6 n0 np pe W M hb hW hd hpl htm r hQ
    have l1 := h1.le hS
    have l2 := h2.le
    have l2' := h2.cnt
    simp only [pk] at l1
    have lp := pnd_ln pl; have lt := pnd_ln tm
    have b1 : 0 ≤ pn pl ∧ pn pl ≤ 1 := by unfold pn; split <;> omega
    have b2 : 0 ≤ pn tm ∧ pn tm ≤ 1 := by unfold pn; split <;> omega
    have hp1 := hS.2 p1 (by omega)
    have ho := opc_T h3
    have hne : Sx T e p1 ≠ 0 := by omega
    have b3 : pn (Sx T e p1) = 1 := if_neg hne
    refine ih1 o0 o6 n0 (by omega) (pnd tm ++ (pnd pl ++ W)) M (by simp only [List.length_append]; omega) (by simp only [List.length_append]; omega) r (fun M1 r1 x1 => ?_)
    refine s_X12_readsSum_14 _ M1 (q_hereS r1 (by omega) (q_sumSign (fun _ => ⟨fun z => by exfalso; omega, fun _ => ?_⟩) (fun z => absurd h3 z)))
    refine s_X12_readsSum_27 _ _ M1 ⟨fun _ => ?_, fun z => by exfalso; omega⟩
    refine q_closeT htm r1 (by simp only [List.length_append]; omega) (by omega) h2 (hd_p hpl hd) (fun M2 r2 x2 => ?_)
    obtain ⟨r3, f3, g3⟩ := q_push (x := opc (Sx T e p1)) r2 (by omega)
    have w2 := r2.2.2.2.2.1
    simp only [List.length_append] at w2
    have w1 := r2.2.1
    refine s_X12_readsSum_41 _ _ M2 ⟨by unfold cn; omega, by omega, by unfold cn; omega, by unfold cn; omega, ?_⟩
    refine Calls.of (by decide) (Nat.le_of_ble_eq_true rfl) ?_
    exact ih2 o0 o6 (by omega) (by omega) (by omega) W _ hb (by omega) hd hpl (Or.inr h3) (by rw [pndc hne]; exact r3) (fun M' f' g' => hQ M' (((x1.1.tr x2.1).tr f3).tr f') g')
  · intro L pl tm o p n p1 n1 n2 n3 f h1 h2 h3 h4 h5 ih2
    have ih1 := Pz.ref (Q := Q) hS he b0 h1
    simp only [MRs] at ih1
    simp only [MBs] at ih2 ⊢
    intro o0 o6 n0 np pe W M hb hW hd hpl htm r hQ
    have l1 := h1.le hS
    have l2 := h2.le; have l3 := h3.le
    have l2' := h2.cnt; have l3' := h3.cnt
    simp only [pk] at l1
    have lp := pnd_ln pl; have lt := pnd_ln tm
    have b1 : 0 ≤ pn pl ∧ pn pl ≤ 1 := by unfold pn; split <;> omega
    have b2 : 0 ≤ pn tm ∧ pn tm ≤ 1 := by unfold pn; split <;> omega
    have hp1 := hS.2 p1 (by omega)
    have ho := opc_P h4
    have hne : Sx T e p1 ≠ 0 := by omega
    have b3 : pn (Sx T e p1) = 1 := if_neg hne
    have e0 : pn 0 = 0 := if_pos rfl
    refine ih1 o0 o6 n0 (by omega) (pnd tm ++ (pnd pl ++ W)) M (by simp only [List.length_append]; omega) (by simp only [List.length_append]; omega) r (fun M1 r1 x1 => ?_)
    refine s_X12_readsSum_14 _ M1 (q_hereS r1 (by omega) (q_sumSign (fun _ => ⟨fun z => by exfalso; omega, fun _ => ?_⟩) (fun _ z => absurd h4 z)))
    refine s_X12_readsSum_27 _ _ M1 ⟨fun z => by exfalso; omega, fun _ => ?_⟩
    refine q_closeA htm hpl r1 (by omega) (by omega) h2 h3 hd (fun M2 r2 x2 => ?_)
    obtain ⟨r3, f3, g3⟩ := q_push (x := opc (Sx T e p1)) r2 (by omega)
    have w2 := r2.2.2.2.2.1
    have w1 := r2.2.1
    refine s_X12_readsSum_41 _ _ M2 ⟨by unfold cn; omega, by omega, by unfold cn; omega, by unfold cn; omega, ?_⟩
    refine Calls.of (by decide) (Nat.le_of_ble_eq_true rfl) ?_
    exact ih2 o0 o6 (by omega) (by omega) (by omega) W _ hb (by omega) hd (Or.inr h4) (Or.inl trivial) (by rw [pnd0, pndc hne]; exact r3) (fun M' f' g' => hQ M' (((x1.1.tr x2.1).tr f3).tr f') g')
/-- a whole sum with a fault -/
theorem q_sumB {T : Int → Int} {e : Int} {Q : Int → Me → Prop} (hS : Sg (Sx T e) e) (he : e ≤ 240) {o p n f : Int} (h : Pb (Sx T e) (some (0, 0)) o p n f) (o0 : 0 ≤ o) (o6 : o ≤ 6) (n0 : 0 ≤ n) (np : n ≤ p) (pe : p ≤ e) {W : List Int} {M : Me} (hW : (W.length : Int) ≤ p) (hd : hdW W < 2 ∨ 6 < hdW W) (r : RS T e p o n W M)
    (hQ : ∀ M', FRr M M' → M' 76 16 = f → Q 0 M') : Calls 4 mX12_readsSum [.inr 76] M Q := by
  have e0 : pn 0 = 0 := if_pos rfl
  refine e_X12_readsSum ?_
  rw [r.2.2.2.2.1]
  have hr := Pb.ref (Q := Q) (base := (W.length : Int)) hS he (by omega) h
  simp only [MBs] at hr
  exact Calls.of (by decide) (Nat.le_of_ble_eq_true rfl) (hr o0 o6 n0 (by omega) pe W M (by omega) (by omega) hd (Or.inl trivial) (Or.inl trivial) (by rw [pnd0]; exact r) hQ)
