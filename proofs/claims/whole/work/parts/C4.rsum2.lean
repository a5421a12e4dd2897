/-! ===== the reference reads sums: what it comes to ===== -/
abbrev Sx (T : Int → Int) (e : Int) : Int → Int := fun p => sgS T e (p, 0)
theorem q_hereS {T : Int → Int} {e p o n : Int} {W : List Int} {M : Me} {Q : Int → Me → Prop} (h : RS T e p o n W M) (p0 : 0 ≤ p) (hQ : Q (Sx T e p) M) : Calls 0 mX12_here [.inr 76] M Q := by
  refine q_here h.1 (by rw [h.2.1]; exact p0) ?_
  rw [h.2.1]; exact hQ
theorem q_digS {T : Int → Int} {e p o n : Int} {W : List Int} {M : Me} {Q : Int → Me → Prop} (h : RS T e p o n W M) (p0 : 0 ≤ p) (h1 : isD (Sx T e p) → Q 1 M) (h0 : ¬ isD (Sx T e p) → Q 0 M) : Calls 1 mX12_isDigit [.inr 76] M Q := by
  refine q_isDigit h.1 (by rw [h.2.1]; exact p0) (fun z => h1 ?_) (fun z => h0 ?_)
  · rw [h.2.1] at z; exact z
  · rw [h.2.1] at z; exact z
def tnB : Nat → Int
  | 0 => 100000
  | 1 => 10000
  | 2 => 1000
  | 3 => 100
  | 4 => 10
  | _ => 1
theorem tnB_s {k : Nat} (hk : k + 1 ≤ 5) {v d : Int} (hv : v < tnB (k + 1)) (hd : d ≤ 9) : 10 * v + d < tnB k := by
  match k, hk with
  | 0, _ => simp only [tnB] at hv ⊢; omega
  | 1, _ => simp only [tnB] at hv ⊢; omega
  | 2, _ => simp only [tnB] at hv ⊢; omega
  | 3, _ => simp only [tnB] at hv ⊢; omega
  | 4, _ => simp only [tnB] at hv ⊢; omega
theorem tnB_le (k : Nat) : tnB k ≤ 100000 := by
  match k with
  | 0 | 1 | 2 | 3 | 4 => decide
  | k + 5 => simp only [tnB]; decide
theorem l_number {T : Int → Int} {e o n fr P V : Int} {W : List Int} {M0 : Me} {Q : Int → Me → Prop} (he : e ≤ 260) (f0 : 0 ≤ fr)
    (h1 : ¬ isD (Sx T e P) → ∀ M', RS T e P o n W M' → M' 76 17 = V → FRr M0 M' → (∀ i, M' 89 i = M0 89 i) → Q 1 M') (h0 : isD (Sx T e P) → ∀ M', FRr M0 M' → M' 76 16 = -1000 * 2 - P → Q 0 M') :
    ∀ (k : Nat) (p v : Int) (M : Me), k ≤ 5 → fr + 5 = p + k → fr ≤ p → p ≤ e → RS T e p o n W M → M 76 17 = v → 0 ≤ v → v < tnB k → FRr M0 M → (∀ i, M 89 i = M0 89 i) → dgs (Sx T e) k p v = (P, V) → Go (km 2 mX12_readsNumber Q) 10 [some (.inr 76), some (.inl fr)] [] M := by
  intro k
  induction k with
  | zero =>
    intro p v M hk hf hp pe h hv v0 vb f g hd
    simp only [dgs, Prod.mk.injEq] at hd
    obtain ⟨rfl, rfl⟩ := hd
    refine s_X12_readsNumber_10 _ M (q_digS h (by omega) (fun z => ⟨fun y => by exfalso; omega, fun _ => ⟨by unfold cn; omega, fun y => ?_, fun _ => ?_⟩⟩) (fun z => ⟨fun _ => h1 z M h hv f g, fun y => absurd rfl y⟩))
    · rw [h.2.1] at y; exfalso; omega
    · rw [h.2.1]
      exact q_wrong (by omega) (by omega) ⟨Or.inl rfl, h0 z _ (f.tr (FRr.p76 M _ (by omega))) (mput_same ..)⟩
  | succ k ih =>
    intro p v M hk hf hp pe h hv v0 vb f g hd
    simp only [dgs] at hd
    have hb := tnB_le (k + 1)
    refine s_X12_readsNumber_10 _ M (q_digS h (by omega) (fun z => ⟨fun y => by exfalso; omega, fun _ => ⟨by unfold cn; omega, fun y => ?_, fun y => ?_⟩⟩) (fun z => ⟨fun _ => ?_, fun y => absurd rfl y⟩))
    · rw [hv]
      have z' : 48 ≤ Sx T e p ∧ Sx T e p ≤ 57 := z
      have hpe := sg_at (T := T) (e := e) (p := p) (D_ne z)
      refine ⟨by unfold cn; omega, q_hereS h (by omega) ⟨by unfold cn; omega, by unfold cn; omega, by rw [h.2.1]; unfold cn; omega, ?_⟩⟩
      rw [h.2.1]
      rw [if_pos z] at hd
      have hf2 : FRr M (mput (mput M 76 17 (10 * v + Sx T e p - 48)) 76 14 (p + 1)) := (FRr.p76 M _ (by omega)).tr (FRr.p76 _ _ (by omega))
      refine ih (p + 1) (10 * v + Sx T e p - 48) _ (by omega) (by omega) (by omega) (by omega) ?_ ?_ (by omega) ?_ (f.tr hf2) (fun i => ?_) hd
      · obtain ⟨r0, r1, r2, r3, r4, r5, r6⟩ := h
        refine RS.mv (W := W) ⟨r0, r1, r2, r3, r4, r5, r6⟩ hf2 (mput_same ..) ?_ ?_ ?_ r5 (stO_congr W (fun j _ _ => ?_) r6)
        · rw [mput_ni _ _ _ _ (by decide), mput_ni _ _ _ _ (by decide)]; exact r2
        · rw [mput_ni _ _ _ _ (by decide), mput_ni _ _ _ _ (by decide)]; exact r3
        · rw [mput_ni _ _ _ _ (by decide), mput_ni _ _ _ _ (by decide)]; exact r4
        · show mput (mput M 76 17 _) 76 14 _ 90 (j + -1) = M 90 (j + -1)
          rw [mput_ne _ _ _ _ (by decide), mput_ne _ _ _ _ (by decide)]
      · rw [mput_ni _ _ _ _ (by decide), mput_same]
      · have := tnB_s (k := k) (by omega) vb (d := Sx T e p - 48) (by omega)
        omega
      · rw [mput_ne _ _ _ _ (by decide), mput_ne _ _ _ _ (by decide)]; exact g i
    · rw [h.2.1] at y; exfalso; omega
    · rw [if_neg z] at hd
      simp only [Prod.mk.injEq] at hd
      obtain ⟨rfl, rfl⟩ := hd
      exact h1 z M h hv f g
theorem q_number {T : Int → Int} {e p o n : Int} {W : List Int} {M : Me} {Q : Int → Me → Prop} (he : e ≤ 260) (p0 : 0 ≤ p) (pe : p ≤ e) (h : RS T e p o n W M)
    (h1 : ¬ isD (Sx T e (dgs (Sx T e) 5 p 0).1) → ∀ M', RS T e (dgs (Sx T e) 5 p 0).1 o n W M' → M' 76 17 = (dgs (Sx T e) 5 p 0).2 → FRr M M' → (∀ i, M' 89 i = M 89 i) → Q 1 M') (h0 : isD (Sx T e (dgs (Sx T e) 5 p 0).1) → ∀ M', FRr M M' → M' 76 16 = -1000 * 2 - (dgs (Sx T e) 5 p 0).1 → Q 0 M') : Calls 2 mX12_readsNumber [.inr 76] M Q := by
  refine e_X12_readsNumber ?_
  rw [h.2.1]
  have hf : FRr M (mput M 76 17 0) := FRr.p76 M _ (by omega)
  refine l_number (M0 := M) he p0 h1 h0 5 p 0 _ (by omega) (by omega) (by omega) pe ?_ (mput_same ..) (by omega) (by decide) hf (fun i => mput_ne _ _ _ _ (by decide)) rfl
  obtain ⟨r0, r1, r2, r3, r4, r5, r6⟩ := h
  refine RS.mv (W := W) ⟨r0, r1, r2, r3, r4, r5, r6⟩ hf ?_ ?_ ?_ ?_ r5 (stO_congr W (fun j _ _ => mput_ne _ _ _ _ (by decide)) r6)
  · rw [mput_ni _ _ _ _ (by decide)]; exact r1
  · rw [mput_ni _ _ _ _ (by decide)]; exact r2
  · rw [mput_ni _ _ _ _ (by decide)]; exact r3
  · rw [mput_ni _ _ _ _ (by decide)]; exact r4
theorem q_sumSign {a : Int} {M : Me} {Q : Int → Me → Prop} (h1 : isT a ∨ isP a → Q (opc a) M) (h0 : ¬ isT a → ¬ isP a → Q (-1) M) : Calls 0 mX12_sumSign [.inl a] M Q := by
  refine e_X12_sumSign ⟨fun a1 => ⟨fun a2 => ⟨fun a3 => ⟨fun a4 => ⟨fun a5 => h0 (by omega) (by omega), fun q => ?_⟩, fun q => ?_⟩, fun q => ?_⟩, fun q => ?_⟩, fun q => ?_⟩
  all_goals (subst q; exact h1 (by decide))
abbrev GSm (Q : Int → Me → Prop) (base : Int) (M : Me) : Prop := Go (km 4 mX12_readsSum Q) 14 [some (.inr 76), some (.inl base), none] [] M
abbrev KSm (Q : Int → Me → Prop) (base : Int) : Int → Me → Prop := fun r M1 => ((r ≠ 0 → GSm Q base M1) ∧ (r = 0 → Q 0 M1))
abbrev FSm (Q : Int → Me → Prop) (base : Int) (M : Me) : Prop := Go (km 3 mX12_readsFactor (KSm Q base)) 0 [some (.inr 76), none] [] M
def MRs (T : Int → Int) (e : Int) (L : Me) (base : Int) (Q : Int → Me → Prop) : Option (Int × Int) → Int → Int → Int → Int → Int → Prop
  | none, o, p, n, p', n' => 0 ≤ o → o ≤ 6 → 0 ≤ n → n ≤ p → ∀ (W : List Int) (M : Me), base ≤ (W.length : Int) → (W.length : Int) ≤ p → RS T e p o n W M → (∀ M', RS T e p' o n' W M' → Ex L M n M' n' → GSm Q base M') → FSm Q base M
  | some (pl, tm), o, p, n, p', n' => 0 ≤ o → o ≤ 6 → 0 ≤ n → n + pn pl + pn tm ≤ p → ∀ (W : List Int) (M : Me), base ≤ (W.length : Int) → (W.length : Int) + pn pl + pn tm ≤ p → (hdW W < 2 ∨ 6 < hdW W) → (pl = 0 ∨ isP pl) → (tm = 0 ∨ isT tm) → RS T e p o n (pnd tm ++ (pnd pl ++ W)) M →
    (∀ (M' : Me) (tm' pl' n1 n2 : Int), n ≤ n1 → n1 ≤ p' → RS T e p' o n1 (pnd tm' ++ (pnd pl' ++ W)) M' → Ex L M n M' n1 → Em L tm' n1 n2 → Em L pl' n2 n' → (pl' = 0 ∨ isP pl') → (tm' = 0 ∨ isT tm') → ¬ isP (Sx T e p') → ¬ isT (Sx T e p') → GSm Q base M') → FSm Q base M
theorem pnd_ln (c : Int) : ((pnd c).length : Int) = pn c := by
  unfold pnd pn
  split <;> rfl
theorem pnd0 : pnd 0 = [] := if_pos rfl
theorem pndc {c : Int} (h : c ≠ 0) : pnd c = [1048576 * opc c] := if_neg h
theorem hd_p {c : Int} {W : List Int} (hc : c = 0 ∨ isP c) (hW : hdW W < 2 ∨ 6 < hdW W) : hdW (pnd c ++ W) < 4 ∨ 6 < hdW (pnd c ++ W) := by
  rcases hc with h | h
  · rw [h, pnd0]; simp only [List.nil_append]; omega
  · have := opc_P h
    rw [pndc (by omega)]
    simp only [List.cons_append, hdW]
    omega
theorem q_push {T : Int → Int} {e p o n x : Int} {W : List Int} {M : Me} (h : RS T e p o n W M) (hx : 0 ≤ x) : RS T e (p + 1) o n (1048576 * x :: W) (mput (mput (mput M 90 (M 76 20) (1048576 * x)) 76 20 (M 76 20 + 1)) 76 14 (M 76 14 + 1)) ∧ FRr M (mput (mput (mput M 90 (M 76 20) (1048576 * x)) 76 20 (M 76 20 + 1)) 76 14 (M 76 14 + 1)) ∧ ∀ i, (mput (mput (mput M 90 (M 76 20) (1048576 * x)) 76 20 (M 76 20 + 1)) 76 14 (M 76 14 + 1)) 89 i = M 89 i := by
  have hs := h
  obtain ⟨r0, r1, r2, r3, r4, r5, r6⟩ := h
  rw [r1, r4]
  have hf : FRr M (mput (mput (mput M 90 (W.length : Int) (1048576 * x)) 76 20 ((W.length : Int) + 1)) 76 14 (p + 1)) := ((FRr.p90 M _ _).tr (FRr.p76 _ _ (by omega))).tr (FRr.p76 _ _ (by omega))
  refine ⟨hs.mv hf (mput_same ..) ?_ ?_ ?_ (fun w hw => ?_) (hs.push (fun i hi => ?_) ?_), hf, fun i => ?_⟩
  · rw [mput_ni _ _ _ _ (by decide), mput_ni _ _ _ _ (by decide), mput_ne _ _ _ _ (by decide)]; exact r2
  · rw [mput_ni _ _ _ _ (by decide), mput_ni _ _ _ _ (by decide), mput_ne _ _ _ _ (by decide)]; exact r3
  · rw [mput_ni _ _ _ _ (by decide), mput_same]; simp only [List.length_cons]; omega
  · rcases List.mem_cons.mp hw with q | q
    · omega
    · exact r5 w q
  · rw [mput_ne _ _ _ _ (by decide), mput_ne _ _ _ _ (by decide), mput_ni _ _ _ _ (by omega)]
  · rw [mput_ne _ _ _ _ (by decide), mput_ne _ _ _ _ (by decide), mput_same]
  · rw [mput_ne _ _ _ _ (by decide), mput_ne _ _ _ _ (by decide), mput_ne _ _ _ _ (by decide)]
theorem q_factOf {a : Int} {M : Me} {Q : Int → Me → Prop} (hQ : Q (fct a) M) : Calls 0 mX12_factOf [.inl a] M Q := by
  refine e_X12_factOf ⟨fun z => ?_, ?_⟩
  · have : fct a = -1 := by
      unfold fct
      repeat rw [if_neg (by omega)]
    rw [this] at hQ; exact hQ
  · refine ⟨fun z => ?_, fun z => ?_, fun z => ?_, fun z => ?_, fun z => ?_, fun z => ?_, fun z => ?_, fun z => ?_, fun z => ?_, fun z => ?_, fun z => ?_, fun z => ?_, fun z => ?_, fun z => ?_, fun z => ?_, fun z => ?_, fun z => ?_, fun z => ?_, fun z => ?_, fun z => ?_, fun z => ?_, fun z => ?_, fun z => ?_⟩
    all_goals (subst z; exact hQ)
theorem Pz.ref {T : Int → Int} {e : Int} {L : Me} {base : Int} {Q : Int → Me → Prop} (hS : Sg (Sx T e) e) (he : e ≤ 240) (b0 : 0 ≤ base) {k : Option (Int × Int)} {o p n p' n' : Int} (h : Pz (Sx T e) L k o p n p' n') : MRs T e L base Q k o p n p' n' := by
  refine Pz.ind (P := fun k o p n p' n' => MRs T e L base Q k o p n p' n') ?_ ?_ ?_ ?_ ?_ ?_ h
  · intro o p n h1 h2 h3 h4
    simp only [MRs]
    intro o0 o6 n0 np W M hb hW r hQ
    have hp := sg_at (T := T) (e := e) (p := p) (D_ne h1)
    have h91 : Sx T e p ≠ 91 := by have : 48 ≤ Sx T e p ∧ Sx T e p ≤ 57 := h1; omega
    have hv := dgs_v (Sx T e) 5 p 0 (by omega)
    rw [show (((0 : Int) + 1) * 10 ^ 5 - 1) = 99999 by decide] at hv
    refine s_X12_readsFactor_0 M (q_hereS r (by omega) ⟨fun _ => q_digS r (by omega) (fun _ => ⟨fun z => by exfalso; omega, fun _ => ?_⟩) (fun z => absurd h1 z), fun z => absurd z h91⟩)
    refine q_number (by omega) (by omega) (by omega) r (fun _ M1 r1 v1 f1 g1 => ⟨fun _ => ?_, fun z => by exfalso; omega⟩) (fun z => absurd z h2)
    rw [v1]
    refine q_notes (L := L) r1 (by omega) (by omega) (by omega) h3 h4 (fun M2 r2 x2 _ => ⟨fun _ => hQ M2 r2 ((Ex.nil f1 g1).tr x2 (by omega)), fun z => by exfalso; omega⟩)
  · intro o p n h1 h2 h3 h4 h5
    simp only [MRs]
    intro o0 o6 n0 np W M hb hW r hQ
    have hp := hS.2 p (fun z => h3 (by rw [z]; decide))
    have hv := fct_r (Sx T e p)
    refine s_X12_readsFactor_0 M (q_hereS r (by omega) ⟨fun _ => q_digS r (by omega) (fun z => absurd z h1) (fun _ => ⟨fun _ => q_hereS r (by omega) (q_factOf ⟨fun _ => ?_, fun z => absurd z h3⟩), fun z => absurd rfl z⟩), fun z => absurd z h2⟩)
    refine q_notes (L := L) r (by omega) (by omega) (by omega) h4 h5 (fun M2 r2 x2 g2 => ?_)
    rw [r2.2.1]
    have hf := FRr.p76 M2 (j := 14) (p + 1) (by omega)
    refine ⟨by unfold cn; omega, fun _ => hQ _ ?_ (x2.tr (Ex.nil hf (fun i => mput_ne _ _ _ _ (by decide))) (by omega)), fun z => by exfalso; omega⟩
    obtain ⟨r0, r1, r3, r4, r5, r6, r7⟩ := r2
    refine RS.mv (W := W) ⟨r0, r1, r3, r4, r5, r6, r7⟩ hf (mput_same ..) ?_ ?_ ?_ r6 (stO_congr W (fun j _ _ => mput_ne _ _ _ _ (by decide)) r7)
    · rw [mput_ni _ _ _ _ (by decide)]; exact r3
    · rw [mput_ni _ _ _ _ (by decide)]; exact r4
    · rw [mput_ni _ _ _ _ (by decide)]; exact r5
  · intro o p n p1 n1 h1 h2 h3 h4 ih
    simp only [MRs] at ih ⊢
    intro o0 o6 n0 np W M hb hW r hQ
    have hp := hS.2 p (by omega)
    have hp1 := hS.2 p1 (by omega)
    have l3 := h3.le hS
    refine s_X12_readsFactor_0 M (q_hereS r (by omega) ⟨fun z => absurd h1 z, fun _ => q_opens r (by omega) (by omega) (by omega) (by omega) (fun _ M1 r1 f1 g1 => ⟨fun _ => ?_, fun z => by exfalso; omega⟩) (fun z => by exfalso; omega)⟩)
    have hd14 : hdW (1048576 * 14 :: W) = 14 := rfl
    have e0 : pn 0 = 0 := if_pos rfl
    refine ih (by omega) (by omega) n0 (by omega) (1048576 * 14 :: W) M1 (by simp only [List.length_cons]; omega) (by simp only [List.length_cons]; omega) (by rw [hd14]; omega) (Or.inl trivial) (Or.inl trivial) (by rw [pnd0]; exact r1) (fun M2 tm pl m1 m2 a1 a2 r2 x2 e1 e2 hpl htm np1 nt1 => ?_)
    have lt := pnd_len tm; have lp := pnd_len pl
    have k1 := e1.le; have k2 := e2.le
    have hWl : W.length < 245 := by omega
    refine s_X12_readsSum_14 _ M2 (q_hereS r2 (by omega) (q_sumSign (fun z => by exfalso; rcases z with z | z; exact nt1 z; exact np1 z) (fun _ _ => ⟨fun _ => ?_, fun z => absurd rfl z⟩)))
    refine s_X12_readsSum_83 _ M2 (q_hereS r2 (by omega) ⟨fun z => absurd h4 z, fun _ => ?_⟩)
    have r2' : RS T e p1 (o + 1) m1 ((pnd tm ++ pnd pl) ++ 1048576 * 14 :: W) M2 := by rw [List.append_assoc]; exact r2
    refine q_openY r2' (by simp only [List.length_append, List.length_cons]; omega) (by decide) b0 hb ⟨fun z => by exfalso; omega, fun _ => ?_⟩
    refine q_closeA htm hpl r2 (by simp only [List.length_cons]; omega) (by omega) e1 e2 (by rw [hd14]; omega) (fun M3 r3 x3 => ?_)
    obtain ⟨t1, t2, t3⟩ := r3.top
    have hs3 := r3
    obtain ⟨y0, y1, y2, y3, y4, y5, y6⟩ := r3
    rw [t2, y2, y1, show (W.length : Int) + 1 - 1 = W.length by omega, show o + 1 - 1 = o by omega]
    have hf3 : FRr M3 (mput (mput (mput M3 76 20 (W.length : Int)) 76 18 o) 76 14 (p1 + 1)) := ((FRr.p76 M3 _ (by omega)).tr (FRr.p76 _ _ (by omega))).tr (FRr.p76 _ _ (by omega))
    have g3 : ∀ i, (mput (mput (mput M3 76 20 (W.length : Int)) 76 18 o) 76 14 (p1 + 1)) 89 i = M3 89 i := fun i => by rw [mput_ne _ _ _ _ (by decide), mput_ne _ _ _ _ (by decide), mput_ne _ _ _ _ (by decide)]
    refine ⟨by unfold cn; omega, by unfold cn; omega, by unfold cn; omega, hQ _ ?_ ?_⟩
    · refine hs3.mv hf3 (mput_same ..) ?_ ?_ ?_ (fun w hw => y5 w (List.mem_cons_of_mem _ hw)) (stO_congr W (fun j _ _ => ?_) y6.2)
      · rw [mput_ni _ _ _ _ (by decide), mput_same]
      · rw [mput_ni _ _ _ _ (by decide), mput_ni _ _ _ _ (by decide), mput_ni _ _ _ _ (by decide)]; exact y3
      · rw [mput_ni _ _ _ _ (by decide), mput_ni _ _ _ _ (by decide), mput_same]
      · show (mput (mput (mput M3 76 20 (W.length : Int)) 76 18 o) 76 14 (p1 + 1)) 90 (j + -1) = M3 90 (j + -1)
        rw [mput_ne _ _ _ _ (by decide), mput_ne _ _ _ _ (by decide), mput_ne _ _ _ _ (by decide)]
    · exact (((Ex.nil (n := n) f1 g1).tr x2 (by omega)).tr x3 (by omega)).tr (Ex.nil hf3 g3) (by omega)
  · intro pl tm o p n p1 n1 n2 n3 h1 h2 h3 h4 h5 ih
    simp only [MRs] at ih ⊢
    intro o0 o6 n0 np W M hb hW hd hpl htm r hQ
    have l1 := h1.le hS
    simp only [pk] at l1
    have lp := pnd_ln pl; have lt := pnd_ln tm
    have b1 : 0 ≤ pn pl ∧ pn pl ≤ 1 := by unfold pn; split <;> omega
    have b2 : 0 ≤ pn tm ∧ pn tm ≤ 1 := by unfold pn; split <;> omega
    refine ih o0 o6 n0 (by omega) (pnd tm ++ (pnd pl ++ W)) M (by simp only [List.length_append]; omega) (by simp only [List.length_append]; omega) r (fun M' r' x' => ?_)
    exact hQ M' tm pl n1 n2 (by omega) (by omega) r' x' h2 h3 hpl htm h4 h5
  · intro pl tm o p n p1 n1 n2 p' n' h1 h2 h3 h4 ih1 ih2
    simp only [MRs] at ih1 ih2 ⊢
    intro o0 o6 n0 np W M hb hW hd hpl htm r hQ
    have l1 := h1.le hS
    have l2 := h2.le
    have l2' := h2.cnt
    simp only [pk] at l1
    have lp := pnd_ln pl; have lt := pnd_ln tm
    have b1 : 0 ≤ pn pl ∧ pn pl ≤ 1 := by unfold pn; split <;> omega
    have b2 : 0 ≤ pn tm ∧ pn tm ≤ 1 := by unfold pn; split <;> omega
    have hp1 := hS.2 p1 (by omega)
    have ho := opc_T h3
    have hne : Sx T e p1 ≠ 0 := by omega
    have b3 : pn (Sx T e p1) = 1 := if_neg hne
    refine ih1 o0 o6 n0 (by omega) (pnd tm ++ (pnd pl ++ W)) M (by simp only [List.length_append]; omega) (by simp only [List.length_append]; omega) r (fun M1 r1 x1 => ?_)
    refine s_X12_readsSum_14 _ M1 (q_hereS r1 (by omega) (q_sumSign (fun _ => ⟨fun z => by exfalso; omega, fun _ => ?_⟩) (fun z => absurd h3 z)))
    refine s_X12_readsSum_27 _ _ M1 ⟨fun _ => ?_, fun z => by exfalso; omega⟩
    refine q_closeT htm r1 (by simp only [List.length_append]; omega) (by omega) h2 (hd_p hpl hd) (fun M2 r2 x2 => ?_)
    obtain ⟨r3, f3, g3⟩ := q_push (x := opc (Sx T e p1)) r2 (by omega)
    have w2 := r2.2.2.2.2.1
    simp only [List.length_append] at w2
    have w1 := r2.2.1
    refine s_X12_readsSum_41 _ _ M2 ⟨by unfold cn; omega, by omega, by unfold cn; omega, by unfold cn; omega, ?_⟩
    refine Calls.of (by decide) (Nat.le_of_ble_eq_true rfl) ?_
    refine ih2 o0 o6 (by omega) (by omega) W _ hb (by omega) hd hpl (Or.inr h3) (by rw [pndc hne]; exact r3) (fun M' tm' pl' m1 m2 a1 a2 r' x' => ?_)
    exact hQ M' tm' pl' m1 m2 (by omega) a2 r' (((x1.tr x2 (by omega)).tr (Ex.nil f3 g3) (by omega)).tr x' (by omega))
  · intro pl tm o p n p1 n1 n2 n3 p' n' h1 h2 h3 h4 h5 ih1 ih2
    simp only [MRs] at ih1 ih2 ⊢
    intro o0 o6 n0 np W M hb hW hd hpl htm r hQ
    have l1 := h1.le hS
    have l2 := h2.le; have l3 := h3.le
    have l2' := h2.cnt; have l3' := h3.cnt
    simp only [pk] at l1
    have lp := pnd_ln pl; have lt := pnd_ln tm
    have b1 : 0 ≤ pn pl ∧ pn pl ≤ 1 := by unfold pn; split <;> omega
    have b2 : 0 ≤ pn tm ∧ pn tm ≤ 1 := by unfold pn; split <;> omega
    have hp1 := hS.2 p1 (by omega)
    have ho := opc_P h4
    have hne : Sx T e p1 ≠ 0 := by omega
    have b3 : pn (Sx T e p1) = 1 := if_neg hne
    have e0 : pn 0 = 0 := if_pos rfl
    refine ih1 o0 o6 n0 (by omega) (pnd tm ++ (pnd pl ++ W)) M (by simp only [List.length_append]; omega) (by simp only [List.length_append]; omega) r (fun M1 r1 x1 => ?_)
    refine s_X12_readsSum_14 _ M1 (q_hereS r1 (by omega) (q_sumSign (fun _ => ⟨fun z => by exfalso; omega, fun _ => ?_⟩) (fun _ z => absurd h4 z)))
    refine s_X12_readsSum_27 _ _ M1 ⟨fun z => by exfalso; omega, fun _ => ?_⟩
    refine q_closeA htm hpl r1 (by omega) (by omega) h2 h3 hd (fun M2 r2 x2 => ?_)
    obtain ⟨r3, f3, g3⟩ := q_push (x := opc (Sx T e p1)) r2 (by omega)
    have w2 := r2.2.2.2.2.1
    have w1 := r2.2.1
    refine s_X12_readsSum_41 _ _ M2 ⟨by unfold cn; omega, by omega, by unfold cn; omega, by unfold cn; omega, ?_⟩
    refine Calls.of (by decide) (Nat.le_of_ble_eq_true rfl) ?_
    refine ih2 o0 o6 (by omega) (by omega) W _ hb (by omega) hd (Or.inr h4) (Or.inl trivial) (by rw [pnd0, pndc hne]; exact r3) (fun M' tm' pl' m1 m2 a1 a2 r' x' => ?_)
    exact hQ M' tm' pl' m1 m2 (by omega) a2 r' (((x1.tr x2 (by omega)).tr (Ex.nil f3 g3) (by omega)).tr x' (by omega))
/-- a whole sum, well read -/
theorem q_sum {T : Int → Int} {e : Int} {L : Me} {Q : Int → Me → Prop} (hS : Sg (Sx T e) e) (he : e ≤ 240) {o p n p' n' : Int} (h : Pz (Sx T e) L (some (0, 0)) o p n p' n') (o0 : 0 ≤ o) (o6 : o ≤ 6) (n0 : 0 ≤ n) (np : n ≤ p) {W : List Int} {M : Me} (hW : (W.length : Int) ≤ p) (hd : hdW W < 2 ∨ 6 < hdW W) (r : RS T e p o n W M)
    (hQ : ∀ M', RS T e p' o n' W M' → Ex L M n M' n' → Q 1 M') : Calls 4 mX12_readsSum [.inr 76] M Q := by
  have l := h.le hS
  have e0 : pn 0 = 0 := if_pos rfl
  refine e_X12_readsSum ?_
  rw [r.2.2.2.2.1]
  have hr := Pz.ref (Q := Q) (base := (W.length : Int)) hS he (by omega) h
  simp only [MRs] at hr
  refine Calls.of (by decide) (Nat.le_of_ble_eq_true rfl) (hr o0 o6 n0 (by omega) W M (by omega) (by omega) hd (Or.inl trivial) (Or.inl trivial) (by rw [pnd0]; exact r) (fun M1 tm pl m1 m2 a1 a2 r1 x1 e1 e2 hpl htm np1 nt1 => ?_))
  have lt := pnd_len tm; have lp := pnd_len pl
  have m138 : Go (km 4 mX12_readsSum Q) 138 [some (.inr 76), some (.inl (W.length : Int)), none] [] M1 := by
    refine s_X12_readsSum_138 _ M1 (q_openN (s := pnd tm ++ pnd pl) (t := W) (by rw [List.append_assoc]; exact r1) (by simp only [List.length_append]; omega) (fun w hw => ?_) ⟨fun _ => ?_, fun z => absurd rfl z⟩)
    · rcases List.mem_append.mp hw with q | q
      · unfold pnd at q
        split at q
        · exact absurd q (by simp)
        · have := opc_r tm
          rw [List.mem_singleton.mp q]; omega
      · unfold pnd at q
        split at q
        · exact absurd q (by simp)
        · have := opc_r pl
          rw [List.mem_singleton.mp q]; omega
    · exact q_closeA htm hpl r1 (by omega) (by omega) e1 e2 hd (fun M2 r2 x2 => hQ M2 r2 (x1.tr x2 (by omega)))
  refine s_X12_readsSum_14 _ M1 (q_hereS r1 (by omega) (q_sumSign (fun z => by exfalso; rcases z with z | z; exact nt1 z; exact np1 z) (fun _ _ => ⟨fun _ => ?_, fun z => absurd rfl z⟩)))
  refine s_X12_readsSum_83 _ M1 (q_hereS r1 (by omega) ⟨fun _ => m138, fun _ => q_openN (s := pnd tm ++ pnd pl) (t := W) (by rw [List.append_assoc]; exact r1) (by simp only [List.length_append]; omega) (fun w hw => ?_) ⟨fun _ => m138, fun z => absurd rfl z⟩⟩)
  rcases List.mem_append.mp hw with q | q
  · unfold pnd at q
    split at q
    · exact absurd q (by simp)
    · have := opc_r tm
      rw [List.mem_singleton.mp q]; omega
  · unfold pnd at q
    split at q
    · exact absurd q (by simp)
    · have := opc_r pl
      rw [List.mem_singleton.mp q]; omega
