/-! ===== the class reads factors and sums ===== -/
def FacS (T : Int → Int) (e : Int) (k : Nat) : Prop := ∀ (Q : Int → Me → Prop) (o p n : Int) (M : Me), o + k = 6 → 0 ≤ o → 0 ≤ n → n ≤ p → p ≤ e → DS T e p n M →
  (∀ M' p' n', DS T e p' n' M' → FK n M M' → Pz (Sx T e) (LD M') none o p n p' n' → Q 0 M') → (∀ M' f, FS T e f n M' → FK n M M' → Pb (Sx T e) none o p n f → Q 0 M') → Calls (zf k) mX4_factor [.inr 29, .inl o] M Q
def SumS (T : Int → Int) (e : Int) (k : Nat) : Prop := ∀ (Q : Int → Me → Prop) (o p n : Int) (M : Me), o + k = 6 → 0 ≤ o → 0 ≤ n → n ≤ p → p ≤ e → DS T e p n M →
  (∀ M' p' n', DS T e p' n' M' → FK n M M' → Pz (Sx T e) (LD M') (some (0, 0)) o p n p' n' → Q 0 M') → (∀ M' f, FS T e f n M' → FK n M M' → Pb (Sx T e) (some (0, 0)) o p n f → Q 0 M') → Calls (zs k) mX4_sum [.inr 29, .inl o] M Q
theorem l_num {T : Int → Int} {e n P V : Int} {k : Nat} {M0 : Me} {Q : Int → Me → Prop} (hK : KC T e) (n0 : 0 ≤ n ∧ n < 240) (hP : 0 ≤ P ∧ P ≤ e) (hV : 0 ≤ V ∧ V < 1048576)
    (h0 : ¬ isD (Sx T e P) → ∀ M', DS T e P (n + 1) M' → FK n M0 M' → M' 35 n = 256 * V + 48 → Q 0 M') (h1 : isD (Sx T e P) → ∀ M', FS T e (-1000 * 2 - P) n M' → FK n M0 M' → Q 0 M') :
    ∀ (w : Nat) (p v x : Int) (M : Me), x + w = 5 → 0 ≤ x → 0 ≤ v → v < tnB w → DS T e p n M → FK n M0 M → dgs (Sx T e) w p v = (P, V) → Go (km (zf k) mX4_factor Q) 100 [some (.inr 29), none, none, none, some (.inl v), some (.inl x)] [] M := by
  have he : e ≤ 240 := hK.1.1
  have A : ∀ M, DS T e P n M → FK n M0 M → Calls 0 mX3_add [.inr 30, .inl 48, .inl V] M (fun _ M164 => Calls 0 mX9_sign [.inr 1] M164 (fun r171 M171 => ((48 ≤ r171 ∧ r171 ≤ 57 → Calls 0 mX9_fail [.inr 1, .inl 2, .inl (M171 1 3)] M171 (fun _ M192 => Q 0 M192)) ∧ (¬ (48 ≤ r171 ∧ r171 ≤ 57) → Q 0 M171)))) := by
    intro M h f
    refine k_add h n0 (by omega) hV (fun M1 g1 f1 v1 => k_sign g1 ⟨fun z => ?_, fun z => h0 z M1 g1 (f.tr f1) v1⟩)
    rw [g1.2.1]
    refine k_fail g1 hP (by omega) (by omega) (by omega) (fun M2 g2 f2 => h1 z M2 ⟨g2.1, g2.2.1, g2.2.2.1, g2.2.2.2.1, by have := g2.2.2.2.2.1; omega, g2.2.2.2.2.2⟩ ((f.tr f1).tr (f2 n)))
  intro w
  induction w with
  | zero =>
    intro p v x M hx x0 v0 vb h f hd
    simp only [dgs, Prod.mk.injEq] at hd
    obtain ⟨rfl, rfl⟩ := hd
    exact s_X4_factor_100 _ _ M ⟨fun _ => A M h f, fun z => by exfalso; omega⟩
  | succ w ih =>
    intro p v x M hx x0 v0 vb h f hd
    simp only [dgs] at hd
    refine s_X4_factor_100 _ _ M ⟨fun z => by exfalso; omega, fun _ => k_sign h ⟨fun z => ?_, fun z => ?_⟩⟩
    · rw [if_pos z] at hd
      have hp := Sx_pos hK (p := p) (by omega)
      have b := tnB_le (w + 1)
      have hz : 48 ≤ Sx T e p ∧ Sx T e p ≤ 57 := z
      have b2 := tnB_s (k := w) (v := v) (d := Sx T e p - 48) (by omega) vb (by omega)
      refine ⟨by unfold cn; omega, k_sign h ⟨by unfold cn; omega, by unfold cn; omega, by rw [h.2.1]; unfold cn; omega, by unfold cn; omega, ?_⟩⟩
      exact ih (p + 1) _ (x + 1) _ (by omega) (by omega) (by omega) (by omega) h.adv.1 (f.tr (h.adv.2 n)) hd
    · rw [if_neg z] at hd
      simp only [Prod.mk.injEq] at hd
      obtain ⟨rfl, rfl⟩ := hd
      exact A M h f
theorem fac_of {T : Int → Int} {e : Int} {k : Nat} (hK : KC T e) (hs : ∀ j, k = j + 1 → SumS T e j) : FacS T e k := by
  intro Q o p n M ho o0 n0 np pe h hG hB
  have he : e ≤ 240 := hK.1.1
  have hc := hK.2 p
  have hfail : ¬ isD (Sx T e p) → Sx T e p ≠ 91 → fct (Sx T e p) = -1 → Calls 0 mX9_fail [.inr 1, .inl 1, .inl (M 1 3)] M (fun _ M210 => Q 0 M210) := fun a b c => by
    rw [h.2.1]
    exact k_fail h (by omega) (by omega) (by omega) (by omega) (fun M' g f => hB M' _ g (f n) (Pb.fX a b c))
  have hnum : isD (Sx T e p) → Go (km (zf k) mX4_factor Q) 100 [some (.inr 29), none, none, none, some (.inl 0), some (.inl 0)] [] M := fun a => by
    have hp := Sx_pos hK (p := p) (fun z => by rw [z] at a; exact not_isD_neg a)
    have b1 := dgs_le (Sx T e) 5 p 0
    have b2 := dgs_e hK.1 5 p 0 (by omega)
    have b3 := dgs_v (Sx T e) 5 p 0 (by omega)
    have e5 : (((0 : Int) + 1) * 10 ^ 5 - 1) = 99999 := by decide
    rw [e5] at b3
    refine l_num hK (M0 := M) (P := (dgs (Sx T e) 5 p 0).1) (V := (dgs (Sx T e) 5 p 0).2) (by omega) (by omega) (by omega) (fun z M' g f v => ?_) (fun z M' g f => hB M' _ g f (Pb.fN a z)) 5 p 0 0 M (by omega) (by omega) (by omega) (by decide) h (FK.rf n M) rfl
    have q := LD_c v (by omega)
    exact hG M' _ _ g f (Pz.num a z (q.1.trans (by decide)) q.2)
  have hbr : Sx T e p = 91 → Calls 1 mX4_mayOpen [.inr 29, .inl o] M (fun r32 M32 => ((r32 = 0 → Q 0 M32) ∧ (r32 ≠ 0 → cn (o + 1) ∧ Calls (zg k) mX4_sum [.inr 29, .inl (o + 1)] M32 (fun _ M42 => Calls 1 mX9_take [.inr 1, .inl 93] M42 (fun _ M51 => Q 0 M51))))) := fun a => by
    have hp := Sx_pos hK (p := p) (by omega)
    refine k_mayOpen h (by omega) (by omega) (by omega) (fun o6 M1 g1 f1 => ⟨fun z => absurd z (by decide), fun _ => ⟨by unfold cn; omega, ?_⟩⟩) (fun o6 M1 g1 f1 => ⟨fun _ => hB M1 _ g1 (f1 n) (Pb.fO a o6), fun z => absurd rfl z⟩)
    obtain ⟨j, rfl⟩ : ∃ j, k = j + 1 := ⟨k - 1, by omega⟩
    have hj := hs j rfl
    rw [zg_s]
    refine hj _ (o + 1) (p + 1) n M1 (by omega) (by omega) n0 (by omega) (by omega) g1 (fun M2 p2 n2 g2 f2 z2 => ?_) (fun M2 f g2 f2 z2 => ?_)
    · have l := z2.le hK.1
      have e0 : pk (some (0, 0)) = 0 := by decide
      have fm : FK n M M2 := (f1 n).tr f2
      refine k_take g2 (by omega) (by omega) (by omega) (fun y M3 g3 f3 => ?_) (fun y M3 g3 f3 => hB M3 _ ⟨g3.1, g3.2.1, g3.2.2.1, g3.2.2.2.1, by have := g3.2.2.2.2.1; omega, g3.2.2.2.2.2⟩ (fm.tr (f3 n)) (Pb.fC a o6 z2 y))
      exact hG M3 _ _ g3 (fm.tr (f3 n)) (Pz.brk a o6 (z2.mv hK.1 (LDs (fun i x w => (f3 n2).c35 w))) y)
    · exact k_takeF g2 (by decide) (hB M2 f g2 ((f1 n).tr f2) (Pb.fI a o6 z2))
  refine e_X4_factor (k_sign h ⟨fun z => ⟨fun y => ⟨fun x => by exfalso; omega, fun x => hfail x y ?_⟩, fun y => by exfalso; omega⟩, fun z => ?_⟩)
  · rw [show Sx T e p = -1 by omega]; decide
  · rw [bchr_id (by omega)]
    refine p_indexOf (by omega) ⟨fun y => ⟨fun x => ?_, fun x => ?_⟩, hbr⟩
    · have hr := fct_r (Sx T e p)
      exact ⟨hnum, fun w => hfail w y (by omega)⟩
    · have hl := fct_l (c := Sx T e p) (by omega)
      have hp := Sx_pos hK (p := p) (by omega)
      have hr := fct_r (Sx T e p)
      refine ⟨by rw [h.2.1]; unfold cn; omega, k_add h.adv.1 (by omega) (by omega) (by omega) (fun M' g f v => ?_)⟩
      have q := LD_c v (by omega)
      exact hG M' _ _ g ((h.adv.2 n).tr f) (Pz.ltr hl.1 y (by omega) (q.1.trans (by decide)) q.2)
theorem lk_sum {T : Int → Int} {e o : Int} {k : Nat} {Q : Int → Me → Prop} (hK : KC T e) (hF : FacS T e k) (ho : o + k = 6) (o0 : 0 ≤ o) :
    ∀ (N : Nat) (p n x pl tm : Int) (M : Me), e + 1 ≤ p + N → 0 ≤ x → 2 * x ≤ p → 0 ≤ n → n + pn pl + pn tm ≤ p → p ≤ e → (pl = 0 ∨ isP pl) → (tm = 0 ∨ isT tm) → DS T e p n M →
    (∀ M' p' n', DS T e p' n' M' → FK n M M' → Pz (Sx T e) (LD M') (some (pl, tm)) o p n p' n' → Q 0 M') → (∀ M' f, FS T e f n M' → FK n M M' → Pb (Sx T e) (some (pl, tm)) o p n f → Q 0 M') →
    Go (km (zs k) mX4_sum Q) 10 [some (.inr 29), some (.inl o), some (.inl pl), some (.inl tm), some (.inl 1), some (.inl x), none] [] M := by
  have he : e ≤ 240 := hK.1.1
  intro N
  induction N with
  | zero => intro p n x pl tm M hN x0 xp n0 np pe; exfalso; omega
  | succ N ih =>
    intro p n x pl tm M hN x0 xp n0 np pe hpl htm h hG hB
    have b1 : 0 ≤ pn pl ∧ pn pl ≤ 1 := by unfold pn; split <;> omega
    have b2 : 0 ≤ pn tm ∧ pn tm ≤ 1 := by unfold pn; split <;> omega
    refine s_X4_sum_10 _ _ _ _ _ M ⟨fun z => by exfalso; omega, fun _ => ⟨fun z => absurd z (by decide), fun _ => hF _ o p n M ho o0 n0 (by omega) pe h (fun M1 p1 n1 h1 f1 z1 => ?_) (fun M1 f h1 f1 z1 => ?_)⟩⟩
    · have l1 := z1.le hK.1
      simp only [pk] at l1
      refine c_em (by rcases htm with y | y; exact Or.inl y; exact Or.inr (Or.inl y)) h1 (by omega) (by omega) (fun M2 n2 h2 f2 e2 q2 => ?_)
      have z1' : Pz (Sx T e) (LD M2) none o p n p1 n1 := z1.mv hK.1 (LDs (fun i y w => f2.c35 w))
      have fm : FK n M M2 := f1.tr (f2.lo (by omega))
      have a79 : isT (Sx T e p1) → Go (km (zs k) mX4_sum Q) 79 [some (.inr 29), some (.inl o), some (.inl pl), some (.inl (Sx T e p1)), none, some (.inl x), some (.inl (Sx T e p1))] [] M2 := fun hT => by
        have hp := Sx_pos hK (p := p1) (by omega)
        have j0 : Sx T e p1 ≠ 0 := by omega
        have b3 : pn (Sx T e p1) = 1 := if_neg j0
        refine s_X4_sum_79 _ _ _ _ _ M2 ⟨fun _ => s_X4_sum_104 _ _ _ _ _ _ M2 ⟨fun _ => s_X4_sum_122 _ _ _ _ _ _ M2 ⟨fun _ => ⟨fun z => absurd z (by decide), fun _ => ⟨by rw [h2.2.1]; unfold cn; omega, s_X4_sum_147 _ _ _ _ _ _ ⟨by unfold cn; omega, ?_⟩⟩⟩, fun z => absurd z j0⟩, fun z => absurd z j0⟩, fun z => absurd z j0⟩
        refine ih (p1 + 1) n2 (x + 1) pl (Sx T e p1) _ (by omega) (by omega) (by omega) (by omega) (by omega) (by omega) hpl (Or.inr hT) h2.adv.1 (fun M' p' n' h' f' z' => ?_) (fun M' f h' f' z' => ?_)
        · have f3 : FK n2 M2 M' := (h2.adv.2 n2).tr f'
          exact hG M' p' n' h' (fm.tr (f3.lo (by omega))) (Pz.smT (z1'.mv hK.1 (LDs (fun i y w => f3.c35 (by omega)))) (e2.mv (LDs (fun i y w => f3.c35 w))) hT z')
        · exact hB M' f ⟨h'.1, h'.2.1, h'.2.2.1, h'.2.2.2.1, by have := h'.2.2.2.2.1; omega, h'.2.2.2.2.2⟩ (fm.tr (((h2.adv.2 n2).tr f').lo (by omega))) (Pb.sT z1' e2 hT z')
      have b79 : ¬ isT (Sx T e p1) → Go (km (zs k) mX4_sum Q) 79 [some (.inr 29), some (.inl o), some (.inl pl), some (.inl 0), none, some (.inl x), some (.inl (Sx T e p1))] [] M2 := fun hT => by
        have g104 : ∀ w : Int, (w = 1 ∧ isP (Sx T e p1)) ∨ (w = 0 ∧ ¬ isP (Sx T e p1)) → Go (km (zs k) mX4_sum Q) 104 [some (.inr 29), some (.inl o), some (.inl pl), some (.inl 0), some (.inl w), some (.inl x), some (.inl (Sx T e p1))] [] M2 := fun w hw => by
          refine s_X4_sum_104 _ _ _ _ _ _ M2 ⟨fun z => absurd rfl z, fun _ => c_em (by rcases hpl with y | y; exact Or.inl y; exact Or.inr (Or.inr y)) h2 (by omega) (by omega) (fun M3 n3 h3 f3 e3 q3 => ?_)⟩
          have e2' : Em (LD M3) tm n1 n2 := e2.mv (LDs (fun i y w => f3.c35 w))
          have z1'' : Pz (Sx T e) (LD M3) none o p n p1 n1 := z1'.mv hK.1 (LDs (fun i y w => f3.c35 (by omega)))
          have fm3 : FK n M M3 := fm.tr (f3.lo (by omega))
          refine s_X4_sum_122 _ _ _ _ _ _ M3 ⟨fun z => absurd rfl z, fun _ => ?_⟩
          rcases hw with ⟨rfl, hP⟩ | ⟨rfl, hP⟩
          · have hp := Sx_pos hK (p := p1) (by omega)
            have b3 : pn (Sx T e p1) = 1 := if_neg (by omega)
            have b4 : pn 0 = 0 := if_pos rfl
            refine ⟨fun z => absurd z (by decide), fun _ => ⟨by rw [h3.2.1]; unfold cn; omega, s_X4_sum_147 _ _ _ _ _ _ ⟨by unfold cn; omega, ?_⟩⟩⟩
            refine ih (p1 + 1) n3 (x + 1) (Sx T e p1) 0 _ (by omega) (by omega) (by omega) (by omega) (by omega) (by omega) (Or.inr hP) (Or.inl rfl) h3.adv.1 (fun M' p' n' h' f' z' => ?_) (fun M' f h' f' z' => ?_)
            · have f4 : FK n3 M3 M' := (h3.adv.2 n3).tr f'
              exact hG M' p' n' h' (fm3.tr (f4.lo (by omega))) (Pz.smP (z1''.mv hK.1 (LDs (fun i y w => f4.c35 (by omega)))) (e2'.mv (LDs (fun i y w => f4.c35 (by omega)))) (e3.mv (LDs (fun i y w => f4.c35 w))) hP z')
            · exact hB M' f ⟨h'.1, h'.2.1, h'.2.2.1, h'.2.2.2.1, by have := h'.2.2.2.2.1; omega, h'.2.2.2.2.2⟩ (fm3.tr (((h3.adv.2 n3).tr f').lo (by omega))) (Pb.sP z1'' e2' e3 hP z')
          · have fin : Q 0 M3 := hG M3 p1 n3 h3 fm3 (Pz.sm0 z1'' e2' e3 hP hT)
            exact ⟨fun _ => s_X4_sum_147 _ _ _ _ _ M3 ⟨by unfold cn; omega, s_X4_sum_10 _ _ _ _ _ M3 ⟨fun _ => fin, fun _ => ⟨fun _ => fin, fun z => absurd rfl z⟩⟩⟩, fun z => absurd rfl z⟩
        refine s_X4_sum_79 _ _ _ _ _ M2 ⟨fun z => absurd rfl z, fun _ => ⟨fun y => g104 1 (Or.inl ⟨rfl, Or.inl y⟩), fun y => ⟨fun y2 => g104 0 (Or.inr ⟨rfl, fun q => ?_⟩), fun y2 => g104 1 (Or.inl ⟨rfl, Or.inr y2⟩)⟩⟩⟩
        rcases q with q | q
        · exact y q
        · exact y2 q
      refine s_X4_sum_42 _ _ _ M2 (k_sign h2 ⟨fun y => a79 (Or.inl y), fun y1 => ⟨fun y => a79 (Or.inr (Or.inl y)), fun y2 => ⟨fun y => b79 (fun q => ?_), fun y => a79 (Or.inr (Or.inr y))⟩⟩⟩)
      rcases q with q | q | q
      · exact y1 q
      · exact y2 q
      · exact y q
    · have T42 : ∀ M2, FS T e f n M2 → FK n M M2 → Go (km (zs k) mX4_sum Q) 42 [some (.inr 29), some (.inl o), some (.inl pl), none, none, some (.inl x), none] [] M2 := fun M2 h2 f2 => by
        have G122 : ∀ M3, FS T e f n M3 → FK n M M3 → Go (km (zs k) mX4_sum Q) 122 [some (.inr 29), some (.inl o), some (.inl pl), some (.inl 0), some (.inl 0), some (.inl x), some (.inl (-1))] [] M3 := fun M3 h3 f3 => by
          have fin : Q 0 M3 := hB M3 f h3 f3 (Pb.s0 z1)
          exact s_X4_sum_122 _ _ _ _ _ _ M3 ⟨fun z => absurd rfl z, fun _ => ⟨fun _ => s_X4_sum_147 _ _ _ _ _ M3 ⟨by unfold cn; omega, s_X4_sum_10 _ _ _ _ _ M3 ⟨fun _ => fin, fun _ => ⟨fun _ => fin, fun z => absurd rfl z⟩⟩⟩, fun z => absurd rfl z⟩⟩
        refine s_X4_sum_42 _ _ _ M2 (k_signF h2 ⟨fun z => absurd z (by decide), fun _ => ⟨fun z => absurd z (by decide), fun _ => ⟨fun _ => ?_, fun z => absurd z (by decide)⟩⟩⟩)
        refine s_X4_sum_79 _ _ _ _ _ M2 ⟨fun z => absurd rfl z, fun _ => ⟨fun z => absurd z (by decide), fun _ => ⟨fun _ => ?_, fun z => absurd z (by decide)⟩⟩⟩
        refine s_X4_sum_104 _ _ _ _ _ _ M2 ⟨fun z => absurd rfl z, fun _ => ⟨fun _ => G122 M2 h2 f2, fun z => ?_⟩⟩
        rw [bchr_id (by omega)]
        exact k_addF h2 n0 (by omega) (by omega) (fun M3 h3 f3 => G122 M3 h3 (f2.tr f3))
      refine ⟨fun _ => T42 M1 h1 f1, fun z => ?_⟩
      rw [bchr_id (by omega)]
      exact k_addF h1 n0 (by omega) (by omega) (fun M2 h2 f2 => T42 M2 h2 (f1.tr f2))
theorem sum_of {T : Int → Int} {e : Int} {k : Nat} (hK : KC T e) (hF : FacS T e k) : SumS T e k := by
  intro Q o p n M ho o0 n0 np pe h hG hB
  have b4 : pn 0 = 0 := if_pos rfl
  exact e_X4_sum (lk_sum hK hF ho o0 (e + 1 - p).toNat p n 0 0 0 M (by omega) (by omega) (by omega) n0 (by omega) pe (Or.inl rfl) (Or.inl rfl) h hG hB)
theorem fac_all {T : Int → Int} {e : Int} (hK : KC T e) : ∀ k, FacS T e k
  | 0 => fac_of hK (fun j z => by exfalso; omega)
  | k + 1 => fac_of hK (fun j z => by
    have : k = j := by omega
    subst this
    exact sum_of hK (fac_all hK k))
theorem sum_all {T : Int → Int} {e : Int} (hK : KC T e) (k : Nat) : SumS T e k := sum_of hK (fac_all hK k)
