/-! ===== behind a fault nothing more is read ===== -/
theorem k_end0 {M : Me} {Q : Int → Me → Prop} (h : Q 0 M) : Calls 0 mX3_endJumps [.inr 30, .inl (-1)] M Q :=
  e_X3_endJumps (s_X3_endJumps_4 _ _ M ⟨fun _ => h, fun _ => ⟨fun _ => h, fun z => absurd z (by decide)⟩⟩)
theorem facF {T : Int → Int} {e f n o : Int} {k : Nat} {M : Me} {Q : Int → Me → Prop} (h : FS T e f n M) (hQ : Q 0 M) : Calls (zf k) mX4_factor [.inr 29, .inl o] M Q :=
  e_X4_factor (k_signF h ⟨fun _ => ⟨fun _ => ⟨fun z => absurd z (by decide), fun _ => k_failF h hQ⟩, fun z => absurd z (by decide)⟩, fun z => absurd z (by decide)⟩)
theorem sumF {T : Int → Int} {e f n o : Int} {k : Nat} {M : Me} {Q : Int → Me → Prop} (h : FS T e f n M) (hQ : Q 0 M) : Calls (zs k) mX4_sum [.inr 29, .inl o] M Q := by
  refine e_X4_sum (s_X4_sum_10 _ _ _ _ _ M ⟨fun z => absurd z (by decide), fun _ => ⟨fun z => absurd z (by decide), fun _ => facF h ⟨fun _ => ?_, fun z => absurd rfl z⟩⟩⟩)
  refine s_X4_sum_42 _ _ _ M (k_signF h ⟨fun z => absurd z (by decide), fun _ => ⟨fun z => absurd z (by decide), fun _ => ⟨fun _ => ?_, fun z => absurd z (by decide)⟩⟩⟩)
  refine s_X4_sum_79 _ _ _ _ _ M ⟨fun z => absurd rfl z, fun _ => ⟨fun z => absurd z (by decide), fun _ => ⟨fun _ => ?_, fun z => absurd z (by decide)⟩⟩⟩
  refine s_X4_sum_104 _ _ _ _ _ _ M ⟨fun z => absurd rfl z, fun _ => ⟨fun _ => ?_, fun z => absurd rfl z⟩⟩
  exact s_X4_sum_122 _ _ _ _ _ _ M ⟨fun z => absurd rfl z, fun _ => ⟨fun _ => s_X4_sum_147 _ _ _ _ _ M ⟨by unfold cn; omega, s_X4_sum_10 _ _ _ _ _ M ⟨fun _ => hQ, fun _ => ⟨fun _ => hQ, fun z => absurd rfl z⟩⟩⟩, fun z => absurd rfl z⟩⟩
theorem tstF {T : Int → Int} {e f n o : Int} {k : Nat} {M : Me} {Q : Int → Me → Prop} (h : FS T e f n M) (hQ : Q 0 M) : Calls (zt k) mX4_test [.inr 29, .inl o] M Q :=
  e_X4_test (k_signF h ⟨fun _ => ⟨fun _ => sumF h (k_signF h ⟨fun z => absurd z (by decide), fun _ => ⟨fun z => absurd z (by decide), fun _ => ⟨fun z => absurd z (by decide), fun _ => k_failF h hQ⟩⟩⟩), fun z => absurd z (by decide)⟩, fun z => absurd z (by decide)⟩)
theorem cndF {T : Int → Int} {e f n o : Int} {k : Nat} {M : Me} {Q : Int → Me → Prop} (h : FS T e f n M) (hQ : Q 0 M) : Calls (zc k) mX4_condition [.inr 29, .inl o] M Q := by
  refine e_X4_condition (s_X4_condition_10 _ _ _ _ _ M ⟨fun z => absurd z (by decide), fun _ => ⟨fun z => absurd z (by decide), fun _ => tstF h (k_mayF h (by decide) ⟨fun z => absurd rfl z, fun _ => k_mayF h (by decide) ⟨fun _ => ⟨fun _ => k_end0 ?_, fun z => absurd rfl z⟩, fun z => absurd rfl z⟩⟩)⟩⟩)
  exact s_X4_condition_110 _ _ _ _ _ _ M ⟨fun z => absurd rfl z, fun _ => ⟨fun _ => ⟨by unfold cn; omega, s_X4_condition_10 _ _ _ _ _ M ⟨fun _ => k_end0 hQ, fun _ => ⟨fun _ => k_end0 hQ, fun z => absurd rfl z⟩⟩⟩, fun z => absurd rfl z⟩⟩
theorem cnd22 {T : Int → Int} {e f n o : Int} {M : Me} {Q : Int → Me → Prop} (h : FS T e f n M) (hQ : Q 0 M) : Calls 22 mX4_condition [.inr 29, .inl o] M Q := by
  have r := cndF (k := 5) (o := o) (Q := Q) h hQ
  rw [show zc 5 = 22 from rfl] at r
  exact r
/-! ===== the class reads a rule ===== -/
def FU (m n : Int) (M M' : Me) : Prop := ∀ k i, (k = 1 → i ≠ 3 ∧ i ≠ 4) → (k = 30 → i ≠ 6 ∧ i ≠ 7) → (k = 35 → i < n) → (k = 31 ∨ k = 32 ∨ k = 33 ∨ k = 34 → i ≠ m) → M' k i = M k i
theorem FU.tr {m n : Int} {A B C : Me} (h : FU m n A B) (h' : FU m n B C) : FU m n A C := fun k i a b c d => (h' k i a b c d).trans (h k i a b c d)
theorem FU.fk {m n : Int} {A B : Me} (h : FK n A B) : FU m n A B := fun k i a b c _ => h k i a (fun z => (b z).2) c
theorem FU.pr {m n v : Int} {j : Nat} (M : Me) (hj : j = 31 ∨ j = 32 ∨ j = 33 ∨ j = 34) : FU m n M (mput M j m v) := fun k i a b c d => by
  unfold mput
  rw [if_neg (fun z => d (by omega) z.2)]
theorem FU.p6 {m n v : Int} (M : Me) : FU m n M (mput M 30 6 v) := fun k i a b c d => by
  unfold mput
  rw [if_neg (fun z => (b z.1).1 z.2)]
theorem DS.up {T : Int → Int} {e p n v : Int} {M : Me} {j : Nat} {i : Int} (h : DS T e p n M) (hj : j = 31 ∨ j = 32 ∨ j = 33 ∨ j = 34 ∨ (j = 30 ∧ i = 6)) : DS T e p n (mput M j i v) := by
  have q : ∀ k a, ¬ (k = j ∧ a = i) → mput M j i v k a = M k a := fun k a z => by unfold mput; rw [if_neg z]
  exact ⟨⟨by rw [q 1 2 (by omega)]; exact h.1.1, h.1.2.1, fun b x y => by rw [q 2 b (by omega)]; exact h.1.2.2 b x y⟩, by rw [q 1 3 (by omega)]; exact h.2.1, by rw [q 1 4 (by omega)]; exact h.2.2.1, by rw [q 30 7 (by omega)]; exact h.2.2.2⟩
theorem FS.up {T : Int → Int} {e f n v : Int} {M : Me} {j : Nat} {i : Int} (h : FS T e f n M) (hj : j = 31 ∨ j = 32 ∨ j = 33 ∨ j = 34 ∨ (j = 30 ∧ i = 6)) : FS T e f n (mput M j i v) := by
  have q : ∀ k a, ¬ (k = j ∧ a = i) → mput M j i v k a = M k a := fun k a z => by unfold mput; rw [if_neg z]
  exact ⟨⟨by rw [q 1 2 (by omega)]; exact h.1.1, h.1.2.1, fun b x y => by rw [q 2 b (by omega)]; exact h.1.2.2 b x y⟩, by rw [q 1 3 (by omega)]; exact h.2.1, by rw [q 1 4 (by omega)]; exact h.2.2.1, h.2.2.2.1, by rw [q 30 7 (by omega)]; exact h.2.2.2.2⟩
theorem k_rule {T : Int → Int} {e m p n : Int} {M : Me} {Q : Int → Me → Prop} (hK : KC T e) (m0 : 0 ≤ m ∧ m ≤ 16) (h : DS T e p n M) (n0 : 0 ≤ n) (np : n ≤ p) (pe : p ≤ e)
    (hG : m < 16 → ∀ M' p' n', DS T e p' n' M' → Rz (Sx T e) (LD M') p n (M' 33 m) p' n' → M' 31 m = Sx T e p → M' 32 m = n → M' 34 m = n' → M' 30 6 = m + 1 → FU m n M M' → Q 0 M')
    (hB : ∀ M' f, FS T e f n M' → Rb (Sx T e) m p n f → FU m n M M' → Q 0 M') : Calls 23 mX4_rule [.inr 29, .inl m] M Q := by
  have he : e ≤ 240 := hK.1.1
  have p0 : 0 ≤ p := by omega
  have g42 : (Sx T e p = 118 ∨ Sx T e p = 102 ∨ Sx T e p = 120) → Go (km 23 mX4_rule Q) 42 [some (.inr 29), some (.inl m), some (.inl (Sx T e p))] [] M := fun hk => by
    have hp := Sx_pos hK (p := p) (by omega)
    refine s_X4_rule_42 _ _ M ⟨fun m16 => ⟨by rw [h.2.1]; unfold cn; omega, by omega, by omega, ?_⟩, fun m16 => ?_⟩
    · obtain ⟨M1, hM1⟩ : ∃ M1, mput (mput (mput M 1 3 (M 1 3 + 1)) 31 m (Sx T e p)) 32 m (M 30 7) = M1 := ⟨_, rfl⟩
      rw [hM1]
      have d1 : DS T e (p + 1) n M1 := by rw [← hM1]; exact (h.adv.1.up (by omega)).up (by omega)
      have u1 : FU m n M M1 := by rw [← hM1]; exact ((FU.fk (h.adv.2 n)).tr (FU.pr _ (by omega))).tr (FU.pr _ (by omega))
      have a31 : M1 31 m = Sx T e p := by rw [← hM1, mput_ne _ _ _ _ (by decide), mput_same]
      have a32 : M1 32 m = n := by rw [← hM1, mput_same]; exact h.2.2.2
      have tail : ∀ (M2 : Me) (ph hh : Int), DS T e ph hh M2 → Rk (Sx T e) (LD M2) p n ph hh → FK n M1 M2 → n ≤ hh → hh ≤ ph → ph ≤ e → 0 ≤ ph → Go (km 23 mX4_rule Q) 114 [some (.inr 29), some (.inl m), none] [] M2 := fun M2 ph hh d2 rk f12 nh hph phe ph0 => by
        refine s_X4_rule_114 _ M2 ⟨by omega, ?_⟩
        rw [d2.2.2.2]
        have d3 : DS T e ph hh (mput M2 33 m hh) := d2.up (by omega)
        have u3 : FU m n M (mput M2 33 m hh) := (u1.tr (FU.fk f12)).tr (FU.pr _ (by omega))
        have k31 : ∀ M', FK n M1 M2 → FU (-1) n (mput M2 33 m hh) M' → M' 31 m = Sx T e p ∧ M' 32 m = n ∧ M' 33 m = hh := fun M' _ g => by
          have c : ∀ k, k = 31 ∨ k = 32 → M' k m = M1 k m := fun k hk => by
            rw [g k m (fun z => by omega) (fun z => by omega) (fun z => by omega) (fun _ => by omega), mput_ne _ _ _ _ (by omega)]
            exact f12 k m (fun z => by omega) (fun z => by omega) (fun z => by omega)
          exact ⟨(c 31 (by omega)).trans a31, (c 32 (by omega)).trans a32, by rw [g 33 m (fun z => absurd z (by decide)) (fun z => absurd z (by decide)) (fun z => absurd z (by decide)) (fun _ => by omega), mput_same]⟩
        have toM : ∀ (M' : Me) (g : FK n (mput M2 33 m hh) M'), FU m n M M' := fun M' g => u3.tr (FU.fk g)
        have fin : ∀ (M6 : Me) (f : Int), FS T e f n M6 → FK n (mput M2 33 m hh) M6 → Rb (Sx T e) m p n f → (0 ≤ m ∧ m < 16) ∧ cn (m + 1) ∧ Q 0 (mput (mput M6 34 m (M6 30 7)) 30 6 (m + 1)) := fun M6 f s6 g6 rb => by
          refine ⟨by omega, by unfold cn; omega, hB _ f ((s6.up (by omega)).up (by omega)) rb (((toM M6 g6).tr (FU.pr _ (by omega))).tr (FU.p6 _))⟩
        refine k_take d3 (by omega) (by omega) (by omega) (fun h40 M4 d4 f4 => ?_) (fun h40 M4 s4 f4 => ?_)
        · have r := cnd_all hK 5 (fun _ M141 => Calls 1 mX9_take [.inr 1, .inl 41] M141 (fun _ M150 => (0 ≤ m ∧ m < 16) ∧ cn (m + 1) ∧ Q 0 (mput (mput M150 34 m (M150 30 7)) 30 6 (m + 1)))) 1 (ph + 1) hh M4 (by decide) (by omega) (by omega) (by omega) (by have := Sx_pos hK (p := ph) (by omega); omega) d4
          rw [show zc 5 = 22 from rfl] at r
          refine r (fun M5 p5 n5 tP d5 f5 z5 => ?_) (fun M5 f s5 f5 z5 => ?_)
          · have l5 := z5.le hK.1
            refine k_take d5 (by omega) (by omega) (by omega) (fun h41 M6 d6 f6 => ?_) (fun h41 M6 s6 f6 => ?_)
            · obtain ⟨M7, hM7⟩ : ∃ M7, mput (mput M6 34 m (M6 30 7)) 30 6 (m + 1) = M7 := ⟨_, rfl⟩
              rw [hM7]
              have f46 : FK hh (mput M2 33 m hh) M6 := ((f4 hh).tr f5).tr (f6 hh)
              have q := k31 M6 f12 (FU.fk (f46.lo (by omega)))
              have o7 : ∀ k i, k ≠ 34 → k ≠ 30 → M7 k i = M6 k i := fun k i a b => by rw [← hM7, mput_ne _ _ _ _ b, mput_ne _ _ _ _ a]
              have z5' : Cz (Sx T e) (LD M7) (some (tP, n5)) 1 (ph + 1) hh p5 n5 := z5.mv hK.1 (LDs (fun i a b => by rw [o7 35 i (by decide) (by decide)]; exact (f6 n5).c35 b))
              have rk' : Rk (Sx T e) (LD M7) p n ph hh := by
                rcases rk with a | ⟨a, b⟩
                · exact Or.inl a
                · exact Or.inr ⟨a, b.mv hK.1 (LDs (fun i x y => by rw [o7 35 i (by decide) (by decide), f46.c35 y, mput_ne _ _ _ _ (by decide)]))⟩
              have e33 : M7 33 m = hh := by rw [o7 33 m (by decide) (by decide)]; exact q.2.2
              refine ⟨by omega, by unfold cn; omega, hG m16 M7 (p5 + 1) n5 (by rw [← hM7]; exact (d6.up (by omega)).up (by omega)) ?_ (by rw [o7 31 m (by decide) (by decide)]; exact q.1) (by rw [o7 32 m (by decide) (by decide)]; exact q.2.1) ?_ (by rw [← hM7, mput_same]) ?_⟩
              · rw [e33]
                exact ⟨hk, ph, p5, tP, n5, rk', h40, z5', h41, rfl⟩
              · rw [← hM7, mput_ne _ _ _ _ (by decide), mput_same]; exact d6.2.2.2
              · rw [← hM7]; exact ((toM M6 (f46.lo (by omega))).tr (FU.pr _ (by omega))).tr (FU.p6 _)
            · exact fin M6 _ (s6.lo (by omega)) ((((f4 hh).tr f5).tr (f6 hh)).lo (by omega)) (Or.inr ⟨hk, Or.inr ⟨m16, Or.inr ⟨LD M5, ph, hh, by
                rcases rk with a | ⟨a, b⟩
                · exact Or.inl a
                · exact Or.inr ⟨a, b.mv hK.1 (LDs (fun i x y => by rw [((f4 hh).tr f5).c35 y, mput_ne _ _ _ _ (by decide)]))⟩, Or.inr ⟨h40, Or.inr ⟨tP, n5, p5, n5, z5, h41, rfl⟩⟩⟩⟩⟩)
          · exact k_takeF s5 (by decide) (fin M5 f (s5.lo (by omega)) (((f4 hh).tr f5).lo (by omega)) (Or.inr ⟨hk, Or.inr ⟨m16, Or.inr ⟨LD M2, ph, hh, rk, Or.inr ⟨h40, Or.inl z5⟩⟩⟩⟩))
        · exact cnd22 s4 (k_takeF s4 (by decide) (fin M4 _ (s4.lo (by omega)) (f4 n) (Or.inr ⟨hk, Or.inr ⟨m16, Or.inr ⟨LD M2, ph, hh, rk, Or.inl ⟨h40, rfl⟩⟩⟩⟩)))
      refine ⟨fun z => tail M1 (p + 1) n d1 (Or.inl ⟨z, rfl, rfl⟩) (FK.rf n M1) (Int.le_refl n) (by omega) (by omega) (by omega), fun z => ?_⟩
      have r := sum_all hK 6 (fun _ M111 => Go (km 23 mX4_rule Q) 114 [some (.inr 29), some (.inl m), none] [] M111) 0 (p + 1) n M1 (by decide) (by omega) n0 (by omega) (by omega) d1
      rw [show zs 6 = 22 from rfl] at r
      refine r (fun M2 ph hh d2 f2 z2 => ?_) (fun M2 f s2 f2 z2 => ?_)
      · have l2 := z2.le hK.1
        have e0 : pk (some (0, 0)) = 0 := by decide
        exact tail M2 ph hh d2 (Or.inr ⟨z, z2⟩) f2 (by omega) (by omega) (by omega) (by omega)
      · refine s_X4_rule_114 _ M2 ⟨by omega, ?_⟩
        have s3 : FS T e f n (mput M2 33 m (M2 30 7)) := s2.up (by omega)
        refine k_takeF s3 (by decide) (cnd22 s3 (k_takeF s3 (by decide) ⟨by omega, by unfold cn; omega, hB _ f ((s3.up (by omega)).up (by omega)) (Or.inr ⟨hk, Or.inr ⟨m16, Or.inl ⟨z, z2⟩⟩⟩) ?_⟩))
        exact (((u1.tr (FU.fk f2)).tr (FU.pr _ (by omega))).tr (FU.pr _ (by omega))).tr (FU.p6 _)
    · rw [h.2.1]
      exact k_fail h (by omega) (by omega) (by omega) (by omega) (fun M' s' f' => hB M' _ s' (Or.inr ⟨hk, Or.inl ⟨by omega, rfl⟩⟩) (FU.fk (f' n)))
  refine e_X4_rule (k_sign h ⟨fun y => g42 (Or.inl y), fun y1 => ⟨fun y => g42 (Or.inr (Or.inl y)), fun y2 => ⟨fun y => g42 (Or.inr (Or.inr y)), fun y3 => ?_⟩⟩⟩)
  rw [h.2.1]
  refine k_fail h (by omega) (by omega) (by omega) (by omega) (fun M' s' f' => hB M' _ s' (Or.inl ⟨fun q => ?_, rfl⟩) (FU.fk (f' n)))
  rcases q with q | q | q
  · exact y1 q
  · exact y2 q
  · exact y3 q
