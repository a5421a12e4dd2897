theorem l_X2_putFence_58 {Q : Int → Me → Prop} {M0 : Me} {pts pre : List Int} {s : Int} (hs : M0 57 3 = s) (hpts : pts = rl (M0 58) s) (s0 : 0 ≤ s) (s32 : s ≤ 32) (hpre : pre.length ≤ 31) (hpp : ∀ z, z ∈ pre → pl z) (hpl : ∀ z, z ∈ pts → pl z) (hQ : ∀ M', Fr59 M0 M' → 0 ≤ M' 57 4 → rl (M' 59) (M' 57 4) = pre ++ (if pts.length ≤ 1 then chn pts.reverse [] else (chn pts.reverse []).tail).reverse → Q 0 M') {q : Int} (hq : q = pre.length) :
    ∀ (k : Nat) (i : Int) (rp : List Int) (M : Me), i + 1 = k → i < s → pts.reverse = rp ++ (rl (M0 58) (i + 1)).reverse → Fr59 M0 M → 0 ≤ M 57 4 → rl (M 59) (M 57 4) = pre ++ (chn rp []).reverse → Go (km 2 mX2_putFence Q) 58 [some (.inr 57), some (.inl q), some (.inl i)] [] M := by
  have hlen : (pts.length : Int) = s := by rw [hpts, rl_length]; omega
  intro k
  induction k with
  | zero =>
    intro i rp M hi his hrp f n0 hr
    have e : rp = pts.reverse := by rw [hrp, rl_zero (by omega)]; simp
    subst e
    refine s_X2_putFence_58 _ _ M ⟨fun _ => ?_, fun v => by exfalso; omega⟩
    rw [f 57 3 (by first | omega | decide) (by first | omega | decide), hs]
    refine ⟨fun v => hQ M f n0 ?_, fun v => ⟨by have := f 57 4; unfold cn; have : (rl (M 59) (M 57 4)).length ≤ 64 := by { rw [hr, List.length_append, List.length_reverse]; have := chn_len pts.reverse []; rw [List.length_reverse] at this; simp only [List.length_nil] at this; omega }; rw [rl_length] at this; omega, hQ _ (f.tr (Fr59.pop _ _)) ?_ ?_⟩⟩
    · rw [hr, if_pos (by omega)]
    all_goals cases hc : chn pts.reverse [] with
      | nil =>
        exfalso
        have hL : pts.reverse ≠ [] := fun z => by rw [List.reverse_eq_nil_iff] at z; rw [z] at hlen; simp at hlen; omega
        have := List.dropLast_concat_getLast hL
        rw [← this, chn_snoc] at hc
        cases hc
      | cons b t =>
        rw [hc, List.reverse_cons, ← List.append_assoc] at hr
        obtain ⟨g1, g2, g3⟩ := rl_snoc n0 hr
        first
          | (rw [mput_same]; omega)
          | (rw [mput_same, if_neg (by omega), List.tail_cons, ← g2]; exact rl_congr (fun i _ _ => mput_ne _ _ _ _ (by first | omega | decide)))
  | succ k ih =>
    intro i rp M hi his hrp f n0 hr
    have hz : M 58 i = M0 58 i := f 58 i (by first | omega | decide) (by first | omega | decide)
    have hin : M0 58 i ∈ pts := by rw [hpts]; exact mem_rl.mpr ⟨i, by omega, his, rfl⟩
    have hrl := rl_succ (f := M0 58) (n := i) (by omega)
    rw [hrl, List.reverse_append] at hrp
    simp only [List.reverse_cons, List.reverse_nil, List.nil_append, List.cons_append] at hrp
    have sub : ∀ z, z ∈ rp → z ∈ pts := fun z h => List.mem_reverse.mp (by rw [hrp]; exact List.mem_append_left _ h)
    have hcl := chn_len rp []
    have hrl2 : rp.length ≤ 32 := by
      have := congrArg List.length hrp
      simp only [List.length_append, List.length_reverse] at this
      omega
    simp only [List.length_nil] at hcl
    refine s_X2_putFence_58 _ _ M ⟨fun v => by exfalso; omega, fun _ => ⟨by omega, ?_⟩⟩
    rw [hz]
    refine p_X2_addCorner (pre := pre) (st := chn rp []) hq (hpl _ hin) (by omega) (by omega) (fun z h => ?_) n0 hr (fun M1 f1 n1 r1 => ⟨by unfold cn; omega, ?_⟩)
    · rcases List.mem_append.mp h with h | h
      · exact hpp z h
      · rcases chn_mem _ _ _ h with h | h
        · exact hpl z (sub z h)
        · cases h
    · refine ih (i + -1) (rp ++ [M0 58 i]) M1 (by omega) (by omega) ?_ (f.tr f1) n1 (by rw [chn_snoc]; exact r1)
      rw [show i + -1 + 1 = i by omega, hrp]
      simp
theorem l_X2_putFence_7 {Q : Int → Me → Prop} {M0 : Me} {pts : List Int} {s : Int} (hs : M0 57 3 = s) (hpts : pts = rl (M0 58) s) (s0 : 0 ≤ s) (s32 : s ≤ 32) (hpl : ∀ z, z ∈ pts → pl z) (hQ : ∀ M', Fr59 M0 M' → 0 ≤ M' 57 4 → rl (M' 59) (M' 57 4) = cors pts → Q 0 M') :
    ∀ (k : Nat) (i : Int) (M : Me), 0 ≤ i → i + k = s → Fr59 M0 M → 0 ≤ M 57 4 → rl (M 59) (M 57 4) = (chn (rl (M0 58) i) []).reverse → Go (km 2 mX2_putFence Q) 7 [some (.inr 57), some (.inl i), none] [] M := by
  have hlen : (pts.length : Int) = s := by rw [hpts, rl_length]; omega
  intro k
  induction k with
  | zero =>
    intro i M i0 hi f n0 hr
    have : i = s := by omega
    subst this
    rw [← hpts] at hr
    have hn : (M 57 4).toNat = (chn pts []).length := by rw [← List.length_reverse, ← hr, rl_length]
    have hcl := chn_len pts []
    simp only [List.length_nil] at hcl
    refine s_X2_putFence_7 _ M ⟨fun _ => ⟨by unfold cn; omega, by rw [f 57 3 (by first | omega | decide) (by first | omega | decide), hs]; unfold cn; omega, ?_⟩, fun v => by rw [f 57 3 (by first | omega | decide) (by first | omega | decide), hs] at v; exfalso; omega⟩
    rw [f 57 3 (by first | omega | decide) (by first | omega | decide), hs]
    have hpre : rl (M 59) (max 0 (M 57 4 - 1)) = (chn pts []).tail.reverse := by
      cases hc : chn pts [] with
      | nil =>
        rw [hc] at hn
        simp only [List.length_nil] at hn
        rw [rl_zero (by omega)]
        rfl
      | cons b t =>
        rw [hc, List.reverse_cons] at hr
        obtain ⟨g1, g2, g3⟩ := rl_snoc n0 hr
        rw [show max 0 (M 57 4 - 1) = M 57 4 - 1 by omega, g2]
        rfl
    have htl : (chn pts []).tail.reverse.length ≤ 31 := by
      rw [← hpre, rl_length]; omega
    have hq : max 0 (M 57 4 - 1) = ((chn pts []).tail.reverse.length : Int) := by rw [← hpre, rl_length]; omega
    refine l_X2_putFence_58 (M0 := M0) (pts := pts) (pre := (chn pts []).tail.reverse) hs hpts s0 s32 htl (fun z hz => ?_) hpl (fun M' a b c => hQ M' a b c) hq i.toNat (i - 1) [] _ (by omega) (by omega) ?_ (f.tr (Fr59.pop _ _)) (by rw [mput_same]; omega) ?_
    · rcases chn_mem _ _ _ (List.mem_of_mem_tail (List.mem_reverse.mp hz)) with h | h
      · exact hpl z h
      · cases h
    · rw [show i - 1 + 1 = i by omega, ← hpts]; simp
    · rw [mput_same]
      simp only [chn, List.reverse_nil, List.append_nil]
      rw [← hpre]
      exact rl_congr (fun i _ _ => mput_ne _ _ _ _ (by first | omega | decide))
  | succ k ih =>
    intro i M i0 hi f n0 hr
    have hz : M 58 i = M0 58 i := f 58 i (by first | omega | decide) (by first | omega | decide)
    have hin : M0 58 i ∈ pts := by rw [hpts]; exact mem_rl.mpr ⟨i, by omega, by omega, rfl⟩
    have hcl := chn_len (rl (M0 58) i) []
    rw [rl_length] at hcl
    simp only [List.length_nil] at hcl
    refine s_X2_putFence_7 _ M ⟨fun v => by rw [f 57 3 (by first | omega | decide) (by first | omega | decide), hs] at v; exfalso; omega, fun _ => ⟨by omega, ?_⟩⟩
    rw [hz]
    refine p_X2_addCorner (pre := []) (st := chn (rl (M0 58) i) []) rfl (hpl _ hin) (by omega) (by simp only [List.length_nil]; omega) (fun z h => ?_) n0 (by rw [List.nil_append]; exact hr) (fun M1 f1 n1 r1 => ⟨by unfold cn; omega, ?_⟩)
    · rw [List.nil_append] at h
      rcases chn_mem _ _ _ h with h | h
      · obtain ⟨j, j0, j1, j2⟩ := mem_rl.mp h
        exact hpl z (by rw [hpts]; exact mem_rl.mpr ⟨j, j0, by omega, j2⟩)
      · cases h
    · refine ih (i + 1) M1 (by omega) (by omega) (f.tr f1) n1 ?_
      rw [r1, rl_succ i0, chn_snoc, List.nil_append]
theorem p_X2_putFence {Q : Int → Me → Prop} {M : Me} (s0 : 0 ≤ M 57 3) (s32 : M 57 3 ≤ 32) (hpl : ∀ z, z ∈ rl (M 58) (M 57 3) → pl z) (hQ : ∀ M', Fr59 M M' → 0 ≤ M' 57 4 → rl (M' 59) (M' 57 4) = cors (rl (M 58) (M 57 3)) → Q 0 M') : Calls 2 mX2_putFence [.inr 57] M Q :=
  e_X2_putFence (l_X2_putFence_7 (M0 := M) (pts := rl (M 58) (M 57 3)) rfl rfl s0 s32 hpl hQ (M 57 3).toNat 0 _ (by omega) (by omega) (Fr59.pop _ _) (by rw [mput_same]; omega) (by rw [mput_same, rl_zero (by omega), rl_zero (by omega)]; rfl))
