/-! ===== marriages: both sides ===== -/
def FrM (M M' : Me) : Prop := ∀ k i, (k < 69 ∨ 75 < k) → (k < 116 ∨ 121 < k) → (k = 1 → i ≠ 1) → (k = 76 → i ≠ 13) → M' k i = M k i
theorem o_marriages {M : Me} (hT : RTape M) (a b : Int) (P : Me → Prop) (hP0 : P M) (hP : ∀ M', FrM M M' → M' 1 1 = 0 → M' 76 13 = 0 → P M') : Calls 61 mX11_marriages [.inr 0, .inl a, .inl b] M (fun r M1 => Calls 2 mX12_marriages [.inr 76, .inl a, .inl b] M1 (fun r' M2 => r = r' ∧ P M2)) := by
  obtain ⟨t1, t2, t3, t4⟩ := hT
  by_cases hv : (2 ≤ a ∧ a ≤ 6) ∧ 2 * a * a ≤ M 1 1 ∧ (b = 100 ∨ (0 ≤ b ∧ b < a))
  · obtain ⟨ha, hsz, hb⟩ := hv
    obtain ⟨n, rfl⟩ : ∃ n : Nat, a = n := ⟨a.toNat, by omega⟩
    have n2 : 2 ≤ n := by omega
    have n6 : n ≤ 6 := by omega
    have sq := sq_b ha.1 ha.2
    have e2 : 2 * (n : Int) * n = 2 * ((n : Int) * n) := Int.mul_assoc 2 _ _
    have hsz' : 2 * ((n : Int) * n) ≤ M 1 1 := by rw [← Int.mul_assoc]; exact hsz
    have hTc : ∀ i, 0 ≤ i → i < M 1 1 → M 2 i = M 2 i ∧ 0 ≤ M 2 i := fun i i0 i1 => ⟨rfl, (t4 i i0 i1).2.1⟩
    -- the reference, over what the class left
    have ref : ∀ (M1 : Me) (f1 : ∀ k i, 76 ≤ k → M1 k i = M k i) (QQ : Int → Me → Prop), (AllOk2 (M 2) n (2 * n) → ∀ M2 : Me, RFr2 (mput M1 76 13 0) M2 → NR (M 2) n (2 * n) M2 → (b = 100 → Go (km 2 mX12_marriages QQ) 80 [some (.inr 76), some (.inl (n : Int)), none, some (.inl 0), some (.inl 0)] [] M2) ∧ (b ≠ 100 → Calls 0 mX12_asks [.inr 76, .inl (n : Int)] M2 (fun r65 M65 => (0 ≤ b ∧ b < 6) ∧ QQ (M65 118 b) M65))) → (¬ AllOk2 (M 2) n (2 * n) → ∀ M2 : Me, RFr2 (mput M1 76 13 0) M2 → QQ (-3) M2) → Calls 2 mX12_marriages [.inr 76, .inl (n : Int), .inl b] M1 QQ := fun M1 f1 QQ hg hf => by
      have body : Calls 1 mX12_readsRows [.inr 76, .inl (n : Int)] (mput M1 76 13 0) (fun r48 M48 => ((r48 ≠ 0 → ((b = 100 → Go (km 2 mX12_marriages QQ) 80 [some (.inr 76), some (.inl (n : Int)), none, some (.inl 0), some (.inl 0)] [] M48) ∧ (b ≠ 100 → Calls 0 mX12_asks [.inr 76, .inl (n : Int)] M48 (fun r65 M65 => (0 ≤ b ∧ b < 6) ∧ QQ (M65 118 b) M65)))) ∧ (r48 = 0 → QQ (-3) M48))) := by
        refine q_rows (T := M 2) ha.1 ha.2 (fun i i0 i1 => ?_) (fun hok M2 f2 d2 => ⟨fun _ => hg hok M2 f2 d2, fun z => absurd z (by decide)⟩) (fun hok M2 f2 => ⟨fun z => absurd rfl z, fun _ => hf hok M2 f2⟩)
        rw [mput_ne _ _ _ _ (by decide), f1 88 i (by decide)]
        have := t4 i i0 (by omega)
        exact ⟨this.1, this.2.1⟩
      have e13 : M1 76 13 = M 1 1 := by rw [f1 76 13 (by decide)]; exact t1
      refine e_X12_marriages ?_
      rw [e13]
      exact ⟨fun _ => ⟨by unfold cn; omega, fun z => ⟨by unfold cn; omega, by unfold cn; omega, fun _ => body, fun y => by exfalso; omega⟩, fun z => ⟨fun y => by exfalso; omega, fun _ => ⟨by unfold cn; omega, by unfold cn; omega, fun _ => body, fun y => by exfalso; omega⟩⟩⟩, fun z => absurd ha z⟩
    have cls : Calls 2 mX5_read [.inr 69, .inr 1, .inl (n : Int)] M (fun r54 M54 => ((r54 ≠ 0 → ((b ≠ 100 → Calls 1 mX5_whomGets [.inr 69, .inl b] (mput M54 1 1 0) (fun r93 M93 => Calls 2 mX12_marriages [.inr 76, .inl (n : Int), .inl b] M93 (fun r' M2 => r93 = r' ∧ P M2))) ∧ (b = 100 → Calls 60 mX5_howManyLast [.inr 69] (mput M54 1 1 0) (fun r82 M82 => Calls 2 mX12_marriages [.inr 76, .inl (n : Int), .inl b] M82 (fun r' M2 => r82 = r' ∧ P M2))))) ∧ (r54 = 0 → Calls 2 mX12_marriages [.inr 76, .inl (n : Int), .inl b] (mput M54 1 1 0) (fun r' M2 => (-3 : Int) = r' ∧ P M2)))) := by
      refine t_read (T := M 2) ha.1 ha.2 hsz' t3 hTc (fun hok M1 f1 s1 d1 => ⟨fun _ => ?_, fun z => absurd z (by decide)⟩) (fun hok M1 f1 => ⟨fun z => absurd rfl z, fun _ => ?_⟩)
      · have hok2 := (allok_iff (show (0 : Int) ≤ n by omega)).mp hok
        have mb : ∀ o, 0 ≤ o → o < (n : Int) → 0 ≤ (n : Int) * o ∧ (n : Int) * o + n ≤ (n : Int) * n := fun o o0 o1 => mul_b o0 o1
        have tn : ∀ o k, 0 ≤ o → o < (n : Int) → 0 ≤ k → k < (n : Int) → 0 ≤ M 2 ((n : Int) * o + k) ∧ 0 ≤ M 2 ((n : Int) * n + (n : Int) * o + k) := fun o k o0 o1 k0 k1 => by
          have := mb o o0 o1
          exact ⟨(hTc _ (by omega) (by omega)).2, (hTc _ (by omega) (by omega)).2⟩
        have surj1 : ∀ o v, 0 ≤ o → o < (n : Int) → 0 ≤ v → v < (n : Int) → ∃ k, 0 ≤ k ∧ k < (n : Int) ∧ M 2 ((n : Int) * o + k) = v := fun o v o0 o1 v0 v1 => row_all (by omega) (hok o o0 o1).1 (fun k k0 k1 => (tn o k o0 o1 k0 k1).1) v v0 v1
        have surj2 : ∀ o v, 0 ≤ o → o < (n : Int) → 0 ≤ v → v < (n : Int) → ∃ k, 0 ≤ k ∧ k < (n : Int) ∧ M 2 ((n : Int) * n + (n : Int) * o + k) = v := fun o v o0 o1 v0 v1 => row_all (by omega) (hok o o0 o1).2 (fun k k0 k1 => (tn o k o0 o1 k0 k1).2) v v0 v1
        -- what both hold of the ranks
        have same : ∀ M2 : Me, NR (M 2) n (2 * n) M2 → ∀ o v, 0 ≤ o → o < (n : Int) → 0 ≤ v → v < (n : Int) → M2 116 (6 * o + v) = M1 71 (6 * o + v) ∧ M2 116 (6 * ((n : Int) + o) + v) = M1 72 (6 * o + v) ∧ M2 117 (6 * o + v) = M1 70 (6 * o + v) := fun M2 d2 o v o0 o1 v0 v1 => by
          obtain ⟨k, k0, k1, k2⟩ := surj1 o v o0 o1 v0 v1
          obtain ⟨j, j0, j1, j2⟩ := surj2 o v o0 o1 v0 v1
          have a1 := (d1 o o0 o1 k k0 k1).1
          have a2 := (d1 o o0 o1 j j0 j1).2.2
          have a3 := (d1 o o0 o1 v v0 v1).2.1
          have b1 := (d2 o o0 (by omega) k k0 k1).2
          have b2 := (d2 ((n : Int) + o) (by omega) (by omega) j j0 j1).2
          have b3 := (d2 o o0 (by omega) v v0 v1).1
          rw [show (n : Int) * ((n : Int) + o) = (n : Int) * n + (n : Int) * o from Int.mul_add _ _ _] at b2
          rw [k2] at a1 b1
          rw [j2] at a2 b2
          exact ⟨by rw [a1, b1], by rw [a2, b2], by rw [a3, b3]⟩
        have g71 : ∀ k, k = 70 ∨ k = 71 ∨ k = 72 ∨ k = 69 → ∀ i, (mput M1 1 1 0) k i = M1 k i := fun k hk i => mput_ne _ _ _ _ (by omega)
        have frame : ∀ M2 M3 : Me, (∀ k i, k ≠ 73 → k ≠ 74 → k ≠ 75 → M2 k i = (mput M1 1 1 0) k i) → (∀ k i, (k < 116 ∨ 121 < k) → (k = 76 → i ≠ 13) → M3 k i = M2 k i) → M3 76 13 = 0 → P M3 := fun M2 M3 f2 f3 z13 => by
          refine hP M3 (fun k i q1 q2 q3 q4 => ?_) ?_ z13
          · rw [f3 k i q2 q4, f2 k i (by omega) (by omega) (by omega)]
            by_cases e : k = 1
            · subst e; rw [mput_ni _ _ _ _ (q3 rfl)]; exact f1 _ _ (by omega) (by omega) (by omega) (by omega)
            · rw [mput_ne _ _ _ _ e]; exact f1 _ _ (by omega) (by omega) (by omega) (by omega)
          · rw [f3 1 1 (by decide) (by decide), f2 1 1 (by decide) (by decide) (by decide), mput_same]
        have hi : ∀ M2 : Me, (∀ k i, k ≠ 73 → k ≠ 74 → k ≠ 75 → M2 k i = (mput M1 1 1 0) k i) → ∀ k i, 76 ≤ k → M2 k i = M k i := fun M2 f2 k i hk => by
          rw [f2 k i (by omega) (by omega) (by omega), mput_ne _ _ _ _ (by omega)]
          exact f1 k i (by omega) (by omega) (by omega) (by omega)
        refine ⟨fun hb100 => ?_, fun hb100 => ?_⟩
        · have hb' : 0 ≤ b ∧ b < (n : Int) := by omega
          have hc : ChOk (fun k j => M 2 ((n : Int) * k + j)) n := fun k k0 k1 => ⟨fun j j0 j1 => ⟨(tn k j k0 k1 j0 j1).1, (hok k k0 k1).1.1 j j0 j1⟩, fun w w0 w1 => surj1 k w k0 k1 w0 w1⟩
          refine t_whomGets (n := n) (ch := fun k j => M 2 ((n : Int) * k + j)) (pc := fun w x => M1 72 (6 * w + x)) ha.1 ha.2 hb'.1 hb'.2 (by rw [g71 69 (by omega)]; exact s1) hc (fun k j k0 k1 j0 j1 => by rw [g71 70 (by omega)]; exact (d1 k k0 k1 j j0 j1).2.1) (fun w x _ _ _ _ => g71 72 (by omega) _) (fun M2 f2 => ?_)
          have f2' : ∀ k i, k ≠ 73 → k ≠ 74 → k ≠ 75 → M2 k i = (mput M1 1 1 0) k i := fun k i x y z => f2 k i y x z
          refine ref M2 (hi M2 f2') _ (fun _ M3 f3 d3 => ⟨fun z => absurd z hb100, fun _ => ?_⟩) (fun z => absurd hok2 z)
          refine q_asks (n := n) (ch := fun k j => M 2 ((n : Int) * k + j)) (pc := fun w x => M1 72 (6 * w + x)) ha.1 ha.2 hc (fun k j k0 k1 j0 j1 => (d3 k k0 (by omega) j j0 j1).1) (fun w x w0 w1 x0 x1 => (same M3 d3 w x w0 w1 x0 x1).2.1) (fun M4 f4 e4 => ⟨by omega, by rw [e4 b hb'.1 hb'.2], frame M2 M4 f2' (fun k i q1 q2 => ?_) ?_⟩)
          · rw [f4 k i (by omega) (by omega) (by omega), f3 k i (by omega) (by omega)]
            by_cases e : k = 76
            · subst e; exact mput_ni _ _ _ _ (q2 rfl)
            · exact mput_ne _ _ _ _ e
          · rw [f4 76 13 (by decide) (by decide) (by decide), f3 76 13 (by decide) (by decide), mput_same]
        · have hTab : Tab n (fun x v => M1 71 (6 * x + v)) (fun x v => M1 72 (6 * x + v)) (mput M1 1 1 0) := ⟨by rw [g71 69 (by omega)]; exact s1, fun x v _ _ => ⟨g71 71 (by omega) _, g71 72 (by omega) _⟩⟩
          refine t_howMany n2 n6 hTab (fun M2 f2 => ?_)
          have f2' : ∀ k i, k ≠ 73 → k ≠ 74 → k ≠ 75 → M2 k i = (mput M1 1 1 0) k i := fun k i x y z => f2 k i (fun q => absurd q x)
          refine ref M2 (hi M2 f2') _ (fun _ M3 f3 d3 => ⟨fun _ => ?_, fun z => absurd hb100 z⟩) (fun z => absurd hok2 z)
          refine q_orders n2 n6 (rk := fun x v => M1 71 (6 * x + v)) (pc := fun x v => M1 72 (6 * x + v)) (fun x v hx hv' => ⟨(same M3 d3 x v (by omega) (by omega) (by omega) (by omega)).1, (same M3 d3 x v (by omega) (by omega) (by omega) (by omega)).2.1⟩) (fun M4 f4 => ⟨rfl, frame M2 M4 f2' (fun k i q1 q2 => ?_) ?_⟩)
          · rw [f4 k i (by omega), f3 k i (by omega) (by omega)]
            by_cases e : k = 76
            · subst e; exact mput_ni _ _ _ _ (q2 rfl)
            · exact mput_ne _ _ _ _ e
          · rw [f4 76 13 (by decide), f3 76 13 (by decide) (by decide), mput_same]
      · refine ref (mput M1 1 1 0) (fun k i hk => by rw [mput_ne _ _ _ _ (by omega)]; exact f1 k i (by omega) (by omega) (by omega) (by omega)) _ (fun z => absurd ((allok_iff (show (0 : Int) ≤ n by omega)).mpr z) hok) (fun _ M3 f3 => ⟨rfl, hP M3 (fun k i q1 q2 q3 q4 => ?_) ?_ ?_⟩)
        · rw [f3 k i (by omega) (by omega)]
          by_cases e6 : k = 76
          · subst e6; rw [mput_ni _ _ _ _ (q4 rfl), mput_ne _ _ _ _ (by decide)]; exact f1 _ _ (by omega) (by omega) (by omega) (by omega)
          · rw [mput_ne _ _ _ _ e6]
            by_cases e : k = 1
            · subst e; rw [mput_ni _ _ _ _ (q3 rfl)]; exact f1 _ _ (by omega) (by omega) (by omega) (by omega)
            · rw [mput_ne _ _ _ _ e]; exact f1 _ _ (by omega) (by omega) (by omega) (by omega)
        · rw [f3 1 1 (by decide) (by decide), mput_ne _ _ _ _ (by decide), mput_same]
        · rw [f3 76 13 (by decide) (by decide), mput_same]
    exact e_X11_marriages ⟨fun z => by exfalso; omega, fun _ => ⟨fun z => by exfalso; omega, fun _ => ⟨by unfold cn; omega, by unfold cn; omega, fun _ => ⟨fun _ => cls, fun z => ⟨fun y => by exfalso; omega, fun _ => ⟨fun _ => cls, fun y => by exfalso; omega⟩⟩⟩, fun z => by exfalso; omega⟩⟩⟩
  · by_cases ha : 2 ≤ a ∧ a ≤ 6
    · have sq := sq_b ha.1 ha.2
      have e2 : 2 * a * a = 2 * (a * a) := Int.mul_assoc 2 a a
      have go : Calls 2 mX12_marriages [.inr 76, .inl a, .inl b] M (fun r' M2 => (-1 : Int) = r' ∧ P M2) := by
        refine e_X12_marriages ?_
        rw [t1]
        exact ⟨fun _ => ⟨by unfold cn; omega, fun z => ⟨by unfold cn; omega, by unfold cn; omega, fun y => by exfalso; omega, fun _ => ⟨rfl, hP0⟩⟩, fun z => ⟨fun _ => ⟨rfl, hP0⟩, fun y => ⟨by unfold cn; omega, by unfold cn; omega, fun x => by exfalso; omega, fun _ => ⟨rfl, hP0⟩⟩⟩⟩, fun z => absurd ha z⟩
      exact e_X11_marriages ⟨fun z => by exfalso; omega, fun _ => ⟨fun z => by exfalso; omega, fun _ => ⟨by unfold cn; omega, by unfold cn; omega, fun z => ⟨fun y => by exfalso; omega, fun y => ⟨fun _ => go, fun x => ⟨fun w => by exfalso; omega, fun _ => go⟩⟩⟩, fun _ => go⟩⟩⟩
    · have go : Calls 2 mX12_marriages [.inr 76, .inl a, .inl b] M (fun r' M2 => (-1 : Int) = r' ∧ P M2) := e_X12_marriages ⟨fun z => absurd z ha, fun _ => ⟨rfl, hP0⟩⟩
      exact e_X11_marriages ⟨fun _ => go, fun z => ⟨fun _ => go, fun y => by exfalso; omega⟩⟩
