/-! ===== how the two stand to each other between calls ===== -/
theorem RCuts.mv2 {M M' : Me} (h : RCuts M) (d1 : M' 3 8 = M 3 8) (d2 : M' 76 11 = M 76 11) (d3 : ∀ k i, (4 ≤ k ∧ k ≤ 11) ∨ (80 ≤ k ∧ k ≤ 87) → M' k i = M k i) : RCuts M' := by
  obtain ⟨h0, h1, h2, h3⟩ := h
  refine ⟨by omega, by omega, by omega, fun c c0 c1 => ?_⟩
  rw [d3 4 c (by omega), d3 5 c (by omega), d3 6 c (by omega), d3 7 c (by omega), d3 8 c (by omega), d3 9 c (by omega), d3 10 c (by omega), d3 11 c (by omega), d3 80 c (by omega), d3 81 c (by omega), d3 82 c (by omega), d3 83 c (by omega), d3 84 c (by omega), d3 85 c (by omega), d3 86 c (by omega), d3 87 c (by omega)]
  exact h3 c c0 (by omega)
theorem unl.mv {M M' : Me} (h : unl M) (d1 : M' 3 8 = M 3 8) (d3 : ∀ k i, 5 ≤ k → k ≤ 6 → M' k i = M k i) : unl M' := fun c c0 c1 => by
  rw [d3 5 c (by omega) (by omega), d3 6 c (by omega) (by omega)]
  exact h c c0 (by omega)
theorem RSt.mv2 {o b : Nat} {n : Int} {M M' : Me} (h : RSt o b n M) (n16 : n ≤ 16) (d1 : ∀ k i, o ≤ k → k ≤ o + 5 → M' k i = M k i) (d2 : ∀ i, 0 ≤ i → i < 82 → M' b i = M b i) : RSt o b n M' := by
  obtain ⟨h1, h2, h3, h4, h5⟩ := h
  refine ⟨fun c c0 c1 => ?_, by rw [d1 o 5 (by omega) (by omega)]; exact h2, by rw [d1 o 6 (by omega) (by omega)]; exact h3, by rw [d2 80 (by omega) (by omega), d1 o 5 (by omega) (by omega)]; exact h4, by rw [d2 81 (by omega) (by omega), d1 o 6 (by omega) (by omega)]; exact h5⟩
  rw [d1 (o + 1) c (by omega) (by omega), d1 (o + 2) c (by omega) (by omega), d1 (o + 3) c (by omega) (by omega), d1 (o + 4) c (by omega) (by omega), d1 (o + 5) c (by omega) (by omega), d2 c c0 (by omega), d2 (16 + c) (by omega) (by omega), d2 (32 + c) (by omega) (by omega), d2 (48 + c) (by omega) (by omega), d2 (64 + c) (by omega) (by omega)]
  exact h1 c c0 c1
theorem RKept.mv {M M' : Me} (h : RKept M) (d0 : ∀ i, M' 0 i = M 0 i) (d64 : M' 76 64 = M 76 64) (d65 : M' 76 65 = M 76 65) (d1 : ∀ k i, 43 ≤ k → k ≤ 48 → M' k i = M k i) (d2 : ∀ i, 0 ≤ i → i < 82 → M' 79 i = M 79 i) : RKept M' := by
  obtain ⟨h1, h2, h3⟩ := h
  refine ⟨by rw [d64, d0]; exact h1, by rw [d0]; exact h2, fun z => ?_⟩
  rw [d0] at z
  obtain ⟨a, b, c, d⟩ := h3 z
  refine ⟨by rw [d65, d0]; exact a, by rw [d0]; exact b, by rw [d0]; exact c, ?_⟩
  rw [d0]
  exact RSt.mv2 d c (fun k i x y => d1 k i (by omega) (by omega)) d2
def LawX (M : Me) : Prop := ∃ L, LawC M L ∧ LawR M L ∧ LawW L
theorem LawX.mv {M M' : Me} (h : LawX M) (d1 : M' 22 6 = M 22 6) (d2 : ∀ k i, 23 ≤ k → k ≤ 27 → M' k i = M k i) (d3 : M' 76 22 = M 76 22) (d4 : ∀ k i, 95 ≤ k → k ≤ 99 → M' k i = M k i) : LawX M' := by
  obtain ⟨L, hC, hR, hW⟩ := h
  refine ⟨L, ⟨by rw [d1]; exact hC.1, fun r r0 r1 => ?_⟩, ⟨by rw [d3]; exact hR.1, fun r r0 r1 => ?_⟩, hW⟩
  · obtain ⟨c1, c2, c3, c4, c5⟩ := hC.2 r r0 r1
    exact ⟨by rw [d2 23 r (by omega) (by omega)]; exact c1, by rw [d2 24 r (by omega) (by omega)]; exact c2, by rw [d2 25 r (by omega) (by omega)]; exact c3, by rw [d2 26 r (by omega) (by omega)]; exact c4, fun i a b => by rw [d2 27 i (by omega) (by omega)]; exact c5 i a b⟩
  · obtain ⟨c1, c2, c3, c4, c5⟩ := hR.2 r r0 r1
    exact ⟨by rw [d4 96 r (by omega) (by omega)]; exact c1, by rw [d4 97 r (by omega) (by omega)]; exact c2, by rw [d4 98 r (by omega) (by omega)]; exact c3, by rw [d4 99 r (by omega) (by omega)]; exact c4, fun i a b => by rw [d4 95 i (by omega) (by omega)]; exact c5 i a b⟩
theorem RTape.nil {M : Me} (h1 : M 1 1 = 0) (h2 : M 76 13 = 0) : RTape M := ⟨by omega, by omega, by omega, fun i a b => by exfalso; omega⟩
theorem RTape.mv {M M' : Me} (h : RTape M) (d1 : M' 1 1 = M 1 1) (d2 : M' 76 13 = M 76 13) (d3 : ∀ i, M' 2 i = M 2 i) (d4 : ∀ i, M' 88 i = M 88 i) : RTape M' := by
  obtain ⟨h1, h2, h3, h4⟩ := h
  exact ⟨by omega, by omega, by omega, fun i a b => by rw [d3, d4]; exact h4 i a (by omega)⟩
def Rel (b : Int) (M : Me) : Prop := RCuts M ∧ unl M ∧ RSt 37 77 (M 3 8) M ∧ RKept M ∧ RTape M ∧ LawX M ∧ 0 ≤ M 76 44 ∧ M 76 44 ≤ b
def dep (k : Nat) (i : Int) : Prop := k = 0 ∨ (k = 3 ∧ i = 8) ∨ (4 ≤ k ∧ k ≤ 11) ∨ (k = 22 ∧ i = 6) ∨ (23 ≤ k ∧ k ≤ 27) ∨ (37 ≤ k ∧ k ≤ 48) ∨ (k = 76 ∧ (i = 11 ∨ i = 22 ∨ i = 64 ∨ i = 65)) ∨ (k = 77 ∧ 0 ≤ i ∧ i < 82) ∨ (k = 79 ∧ 0 ≤ i ∧ i < 82) ∨ (80 ≤ k ∧ k ≤ 87) ∨ (95 ≤ k ∧ k ≤ 99)
theorem Rel.mv {b b' : Int} {M M' : Me} (h : Rel b M) (d : ∀ k i, dep k i → M' k i = M k i) (t : RTape M') (h0 : 0 ≤ M' 76 44) (h1 : M' 76 44 ≤ b') : Rel b' M' := by
  obtain ⟨a1, a2, a3, a4, a5, a6, -⟩ := h
  have e8 : M' 3 8 = M 3 8 := d 3 8 (by unfold dep; omega)
  refine ⟨a1.mv2 e8 (d 76 11 (by unfold dep; omega)) (fun k i z => d k i (by unfold dep; omega)), a2.mv e8 (fun k i x y => d k i (by unfold dep; omega)), ?_, a4.mv (fun i => d 0 i (by unfold dep; omega)) (d 76 64 (by unfold dep; omega)) (d 76 65 (by unfold dep; omega)) (fun k i x y => d k i (by unfold dep; omega)) (fun i x y => d 79 i (by unfold dep; omega)), t, a6.mv (d 22 6 (by unfold dep; omega)) (fun k i x y => d k i (by unfold dep; omega)) (d 76 22 (by unfold dep; omega)) (fun k i x y => d k i (by unfold dep; omega)), h0, h1⟩
  rw [e8]
  exact a3.mv2 a1.2.1 (fun k i x y => d k i (by unfold dep; omega)) (fun i x y => d 77 i (by unfold dep; omega))
theorem Rel.up {b b' : Int} {M : Me} (h : Rel b M) (hb : b ≤ b') : Rel b' M := ⟨h.1, h.2.1, h.2.2.1, h.2.2.2.1, h.2.2.2.2.1, h.2.2.2.2.2.1, h.2.2.2.2.2.2.1, by have := h.2.2.2.2.2.2.2; omega⟩
/-- a frame that leaves the tape and all that counts -/
theorem Rel.fr {b : Int} {M M' : Me} (h : Rel b M) (d : ∀ k i, dep k i ∨ (k = 1 ∧ i = 1) ∨ k = 2 ∨ k = 88 ∨ (k = 76 ∧ (i = 13 ∨ i = 44)) → M' k i = M k i) : Rel (b + 17600) M' := by
  have e : M' 76 44 = M 76 44 := d 76 44 (by omega)
  have g := h.2.2.2.2.2.2
  exact h.mv (fun k i z => d k i (Or.inl z)) (h.2.2.2.2.1.mv (d 1 1 (by omega)) (d 76 13 (by omega)) (fun i => d 2 i (by omega)) (fun i => d 88 i (by omega))) (by omega) (by omega)
/-- a frame that clears the tape -/
theorem Rel.cl {b : Int} {M M' : Me} (h : Rel b M) (t1 : M' 1 1 = 0) (t2 : M' 76 13 = 0) (d : ∀ k i, dep k i ∨ (k = 76 ∧ i = 44) → M' k i = M k i) : Rel (b + 17600) M' := by
  have e : M' 76 44 = M 76 44 := d 76 44 (by omega)
  have g := h.2.2.2.2.2.2
  exact h.mv (fun k i z => d k i (Or.inl z)) (RTape.nil t1 t2) (by omega) (by omega)
/-! the calls, one by one -/
def Both (d d' : Nat) (y y' : Mi) (as : List AV) (b : Int) (M : Me) : Prop := Calls d y (.inr 0 :: as) M (fun r M1 => Calls d' y' (.inr 76 :: as) M1 (fun r' M2 => r = r' ∧ Rel (b + 17600) M2))
theorem r_home {b : Int} {M : Me} (h : Rel b M) (x y z : Int) : Both 1 2 mX11_home mX12_home [.inl x, .inl y, .inl z] b M := by
  have hC := h.1
  refine o_home hC x y z _ (fun q1 q2 q3 q4 q5 q6 => ?_) (h.up (by omega))
  obtain ⟨M', hM'⟩ : ∃ M', mput (mput M 11 x (24 * z + y)) 87 x (24 * z + y) = M' := ⟨_, rfl⟩
  rw [hM']
  have o : ∀ k i, k ≠ 11 → k ≠ 87 → M' k i = M k i := fun k i a c => by rw [← hM', mput_ne _ _ _ _ c, mput_ne _ _ _ _ a]
  have o2 : ∀ k i, i ≠ x → M' k i = M k i := fun k i a => by rw [← hM', mput_ni _ _ _ _ a, mput_ni _ _ _ _ a]
  have n1 : M' 11 x = 24 * z + y := by rw [← hM', mput_ne _ _ _ _ (by decide), mput_same]
  have n2 : M' 87 x = 24 * z + y := by rw [← hM', mput_same]
  obtain ⟨a1, a2, a3, a4, a5, a6, a7, a8⟩ := h
  have e8 : M' 3 8 = M 3 8 := o 3 8 (by decide) (by decide)
  refine ⟨?_, a2.mv e8 (fun k i x y => o k i (by omega) (by omega)), ?_, a4.mv (fun i => o 0 i (by decide) (by decide)) (o 76 64 (by decide) (by decide)) (o 76 65 (by decide) (by decide)) (fun k i x y => o k i (by omega) (by omega)) (fun i x y => o 79 i (by decide) (by decide)), a5.mv (o 1 1 (by decide) (by decide)) (o 76 13 (by decide) (by decide)) (fun i => o 2 i (by decide) (by decide)) (fun i => o 88 i (by decide) (by decide)), a6.mv (o 22 6 (by decide) (by decide)) (fun k i x y => o k i (by omega) (by omega)) (o 76 22 (by decide) (by decide)) (fun k i x y => o k i (by omega) (by omega)), by rw [o 76 44 (by decide) (by decide)]; exact a7, by rw [o 76 44 (by decide) (by decide)]; omega⟩
  · obtain ⟨h0, h1, h2, h3⟩ := a1
    refine ⟨by omega, by omega, by rw [o 76 11 (by decide) (by decide), e8]; exact h2, fun c c0 c1 => ?_⟩
    have hc := h3 c c0 (by omega)
    by_cases q : c = x
    · subst q
      rw [n1, n2, o 4 c (by decide) (by decide), o 5 c (by decide) (by decide), o 6 c (by decide) (by decide), o 7 c (by decide) (by decide), o 8 c (by decide) (by decide), o 9 c (by decide) (by decide), o 10 c (by decide) (by decide), o 80 c (by decide) (by decide), o 81 c (by decide) (by decide), o 82 c (by decide) (by decide), o 83 c (by decide) (by decide), o 84 c (by decide) (by decide), o 85 c (by decide) (by decide), o 86 c (by decide) (by decide)]
      obtain ⟨⟨g1, g2, g3, g4, g5, g6, g7, g8⟩, k1, k2, k3, k4, k5, k6, k7, k8⟩ := hc
      exact ⟨⟨g1, g2, g3, g4, g5, g6, g7, by unfold pl; omega⟩, k1, k2, k3, k4, k5, k6, k7, rfl⟩
    · rw [o2 4 c q, o2 5 c q, o2 6 c q, o2 7 c q, o2 8 c q, o2 9 c q, o2 10 c q, o2 11 c q, o2 80 c q, o2 81 c q, o2 82 c q, o2 83 c q, o2 84 c q, o2 85 c q, o2 86 c q, o2 87 c q]
      exact hc
  · rw [e8]
    exact a3.mv2 hC.2.1 (fun k i x y => o k i (by omega) (by omega)) (fun i x y => o 77 i (by decide) (by decide))
theorem r_feed {b : Int} {M : Me} (h : Rel b M) (x y z u v : Int) : Both 1 1 mX11_feed mX12_feed [.inl x, .inl y, .inl z, .inl u, .inl v] b M := by
  have g := h.2.2.2.2.2.2
  refine o_feed h.2.2.2.2.1 x y z u v _ (fun M2 t f => ?_) (h.up (by omega))
  have e : M2 76 44 = M 76 44 := f 76 44 (by omega) (by omega) (by omega) (by omega)
  exact h.mv (fun k i z => by unfold dep at z; exact f k i (by omega) (by omega) (by omega) (by omega)) t (by omega) (by omega)
theorem r_law {b : Int} {M : Me} (h : Rel b M) (x : Int) : Both 25 8 mX11_law mX12_law [.inl x] b M := by
  have g := h.2.2.2.2.2.2
  refine o_law h.2.2.2.2.1 x _ (h.up (by omega)) (fun M' f t1 t2 k1 k2 k3 => ?_) (fun M' L f t1 t2 hC hR hW => ?_)
  · refine h.cl t1 t2 (fun k i z => ?_)
    unfold dep at z
    by_cases q : 22 ≤ k ∧ k ≤ 27
    · exact k1 k i q.1 q.2
    · by_cases q2 : 95 ≤ k ∧ k ≤ 99
      · exact k2 k i q2.1 q2.2
      · by_cases q3 : k = 76 ∧ i = 22
        · rw [q3.1, q3.2]; exact k3
        · exact f k i (by omega) (by omega) (by omega) (by omega) (by omega)
  · obtain ⟨a1, a2, a3, a4, a5, a6, a7, a8⟩ := h
    have e8 : M' 3 8 = M 3 8 := f 3 8 (by omega) (by omega) (by omega) (by omega) (by omega)
    have e44 : M' 76 44 = M 76 44 := f 76 44 (by omega) (by omega) (by omega) (by omega) (by omega)
    refine ⟨a1.mv2 e8 (f 76 11 (by omega) (by omega) (by omega) (by omega) (by omega)) (fun k i z => f k i (by omega) (by omega) (by omega) (by omega) (by omega)), a2.mv e8 (fun k i x y => f k i (by omega) (by omega) (by omega) (by omega) (by omega)), ?_, a4.mv (fun i => f 0 i (by omega) (by omega) (by omega) (by omega) (by omega)) (f 76 64 (by omega) (by omega) (by omega) (by omega) (by omega)) (f 76 65 (by omega) (by omega) (by omega) (by omega) (by omega)) (fun k i x y => f k i (by omega) (by omega) (by omega) (by omega) (by omega)) (fun i x y => f 79 i (by omega) (by omega) (by omega) (by omega) (by omega)), RTape.nil t1 t2, ⟨L, hC, hR, hW⟩, by omega, by omega⟩
    rw [e8]
    exact a3.mv2 a1.2.1 (fun k i x y => f k i (by omega) (by omega) (by omega) (by omega) (by omega)) (fun i x y => f 77 i (by omega) (by omega) (by omega) (by omega) (by omega))
theorem r_bark {b : Int} {M : Me} (h : Rel b M) (x : Int) : Both 5 4 mX11_bark mX12_bark [.inl x] b M := by
  obtain ⟨a1, a2, a3, a4, a5, a6, a7, a8⟩ := h
  refine o_bark a1 a2 a3 a5 x _ (Rel.up ⟨a1, a2, a3, a4, a5, a6, a7, a8⟩ (by omega)) (fun M' f t1 t2 c u s => ?_)
  have F : ∀ k i, k ≠ 1 → (k < 3 ∨ 11 < k) → (k < 13 ∨ 21 < k) → (k < 38 ∨ 42 < k) → k ≠ 77 → (k < 80 ∨ 87 < k) → (k < 102 ∨ 108 < k) → (k = 76 → i = 22 ∨ i = 44 ∨ i = 64 ∨ i = 65) → M' k i = M k i := fun k i b1 b2 b3 b4 b5 b6 b7 b8 => f k i b1 b2 b3 b4 b5 b6 b7 (fun z => by have := b8 z; omega)
  have e44 : M' 76 44 = M 76 44 := F 76 44 (by omega) (by omega) (by omega) (by omega) (by omega) (by omega) (by omega) (by omega)
  exact ⟨c, u, s, a4.mv (fun i => F 0 i (by omega) (by omega) (by omega) (by omega) (by omega) (by omega) (by omega) (by omega)) (F 76 64 (by omega) (by omega) (by omega) (by omega) (by omega) (by omega) (by omega) (by omega)) (F 76 65 (by omega) (by omega) (by omega) (by omega) (by omega) (by omega) (by omega) (by omega)) (fun k i x y => F k i (by omega) (by omega) (by omega) (by omega) (by omega) (by omega) (by omega) (by omega)) (fun i x y => F 79 i (by omega) (by omega) (by omega) (by omega) (by omega) (by omega) (by omega) (by omega)), RTape.nil t1 t2, a6.mv (F 22 6 (by omega) (by omega) (by omega) (by omega) (by omega) (by omega) (by omega) (by omega)) (fun k i x y => F k i (by omega) (by omega) (by omega) (by omega) (by omega) (by omega) (by omega) (by omega)) (F 76 22 (by omega) (by omega) (by omega) (by omega) (by omega) (by omega) (by omega) (by omega)) (fun k i x y => F k i (by omega) (by omega) (by omega) (by omega) (by omega) (by omega) (by omega) (by omega)), by omega, by omega⟩
theorem Rel.ctx {b : Int} {M : Me} (h : Rel b M) (hb : b ≤ 900000000) : ∃ L, SCtx M L := by
  obtain ⟨L, hC, hR, hW⟩ := h.2.2.2.2.2.1
  exact ⟨L, h.1, h.2.2.1, hC, hR, hW, h.2.2.2.2.2.2.1, by have := h.2.2.2.2.2.2.2; omega⟩
theorem r_seasons {b : Int} {M : Me} (h : Rel b M) (hb : b ≤ 900000000) (x : Int) : Both 7 6 mX11_seasons mX12_seasons [.inl x] b M := by
  obtain ⟨L, hc⟩ := h.ctx hb
  refine o_seasons hc x _ (fun M' f s g1 g2 => ?_)
  obtain ⟨a1, a2, a3, a4, a5, a6, a7, a8⟩ := h
  have F : ∀ k i, (k < 37 ∨ 42 < k) → k ≠ 56 → k ≠ 28 → (k = 22 → i = 6) → k ≠ 77 → k ≠ 78 → k ≠ 100 → k ≠ 101 → (k = 76 → i ≠ 44) → M' k i = M k i := fun k i b1 b2 b3 b4 b5 b6 b7 b8 b9 => f k i (by omega) b2 b3 (fun z => by have := b4 z; omega) b5 b6 b7 b8 b9
  have e8 : M' 3 8 = M 3 8 := F 3 8 (by omega) (by omega) (by omega) (by omega) (by omega) (by omega) (by omega) (by omega) (by omega)
  have G : ∀ k i, (k < 28 ∧ k ≠ 22) ∨ (k = 22 ∧ i = 6) ∨ (43 ≤ k ∧ k ≤ 48) ∨ (79 ≤ k ∧ k ≤ 99) ∨ (k = 76 ∧ i ≠ 44) → M' k i = M k i := fun k i z => F k i (by omega) (by omega) (by omega) (by omega) (by omega) (by omega) (by omega) (by omega) (by omega)
  refine ⟨a1.mv2 e8 (G 76 11 (by omega)) (fun k i z => G k i (by omega)), a2.mv e8 (fun k i x y => G k i (by omega)), by rw [e8]; exact s, a4.mv (fun i => G 0 i (by omega)) (G 76 64 (by omega)) (G 76 65 (by omega)) (fun k i x y => G k i (by omega)) (fun i x y => G 79 i (by omega)), a5.mv (G 1 1 (by omega)) (G 76 13 (by omega)) (fun i => G 2 i (by omega)) (fun i => G 88 i (by omega)), a6.mv (G 22 6 (by omega)) (fun k i x y => G k i (by omega)) (G 76 22 (by omega)) (fun k i x y => G k i (by omega)), g1, by omega⟩
theorem Rel.fin {b : Int} {M M' : Me} (h : Rel b M) (f : Fin M M') : Rel (b + 17600) M' := by
  obtain ⟨f1, f2, f3, f4⟩ := f
  have g := h.2.2.2.2.2.2
  have F : ∀ k i, (k < 28 ∧ k ≠ 22) ∨ (k = 22 ∧ i = 6) ∨ (37 ≤ k ∧ k ≤ 48) ∨ (79 ≤ k ∧ k ≤ 99) ∨ (k = 76 ∧ i ≠ 44) → M' k i = M k i := fun k i z => f1 k i (by omega) (by omega) (by omega) (by omega) (by omega) (by omega) (by omega) (by omega) (by omega)
  refine h.mv (fun k i z => ?_) (h.2.2.2.2.1.mv (F 1 1 (by omega)) (F 76 13 (by omega)) (fun i => F 2 i (by omega)) (fun i => F 88 i (by omega))) f3 (by omega)
  unfold dep at z
  by_cases q : k = 77
  · subst q; exact f2 i (by omega) (by omega)
  · exact F k i (by omega)
theorem r_tried {b : Int} {M : Me} (h : Rel b M) (hb : b ≤ 900000000) (x y : Int) : Both 7 6 mX11_tried mX12_tried [.inl x, .inl y] b M := by
  obtain ⟨L, hc⟩ := h.ctx hb
  exact o_tried hc x y _ (fun M' f => h.fin f)
theorem r_meet {b : Int} {M : Me} (h : Rel b M) (hb : b ≤ 900000000) (x y z : Int) : Both 6 5 mX11_meet mX12_meet [.inl x, .inl y, .inl z] b M := by
  obtain ⟨L, hc⟩ := h.ctx hb
  exact o_meet hc x y z _ (fun M' f => h.fin f)
theorem r_roots {b : Int} {M : Me} (h : Rel b M) (hb : b ≤ 900000000) (x y : Int) : Both 6 5 mX11_roots mX12_roots [.inl x, .inl y] b M := by
  obtain ⟨L, hc⟩ := h.ctx hb
  exact o_roots hc x y _ (fun M' f => h.fin f)
theorem r_strays {b : Int} {M : Me} (h : Rel b M) (hb : b ≤ 900000000) (x y : Int) : Both 6 5 mX11_strays mX12_strays [.inl x, .inl y] b M := by
  obtain ⟨L, hc⟩ := h.ctx hb
  exact o_strays hc x y _ (fun M' f => h.fin f)
theorem r_cutIs {b : Int} {M : Me} (h : Rel b M) (x y : Int) : Both 1 2 mX11_cutIs mX12_cutIs [.inl x, .inl y] b M := o_cutIs h.1 h.2.2.1 x y _ (h.up (by omega))
theorem r_single {b : Int} {M : Me} (h : Rel b M) (x : Int) : Both 0 1 mX11_single mX12_single [.inl x] b M := o_single h.1 x _ (h.up (by omega))
theorem r_who {b : Int} {M : Me} (h : Rel b M) (x : Int) : Both 0 1 mX11_who mX12_who [.inl x] b M := o_who h.1 x _ (h.up (by omega))
theorem r_letters {b : Int} {M : Me} (h : Rel b M) : Both 1 0 mX11_letters mX12_letters [] b M := o_letters h.1 h.2.2.1 _ (h.up (by omega))
theorem r_nearest {b : Int} {M : Me} (h : Rel b M) (x y : Int) : Both 2 2 mX11_nearest mX12_nearest [.inl x, .inl y] b M := o_nearest h.1 h.2.2.1 x y _ (h.up (by omega))
theorem r_dates {b : Int} {M : Me} (h : Rel b M) (x : Int) : Both 1 1 mX11_dates mX12_dates [.inl x] b M := o_dates h.1 x _ (h.up (by omega))
theorem r_busiest {b : Int} {M : Me} (h : Rel b M) (x : Int) : Both 1 1 mX11_busiest mX12_busiest [.inl x] b M := o_busiest h.1 x _ (h.up (by omega))
theorem r_groups {b : Int} {M : Me} (h : Rel b M) (x y : Int) : Both 4 3 mX11_groups mX12_groups [.inl x, .inl y] b M := o_groups h.1 h.2.2.1 x y _ (h.up (by omega))
theorem r_crossing {b : Int} {M : Me} (h : Rel b M) : Both 4 3 mX11_crossing mX12_crossing [] b M := o_crossing h.1 _ (h.up (by omega))
theorem r_yard {b : Int} {M : Me} (h : Rel b M) (x y z u : Int) : Both 2 2 mX11_yard mX12_yard [.inl x, .inl y, .inl z, .inl u] b M := o_yard h.1 h.2.2.1 x y z u _ (fun M' f => h.fr (fun k i q => by unfold dep at q; exact f k i (by omega) (by omega) (by omega) (by omega)))
theorem r_trees {b : Int} {M : Me} (h : Rel b M) : Both 2 2 mX11_trees mX12_trees [] b M := o_trees h.1 h.2.2.1 _ (fun M' f => h.fr (fun k i q => by unfold dep at q; exact f k i (by omega) (by omega) (by omega) (by omega)))
theorem r_fence {b : Int} {M : Me} (h : Rel b M) (x : Int) : Both 3 3 mX11_fence mX12_fence [.inl x] b M := o_fence h.1 h.2.2.1 x _ (fun M' f => h.fr (fun k i q => by unfold dep at q; exact f k i (by omega) (by omega) (by omega) (by omega) (by omega) (by omega)))
theorem r_paths {b : Int} {M : Me} (h : Rel b M) : Both 3 2 mX11_paths mX12_paths [] b M := o_paths h.1 h.2.2.1 _ (fun M' f => h.fr (fun k i q => by unfold dep at q; exact f k i (by omega) (by omega) (by omega) (by omega) (by omega) (by omega)))
theorem r_round {b : Int} {M : Me} (h : Rel b M) (x y : Int) : Both 4 3 mX11_round mX12_round [.inl x, .inl y] b M := o_round h.1 x y _ (h.up (by omega)) (fun M' f => h.fr (fun k i q => by unfold dep at q; exact f k i (by omega) (by omega) (by omega) (by omega) (by omega) (by omega) (by omega)))
theorem r_words {b : Int} {M : Me} (h : Rel b M) (x y : Int) : Both 2 2 mX11_words mX12_words [.inl x, .inl y] b M := o_words h.1 h.2.2.1 h.2.2.2.2.1 h.2.1 x y _ (h.up (by omega)) (fun M' f t1 t2 => h.cl t1 t2 (fun k i q => by unfold dep at q; exact f k i (by omega) (by omega) (by omega) (by omega) (by omega) (by omega) (by omega) (by omega)))
theorem r_marriages {b : Int} {M : Me} (h : Rel b M) (x y : Int) : Both 61 2 mX11_marriages mX12_marriages [.inl x, .inl y] b M := o_marriages h.2.2.2.2.1 x y _ (h.up (by omega)) (fun M' f t1 t2 => h.cl t1 t2 (fun k i q => by unfold dep at q; exact f k i (by omega) (by omega) (by omega) (by omega)))
theorem r_orders {b : Int} {M : Me} (h : Rel b M) (x y z : Int) : Both 2 2 mX11_orders mX12_orders [.inl x, .inl y, .inl z] b M := o_orders h.2.2.2.2.1 x y z _ (h.up (by omega)) (fun M' f t1 t2 => h.cl t1 t2 (fun k i q => by unfold dep at q; exact f k i (by omega) (by omega) (by omega) (by omega) (by omega) (by omega)))
theorem r_check {b : Int} {M : Me} (h : Rel b M) (x : Int) : Both 1 2 mX11_check mX12_check [.inl x] b M := by
  refine o_check h.1 h.2.2.1 h.2.2.2.2.1 x _ (h.cl ?_ (mput_same ..) (fun k i q => ?_)) (h.up (by omega))
  · rw [mput_ne _ _ _ _ (by decide), mput_same]
  · unfold dep at q
    unfold mput
    rw [if_neg (by omega), if_neg (by omega)]
theorem r_count {b : Int} {M : Me} (h : Rel b M) (x : Int) : Both 1 1 mX11_count mX12_count [.inl x] b M := by
  obtain ⟨L, hC, hR, hW⟩ := h.2.2.2.2.2.1
  exact o_count h.1 h.2.2.1 h.2.2.2.2.1.1 (hR.1.trans hC.1.symm) x _ (h.up (by omega))
theorem r_seed {b : Int} {M : Me} (h : Rel b M) (x : Int) : Both 0 1 mX11_seed mX12_seed [.inl x] b M := by
  refine o_seed x _ (fun q1 q2 => ?_) (h.up (by omega))
  obtain ⟨M', hM'⟩ : ∃ M', mput (mput M 37 6 x) 77 81 x = M' := ⟨_, rfl⟩
  rw [hM']
  have o : ∀ k i, ¬ (k = 37 ∧ i = 6) → ¬ (k = 77 ∧ i = 81) → M' k i = M k i := fun k i a c => by rw [← hM']; unfold mput; rw [if_neg c, if_neg a]
  obtain ⟨a1, a2, a3, a4, a5, a6, a7, a8⟩ := h
  have e8 : M' 3 8 = M 3 8 := o 3 8 (by omega) (by omega)
  refine ⟨a1.mv2 e8 (o 76 11 (by omega) (by omega)) (fun k i z => o k i (by omega) (by omega)), a2.mv e8 (fun k i x y => o k i (by omega) (by omega)), ?_, a4.mv (fun i => o 0 i (by omega) (by omega)) (o 76 64 (by omega) (by omega)) (o 76 65 (by omega) (by omega)) (fun k i x y => o k i (by omega) (by omega)) (fun i x y => o 79 i (by omega) (by omega)), a5.mv (o 1 1 (by omega) (by omega)) (o 76 13 (by omega) (by omega)) (fun i => o 2 i (by omega) (by omega)) (fun i => o 88 i (by omega) (by omega)), a6.mv (o 22 6 (by omega) (by omega)) (fun k i x y => o k i (by omega) (by omega)) (o 76 22 (by omega) (by omega)) (fun k i x y => o k i (by omega) (by omega)), by rw [o 76 44 (by omega) (by omega)]; exact a7, by rw [o 76 44 (by omega) (by omega)]; omega⟩
  rw [e8]
  have n16 := a1.2.1
  obtain ⟨h1, h2, h3, h4, h5⟩ := a3
  refine ⟨fun c c0 c1 => ?_, by rw [o 37 5 (by omega) (by omega)]; exact h2, ?_, by rw [o 77 80 (by omega) (by omega), o 37 5 (by omega) (by omega)]; exact h4, ?_⟩
  · simp only [Nat.reduceAdd] at h1 ⊢
    rw [o 38 c (by omega) (by omega), o 39 c (by omega) (by omega), o 40 c (by omega) (by omega), o 41 c (by omega) (by omega), o 42 c (by omega) (by omega), o 77 c (by omega) (by omega), o 77 (16 + c) (by omega) (by omega), o 77 (32 + c) (by omega) (by omega), o 77 (48 + c) (by omega) (by omega), o 77 (64 + c) (by omega) (by omega)]
    exact h1 c c0 c1
  · have : M' 37 6 = x := by rw [← hM', mput_ne _ _ _ _ (by decide), mput_same]
    omega
  · have e1 : M' 37 6 = x := by rw [← hM', mput_ne _ _ _ _ (by decide), mput_same]
    have e2 : M' 77 81 = x := by rw [← hM', mput_same]
    rw [e1, e2]
theorem r_keep {b : Int} {M : Me} (h : Rel b M) : Both 2 1 mX11_keep mX12_keep [] b M := by
  obtain ⟨a1, a2, a3, a4, a5, a6, a7, a8⟩ := h
  have n0 := a1.1
  have n16 := a1.2.1
  have n76 := a1.2.2.1
  refine x_keep n0 n16 (m_keep ?_)
  obtain ⟨M1, hM1⟩ : ∃ M1, mput (mput (cpM M 37 43 (M 3 8)) 0 14 (M 3 8)) 0 13 1 = M1 := ⟨_, rfl⟩
  rw [hM1]
  have c1 : ∀ k i, (k < 43 ∨ 48 < k) → k ≠ 0 → M1 k i = M k i := fun k i x y => by
    rw [← hM1, mput_ne _ _ _ _ y, mput_ne _ _ _ _ y]
    unfold cpM
    rw [if_neg (by omega), if_neg (by omega)]
  have c2 : ∀ k i, k = 44 ∨ k = 45 ∨ k = 46 ∨ k = 47 ∨ k = 48 → 0 ≤ i → i < M 3 8 → M1 k i = M (37 + (k - 43)) i := fun k i x y z => by
    rw [← hM1, mput_ne _ _ _ _ (by omega), mput_ne _ _ _ _ (by omega)]
    unfold cpM
    rw [if_neg (by omega), if_pos (by omega)]
  have c5 : M1 43 5 = M 37 5 := by rw [← hM1, mput_ne _ _ _ _ (by decide), mput_ne _ _ _ _ (by decide)]; unfold cpM; rw [if_pos (by omega)]
  have c6 : M1 43 6 = M 37 6 := by rw [← hM1, mput_ne _ _ _ _ (by decide), mput_ne _ _ _ _ (by decide)]; unfold cpM; rw [if_pos (by omega)]
  have c13 : M1 0 13 = 1 := by rw [← hM1, mput_same]
  have c14 : M1 0 14 = M 3 8 := by rw [← hM1, mput_ni _ _ _ _ (by decide), mput_same]
  obtain ⟨M2, hM2⟩ : ∃ M2, mcopy (mput (mput M1 76 64 1) 76 65 (M1 76 11)) 77 79 82 = M2 := ⟨_, rfl⟩
  rw [hM2]
  have d1 : ∀ k i, k ≠ 79 → ¬ (k = 76 ∧ (i = 64 ∨ i = 65)) → M2 k i = M1 k i := fun k i x y => by
    rw [← hM2, mcopy_ne _ _ _ x]
    unfold mput
    rw [if_neg (by omega), if_neg (by omega)]
  have d79 : ∀ i, 0 ≤ i → i < 82 → M2 79 i = M 77 i := fun i x y => by
    rw [← hM2, mcopy_at _ _ _ x y, mput_ne _ _ _ _ (by decide), mput_ne _ _ _ _ (by decide)]
    exact c1 77 i (by omega) (by omega)
  have d64 : M2 76 64 = 1 := by rw [← hM2, mcopy_ne _ _ _ (by decide), mput_ni _ _ _ _ (by decide), mput_same]
  have d65 : M2 76 65 = M 3 8 := by rw [← hM2, mcopy_ne _ _ _ (by decide), mput_same, c1 76 11 (by omega) (by omega)]; exact n76
  have D : ∀ k i, (k < 43 ∨ 48 < k) → k ≠ 0 → k ≠ 79 → ¬ (k = 76 ∧ (i = 64 ∨ i = 65)) → M2 k i = M k i := fun k i x y z w => by rw [d1 k i z w]; exact c1 k i x y
  have e8 : M2 3 8 = M 3 8 := D 3 8 (by omega) (by omega) (by omega) (by omega)
  have s5 := a3.2.2.2.1
  refine ⟨by rw [c1 77 80 (by omega) (by omega)]; exact s5.symm, a1.mv2 e8 (D 76 11 (by omega) (by omega) (by omega) (by omega)) (fun k i z => D k i (by omega) (by omega) (by omega) (by omega)), a2.mv e8 (fun k i x y => D k i (by omega) (by omega) (by omega) (by omega)), ?_, ⟨by rw [d64, d1 0 13 (by omega) (by omega), c13], by rw [d1 0 13 (by omega) (by omega), c13]; omega, fun _ => ?_⟩, a5.mv (D 1 1 (by omega) (by omega) (by omega) (by omega)) (D 76 13 (by omega) (by omega) (by omega) (by omega)) (fun i => D 2 i (by omega) (by omega) (by omega) (by omega)) (fun i => D 88 i (by omega) (by omega) (by omega) (by omega)), a6.mv (D 22 6 (by omega) (by omega) (by omega) (by omega)) (fun k i x y => D k i (by omega) (by omega) (by omega) (by omega)) (D 76 22 (by omega) (by omega) (by omega) (by omega)) (fun k i x y => D k i (by omega) (by omega) (by omega) (by omega)), by rw [D 76 44 (by omega) (by omega) (by omega) (by omega)]; exact a7, by rw [D 76 44 (by omega) (by omega) (by omega) (by omega)]; omega⟩
  · rw [e8]
    exact a3.mv2 n16 (fun k i x y => D k i (by omega) (by omega) (by omega) (by omega)) (fun i x y => D 77 i (by omega) (by omega) (by omega) (by omega))
  · have e14 : M2 0 14 = M 3 8 := by rw [d1 0 14 (by omega) (by omega)]; exact c14
    rw [e14, d65]
    refine ⟨rfl, n0, n16, ?_⟩
    obtain ⟨h1, h2, h3, h4, h5⟩ := a3
    simp only [Nat.reduceAdd] at h1
    refine ⟨fun c q0 q1 => ?_, by rw [d1 43 5 (by omega) (by omega), c5]; exact h2, by rw [d1 43 6 (by omega) (by omega), c6]; exact h3, by rw [d79 80 (by omega) (by omega), d1 43 5 (by omega) (by omega), c5]; exact h4, by rw [d79 81 (by omega) (by omega), d1 43 6 (by omega) (by omega), c6]; exact h5⟩
    simp only [Nat.reduceAdd]
    have g : ∀ k, k = 44 ∨ k = 45 ∨ k = 46 ∨ k = 47 ∨ k = 48 → M2 k c = M (37 + (k - 43)) c := fun k x => by rw [d1 k c (by omega) (by omega)]; exact c2 k c x q0 q1
    have g1 := g 44 (by omega)
    have g2 := g 45 (by omega)
    have g3 := g 46 (by omega)
    have g4 := g 47 (by omega)
    have g5 := g 48 (by omega)
    simp only [Nat.reduceSub, Nat.reduceAdd] at g1 g2 g3 g4 g5
    rw [g1, g2, g3, g4, g5, d79 c q0 (by omega), d79 (16 + c) (by omega) (by omega), d79 (32 + c) (by omega) (by omega), d79 (48 + c) (by omega) (by omega), d79 (64 + c) (by omega) (by omega)]
    exact h1 c q0 q1
theorem r_undo {b : Int} {M : Me} (h : Rel b M) : Both 2 1 mX11_undo mX12_undo [] b M := by
  have hh := h
  obtain ⟨a1, a2, a3, a4, a5, a6, a7, a8⟩ := h
  have n0 := a1.1
  have n16 := a1.2.1
  have n76 := a1.2.2.1
  obtain ⟨k1, k2, k3⟩ := a4
  refine x_undo n0 n16 (fun z => (k3 (by omega)).2.1) (fun z => ?_) (fun z => m_undo (by omega) (by omega) (fun y => by exfalso; omega) (fun y => by exfalso; omega) (fun _ => ⟨rfl, hh.up (by omega)⟩))
  obtain ⟨e65, t0, t16, kst⟩ := k3 (by omega)
  obtain ⟨m, hm⟩ : ∃ m, min (M 0 14) (M 3 8) = m := ⟨_, rfl⟩
  rw [hm]
  obtain ⟨M1, hM1⟩ : ∃ M1, cpM M 43 37 m = M1 := ⟨_, rfl⟩
  rw [hM1]
  have c1 : ∀ k i, (k < 37 ∨ 42 < k) → M1 k i = M k i := fun k i x => by
    rw [← hM1]
    unfold cpM
    rw [if_neg (by omega), if_neg (by omega)]
  have c2 : ∀ k i, k = 38 ∨ k = 39 ∨ k = 40 ∨ k = 41 ∨ k = 42 → 0 ≤ i → i < m → M1 k i = M (43 + (k - 37)) i := fun k i x y z => by
    rw [← hM1]
    unfold cpM
    rw [if_neg (by omega), if_pos (by omega)]
  have c3 : ∀ k i, k = 38 ∨ k = 39 ∨ k = 40 ∨ k = 41 ∨ k = 42 → m ≤ i → M1 k i = M k i := fun k i x y => by
    rw [← hM1]
    unfold cpM
    rw [if_neg (by omega), if_neg (by omega)]
  have c5 : M1 37 5 = M 43 5 := by rw [← hM1]; unfold cpM; rw [if_pos (by omega)]
  have c6 : M1 37 6 = M 43 6 := by rw [← hM1]; unfold cpM; rw [if_pos (by omega)]
  have q11 : M1 76 11 = M 76 11 := c1 76 11 (by omega)
  have q64 : M1 76 64 = M 76 64 := c1 76 64 (by omega)
  have q65 : M1 76 65 = M 76 65 := c1 76 65 (by omega)
  refine m_undo (by omega) (by omega) (fun _ => by omega) (fun _ => ?_) (fun y => by exfalso; omega)
  have em : min (M1 76 11) (M1 76 65) = m := by omega
  rw [em, c1 79 80 (by omega), c1 79 81 (by omega)]
  obtain ⟨M2, hM2⟩ : ∃ M2, mput (mput (und M1 m 0) 77 80 (M 79 80)) 77 81 (M 79 81) = M2 := ⟨_, rfl⟩
  rw [hM2]
  have d1 : ∀ k i, k ≠ 77 → M2 k i = M1 k i := fun k i x => by
    rw [← hM2, mput_ne _ _ _ _ x, mput_ne _ _ _ _ x]
    unfold und
    rw [if_neg (by omega)]
  have d80 : M2 77 80 = M 79 80 := by rw [← hM2, mput_ni _ _ _ _ (by decide), mput_same]
  have d81 : M2 77 81 = M 79 81 := by rw [← hM2, mput_same]
  have d2 : ∀ i, 0 ≤ i → i < 80 → i % 16 < m → M2 77 i = M 79 i := fun i x y w => by
    rw [← hM2, mput_ni _ _ _ _ (by omega), mput_ni _ _ _ _ (by omega)]
    unfold und
    rw [if_pos (by omega)]
    exact c1 79 i (by omega)
  have d3 : ∀ i, 0 ≤ i → i < 80 → m ≤ i % 16 → M2 77 i = M 77 i := fun i x y w => by
    rw [← hM2, mput_ni _ _ _ _ (by omega), mput_ni _ _ _ _ (by omega)]
    unfold und
    rw [if_neg (by omega)]
    exact c1 77 i (by omega)
  have D : ∀ k i, (k < 37 ∨ 42 < k) → k ≠ 77 → M2 k i = M k i := fun k i x y => by rw [d1 k i y]; exact c1 k i x
  have e8 : M2 3 8 = M 3 8 := D 3 8 (by omega) (by omega)
  refine ⟨rfl, a1.mv2 e8 (D 76 11 (by omega) (by omega)) (fun k i z => D k i (by omega) (by omega)), a2.mv e8 (fun k i x y => D k i (by omega) (by omega)), ?_, RKept.mv ⟨k1, k2, k3⟩ (fun i => D 0 i (by omega) (by omega)) (D 76 64 (by omega) (by omega)) (D 76 65 (by omega) (by omega)) (fun k i x y => D k i (by omega) (by omega)) (fun i x y => D 79 i (by omega) (by omega)), a5.mv (D 1 1 (by omega) (by omega)) (D 76 13 (by omega) (by omega)) (fun i => D 2 i (by omega) (by omega)) (fun i => D 88 i (by omega) (by omega)), a6.mv (D 22 6 (by omega) (by omega)) (fun k i x y => D k i (by omega) (by omega)) (D 76 22 (by omega) (by omega)) (fun k i x y => D k i (by omega) (by omega)), by rw [D 76 44 (by omega) (by omega)]; exact a7, by rw [D 76 44 (by omega) (by omega)]; omega⟩
  rw [e8]
  obtain ⟨h1, h2, h3, h4, h5⟩ := a3
  obtain ⟨g1, g2, g3, g4, g5⟩ := kst
  simp only [Nat.reduceAdd] at h1 g1
  refine ⟨fun c q0 q1 => ?_, by rw [d1 37 5 (by omega), c5]; exact g2, by rw [d1 37 6 (by omega), c6]; exact g3, by rw [d80, d1 37 5 (by omega), c5]; exact g4, by rw [d81, d1 37 6 (by omega), c6]; exact g5⟩
  simp only [Nat.reduceAdd]
  rw [d1 38 c (by omega), d1 39 c (by omega), d1 40 c (by omega), d1 41 c (by omega), d1 42 c (by omega)]
  by_cases q : c < m
  · have w1 := c2 38 c (by omega) q0 q
    have w2 := c2 39 c (by omega) q0 q
    have w3 := c2 40 c (by omega) q0 q
    have w4 := c2 41 c (by omega) q0 q
    have w5 := c2 42 c (by omega) q0 q
    simp only [Nat.reduceSub, Nat.reduceAdd] at w1 w2 w3 w4 w5
    rw [w1, w2, w3, w4, w5, d2 c q0 (by omega) (by omega), d2 (16 + c) (by omega) (by omega) (by omega), d2 (32 + c) (by omega) (by omega) (by omega), d2 (48 + c) (by omega) (by omega) (by omega), d2 (64 + c) (by omega) (by omega) (by omega)]
    exact g1 c q0 (by omega)
  · rw [c3 38 c (by omega) (by omega), c3 39 c (by omega) (by omega), c3 40 c (by omega) (by omega), c3 41 c (by omega) (by omega), c3 42 c (by omega) (by omega), d3 c q0 (by omega) (by omega), d3 (16 + c) (by omega) (by omega) (by omega), d3 (32 + c) (by omega) (by omega) (by omega), d3 (48 + c) (by omega) (by omega) (by omega), d3 (64 + c) (by omega) (by omega) (by omega)]
    exact h1 c q0 q1
