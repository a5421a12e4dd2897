/-! ===== check ===== -/
def firstP (p : Int → Prop) (n r : Int) : Prop := (r = -1 ∧ ∀ c, 0 ≤ c → c < n → ¬ p c) ∨ (0 ≤ r ∧ r < n ∧ p r ∧ ∀ c, 0 ≤ c → c < r → ¬ p c)
theorem firstP_uniq {p : Int → Prop} {n r r' : Int} (h : firstP p n r) (h' : firstP p n r') : r = r' := by
  rcases h with ⟨a1, a2⟩ | ⟨a1, a2, a3, a4⟩ <;> rcases h' with ⟨b1, b2⟩ | ⟨b1, b2, b3, b4⟩
  · omega
  · exact absurd b3 (a2 r' b1 b2)
  · exact absurd a3 (b2 r a1 a2)
  · by_cases q : r < r'
    · exact absurd a3 (b4 r a1 q)
    · by_cases q2 : r' < r
      · exact absurd b3 (a4 r' b1 q2)
      · omega
def due (M : Me) (c : Int) : Int := if 0 ≤ c ∧ c < M 3 8 then M 40 c else 255
theorem l_X11_check {M : Me} {Q : Int → Me → Prop} {n : Int} (h16 : M 3 8 ≤ 16) (ht : M 1 1 ≤ 260) (hn : n ≤ M 1 1) (hQ : ∀ r, firstP (fun c => M 2 c ≠ due M c) n r → Q r (mput M 1 1 0)) : ∀ (k : Nat) (c w : Int), c = (k : Int) - 1 → c < n → ((w = -1 ∧ ∀ i, c < i → i < n → ¬ M 2 i ≠ due M i) ∨ (c < w ∧ w < n ∧ M 2 w ≠ due M w ∧ ∀ i, c < i → i < w → ¬ M 2 i ≠ due M i)) → Go (km 1 mX11_check Q) 30 [some (.inr 0), none, some (.inl w), some (.inl c), none] [] M := by
  intro k
  induction k with
  | zero =>
    intro c w hc hcn hw
    have e : c = -1 := by omega
    subst e
    have hf : firstP (fun c => M 2 c ≠ due M c) n w := by
      rcases hw with ⟨a1, a2⟩ | ⟨a1, a2, a3, a4⟩
      · exact Or.inl ⟨a1, fun i i0 i1 => a2 i (by omega) i1⟩
      · exact Or.inr ⟨by omega, a2, a3, fun i i0 i1 => a4 i (by omega) i1⟩
    exact s_X11_check_30 w (-1) M ⟨fun _ => hQ w hf, fun v => by exfalso; omega⟩
  | succ k ih =>
    intro c w hc hcn hw
    have hup : M 2 c = due M c → Go (km 1 mX11_check Q) 30 [some (.inr 0), none, some (.inl w), some (.inl (c + -1)), none] [] M := fun q => by
      refine ih _ w (by omega) (by omega) ?_
      rcases hw with ⟨a1, a2⟩ | ⟨a1, a2, a3, a4⟩
      · refine Or.inl ⟨a1, fun i i0 i1 => ?_⟩
        by_cases e : i = c
        · subst e; exact fun z => z q
        · exact a2 i (by omega) i1
      · refine Or.inr ⟨by omega, a2, a3, fun i i0 i1 => ?_⟩
        by_cases e : i = c
        · subst e; exact fun z => z q
        · exact a4 i (by omega) i1
    have hset : M 2 c ≠ due M c → Go (km 1 mX11_check Q) 30 [some (.inr 0), none, some (.inl c), some (.inl (c + -1)), none] [] M := fun q => by
      refine ih _ c (by omega) (by omega) (Or.inr ⟨by omega, hcn, q, fun i i0 i1 => by omega⟩)
    have d1 : 0 ≤ c ∧ c < M 3 8 → due M c = M 40 c := fun q => if_pos q
    have d2 : ¬ (0 ≤ c ∧ c < M 3 8) → due M c = 255 := fun q => if_neg q
    exact s_X11_check_30 w c M ⟨fun v1 => (by exfalso; omega), fun v1 => ⟨fun v2 => ⟨by first | omega | (unfold cn; omega), ⟨by first | omega | (unfold cn; omega), ⟨fun v3 => ⟨fun v4 => ⟨by first | omega | (unfold cn; omega), (by first | (exfalso; omega) | exact hup (by have := d1 (by omega); omega) | exact hup (by have := d2 (by omega); omega) | exact hset (by have := d1 (by omega); omega) | exact hset (by have := d2 (by omega); omega))⟩, fun v4 => ⟨by first | omega | (unfold cn; omega), (by first | (exfalso; omega) | exact hup (by have := d1 (by omega); omega) | exact hup (by have := d2 (by omega); omega) | exact hset (by have := d1 (by omega); omega) | exact hset (by have := d2 (by omega); omega))⟩⟩, fun v3 => ⟨fun v4 => ⟨by first | omega | (unfold cn; omega), (by first | (exfalso; omega) | exact hup (by have := d1 (by omega); omega) | exact hup (by have := d2 (by omega); omega) | exact hset (by have := d1 (by omega); omega) | exact hset (by have := d2 (by omega); omega))⟩, fun v4 => ⟨by first | omega | (unfold cn; omega), (by first | (exfalso; omega) | exact hup (by have := d1 (by omega); omega) | exact hup (by have := d2 (by omega); omega) | exact hset (by have := d1 (by omega); omega) | exact hset (by have := d2 (by omega); omega))⟩⟩⟩⟩⟩, fun v2 => ⟨by first | omega | (unfold cn; omega), ⟨fun v3 => ⟨fun v4 => ⟨by first | omega | (unfold cn; omega), (by first | (exfalso; omega) | exact hup (by have := d1 (by omega); omega) | exact hup (by have := d2 (by omega); omega) | exact hset (by have := d1 (by omega); omega) | exact hset (by have := d2 (by omega); omega))⟩, fun v4 => ⟨by first | omega | (unfold cn; omega), (by first | (exfalso; omega) | exact hup (by have := d1 (by omega); omega) | exact hup (by have := d2 (by omega); omega) | exact hset (by have := d1 (by omega); omega) | exact hset (by have := d2 (by omega); omega))⟩⟩, fun v3 => ⟨by first | omega | (unfold cn; omega), (by first | (exfalso; omega) | exact hup (by have := d1 (by omega); omega) | exact hup (by have := d2 (by omega); omega) | exact hset (by have := d1 (by omega); omega) | exact hset (by have := d2 (by omega); omega))⟩⟩⟩⟩⟩
def dueM (M : Me) (c : Int) : Int := if 0 ≤ c ∧ c < M 76 11 then M 77 (32 + c) else 255
theorem l_X12_check {M : Me} {Q : Int → Me → Prop} {n : Int} (h0 : 0 ≤ M 76 11) (h16 : M 76 11 ≤ 16) (hn : n ≤ 16) (hQ : ∀ r, firstP (fun c => band (M 88 c) 255 ≠ dueM M c) n r → Q r M) : ∀ (k : Nat) (c : Int), 0 ≤ c → c + k = n → (∀ i, 0 ≤ i → i < c → ¬ band (M 88 i) 255 ≠ dueM M i) → Go (km 2 mX12_check Q) 28 [some (.inr 76), some (.inl n), some (.inl c)] [] M := by
  intro k
  induction k with
  | zero =>
    intro c c0 hc hp
    exact s_X12_check_28 n c M ⟨fun _ => hQ (-1) (Or.inl ⟨rfl, fun i i0 i1 => hp i i0 (by omega)⟩), fun v => by exfalso; omega⟩
  | succ k ih =>
    intro c c0 hc hp
    have d1 : 0 ≤ c ∧ c < M 76 11 → dueM M c = M 77 (32 + c) := fun q => if_pos q
    have d2 : ¬ (0 ≤ c ∧ c < M 76 11) → dueM M c = 255 := fun q => if_neg q
    have hup : band (M 88 c) 255 = dueM M c → Go (km 2 mX12_check Q) 28 [some (.inr 76), some (.inl n), some (.inl (c + 1))] [] M := fun q => ih _ (by omega) (by omega) (fun i i0 i1 => by
      by_cases e : i = c
      · subst e; exact fun z => z q
      · exact hp i i0 (by omega))
    have hfi : band (M 88 c) 255 ≠ dueM M c → Q c M := fun q => hQ c (Or.inr ⟨c0, by omega, q, hp⟩)
    exact s_X12_check_28 n c M ⟨fun v1 => (by first | (exfalso; omega) | exact hfi (by have := d1 (by omega); omega) | exact hfi (by have := d2 (by omega); omega)), fun v1 => ⟨by first | omega | (unfold cn; omega), ⟨by first | omega | (unfold cn; omega), ⟨fun v2 => ⟨by first | omega | (unfold cn; omega), ⟨by first | omega | (unfold cn; omega), ⟨fun v3 => ⟨by first | omega | (unfold cn; omega), (by first | (exfalso; omega) | exact hup (by have := d1 (by omega); omega) | exact hup (by have := d2 (by omega); omega))⟩, fun v3 => (by first | (exfalso; omega) | exact hfi (by have := d1 (by omega); omega) | exact hfi (by have := d2 (by omega); omega))⟩⟩⟩, fun v2 => ⟨fun v3 => ⟨by first | omega | (unfold cn; omega), (by first | (exfalso; omega) | exact hup (by have := d1 (by omega); omega) | exact hup (by have := d2 (by omega); omega))⟩, fun v3 => (by first | (exfalso; omega) | exact hfi (by have := d1 (by omega); omega) | exact hfi (by have := d2 (by omega); omega))⟩⟩⟩⟩⟩
theorem o_check {M : Me} (hC : RCuts M) (hS : RSt 37 77 (M 3 8) M) (hT : RTape M) (n : Int) (P : Me → Prop) (h1 : P (mput (mput M 1 1 0) 76 13 0)) (h2 : P M) : Calls 1 mX11_check [.inr 0, .inl n] M (fun r M1 => Calls 2 mX12_check [.inr 76, .inl n] M1 (fun r' M2 => r = r' ∧ P M2)) := by
  obtain ⟨c0, c1, c2, c3⟩ := hC
  obtain ⟨t1, t2, t3, t4⟩ := hT
  have s1 := hS.1
  simp only [Nat.reduceAdd] at s1
  by_cases hn : 0 ≤ n ∧ n ≤ 16 ∧ n ≤ M 1 1
  · have go : ∀ r, firstP (fun c => M 2 c ≠ due M c) n r → Calls 2 mX12_check [.inr 76, .inl n] (mput M 1 1 0) (fun r' M2 => r = r' ∧ P M2) := fun r hr => by
      have e1 : ∀ k i, k ≠ 1 → mput M 1 1 0 k i = M k i := fun k i hk => mput_ne M _ _ _ hk
      refine e_X12_check ?_
      rw [e1 76 13 (by decide)]
      refine ⟨fun _ => ⟨fun _ => ?_, fun v => by exfalso; omega⟩, fun v => by exfalso; omega⟩
      have e2 : ∀ k i, k ≠ 1 → ¬ (k = 76 ∧ i = 13) → mput (mput M 1 1 0) 76 13 0 k i = M k i := fun k i hk hi => by
        unfold mput
        rw [if_neg hi, if_neg (fun q => hk q.1)]
      have d11 := e2 76 11 (by decide) (by decide)
      refine l_X12_check (by rw [d11]; omega) (by rw [d11]; omega) hn.2.1 (fun r' hr' => ⟨?_, h1⟩) n.toNat 0 (by omega) (by omega) (fun i i0 i1 => by omega)
      refine firstP_uniq hr ?_
      have conv : ∀ c, 0 ≤ c → c < n → ((fun c => band (mput (mput M 1 1 0) 76 13 0 88 c) 255 ≠ dueM (mput (mput M 1 1 0) 76 13 0) c) c ↔ (fun c => M 2 c ≠ due M c) c) := fun c q0 q1 => by
        show (band (mput (mput M 1 1 0) 76 13 0 88 c) 255 ≠ dueM (mput (mput M 1 1 0) 76 13 0) c) ↔ (M 2 c ≠ due M c)
        have ed : dueM (mput (mput M 1 1 0) 76 13 0) c = due M c := by
          unfold dueM due
          rw [d11, c2, e2 77 _ (by decide) (fun q => by exact absurd q.1 (by decide))]
          by_cases hc : 0 ≤ c ∧ c < M 3 8
          · rw [if_pos hc, if_pos hc]
            exact (s1 c hc.1 hc.2).2.2.2.1
          · rw [if_neg hc, if_neg hc]
        rw [ed, e2 88 _ (by decide) (fun q => by exact absurd q.1 (by decide)), (t4 c q0 (by omega)).1]
      rcases hr' with ⟨a1, a2⟩ | ⟨a1, a2, a3, a4⟩
      · exact Or.inl ⟨a1, fun c q0 q1 z => a2 c q0 q1 ((conv c q0 q1).mpr z)⟩
      · exact Or.inr ⟨a1, a2, (conv r' a1 a2).mp a3, fun c q0 q1 z => a4 c q0 q1 ((conv c q0 (by omega)).mpr z)⟩
    refine e_X11_check ⟨fun v1 => (by exfalso; omega), fun v1 => ⟨fun v2 => (by exfalso; omega), fun v2 => ⟨fun v3 => ⟨by first | omega | (unfold cn; omega), (by exact l_X11_check c1 t3 hn.2.2 go n.toNat _ _ (by omega) (by omega) (Or.inl ⟨rfl, fun i i0 i1 => by omega⟩))⟩, fun v3 => (by exfalso; omega)⟩⟩⟩
  · have go : Calls 2 mX12_check [.inr 76, .inl n] M (fun r' M2 => (-2 : Int) = r' ∧ P M2) := by
      refine e_X12_check ⟨fun v1 => ⟨fun v2 => (by exfalso; omega), fun v2 => (by exact ⟨rfl, h2⟩)⟩, fun v1 => (by exact ⟨rfl, h2⟩)⟩
    refine e_X11_check ⟨fun v1 => (by exact go), fun v1 => ⟨fun v2 => (by exact go), fun v2 => ⟨fun v3 => ⟨by first | (unfold cn; omega) | (exfalso; omega), (by exfalso; omega)⟩, fun v3 => (by exact go)⟩⟩⟩
/-! ===== feed ===== -/
def ab (M : Me) (v : Int) : Me := mput (mput M 2 (M 1 1) v) 1 1 (M 1 1 + 1)
def tb (M : Me) (v : Int) : Me := mput (mput M 88 (M 76 13) v) 76 13 (M 76 13 + 1)
def byt (w s : Int) : Int := band (bshr w s) 255
theorem ab_1 (M : Me) (v : Int) : ab M v 1 1 = M 1 1 + 1 := mput_same _ _ _ _
theorem tb_1 (M : Me) (v : Int) : tb M v 76 13 = M 76 13 + 1 := mput_same _ _ _ _
def abw (M : Me) (w : Int) : Me := ab (ab (ab (ab M (byt w 24)) (byt w 16)) (byt w 8)) (byt w 0)
def tbw (M : Me) (w : Int) : Me := tb (tb (tb (tb M (bbyt (bbyt (bshr w 24)))) (bbyt (bbyt (bshr w 16)))) (bbyt (bbyt (bshr w 8)))) (bbyt (bbyt (bshr w 0)))
theorem p_X9_addWord {M : Me} {Q : Int → Me → Prop} {w : Int} (h0 : 0 ≤ M 1 1) (h1 : M 1 1 ≤ 256) (h : Q 0 (abw M w)) : Calls 0 mX9_addWord [.inr 1, .inl w] M Q := by
  have step : ∀ (M : Me) (s : Int), 0 ≤ M 1 1 → M 1 1 < 260 → 0 ≤ s → s ≤ 24 → Go (km 0 mX9_addWord Q) 3 [some (.inr 1), some (.inl w), some (.inl (s + -8))] [] (ab M (byt w s)) → Go (km 0 mX9_addWord Q) 3 [some (.inr 1), some (.inl w), some (.inl s)] [] M := fun M s a1 a2 a3 a4 hk =>
    s_X9_addWord_3 w s M ⟨fun v => by exfalso; omega, fun _ => ⟨fun v => by exfalso; omega, fun _ => ⟨by omega, by unfold cn; omega, by unfold cn; omega, hk⟩⟩⟩
  refine e_X9_addWord ?_
  refine step _ 24 (by omega) (by omega) (by omega) (by omega) (step _ 16 ?_ ?_ (by omega) (by omega) (step _ 8 ?_ ?_ (by omega) (by omega) (step _ 0 ?_ ?_ (by omega) (by omega) (s_X9_addWord_3 w _ _ ⟨fun _ => h, fun v => by exfalso; omega⟩)))) <;> simp only [ab_1] <;> omega
theorem p_X12_types {M : Me} {Q : Int → Me → Prop} {w : Int} (h0 : 0 ≤ M 76 13) (h1 : M 76 13 ≤ 256) (h : Q 0 (tbw M w)) : Calls 0 mX12_types [.inr 76, .inl w] M Q := by
  have step : ∀ (M : Me) (s : Int), 0 ≤ M 76 13 → M 76 13 < 260 → 0 ≤ s → s ≤ 3 → Go (km 0 mX12_types Q) 2 [some (.inr 76), some (.inl w), some (.inl (s + -1))] [] (tb M (bbyt (bbyt (bshr w (8 * s))))) → Go (km 0 mX12_types Q) 2 [some (.inr 76), some (.inl w), some (.inl s)] [] M := fun M s a1 a2 a3 a4 hk =>
    s_X12_types_2 w s M ⟨fun v => by exfalso; omega, fun _ => ⟨by unfold cn; omega, by omega, by unfold cn; omega, by unfold cn; omega, hk⟩⟩
  refine e_X12_types ?_
  refine step _ 3 (by omega) (by omega) (by omega) (by omega) (step _ 2 ?_ ?_ (by omega) (by omega) (step _ 1 ?_ ?_ (by omega) (by omega) (step _ 0 ?_ ?_ (by omega) (by omega) (s_X12_types_2 w _ _ ⟨fun _ => h, fun v => by exfalso; omega⟩)))) <;> simp only [tb_1] <;> omega
