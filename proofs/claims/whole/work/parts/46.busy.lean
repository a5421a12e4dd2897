/-! ===== how many homes at a place; the busiest ===== -/
def cntS (f : Int → Int) (p : Int) (c acc : Int) : Int := if f c = p then acc + 1 else acc
def cntP (f : Int → Int) (n : Int) (p : Int) : Int := iter (cntS f p) n.toNat 0 0
theorem l_X1_dwellersAt {Q : Int → Me → Prop} {M : Me} {o : Nat} (ho : isX1 o) {a : Int} (hn : M o 8 ≤ 16) : ∀ (k : Nat) (acc c : Int), 0 ≤ c → c + k = M o 8 → 0 ≤ acc → acc ≤ c → Q (iter (cntS (M (o + 8)) a) k c acc) M → Go (km 0 mX1_dwellersAt Q) 4 [some (.inr o), some (.inl a), some (.inl acc), some (.inl c)] [] M := by
  intro k
  induction k with
  | zero => intro acc c h0 hk i1 i2 hQ; exact s_X1_dwellersAt_4 ho a acc c M ⟨fun v1 => (by first | exact hQ | (exfalso; omega)), fun v1 => ⟨by first | omega | (unfold cn; omega), ⟨fun v2 => ⟨by first | omega | (unfold cn; omega), (by first | exact hQ | (exfalso; omega))⟩, fun v2 => ⟨by first | omega | (unfold cn; omega), ⟨by first | omega | (unfold cn; omega), (by first | exact hQ | (exfalso; omega))⟩⟩⟩⟩⟩
  | succ k ih =>
    intro acc c h0 hk i1 i2 hQ
    simp only [iter, cntS] at hQ
    exact s_X1_dwellersAt_4 ho a acc c M ⟨fun v1 => (by exfalso; omega), fun v1 => ⟨by first | omega | (unfold cn; omega), ⟨fun v2 => ⟨by first | omega | (unfold cn; omega), (by refine ih _ _ (by omega) (by omega) (by omega) (by omega) ?_; first | (rw [if_pos (by omega)] at hQ; exact hQ) | (rw [if_neg (by omega)] at hQ; exact hQ))⟩, fun v2 => ⟨by first | omega | (unfold cn; omega), ⟨by first | omega | (unfold cn; omega), (by refine ih _ _ (by omega) (by omega) (by omega) (by omega) ?_; first | (rw [if_pos (by omega)] at hQ; exact hQ) | (rw [if_neg (by omega)] at hQ; exact hQ))⟩⟩⟩⟩⟩
theorem p_X1_dwellersAt {o : Nat} (ho : isX1 o) {Q : Int → Me → Prop} {M : Me} {a : Int} (h0 : 0 ≤ M o 8) (hn : M o 8 ≤ 16) (h : Q (cntP (M (o + 8)) (M o 8) a) M) : Calls 0 mX1_dwellersAt [.inr o, .inl a] M Q := e_X1_dwellersAt ho (l_X1_dwellersAt ho hn _ _ _ (by omega) (by omega) (by omega) (by omega) h)
theorem l_X12_homesAt {Q : Int → Me → Prop} {M : Me} {a : Int} (hn : M 76 11 ≤ 16) : ∀ (k : Nat) (acc c : Int), 0 ≤ c → c + k = M 76 11 → 0 ≤ acc → acc ≤ c → Q (iter (cntS (M 87) a) k c acc) M → Go (km 0 mX12_homesAt Q) 4 [some (.inr 76), some (.inl a), some (.inl acc), some (.inl c)] [] M := by
  intro k
  induction k with
  | zero => intro acc c h0 hk i1 i2 hQ; exact s_X12_homesAt_4 a acc c M ⟨fun v1 => (by first | exact hQ | (exfalso; omega)), fun v1 => ⟨by first | omega | (unfold cn; omega), ⟨fun v2 => ⟨by first | omega | (unfold cn; omega), (by first | exact hQ | (exfalso; omega))⟩, fun v2 => ⟨by first | omega | (unfold cn; omega), ⟨by first | omega | (unfold cn; omega), (by first | exact hQ | (exfalso; omega))⟩⟩⟩⟩⟩
  | succ k ih =>
    intro acc c h0 hk i1 i2 hQ
    simp only [iter, cntS] at hQ
    exact s_X12_homesAt_4 a acc c M ⟨fun v1 => (by exfalso; omega), fun v1 => ⟨by first | omega | (unfold cn; omega), ⟨fun v2 => ⟨by first | omega | (unfold cn; omega), (by refine ih _ _ (by omega) (by omega) (by omega) (by omega) ?_; first | (rw [if_pos (by omega)] at hQ; exact hQ) | (rw [if_neg (by omega)] at hQ; exact hQ))⟩, fun v2 => ⟨by first | omega | (unfold cn; omega), ⟨by first | omega | (unfold cn; omega), (by refine ih _ _ (by omega) (by omega) (by omega) (by omega) ?_; first | (rw [if_pos (by omega)] at hQ; exact hQ) | (rw [if_neg (by omega)] at hQ; exact hQ))⟩⟩⟩⟩⟩
theorem p_X12_homesAt {Q : Int → Me → Prop} {M : Me} {a : Int} (h0 : 0 ≤ M 76 11) (hn : M 76 11 ≤ 16) (h : Q (cntP (M 87) (M 76 11) a) M) : Calls 0 mX12_homesAt [.inr 76, .inl a] M Q := e_X12_homesAt (l_X12_homesAt hn _ _ _ (by omega) (by omega) (by omega) (by omega) h)
theorem cnt_mono (f : Int → Int) (p : Int) : ∀ (k : Nat) (c acc : Int), acc ≤ iter (cntS f p) k c acc
  | 0, _, _ => by simp only [iter]; omega
  | k + 1, c, acc => by
    simp only [iter, cntS]
    by_cases hf : f c = p
    · rw [if_pos hf]
      have := cnt_mono f p k (c + 1) (acc + 1)
      omega
    · rw [if_neg hf]
      exact cnt_mono f p k (c + 1) acc
theorem cnt_pos (f : Int → Int) (p : Int) : ∀ (k : Nat) (c acc : Int), acc < iter (cntS f p) k c acc ↔ ∃ i, c ≤ i ∧ i < c + k ∧ f i = p
  | 0, c, acc => by
    simp only [iter]
    constructor
    · intro h; omega
    · rintro ⟨i, h1, h2, -⟩; omega
  | k + 1, c, acc => by
    simp only [iter, cntS]
    by_cases hf : f c = p
    · rw [if_pos hf]
      constructor
      · intro _; exact ⟨c, by omega, by omega, hf⟩
      · intro _
        have := cnt_mono f p k (c + 1) (acc + 1)
        omega
    · rw [if_neg hf]
      have := cnt_pos f p k (c + 1) acc
      rw [this]
      constructor
      · rintro ⟨i, h1, h2, h3⟩; exact ⟨i, by omega, by omega, h3⟩
      · rintro ⟨i, h1, h2, h3⟩
        by_cases e : i = c
        · subst e; exact absurd h3 hf
        · exact ⟨i, by omega, by omega, h3⟩
theorem cntP_nonneg (f : Int → Int) (n p : Int) : 0 ≤ cntP f n p := cnt_mono f p _ 0 0
theorem cntP_pos {f : Int → Int} {n p : Int} (hn : 0 ≤ n) : 0 < cntP f n p ↔ ∃ i, 0 ≤ i ∧ i < n ∧ f i = p := by
  unfold cntP
  rw [cnt_pos]
  constructor
  · rintro ⟨i, h1, h2, h3⟩; exact ⟨i, by omega, by omega, h3⟩
  · rintro ⟨i, h1, h2, h3⟩; exact ⟨i, by omega, by omega, h3⟩
/-- the busiest place, and how many live there -/
def busyP (f : Int → Int) (n best most : Int) : Prop := (∀ p, cntP f n p ≤ most) ∧ ((most = 0 ∧ best = -2) ∨ (0 < most ∧ cntP f n best = most ∧ ∀ p, cntP f n p = most → best ≤ p))
theorem busyP_uniq {f : Int → Int} {n b m b' m' : Int} (h : busyP f n b m) (h' : busyP f n b' m') : b = b' ∧ m = m' := by
  obtain ⟨h1, h2⟩ := h
  obtain ⟨g1, g2⟩ := h'
  rcases h2 with ⟨a1, a2⟩ | ⟨a1, a2, a3⟩ <;> rcases g2 with ⟨c1, c2⟩ | ⟨c1, c2, c3⟩
  · omega
  · have := h1 b'; omega
  · have := g1 b; omega
  · have q1 := h1 b'
    have q2 := g1 b
    have q3 := a3 b' (by omega)
    have q4 := c3 b (by omega)
    omega
theorem l_X11_busiest {Q : Int → Me → Prop} {M : Me} {w : Int} (h0 : 0 ≤ M 3 8) (hn : M 3 8 ≤ 16) (hQ : ∀ b m, busyP (M 11) (M 3 8) b m → Q (if w = 0 then b else m) M) : ∀ (k : Nat) (b m c : Int), 0 ≤ c → c + k = M 3 8 → (∀ i, 0 ≤ i → i < c → cntP (M 11) (M 3 8) (M 11 i) ≤ m) → ((m = 0 ∧ b = -2) ∨ (0 < m ∧ cntP (M 11) (M 3 8) b = m ∧ ∀ i, 0 ≤ i → i < c → cntP (M 11) (M 3 8) (M 11 i) = m → b ≤ M 11 i)) → Go (km 1 mX11_busiest Q) 19 [some (.inr 0), some (.inl w), some (.inl b), some (.inl m), some (.inl c), none, none] [] M := by
  intro k
  induction k with
  | zero =>
    intro b m c c0 hk i1 i2
    have hb : busyP (M 11) (M 3 8) b m := by
      have hle : ∀ p, cntP (M 11) (M 3 8) p ≤ m := by
        intro p
        by_cases hp : 0 < cntP (M 11) (M 3 8) p
        · obtain ⟨i, a1, a2, a3⟩ := (cntP_pos h0).mp hp
          have := i1 i a1 (by omega)
          rw [a3] at this
          exact this
        · omega
      refine ⟨hle, ?_⟩
      rcases i2 with q | ⟨q1, q2, q3⟩
      · exact Or.inl q
      · refine Or.inr ⟨q1, q2, fun p hp => ?_⟩
        obtain ⟨i, a1, a2, a3⟩ := (cntP_pos h0).mp (show 0 < cntP (M 11) (M 3 8) p by omega)
        have := q3 i a1 (by omega) (by rw [a3]; exact hp)
        omega
    have q := hQ b m hb
    exact s_X11_busiest_19 w b m c M ⟨fun _ => ⟨fun v => by rw [if_neg v] at q; exact q, fun v => by rw [if_pos v] at q; exact q⟩, fun v => by exfalso; omega⟩
  | succ k ih =>
    intro b m c c0 hk i1 i2
    refine s_X11_busiest_19 w b m c M ⟨fun v => by exfalso; omega, fun _ => ⟨by omega, ?_⟩⟩
    refine p_X1_dwellersAt (Or.inl rfl) h0 hn ?_
    simp only [Nat.reduceAdd]
    have hpos : 0 < cntP (M 11) (M 3 8) (M 11 c) := (cntP_pos h0).mpr ⟨c, c0, by omega, rfl⟩
    refine ⟨fun v => ⟨by unfold cn; omega, ?_⟩, fun v => ⟨fun v2 => ⟨by unfold cn; omega, ?_⟩, fun v2 => ⟨fun v3 => ⟨by unfold cn; omega, ?_⟩, fun v3 => ⟨by unfold cn; omega, ?_⟩⟩⟩⟩
    · refine ih _ _ _ (by omega) (by omega) (fun i a1 a2 => ?_) (Or.inr ⟨hpos, rfl, fun i a1 a2 a3 => ?_⟩)
      · by_cases e : i = c
        · subst e; exact Int.le_refl _
        · have := i1 i a1 (by omega); omega
      · by_cases e : i = c
        · subst e; exact Int.le_refl _
        · have := i1 i a1 (by omega); omega
    · refine ih _ _ _ (by omega) (by omega) (fun i a1 a2 => ?_) ?_
      · by_cases e : i = c
        · subst e; exact v
        · exact i1 i a1 (by omega)
      · rcases i2 with q | ⟨q1, q2, q3⟩
        · omega
        · refine Or.inr ⟨q1, q2, fun i a1 a2 a3 => ?_⟩
          by_cases e : i = c
          · subst e; exact absurd a3 v2
          · exact q3 i a1 (by omega) a3
    · refine ih _ _ _ (by omega) (by omega) (fun i a1 a2 => ?_) ?_
      · by_cases e : i = c
        · subst e; exact v
        · exact i1 i a1 (by omega)
      · rcases i2 with q | ⟨q1, q2, q3⟩
        · omega
        · refine Or.inr ⟨q1, q2, fun i a1 a2 a3 => ?_⟩
          by_cases e : i = c
          · subst e; exact v3
          · exact q3 i a1 (by omega) a3
    · refine ih _ _ _ (by omega) (by omega) (fun i a1 a2 => ?_) (Or.inr ⟨hpos, rfl, fun i a1 a2 a3 => ?_⟩)
      · by_cases e : i = c
        · subst e; exact Int.le_refl _
        · have := i1 i a1 (by omega); omega
      · by_cases e : i = c
        · subst e; exact Int.le_refl _
        · rcases i2 with q | ⟨q1, q2, q3⟩
          · omega
          · have := q3 i a1 (by omega) (by omega); omega
theorem l_X12_busiest {Q : Int → Me → Prop} {M : Me} {w : Int} (h0 : 0 ≤ M 76 11) (hn : M 76 11 ≤ 16) (hp : ∀ i, 0 ≤ i → i < M 76 11 → pl (M 87 i)) (hQ : ∀ b m, busyP (M 87) (M 76 11) b m → Q (if w = 0 then b else m) M) : ∀ (k : Nat) (b m p : Int), 0 ≤ p → p + k = 384 → (∀ i, 0 ≤ i → i < p → cntP (M 87) (M 76 11) i ≤ m) → ((m = 0 ∧ b = -2) ∨ (0 < m ∧ cntP (M 87) (M 76 11) b = m ∧ 0 ≤ b ∧ b < p ∧ ∀ i, 0 ≤ i → i < p → cntP (M 87) (M 76 11) i = m → b ≤ i)) → Go (km 1 mX12_busiest Q) 19 [some (.inr 76), some (.inl w), some (.inl b), some (.inl m), some (.inl p)] [] M := by
  have hpl : ∀ p, 0 < cntP (M 87) (M 76 11) p → pl p := fun p q => by
    obtain ⟨i, a1, a2, a3⟩ := (cntP_pos h0).mp q
    rw [← a3]; exact hp i a1 a2
  intro k
  induction k with
  | zero =>
    intro b m p p0 hk i1 i2
    have hb : busyP (M 87) (M 76 11) b m := by
      have m0 : 0 ≤ m := by rcases i2 with q | q <;> omega
      refine ⟨fun x => ?_, ?_⟩
      · by_cases hx : 0 < cntP (M 87) (M 76 11) x
        · have := hpl x hx; unfold pl at this; exact i1 x (by omega) (by omega)
        · omega
      · rcases i2 with q | ⟨q1, q2, q3, q4, q5⟩
        · exact Or.inl q
        · refine Or.inr ⟨q1, q2, fun x hx => ?_⟩
          have := hpl x (by omega)
          unfold pl at this
          exact q5 x (by omega) (by omega) hx
    have q := hQ b m hb
    exact s_X12_busiest_19 w b m p M ⟨fun _ => ⟨fun v => by rw [if_neg v] at q; exact q, fun v => by rw [if_pos v] at q; exact q⟩, fun v => by exfalso; omega⟩
  | succ k ih =>
    intro b m p p0 hk i1 i2
    refine s_X12_busiest_19 w b m p M ⟨fun v => by exfalso; omega, fun _ => ?_⟩
    refine p_X12_homesAt h0 hn ⟨fun v => p_X12_homesAt h0 hn ⟨by unfold cn; omega, ?_⟩, fun v => ⟨by unfold cn; omega, ?_⟩⟩
    · refine ih _ _ _ (by omega) (by omega) (fun i a1 a2 => ?_) (Or.inr ⟨by rcases i2 with q | q <;> omega, rfl, p0, by omega, fun i a1 a2 a3 => ?_⟩)
      · by_cases e : i = p
        · subst e; exact Int.le_refl _
        · have := i1 i a1 (by omega); omega
      · by_cases e : i = p
        · subst e; exact Int.le_refl _
        · have := i1 i a1 (by omega); omega
    · refine ih _ _ _ (by omega) (by omega) (fun i a1 a2 => ?_) ?_
      · by_cases e : i = p
        · subst e; exact v
        · exact i1 i a1 (by omega)
      · rcases i2 with q | ⟨q1, q2, q3, q4, q5⟩
        · exact Or.inl q
        · refine Or.inr ⟨q1, q2, q3, by omega, fun i a1 a2 a3 => ?_⟩
          by_cases e : i = p
          · omega
          · exact q5 i a1 (by omega) a3
theorem o_busiest {M : Me} (hC : RCuts M) (w : Int) (P : Me → Prop) (hP : P M) : Calls 1 mX11_busiest [.inr 0, .inl w] M (fun r M1 => Calls 1 mX12_busiest [.inr 76, .inl w] M1 (fun r' M2 => r = r' ∧ P M2)) := by
  obtain ⟨h0, h1, h2, h3⟩ := hC
  have hf : ∀ p, cntP (M 87) (M 76 11) p = cntP (M 11) (M 3 8) p := fun p => by
    unfold cntP
    rw [h2]
    exact iter_fun _ _ rfl _ (fun i i0 i1 x => by
      obtain ⟨-, -, -, -, -, -, -, -, e⟩ := h3 i i0 i1
      simp only [cntS, e])
  have hb : ∀ b m, busyP (M 87) (M 76 11) b m → busyP (M 11) (M 3 8) b m := fun b m h => by
    unfold busyP at h ⊢
    simp only [hf] at h
    exact h
  have hp87 : ∀ i, 0 ≤ i → i < M 76 11 → pl (M 87 i) := fun i a1 a2 => by
    obtain ⟨⟨-, -, -, -, -, -, -, q⟩, -, -, -, -, -, -, -, e⟩ := h3 i a1 (by omega)
    rw [e]; exact q
  have fin : ∀ b m b' m', busyP (M 11) (M 3 8) b m → busyP (M 87) (M 76 11) b' m' → (if w = 0 then b else m) = (if w = 0 then b' else m') := fun b m b' m' q1 q2 => by
    obtain ⟨e1, e2⟩ := busyP_uniq q1 (hb _ _ q2)
    rw [e1, e2]
  by_cases hw : w = 0 ∨ w = 1
  · have go : ∀ b m, busyP (M 11) (M 3 8) b m → Calls 1 mX12_busiest [.inr 76, .inl w] M (fun r' M2 => (if w = 0 then b else m) = r' ∧ P M2) := fun b m hbm => by
      refine e_X12_busiest ⟨fun v1 => (by exact l_X12_busiest (by omega) (by omega) hp87 (fun b' m' hb' => ⟨fin b m b' m' hbm hb', hP⟩) 384 _ _ _ (by omega) (by omega) (fun i a1 a2 => by omega) (Or.inl ⟨rfl, rfl⟩)), fun v1 => (by exfalso; omega)⟩
    refine e_X11_busiest ⟨fun v1 => (by exact l_X11_busiest h0 h1 go (M 3 8).toNat _ _ _ (by omega) (by omega) (fun i a1 a2 => by omega) (Or.inl ⟨rfl, rfl⟩)), fun v1 => ⟨fun v2 => (by exact l_X11_busiest h0 h1 go (M 3 8).toNat _ _ _ (by omega) (by omega) (fun i a1 a2 => by omega) (Or.inl ⟨rfl, rfl⟩)), fun v2 => (by exfalso; omega)⟩⟩
  · have go : Calls 1 mX12_busiest [.inr 76, .inl w] M (fun r' M2 => (-1 : Int) = r' ∧ P M2) := by
      refine e_X12_busiest ⟨fun v1 => (by exfalso; omega), fun v1 => (by exact ⟨rfl, hP⟩)⟩
    refine e_X11_busiest ⟨fun v1 => (by exfalso; omega), fun v1 => ⟨fun v2 => (by exfalso; omega), fun v2 => (by exact go)⟩⟩
