/-! ===== loops over the cuts ===== -/
def iter {α : Type} (step : Int → α → α) : Nat → Int → α → α
  | 0, _, a => a
  | k + 1, c, a => iter step k (c + 1) (step c a)
theorem iter_congr {α : Type} {f g : Int → α → α} : ∀ (k : Nat) (c : Int) (a : α), (∀ i, c ≤ i → i < c + k → ∀ x, f i x = g i x) → iter f k c a = iter g k c a
  | 0, _, _, _ => rfl
  | k + 1, c, a, h => by
    simp only [iter]
    rw [h c (by omega) (by omega)]
    exact iter_congr k (c + 1) _ (fun i h1 h2 x => h i (by omega) (by omega) x)
def bitS (p : Int → Prop) [DecidablePred p] (c acc : Int) : Int := if p c then bor acc (bshl 1 c) else acc
theorem p_X12_isCut {a : Int} {M : Me} {Q : Int → Me → Prop} (hn : 0 ≤ M 76 11) (h : (0 ≤ a ∧ a < M 76 11 → Q 1 M) ∧ (¬ (0 ≤ a ∧ a < M 76 11) → Q 0 M)) : Calls 1 mX12_isCut [.inr 76, .inl a] M Q := by
  refine Calls.known (fun hM _ => ?_)
  have := hM 76 11
  unfold cn at this
  refine e_X12_isCut ⟨?_, fun v => h.1 (by omega), fun v => h.2 (by omega)⟩
  unfold cn
  omega
/-! who -/
def whoP (f s : Int → Int) (l : Int) : Int → Prop := fun c => f c = l ∨ s c = l
theorem l_X11_who {Q : Int → Me → Prop} {M : Me} {a : Int} (hn : M 3 8 ≤ 16) : ∀ (k : Nat) (acc c : Int), 0 ≤ c → c + k = M 3 8 → Q (iter (bitS (fun c => M 5 c = a ∨ M 6 c = a)) k c acc) M → Go (km 0 mX11_who Q) 16 [some (.inr 0), some (.inl a), some (.inl acc), some (.inl c)] [] M := by
  intro k
  induction k with
  | zero => intro acc c h0 hk hQ; exact s_X11_who_16 a acc c M ⟨fun v1 => (by first | exact hQ | (exfalso; omega)), fun v1 => ⟨by first | omega | (unfold cn; omega), ⟨fun v2 => ⟨by first | omega | (unfold cn; omega), (by first | exact hQ | (exfalso; omega))⟩, fun v2 => ⟨by first | omega | (unfold cn; omega), ⟨fun v3 => ⟨by first | omega | (unfold cn; omega), (by first | exact hQ | (exfalso; omega))⟩, fun v3 => ⟨by first | omega | (unfold cn; omega), (by first | exact hQ | (exfalso; omega))⟩⟩⟩⟩⟩⟩
  | succ k ih =>
    intro acc c h0 hk hQ
    simp only [iter, bitS] at hQ
    exact s_X11_who_16 a acc c M ⟨fun v1 => (by exfalso; omega), fun v1 => ⟨by first | omega | (unfold cn; omega), ⟨fun v2 => ⟨by first | omega | (unfold cn; omega), (by refine ih _ _ (by omega) (by omega) ?_; simpa [*] using hQ)⟩, fun v2 => ⟨by first | omega | (unfold cn; omega), ⟨fun v3 => ⟨by first | omega | (unfold cn; omega), (by refine ih _ _ (by omega) (by omega) ?_; simpa [*] using hQ)⟩, fun v3 => ⟨by first | omega | (unfold cn; omega), (by refine ih _ _ (by omega) (by omega) ?_; simpa [*] using hQ)⟩⟩⟩⟩⟩⟩
theorem x_who {Q : Int → Me → Prop} {M : Me} {a : Int} (hn0 : 0 ≤ M 3 8) (hn : M 3 8 ≤ 16) (h : Q (if 0 ≤ a ∧ a < 16 then iter (bitS (fun c => M 5 c = a ∨ M 6 c = a)) (M 3 8).toNat 0 0 else -1) M) : Calls 0 mX11_who [.inr 0, .inl a] M Q := by
  refine e_X11_who ⟨fun v1 => (by rw [if_neg (by omega)] at h; exact h), fun v1 => ⟨fun v2 => (by rw [if_pos (by omega)] at h; exact l_X11_who hn _ _ _ (by omega) (by omega) h), fun v2 => (by rw [if_neg (by omega)] at h; exact h)⟩⟩
theorem l_X12_who {Q : Int → Me → Prop} {M : Me} {a : Int} (hn : M 76 11 ≤ 16) : ∀ (k : Nat) (acc c : Int), 0 ≤ c → c + k = M 76 11 → Q (iter (bitS (fun c => M 81 c = a ∨ M 82 c = a)) k c acc) M → Go (km 1 mX12_who Q) 16 [some (.inr 76), some (.inl a), some (.inl acc), some (.inl c)] [] M := by
  intro k
  induction k with
  | zero => intro acc c h0 hk hQ; exact s_X12_who_16 a acc c M ⟨fun v1 => (by first | exact hQ | (exfalso; omega)), fun v1 => ⟨by first | omega | (unfold cn; omega), ⟨fun v2 => ⟨by first | omega | (unfold cn; omega), (by first | exact hQ | (exfalso; omega))⟩, fun v2 => ⟨by first | omega | (unfold cn; omega), ⟨fun v3 => ⟨by first | omega | (unfold cn; omega), (by first | exact hQ | (exfalso; omega))⟩, fun v3 => ⟨by first | omega | (unfold cn; omega), (by first | exact hQ | (exfalso; omega))⟩⟩⟩⟩⟩⟩
  | succ k ih =>
    intro acc c h0 hk hQ
    simp only [iter, bitS] at hQ
    exact s_X12_who_16 a acc c M ⟨fun v1 => (by exfalso; omega), fun v1 => ⟨by first | omega | (unfold cn; omega), ⟨fun v2 => ⟨by first | omega | (unfold cn; omega), (by refine ih _ _ (by omega) (by omega) ?_; simpa [*] using hQ)⟩, fun v2 => ⟨by first | omega | (unfold cn; omega), ⟨fun v3 => ⟨by first | omega | (unfold cn; omega), (by refine ih _ _ (by omega) (by omega) ?_; simpa [*] using hQ)⟩, fun v3 => ⟨by first | omega | (unfold cn; omega), (by refine ih _ _ (by omega) (by omega) ?_; simpa [*] using hQ)⟩⟩⟩⟩⟩⟩
theorem m_who {Q : Int → Me → Prop} {M : Me} {a : Int} (hn0 : 0 ≤ M 76 11) (hn : M 76 11 ≤ 16) (h : Q (if 0 ≤ a ∧ a < 16 then iter (bitS (fun c => M 81 c = a ∨ M 82 c = a)) (M 76 11).toNat 0 0 else -1) M) : Calls 1 mX12_who [.inr 76, .inl a] M Q := by
  refine e_X12_who ⟨fun v1 => (by rw [if_pos (by omega)] at h; exact l_X12_who hn _ _ _ (by omega) (by omega) h), fun v1 => (by rw [if_neg (by omega)] at h; exact h)⟩
