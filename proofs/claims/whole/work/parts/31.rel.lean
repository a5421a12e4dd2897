/-! ===== the relation between the class's cells and the reference's ===== -/
def RCuts (M : Me) : Prop := 0 ≤ M 3 8 ∧ M 3 8 ≤ 16 ∧ M 76 11 = M 3 8 ∧ ∀ c, 0 ≤ c → c < M 3 8 →
  (pl (M 4 c) ∧ (0 ≤ M 5 c ∧ M 5 c < 16) ∧ (-3 ≤ M 6 c ∧ M 6 c ≠ -1 ∧ M 6 c < 16) ∧ (M 7 c = 0 ∨ M 7 c = 1) ∧ (M 8 c = 0 ∨ M 8 c = 1) ∧ (M 9 c = 0 ∨ M 9 c = 1) ∧ (-2 ≤ M 10 c ∧ M 10 c ≤ 99) ∧ pl (M 11 c)) ∧
  (M 80 c = M 4 c ∧ M 81 c = M 5 c ∧ M 82 c = M 6 c ∧ M 83 c = M 7 c ∧ M 84 c = M 8 c ∧ M 85 c = M 9 c ∧ M 86 c = M 10 c ∧ M 87 c = M 11 c)
def RSt (o b : Nat) (n : Int) (M : Me) : Prop := (∀ c, 0 ≤ c → c < n →
  ((0 ≤ M (o + 1) c ∧ M (o + 1) c ≤ 4) ∧ pl (M (o + 2) c) ∧ (0 ≤ M (o + 3) c ∧ M (o + 3) c ≤ 99) ∧ (0 ≤ M (o + 4) c ∧ M (o + 4) c ≤ 9999) ∧ (M (o + 5) c = 0 ∨ M (o + 5) c = 1)) ∧
  (M b c = M (o + 1) c ∧ M b (16 + c) = M (o + 2) c ∧ M b (32 + c) = M (o + 3) c ∧ M b (48 + c) = M (o + 4) c ∧ M b (64 + c) = M (o + 5) c)) ∧
  (0 ≤ M o 5 ∧ M o 5 ≤ 9999) ∧ (0 ≤ M o 6 ∧ M o 6 ≤ 65535) ∧ M b 80 = M o 5 ∧ M b 81 = M o 6
def RKept (M : Me) : Prop := M 76 64 = M 0 13 ∧ (M 0 13 = 0 ∨ M 0 13 = 1) ∧ (M 0 13 = 1 → M 76 65 = M 0 14 ∧ 0 ≤ M 0 14 ∧ M 0 14 ≤ 16 ∧ RSt 43 79 (M 0 14) M)
def RTape (M : Me) : Prop := M 76 13 = M 1 1 ∧ 0 ≤ M 1 1 ∧ M 1 1 ≤ 260 ∧ ∀ i, 0 ≤ i → i < M 1 1 → band (M 88 i) 255 = M 2 i ∧ 0 ≤ M 2 i ∧ M 2 i ≤ 255
theorem iter_fun {α : Type} {f g : Int → α → α} (n m : Int) (hm : m = n) (a : α) (h : ∀ i, 0 ≤ i → i < n → ∀ x, f i x = g i x) : iter f n.toNat 0 a = iter g m.toNat 0 a := by
  subst hm
  exact iter_congr _ _ _ (fun i h1 h2 x => h i h1 (by omega) x)
theorem o_who {M : Me} (hC : RCuts M) (a : Int) (P : Me → Prop) (hP : P M) : Calls 0 mX11_who [.inr 0, .inl a] M (fun r M1 => Calls 1 mX12_who [.inr 76, .inl a] M1 (fun r' M2 => r = r' ∧ P M2)) := by
  obtain ⟨h0, h1, h2, h3⟩ := hC
  refine x_who h0 h1 (m_who (by omega) (by omega) ⟨?_, hP⟩)
  split
  · refine iter_fun _ _ h2 0 (fun i i0 i1 x => ?_)
    obtain ⟨-, -, e1, e2, -⟩ := h3 i i0 i1
    simp only [bitS, e1, e2]
  · rfl
theorem o_single {M : Me} (hC : RCuts M) (a : Int) (P : Me → Prop) (hP : P M) : Calls 0 mX11_single [.inr 0, .inl a] M (fun r M1 => Calls 1 mX12_single [.inr 76, .inl a] M1 (fun r' M2 => r = r' ∧ P M2)) := by
  obtain ⟨h0, h1, h2, h3⟩ := hC
  refine x_single h0 h1 (m_single (by omega) (by omega) ⟨?_, hP⟩)
  split
  · refine iter_fun _ _ h2 0 (fun i i0 i1 x => ?_)
    obtain ⟨-, -, e1, e2, -⟩ := h3 i i0 i1
    simp only [bitS, e2]
  · rfl
theorem o_letters {M : Me} (hC : RCuts M) (hS : RSt 37 77 (M 3 8) M) (P : Me → Prop) (hP : P M) : Calls 1 mX11_letters [.inr 0] M (fun r M1 => Calls 0 mX12_letters [.inr 76] M1 (fun r' M2 => r = r' ∧ P M2)) := by
  obtain ⟨h0, h1, h2, h3⟩ := hC
  refine x_letters h0 h1 (m_letters (by omega) (by omega) ⟨?_, hP⟩)
  refine iter_fun _ _ h2 0 (fun i i0 i1 x => ?_)
  obtain ⟨-, -, e1, e2, -⟩ := h3 i i0 i1
  obtain ⟨-, e3, -⟩ := hS.1 i i0 i1
  simp only [letS, e1, e2, e3]
theorem o_dates {M : Me} (hC : RCuts M) (a : Int) (P : Me → Prop) (hP : P M) : Calls 1 mX11_dates [.inr 0, .inl a] M (fun r M1 => Calls 1 mX12_dates [.inr 76, .inl a] M1 (fun r' M2 => r = r' ∧ P M2)) := by
  obtain ⟨h0, h1, h2, h3⟩ := hC
  refine x_dates h0 h1 (m_dates (by omega) (by omega) ⟨?_, hP⟩)
  split
  · refine congrArg (datR a) (iter_fun _ _ h2 _ (fun i i0 i1 x => ?_))
    obtain ⟨-, -, e1, e2, e3, e4, e5, e6, -⟩ := h3 i i0 i1
    simp only [datS, e6]
  · rfl
theorem o_nearest {M : Me} (hC : RCuts M) (hS : RSt 37 77 (M 3 8) M) (a w : Int) (P : Me → Prop) (hP : P M) : Calls 2 mX11_nearest [.inr 0, .inl a, .inl w] M (fun r M1 => Calls 2 mX12_nearest [.inr 76, .inl a, .inl w] M1 (fun r' M2 => r = r' ∧ P M2)) := by
  obtain ⟨h0, h1, h2, h3⟩ := hC
  have hpl : ∀ e, 0 ≤ e → e < M 3 8 → 0 ≤ M 39 e ∧ M 77 (16 + e) = M 39 e := fun e e0 e1 => by
    obtain ⟨⟨-, q, -⟩, -, q2, -⟩ := hS.1 e e0 e1
    exact ⟨q.1, q2⟩
  refine x_nearest h0 h1 (fun e e0 e1 => (hpl e e0 e1).1) (m_nearest (by omega) (by omega) (fun e e0 e1 => ?_) ⟨?_, hP⟩)
  · have := hpl e e0 (by omega)
    show 0 ≤ M 77 (16 + e)
    omega
  · rw [h2]
    split
    · next hc =>
      refine congrArg (neaR w) (iter_fun _ _ rfl _ (fun i i0 i1 x => ?_))
      simp only [neaS, (hpl i i0 i1).2, (hpl a hc.1.1 hc.1.2).2]
    · rfl
theorem o_seed {M : Me} (a : Int) (P : Me → Prop) (h1 : 0 ≤ a → a ≤ 65535 → P (mput (mput M 37 6 a) 77 81 a)) (h2 : P M) : Calls 0 mX11_seed [.inr 0, .inl a] M (fun r M1 => Calls 1 mX12_seed [.inr 76, .inl a] M1 (fun r' M2 => r = r' ∧ P M2)) := by
  refine e_X11_seed ⟨fun v1 => (by exact e_X12_seed (by refine ⟨fun q => ⟨by first | rfl | (exfalso; omega), by first | exact h1 (by omega) (by omega) | (exfalso; omega)⟩, fun q => ⟨by first | rfl | (exfalso; omega), by first | exact h2 | (exfalso; omega)⟩⟩)), fun v1 => ⟨fun v2 => (by exact e_X12_seed (by refine ⟨fun q => ⟨by first | rfl | (exfalso; omega), by first | exact h1 (by omega) (by omega) | (exfalso; omega)⟩, fun q => ⟨by first | rfl | (exfalso; omega), by first | exact h2 | (exfalso; omega)⟩⟩)), fun v2 => (by exact e_X12_seed (by refine ⟨fun q => ⟨by first | rfl | (exfalso; omega), by first | exact h1 (by omega) (by omega) | (exfalso; omega)⟩, fun q => ⟨by first | rfl | (exfalso; omega), by first | exact h2 | (exfalso; omega)⟩⟩))⟩⟩
theorem o_home {M : Me} (hC : RCuts M) (a b c : Int) (P : Me → Prop) (h1 : 0 ≤ a → a < M 3 8 → 0 ≤ b → b < 24 → 0 ≤ c → c < 16 → P (mput (mput M 11 a (24 * c + b)) 87 a (24 * c + b))) (h2 : P M) : Calls 1 mX11_home [.inr 0, .inl a, .inl b, .inl c] M (fun r M1 => Calls 2 mX12_home [.inr 76, .inl a, .inl b, .inl c] M1 (fun r' M2 => r = r' ∧ P M2)) := by
  obtain ⟨q0, q1, q2, -⟩ := hC
  have e1 : ∀ v, mput M 11 a v 76 11 = M 76 11 := fun v => mput_ne M _ _ _ (by decide)
  refine e_X11_home ⟨fun v1 => ⟨fun v2 => ⟨fun v3 => ⟨by first | omega | (unfold cn; omega), ⟨by first | omega | (unfold cn; omega), ⟨by first | omega | (unfold cn; omega), (by refine e_X12_home ?_; (try rw [e1]); exact ⟨by omega, fun u1 => ⟨fun u2 => ⟨fun u3 => ⟨by unfold cn; omega, by unfold cn; omega, by omega, by first | rfl | (exfalso; omega), by first | exact h1 (by omega) (by omega) (by omega) (by omega) (by omega) (by omega) | (exfalso; omega)⟩, fun u3 => ⟨by first | rfl | (exfalso; omega), by first | exact h2 | (exfalso; omega)⟩⟩, fun u2 => ⟨by first | rfl | (exfalso; omega), by first | exact h2 | (exfalso; omega)⟩⟩, fun u1 => ⟨by first | rfl | (exfalso; omega), by first | exact h2 | (exfalso; omega)⟩⟩)⟩⟩⟩, fun v3 => (by refine e_X12_home ?_; (try rw [e1]); exact ⟨by omega, fun u1 => ⟨fun u2 => ⟨fun u3 => ⟨by unfold cn; omega, by unfold cn; omega, by omega, by first | rfl | (exfalso; omega), by first | exact h1 (by omega) (by omega) (by omega) (by omega) (by omega) (by omega) | (exfalso; omega)⟩, fun u3 => ⟨by first | rfl | (exfalso; omega), by first | exact h2 | (exfalso; omega)⟩⟩, fun u2 => ⟨by first | rfl | (exfalso; omega), by first | exact h2 | (exfalso; omega)⟩⟩, fun u1 => ⟨by first | rfl | (exfalso; omega), by first | exact h2 | (exfalso; omega)⟩⟩)⟩, fun v2 => (by refine e_X12_home ?_; (try rw [e1]); exact ⟨by omega, fun u1 => ⟨fun u2 => ⟨fun u3 => ⟨by unfold cn; omega, by unfold cn; omega, by omega, by first | rfl | (exfalso; omega), by first | exact h1 (by omega) (by omega) (by omega) (by omega) (by omega) (by omega) | (exfalso; omega)⟩, fun u3 => ⟨by first | rfl | (exfalso; omega), by first | exact h2 | (exfalso; omega)⟩⟩, fun u2 => ⟨by first | rfl | (exfalso; omega), by first | exact h2 | (exfalso; omega)⟩⟩, fun u1 => ⟨by first | rfl | (exfalso; omega), by first | exact h2 | (exfalso; omega)⟩⟩)⟩, fun v1 => (by refine e_X12_home ?_; (try rw [e1]); exact ⟨by omega, fun u1 => ⟨fun u2 => ⟨fun u3 => ⟨by unfold cn; omega, by unfold cn; omega, by omega, by first | rfl | (exfalso; omega), by first | exact h1 (by omega) (by omega) (by omega) (by omega) (by omega) (by omega) | (exfalso; omega)⟩, fun u3 => ⟨by first | rfl | (exfalso; omega), by first | exact h2 | (exfalso; omega)⟩⟩, fun u2 => ⟨by first | rfl | (exfalso; omega), by first | exact h2 | (exfalso; omega)⟩⟩, fun u1 => ⟨by first | rfl | (exfalso; omega), by first | exact h2 | (exfalso; omega)⟩⟩)⟩
