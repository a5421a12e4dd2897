/-! ===== the class reads a law: its state, and its small steps ===== -/
def dop (c : Int) : Int := if c = 48 then 0 else if c = 97 then 1 else if c = 43 then 2 else if c = 45 then 3 else if c = 42 then 4 else if c = 47 then 5 else if c = 37 then 6 else if c = 60 then 7 else if c = 62 then 8 else if c = 61 then 9 else if c = 33 then 10 else if c = 38 then 11 else if c = 124 then 12 else -1
theorem dop_opc {c : Int} (h : isT c ∨ isP c ∨ isC c) : dop c = opc c := by
  rcases h with (rfl | rfl | rfl) | (rfl | rfl) | (rfl | rfl | rfl) <;> decide
theorem dop_sg {c : Int} (h : dop c ≠ -1) : sg (dop c) = c := by
  unfold dop at h ⊢
  repeat' split
  all_goals first | (simp only [sg]; simp; omega) | skip
  all_goals simp_all
def LD (M : Me) : Me := fun k i => if k = 0 then M 30 6 else if k = 5 then dop (M 35 i % 256) else if k = 6 then M 35 i / 256 else M (30 + k) i
theorem LD_5 (M : Me) (i : Int) : LD M 5 i = dop (M 35 i % 256) := rfl
theorem LD_6 (M : Me) (i : Int) : LD M 6 i = M 35 i / 256 := rfl
theorem LD_c {M : Me} {i a b : Int} (h : M 35 i = 256 * b + a) (ha : 0 ≤ a ∧ a < 256) : LD M 5 i = dop a ∧ LD M 6 i = b := by
  rw [LD_5, LD_6, h]
  refine ⟨?_, by omega⟩
  rw [show (256 * b + a) % 256 = a by omega]
theorem LDs {M M' : Me} {a b : Int} (h : ∀ i, a ≤ i → i < b → M' 35 i = M 35 i) : ∀ i, a ≤ i → i < b → LD M' 5 i = LD M 5 i ∧ LD M' 6 i = LD M 6 i := fun i x y => by
  rw [LD_5, LD_6, LD_5, LD_6, h i x y]
  exact ⟨rfl, rfl⟩
def DS (T : Int → Int) (e p n : Int) (M : Me) : Prop := CT M T e ∧ M 1 3 = p ∧ M 1 4 = 0 ∧ M 30 7 = n
def FS (T : Int → Int) (e f n : Int) (M : Me) : Prop := CT M T e ∧ (0 ≤ M 1 3 ∧ M 1 3 ≤ e) ∧ M 1 4 = f ∧ f < 0 ∧ n ≤ M 30 7 ∧ M 30 7 ≤ 240
def FK (n : Int) (M M' : Me) : Prop := ∀ k i, (k = 1 → i ≠ 3 ∧ i ≠ 4) → (k = 30 → i ≠ 7) → (k = 35 → i < n) → M' k i = M k i
theorem FK.rf (n : Int) (M : Me) : FK n M M := fun _ _ _ _ _ => rfl
theorem FK.tr {n : Int} {A B C : Me} (h : FK n A B) (h' : FK n B C) : FK n A C := fun k i a b c => (h' k i a b c).trans (h k i a b c)
theorem FK.lo {n m : Int} {A B : Me} (h : FK n A B) (hm : m ≤ n) : FK m A B := fun k i a b c => h k i a b (fun z => by have := c z; omega)
theorem FK.p1 (n : Int) (M : Me) {j : Int} (v : Int) (hj : j = 3 ∨ j = 4) : FK n M (mput M 1 j v) := fun k i a b c => by
  unfold mput
  rw [if_neg (fun z => by have := a z.1; omega)]
theorem FK.p30 (n : Int) (M : Me) (v : Int) : FK n M (mput M 30 7 v) := fun k i a b c => by
  unfold mput
  rw [if_neg (fun z => b z.1 z.2)]
theorem FK.p35 {n i : Int} (M : Me) (v : Int) (h : n ≤ i) : FK n M (mput M 35 i v) := fun k j a b c => by
  unfold mput
  rw [if_neg (fun z => by have := c z.1; omega)]
theorem FK.c35 {n i : Int} {M M' : Me} (h : FK n M M') (hi : i < n) : M' 35 i = M 35 i := h 35 i (fun z => absurd z (by decide)) (fun z => absurd z (by decide)) (fun _ => hi)
theorem CT.fk {n e : Int} {T : Int → Int} {M M' : Me} (h : CT M T e) (f : FK n M M') : CT M' T e :=
  ⟨by rw [f 1 2 (fun _ => by decide) (fun z => absurd z (by decide)) (fun z => absurd z (by decide))]; exact h.1, h.2.1, fun i a b => by rw [f 2 i (fun z => absurd z (by decide)) (fun z => absurd z (by decide)) (fun z => absurd z (by decide))]; exact h.2.2 i a b⟩
def KC (T : Int → Int) (e : Int) : Prop := Sg (Sx T e) e ∧ ∀ p, -1 ≤ Sx T e p ∧ Sx T e p ≤ 255
theorem k_sign {T : Int → Int} {e p n : Int} {M : Me} {Q : Int → Me → Prop} (h : DS T e p n M) (hQ : Q (Sx T e p) M) : Calls 0 mX9_sign [.inr 1] M Q := by
  have e1 := tp_self M
  rw [h.2.1, h.2.2.1] at e1
  have r := t_sign (M := M) (s := (p, 0)) (Q := Q) h.1 (by rw [e1]; exact hQ)
  rw [e1] at r
  exact r
theorem k_signF {T : Int → Int} {e f n : Int} {M : Me} {Q : Int → Me → Prop} (h : FS T e f n M) (hQ : Q (-1) M) : Calls 0 mX9_sign [.inr 1] M Q := by
  have e1 := tp_self M
  rw [h.2.2.1] at e1
  have hf : f ≠ 0 := by have := h.2.2.2.1; omega
  have r := t_sign (M := M) (s := (M 1 3, f)) (Q := Q) h.1 (by rw [e1, sg_f hf]; exact hQ)
  rw [e1] at r
  exact r
theorem k_fail {T : Int → Int} {e p n a b : Int} {M : Me} {Q : Int → Me → Prop} (h : DS T e p n M) (pe : 0 ≤ p ∧ p ≤ e) (n1 : n ≤ 240) (ha : 1 ≤ a ∧ a ≤ 6) (hb : 0 ≤ b ∧ b ≤ 300) (hQ : ∀ M', FS T e (-1000 * a - b) n M' → (∀ m, FK m M M') → Q 0 M') : Calls 0 mX9_fail [.inr 1, .inl a, .inl b] M Q := by
  refine e_X9_fail ⟨fun z => absurd h.2.2.1 z, fun _ => ⟨by unfold cn; omega, by unfold cn; omega, hQ _ ?_ (fun m => FK.p1 m M _ (Or.inr rfl))⟩⟩
  refine ⟨h.1.fk (FK.p1 0 M _ (Or.inr rfl)), ?_, mput_same .., by omega, ?_, ?_⟩
  · rw [mput_ni _ _ _ _ (by decide), h.2.1]; exact pe
  · rw [mput_ne _ _ _ _ (by decide), h.2.2.2]; omega
  · rw [mput_ne _ _ _ _ (by decide), h.2.2.2]; exact n1
theorem k_failF {T : Int → Int} {e f n a b : Int} {M : Me} {Q : Int → Me → Prop} (h : FS T e f n M) (hQ : Q 0 M) : Calls 0 mX9_fail [.inr 1, .inl a, .inl b] M Q :=
  e_X9_fail ⟨fun _ => hQ, fun z => by have h1 := h.2.2.1; have h2 := h.2.2.2.1; exfalso; omega⟩
theorem DS.adv {T : Int → Int} {e p n : Int} {M : Me} (h : DS T e p n M) : DS T e (p + 1) n (mput M 1 3 (M 1 3 + 1)) ∧ ∀ m, FK m M (mput M 1 3 (M 1 3 + 1)) := by
  refine ⟨⟨h.1.fk (FK.p1 0 M _ (Or.inl rfl)), ?_, ?_, ?_⟩, fun m => FK.p1 m M _ (Or.inl rfl)⟩
  · rw [mput_same, h.2.1]
  · rw [mput_ni _ _ _ _ (by decide)]; exact h.2.2.1
  · rw [mput_ne _ _ _ _ (by decide)]; exact h.2.2.2
theorem k_may {T : Int → Int} {e p n c : Int} {M : Me} {Q : Int → Me → Prop} (h : DS T e p n M) (pe : 0 ≤ p ∧ p ≤ 300) (h1 : Sx T e p = c → ∀ M', DS T e (p + 1) n M' → (∀ m, FK m M M') → Q 1 M') (h0 : Sx T e p ≠ c → Q 0 M) : Calls 1 mX9_mayTake [.inr 1, .inl c] M Q := by
  refine e_X9_mayTake (k_sign h ⟨fun z => h0 z, fun z => ⟨by rw [h.2.1]; unfold cn; omega, h1 z _ h.adv.1 h.adv.2⟩⟩)
theorem k_mayF {T : Int → Int} {e f n c : Int} {M : Me} {Q : Int → Me → Prop} (h : FS T e f n M) (hc : c ≠ -1) (hQ : Q 0 M) : Calls 1 mX9_mayTake [.inr 1, .inl c] M Q :=
  e_X9_mayTake (k_signF h ⟨fun _ => hQ, fun z => absurd z.symm hc⟩)
theorem k_take {T : Int → Int} {e p n c : Int} {M : Me} {Q : Int → Me → Prop} (h : DS T e p n M) (pe : 0 ≤ p ∧ p ≤ e) (he : e ≤ 300) (n1 : n ≤ 240) (h1 : Sx T e p = c → ∀ M', DS T e (p + 1) n M' → (∀ m, FK m M M') → Q 0 M') (h0 : Sx T e p ≠ c → ∀ M', FS T e (-1000 * 1 - p) n M' → (∀ m, FK m M M') → Q 0 M') : Calls 1 mX9_take [.inr 1, .inl c] M Q := by
  refine e_X9_take (k_sign h ⟨fun z => ?_, fun z => ⟨by rw [h.2.1]; unfold cn; omega, h1 z _ h.adv.1 h.adv.2⟩⟩)
  rw [h.2.1]
  exact k_fail h pe n1 (by omega) (by omega) (h0 z)
theorem k_takeF {T : Int → Int} {e f n c : Int} {M : Me} {Q : Int → Me → Prop} (h : FS T e f n M) (hc : c ≠ -1) (hQ : Q 0 M) : Calls 1 mX9_take [.inr 1, .inl c] M Q :=
  e_X9_take (k_signF h ⟨fun _ => k_failF h hQ, fun z => absurd z.symm hc⟩)
theorem k_mayOpen {T : Int → Int} {e p n o : Int} {M : Me} {Q : Int → Me → Prop} (h : DS T e p n M) (pe : 0 ≤ p ∧ p ≤ e) (he : e ≤ 300) (n1 : n ≤ 240) (h1 : o < 6 → ∀ M', DS T e (p + 1) n M' → (∀ m, FK m M M') → Q 1 M') (h0 : 6 ≤ o → ∀ M', FS T e (-1000 * 5 - p) n M' → (∀ m, FK m M M') → Q 0 M') : Calls 1 mX4_mayOpen [.inr 29, .inl o] M Q := by
  refine e_X4_mayOpen ⟨fun z => ?_, fun z => ⟨by rw [h.2.1]; unfold cn; omega, h1 z _ h.adv.1 h.adv.2⟩⟩
  rw [h.2.1]
  exact k_fail h pe n1 (by omega) (by omega) (h0 z)
theorem k_add {T : Int → Int} {e p n a b : Int} {M : Me} {Q : Int → Me → Prop} (h : DS T e p n M) (n0 : 0 ≤ n ∧ n < 240) (ha : 0 ≤ a ∧ a < 256) (hb : 0 ≤ b ∧ b < 1048576) (hQ : ∀ M', DS T e p (n + 1) M' → FK n M M' → M' 35 n = 256 * b + a → Q 0 M') : Calls 0 mX3_add [.inr 30, .inl a, .inl b] M Q := by
  have f : FK n M (mput (mput M 35 n (256 * b + a)) 30 7 (n + 1)) := (FK.p35 M _ (Int.le_refl n)).tr (FK.p30 n _ _)
  refine d_add h.2.2.2 n0 ha hb (hQ _ ⟨h.1.fk f, ?_, ?_, mput_same ..⟩ f ?_)
  · rw [mput_ne _ _ _ _ (by decide), mput_ne _ _ _ _ (by decide)]; exact h.2.1
  · rw [mput_ne _ _ _ _ (by decide), mput_ne _ _ _ _ (by decide)]; exact h.2.2.1
  · rw [mput_ne _ _ _ _ (by decide), mput_same]
theorem k_addF {T : Int → Int} {e f n a b : Int} {M : Me} {Q : Int → Me → Prop} (h : FS T e f n M) (n0 : 0 ≤ n) (ha : 0 ≤ a ∧ a < 65536) (hb : 0 ≤ b ∧ b < 1048576) (hQ : ∀ M', FS T e f n M' → FK n M M' → Q 0 M') : Calls 0 mX3_add [.inr 30, .inl a, .inl b] M Q := by
  obtain ⟨x1, x2, x3, x4, x5, x6⟩ := h
  refine e_X3_add ⟨fun z => hQ M ⟨x1, x2, x3, x4, x5, x6⟩ (FK.rf n M), fun z => ⟨by unfold cn; omega, by unfold cn; omega, by omega, by unfold cn; omega, ?_⟩⟩
  have g : FK n M (mput (mput M 35 (M 30 7) (256 * b + a)) 30 7 (M 30 7 + 1)) := (FK.p35 M _ x5).tr (FK.p30 n _ _)
  refine hQ _ ⟨x1.fk g, ?_, ?_, x4, ?_, ?_⟩ g
  · rw [mput_ne _ _ _ _ (by decide), mput_ne _ _ _ _ (by decide)]; exact x2
  · rw [mput_ne _ _ _ _ (by decide), mput_ne _ _ _ _ (by decide)]; exact x3
  · rw [mput_same]; omega
  · rw [mput_same]; omega
theorem c_em {T : Int → Int} {e p n c : Int} {M : Me} {G : Me → Prop} (hc : c = 0 ∨ isT c ∨ isP c) (h : DS T e p n M) (n0 : 0 ≤ n) (nn : n + pn c ≤ 240) (k : ∀ M' n', DS T e p n' M' → FK n M M' → Em (LD M') c n n' → n' = n + pn c → G M') : (c = 0 → G M) ∧ (c ≠ 0 → Calls 0 mX3_add [.inr 30, .inl (bchr c), .inl 0] M (fun _ M' => G M')) := by
  refine ⟨fun z => k M n h (FK.rf n M) (Or.inl ⟨z, rfl⟩) (by unfold pn; rw [if_pos z]; omega), fun z => ?_⟩
  have hp : pn c = 1 := if_neg z
  have hc' : isT c ∨ isP c := by rcases hc with y | y; exact absurd y z; exact y
  have hr : 0 ≤ c ∧ c ≤ 255 := by omega
  rw [bchr_id hr]
  refine k_add h (by omega) (by omega) (by omega) (fun M' h' f' v => k M' (n + 1) h' f' (Or.inr ⟨z, rfl, ?_, (LD_c v (by omega)).2⟩) (by omega))
  rw [(LD_c v (by omega)).1]
  exact dop_opc (by rcases hc' with y | y; exact Or.inl y; exact Or.inr (Or.inl y))
theorem fct_l {c : Int} (h : fct c ≠ -1) : ¬ isD c ∧ c ≠ 91 ∧ 0 ≤ c := by
  unfold fct at h
  unfold isD
  repeat' split at h
  all_goals first | omega | exact absurd rfl h
theorem Sx_pos {T : Int → Int} {e p : Int} (hK : KC T e) (h : Sx T e p ≠ -1) : 0 ≤ p ∧ p < e := hK.1.2 p h
