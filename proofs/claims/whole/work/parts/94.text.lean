/-! ===== texts: the tape as both sides read it ===== -/
def sgS (T : Int → Int) (e : Int) (s : Int × Int) : Int := if s.2 = 0 ∧ 0 ≤ s.1 ∧ s.1 < e then T s.1 else -1
abbrev isD (x : Int) : Prop := 48 ≤ x ∧ x ≤ 57
abbrev isL (x : Int) : Prop := 65 ≤ x ∧ x < 81
theorem isD_dec (x : Int) : isD x ∨ ¬ isD x := Classical.em _
def flF (f n p : Int) : Int := if f = 0 then -1000 * n - p else f
def flS (s : Int × Int) (n p : Int) : Int × Int := (s.1, flF s.2 n p)
def tkS (T : Int → Int) (e c : Int) (s : Int × Int) : Int × Int := if sgS T e s = c then (s.1 + 1, s.2) else flS s 1 s.1
def myV (T : Int → Int) (e c : Int) (s : Int × Int) : Int := if sgS T e s = c then 1 else 0
def myS (T : Int → Int) (e c : Int) (s : Int × Int) : Int × Int := if sgS T e s = c then (s.1 + 1, s.2) else s
theorem sg_pos {T : Int → Int} {e : Int} {s : Int × Int} (h : sgS T e s ≠ -1) : s.2 = 0 ∧ 0 ≤ s.1 ∧ s.1 < e ∧ sgS T e s = T s.1 := by
  unfold sgS at h ⊢
  split at h
  · next q => rw [if_pos q]; exact ⟨q.1, q.2.1, q.2.2, rfl⟩
  · exact absurd rfl h
theorem sg_f {T : Int → Int} {e : Int} {s : Int × Int} (h : s.2 ≠ 0) : sgS T e s = -1 := by
  unfold sgS
  rw [if_neg (fun q => h q.1)]
theorem flF_k {f n p : Int} (h : f ≠ 0) : flF f n p = f := by unfold flF; rw [if_neg h]
theorem flS_k {s : Int × Int} {n p : Int} (h : s.2 ≠ 0) : flS s n p = s := by unfold flS; rw [flF_k h]
theorem flF_ne {f n p : Int} (hn : 0 < n) (hp : 0 ≤ p) : flF f n p ≠ 0 := by
  unfold flF
  split
  · omega
  · assumption
def okP (e : Int) (s : Int × Int) : Prop := 0 ≤ s.1 ∧ s.1 ≤ e ∧ s.2 ≤ 0
theorem flS_ok {e : Int} {s : Int × Int} {n p : Int} (h : okP e s) (n0 : 0 ≤ n) (p0 : 0 ≤ p) : okP e (flS s n p) := by
  refine ⟨h.1, h.2.1, ?_⟩
  have := h.2.2
  unfold flS flF
  simp only
  split <;> omega
theorem tkS_ok {T : Int → Int} {e c : Int} {s : Int × Int} (hc : c ≠ -1) (h : okP e s) : okP e (tkS T e c s) := by
  unfold tkS
  split
  · next q =>
    have := sg_pos (T := T) (e := e) (s := s) (by rw [q]; exact hc)
    unfold okP at *
    exact ⟨by simp only; omega, by simp only; omega, by simp only; omega⟩
  · exact flS_ok h (by first | omega | decide) h.1
theorem myS_ok {T : Int → Int} {e c : Int} {s : Int × Int} (hc : c ≠ -1) (h : okP e s) : okP e (myS T e c s) := by
  unfold myS
  split
  · next q =>
    have := sg_pos (T := T) (e := e) (s := s) (by rw [q]; exact hc)
    unfold okP at *
    exact ⟨by simp only; omega, by simp only; omega, by simp only; omega⟩
  · exact h
theorem tkS_k {T : Int → Int} {e c : Int} {s : Int × Int} (hc : c ≠ -1) (h : s.2 ≠ 0) : tkS T e c s = s := by
  unfold tkS
  rw [sg_f h, if_neg (fun q => hc q.symm), flS_k h]
theorem myS_k {T : Int → Int} {e c : Int} {s : Int × Int} (hc : c ≠ -1) (h : s.2 ≠ 0) : myS T e c s = s := by
  unfold myS
  rw [sg_f h, if_neg (fun q => hc q.symm)]
theorem myS_f {T : Int → Int} {e c : Int} (s : Int × Int) : (myS T e c s).2 = s.2 := by
  unfold myS
  split <;> rfl
/-! the class's tape -/
def tp (M : Me) (s : Int × Int) : Me := mput (mput M 1 3 s.1) 1 4 s.2
theorem tp_3 (M : Me) (s : Int × Int) : tp M s 1 3 = s.1 := by unfold tp; rw [mput_ni _ _ _ _ (by first | omega | decide), mput_same]
theorem tp_4 (M : Me) (s : Int × Int) : tp M s 1 4 = s.2 := by unfold tp; rw [mput_same]
theorem tp_o (M : Me) (s : Int × Int) {k : Nat} {i : Int} (h : k = 1 → i ≠ 3 ∧ i ≠ 4) : tp M s k i = M k i := by
  unfold tp
  by_cases q : k = 1
  · subst q
    rw [mput_ni _ _ _ _ (h rfl).2, mput_ni _ _ _ _ (h rfl).1]
  · rw [mput_ne _ _ _ _ q, mput_ne _ _ _ _ q]
theorem tp_at (M : Me) (s : Int × Int) (v : Int) : mput (tp M s) 1 3 v = tp M (v, s.2) := by
  funext k i
  unfold tp mput
  by_cases h1 : k = 1 ∧ i = 3
  · rw [if_pos h1, if_neg (by omega), if_pos h1]
  · rw [if_neg h1, if_neg h1]
    by_cases h2 : k = 1 ∧ i = 4
    · rw [if_pos h2, if_pos h2]
    · rw [if_neg h2, if_neg h2, if_neg h1]
theorem tp_fl (M : Me) (s : Int × Int) (v : Int) : mput (tp M s) 1 4 v = tp M (s.1, v) := by
  funext k i
  unfold tp mput
  by_cases h2 : k = 1 ∧ i = 4
  · rw [if_pos h2, if_pos h2]
  · rw [if_neg h2, if_neg h2, if_neg h2]
theorem tp_put (M : Me) (s : Int × Int) {k : Nat} (i v : Int) (h : k ≠ 1) : mput (tp M s) k i v = tp (mput M k i v) s := by
  funext a b
  unfold tp mput
  by_cases h1 : a = k ∧ b = i
  · rw [if_pos h1, if_neg (by omega), if_neg (by omega), if_pos h1]
  · rw [if_neg h1]
    by_cases h2 : a = 1 ∧ b = 4
    · rw [if_pos h2, if_pos h2]
    · rw [if_neg h2, if_neg h2]
      by_cases h3 : a = 1 ∧ b = 3
      · rw [if_pos h3, if_pos h3]
      · rw [if_neg h3, if_neg h3, if_neg h1]
theorem tp_self (M : Me) : tp M (M 1 3, M 1 4) = M := by
  funext a b
  unfold tp mput
  by_cases h2 : a = 1 ∧ b = 4
  · rw [if_pos h2, h2.1, h2.2]
  · rw [if_neg h2]
    by_cases h3 : a = 1 ∧ b = 3
    · rw [if_pos h3, h3.1, h3.2]
    · rw [if_neg h3]
/-- the text in the class's tape -/
def CT (M : Me) (T : Int → Int) (e : Int) : Prop := M 1 2 = e ∧ e ≤ 260 ∧ ∀ i, 0 ≤ i → i < e → M 2 i = T i
theorem CT.put {M : Me} {T : Int → Int} {e : Int} (h : CT M T e) {k : Nat} (i v : Int) (hk : k ≠ 1 ∧ k ≠ 2) : CT (mput M k i v) T e := by
  refine ⟨?_, h.2.1, fun j a b => ?_⟩
  · rw [mput_ne _ _ _ _ (fun q => hk.1 q.symm)]; exact h.1
  · rw [mput_ne _ _ _ _ (fun q => hk.2 q.symm)]; exact h.2.2 j a b
theorem t_sign {M : Me} {T : Int → Int} {e : Int} {s : Int × Int} {Q : Int → Me → Prop} (hT : CT M T e) (h : Q (sgS T e s) (tp M s)) : Calls 0 mX9_sign [.inr 1] (tp M s) Q := by
  obtain ⟨h1, h2, h3⟩ := hT
  have e2 : tp M s 1 2 = e := by rw [tp_o _ _ (by first | omega | decide)]; exact h1
  refine p_X9_sign (by rw [e2]; exact h2) ?_
  rw [tp_3, tp_4, e2]
  unfold sgS at h
  refine ⟨fun q => ?_, fun q => ?_⟩
  · rw [if_pos q] at h
    rw [tp_o _ _ (by first | omega | decide), h3 _ q.2.1 q.2.2]
    exact h
  · rw [if_neg q] at h
    exact h
theorem t_fail {M : Me} {s : Int × Int} {n q : Int} {Q : Int → Me → Prop} (n0 : 0 ≤ n ∧ n ≤ 6) (q0 : 0 ≤ q ∧ q ≤ 300) (h : Q 0 (tp M (flS s n q))) : Calls 0 mX9_fail [.inr 1, .inl n, .inl q] (tp M s) Q := by
  unfold flS flF at h
  refine e_X9_fail ?_
  rw [tp_4, tp_fl]
  refine ⟨fun z => ?_, fun z => ⟨by unfold cn; omega, by unfold cn; omega, ?_⟩⟩
  · rw [if_neg z] at h; exact h
  · rw [if_pos z] at h; exact h
theorem t_may {M : Me} {T : Int → Int} {e : Int} {s : Int × Int} {c : Int} {Q : Int → Me → Prop} (hT : CT M T e) (hs : okP e s) (h : Q (myV T e c s) (tp M (myS T e c s))) : Calls 1 mX9_mayTake [.inr 1, .inl c] (tp M s) Q := by
  have h2 := hT.2.1
  unfold okP at hs
  unfold myV myS at h
  refine e_X9_mayTake (t_sign hT ?_)
  rw [tp_3, tp_at]
  refine ⟨fun z => ?_, fun z => ⟨by unfold cn; omega, ?_⟩⟩
  · rw [if_neg z, if_neg z] at h; exact h
  · rw [if_pos z, if_pos z] at h; exact h
theorem t_take {M : Me} {T : Int → Int} {e : Int} {s : Int × Int} {c : Int} {Q : Int → Me → Prop} (hT : CT M T e) (hs : okP e s) (h : Q 0 (tp M (tkS T e c s))) : Calls 1 mX9_take [.inr 1, .inl c] (tp M s) Q := by
  have h2 := hT.2.1
  unfold okP at hs
  unfold tkS at h
  refine e_X9_take (t_sign hT ?_)
  rw [tp_3, tp_at]
  refine ⟨fun z => t_fail (by omega) (by omega) ?_, fun z => ⟨by unfold cn; omega, ?_⟩⟩
  · rw [if_neg z] at h; exact h
  · rw [if_pos z] at h; exact h
def endF (e : Int) (s : Int × Int) : Int := if s.1 < e then flF s.2 1 s.1 else s.2
theorem t_end {M : Me} {T : Int → Int} {e : Int} {s : Int × Int} {a : Int} {Q : Int → Me → Prop} (hT : CT M T e) (hs : okP e s) (h : ∀ s', Q (if endF e s = 0 then a else endF e s) (tp M s')) : Calls 1 mX9_endText [.inr 1, .inl a] (tp M s) Q := by
  obtain ⟨h1, h2, h3⟩ := hT
  unfold okP at hs
  have e2 : ∀ s, tp M s 1 2 = e := fun s => by rw [tp_o _ _ (by first | omega | decide)]; exact h1
  refine e_X9_endText ?_
  rw [tp_3, tp_4, e2]
  refine ⟨fun z => ?_, fun z => t_fail (by omega) (by omega) ?_⟩
  · have hE : endF e s = s.2 := by unfold endF; rw [if_neg (by omega)]
    rw [hE] at h
    refine ⟨fun y => ?_, fun y => ?_⟩
    · have := h s; rw [if_neg y] at this; exact this
    · have := h s; rw [if_pos y] at this; exact this
  · have hE : endF e s = flF s.2 1 s.1 := by unfold endF; rw [if_pos z]
    rw [hE] at h
    rw [tp_4]
    have e3 : (flS s 1 s.1).2 = flF s.2 1 s.1 := rfl
    rw [e3]
    refine ⟨fun y => ?_, fun y => ?_⟩
    · have := h (flS s 1 s.1); rw [if_neg y] at this; exact this
    · have := h (flS s 1 s.1); rw [if_pos y] at this; exact this
/-! the reference's tape -/
def RT (M : Me) (T : Int → Int) (e : Int) : Prop := M 76 15 = e ∧ e ≤ 260 ∧ ∀ i, 0 ≤ i → i < e → band (M 88 i) 255 = T i
theorem q_here {M : Me} {T : Int → Int} {e : Int} {Q : Int → Me → Prop} (hT : RT M T e) (p0 : 0 ≤ M 76 14) (h : Q (sgS T e (M 76 14, 0)) M) : Calls 0 mX12_here [.inr 76] M Q := by
  obtain ⟨h1, h2, h3⟩ := hT
  refine p_X12_here ⟨p0, by rw [h1]; exact h2⟩ ?_
  unfold sgS at h
  refine ⟨fun q => ?_, fun q => ?_⟩
  · rw [if_pos ⟨rfl, p0, by rw [← h1]; exact q⟩] at h
    rw [h3 _ p0 (by omega)]
    exact h
  · rw [if_neg (fun z => q (by rw [h1]; exact z.2.2))] at h
    exact h
theorem q_isDigit {M : Me} {T : Int → Int} {e : Int} {Q : Int → Me → Prop} (hT : RT M T e) (p0 : 0 ≤ M 76 14) (h1 : isD (sgS T e (M 76 14, 0)) → Q 1 M) (h0 : ¬ isD (sgS T e (M 76 14, 0)) → Q 0 M) : Calls 1 mX12_isDigit [.inr 76] M Q := by
  unfold isD at h1 h0
  exact e_X12_isDigit (q_here hT p0 ⟨fun q => h0 (by omega), fun q => q_here hT p0 ⟨fun q2 => h0 (by omega), fun q2 => h1 ⟨q, q2⟩⟩⟩)
theorem q_isLetter {M : Me} {T : Int → Int} {e : Int} {Q : Int → Me → Prop} (hT : RT M T e) (hb : ∀ i, 0 ≤ i → i < e → 0 ≤ T i ∧ T i ≤ 255) (p0 : 0 ≤ M 76 14) (h1 : isL (sgS T e (M 76 14, 0)) → Q 1 M) (h0 : ¬ isL (sgS T e (M 76 14, 0)) → Q 0 M) : Calls 1 mX12_isLetter [.inr 76] M Q := by
  have hr : -1 ≤ sgS T e (M 76 14, 0) ∧ sgS T e (M 76 14, 0) ≤ 255 := by
    unfold sgS
    split
    · next q => have := hb _ q.2.1 q.2.2; simp only at this ⊢; omega
    · omega
  unfold isL at h1 h0
  refine e_X12_isLetter (q_here hT p0 ⟨by unfold cn; omega, fun q => h1 (by omega), fun q => h0 (by omega)⟩)
theorem q_wrong {M : Me} {a b : Int} {Q : Int → Me → Prop} (ha : 0 ≤ a ∧ a ≤ 6) (hb : 0 ≤ b ∧ b ≤ 300) (h : Q 0 (mput M 76 16 (-1000 * a - b))) : Calls 0 mX12_wrongAt [.inr 76, .inl a, .inl b] M Q :=
  e_X12_wrongAt ⟨by unfold cn; omega, by unfold cn; omega, h⟩
theorem q_takes {M : Me} {T : Int → Int} {e : Int} {c : Int} {Q : Int → Me → Prop} (hT : RT M T e) (p0 : 0 ≤ M 76 14) (pe : M 76 14 ≤ e) (h1 : sgS T e (M 76 14, 0) = c → Q 1 (mput M 76 14 (M 76 14 + 1))) (h0 : sgS T e (M 76 14, 0) ≠ c → Q 0 (mput M 76 16 (-1000 * 1 - M 76 14))) : Calls 1 mX12_takes [.inr 76, .inl c] M Q := by
  have h2 := hT.2.1
  exact e_X12_takes (q_here hT p0 ⟨fun q => ⟨by unfold cn; omega, h1 q⟩, fun q => q_wrong (by omega) (by omega) ⟨Or.inl rfl, h0 q⟩⟩)
theorem q_passes {M : Me} {T : Int → Int} {e : Int} {c : Int} {Q : Int → Me → Prop} (hT : RT M T e) (p0 : 0 ≤ M 76 14) (pe : M 76 14 ≤ e) (h1 : sgS T e (M 76 14, 0) = c → Q 1 (mput M 76 14 (M 76 14 + 1))) (h0 : sgS T e (M 76 14, 0) ≠ c → Q 0 M) : Calls 1 mX12_passes [.inr 76, .inl c] M Q := by
  have h2 := hT.2.1
  exact e_X12_passes (q_here hT p0 ⟨fun q => ⟨by unfold cn; omega, h1 q⟩, fun q => h0 q⟩)
