/-! ===== marriages: the one by which the first side asks ===== -/
abbrev GS : Type := (Int → Int) × (Int → Int) × (Int → Int)
def ff (P : Int → Int) : Nat → Int → Int
  | 0, i => i
  | k + 1, i => if P i = -1 then i else ff P k (i + 1)
theorem ff_spec (P : Int → Int) : ∀ (k : Nat) (i : Int), i ≤ ff P k i ∧ ff P k i ≤ i + k ∧ (∀ j, i ≤ j → j < ff P k i → P j ≠ -1) ∧ (ff P k i < i + k → P (ff P k i) = -1)
  | 0, i => ⟨Int.le_refl _, by simp only [ff]; omega, fun j a b => by simp only [ff] at b; omega, fun a => by simp only [ff] at a; omega⟩
  | k + 1, i => by
    simp only [ff]
    by_cases q : P i = -1
    · rw [if_pos q]
      exact ⟨Int.le_refl _, by omega, fun j a b => by omega, fun _ => q⟩
    · rw [if_neg q]
      obtain ⟨h1, h2, h3, h4⟩ := ff_spec P k (i + 1)
      refine ⟨by omega, by omega, fun j a b => ?_, fun a => h4 (by omega)⟩
      by_cases e : j = i
      · subst e; exact q
      · exact h3 j (by omega) b
def gsK (n : Int) (S : GS) : Int := ff S.2.1 n.toNat 0
def gsW (ch : Int → Int → Int) (n : Int) (S : GS) : Int := ch (gsK n S) (S.1 (gsK n S))
def gsX (ch pc : Int → Int → Int) (n : Int) (S : GS) : Prop := S.2.2 (gsW ch n S) ≠ -1 ∧ pc (gsW ch n S) (S.2.2 (gsW ch n S)) < pc (gsW ch n S) (gsK n S)
def gsN (ch pc : Int → Int → Int) (n : Int) (S : GS) : GS :=
  if S.2.2 (gsW ch n S) ≠ -1 ∧ pc (gsW ch n S) (S.2.2 (gsW ch n S)) < pc (gsW ch n S) (gsK n S) then (upS S.1 (gsK n S) (S.1 (gsK n S) + 1), S.2.1, S.2.2)
  else if S.2.2 (gsW ch n S) = -1 then (upS S.1 (gsK n S) (S.1 (gsK n S) + 1), upS S.2.1 (gsK n S) (gsW ch n S), upS S.2.2 (gsW ch n S) (gsK n S))
  else (upS S.1 (gsK n S) (S.1 (gsK n S) + 1), upS (upS S.2.1 (S.2.2 (gsW ch n S)) (-1)) (gsK n S) (gsW ch n S), upS S.2.2 (gsW ch n S) (gsK n S))
def gsR (ch pc : Int → Int → Int) (n : Int) : Nat → GS → GS
  | 0, S => S
  | m + 1, S => if gsK n S = n then S else gsR ch pc n m (gsN ch pc n S)
def sm (f : Int → Int) : Nat → Int
  | 0 => 0
  | k + 1 => sm f k + f k
theorem sm_le {f : Int → Int} {c : Int} : ∀ (k : Nat), (∀ i, 0 ≤ i → i < (k : Int) → f i ≤ c) → sm f k ≤ c * k
  | 0, _ => by simp [sm]
  | k + 1, h => by
    have h1 := sm_le k (fun i a b => h i a (by omega))
    have h2 := h k (by omega) (by omega)
    simp only [sm]
    rw [show c * ((k + 1 : Nat) : Int) = c * k + c by rw [Int.natCast_add, Int.mul_add]; omega]
    omega
theorem sm_up {f : Int → Int} {i v : Int} : ∀ (k : Nat), sm (upS f i v) k = if 0 ≤ i ∧ i < (k : Int) then sm f k + v - f i else sm f k
  | 0 => by rw [if_neg (by omega)]; rfl
  | k + 1 => by
    simp only [sm]
    rw [sm_up k]
    by_cases e : (k : Int) = i
    · rw [if_neg (by omega), if_pos (by omega)]
      unfold upS
      rw [if_pos e, ← e]
      omega
    · have : upS f i v k = f k := upS_ne _ _ e
      rw [this]
      by_cases q : 0 ≤ i ∧ i < (k : Int)
      · rw [if_pos q, if_pos (by omega)]; omega
      · rw [if_neg q, if_neg (by omega)]
theorem sm_congr {f g : Int → Int} : ∀ (k : Nat), (∀ i, 0 ≤ i → i < (k : Int) → f i = g i) → sm f k = sm g k
  | 0, _ => rfl
  | k + 1, h => by simp only [sm]; rw [sm_congr k (fun i a b => h i a (by omega)), h k (by omega) (by omega)]
def ChOk (ch : Int → Int → Int) (n : Int) : Prop := ∀ k, 0 ≤ k → k < n → (∀ j, 0 ≤ j → j < n → 0 ≤ ch k j ∧ ch k j < n) ∧ ∀ w, 0 ≤ w → w < n → ∃ j, 0 ≤ j ∧ j < n ∧ ch k j = w
def GI (ch : Int → Int → Int) (n : Int) (S : GS) (m : Int) : Prop := (∀ k, 0 ≤ k → k < n → 0 ≤ S.1 k ∧ S.1 k ≤ n) ∧ (∀ k, 0 ≤ k → k < n → S.2.1 k = -1 ∨ (0 ≤ S.2.1 k ∧ S.2.1 k < n ∧ S.2.2 (S.2.1 k) = k)) ∧ (∀ w, 0 ≤ w → w < n → S.2.2 w = -1 ∨ (0 ≤ S.2.2 w ∧ S.2.2 w < n ∧ S.2.1 (S.2.2 w) = w)) ∧ (∀ k, 0 ≤ k → k < n → ∀ j, 0 ≤ j → j < S.1 k → S.2.2 (ch k j) ≠ -1) ∧ sm S.1 n.toNat = m
theorem GI.lt {ch : Int → Int → Int} {n : Int} {S : GS} {m : Int} (n0 : 0 ≤ n) (hc : ChOk ch n) (h : GI ch n S m) {k : Int} (k0 : 0 ≤ k) (k1 : k < n) (hk : S.2.1 k = -1) : S.1 k < n := by
  obtain ⟨g1, g2, g3, g4, -⟩ := h
  have hb := g1 k k0 k1
  by_cases q : S.1 k < n
  · exact q
  · exfalso
    have all : ∀ w, 0 ≤ w → w < n → S.2.2 w ≠ -1 := fun w w0 w1 => by
      obtain ⟨j, j0, j1, j2⟩ := (hc k k0 k1).2 w w0 w1
      rw [← j2]
      exact g4 k k0 k1 j j0 (by omega)
    have g3' : ∀ w, 0 ≤ w → w < n → 0 ≤ S.2.2 w ∧ S.2.2 w < n ∧ S.2.1 (S.2.2 w) = w := fun w w0 w1 => by
      rcases g3 w w0 w1 with z | z
      · exact absurd z (all w w0 w1)
      · exact z
    have := nodup_le (l1 := k :: rl S.2.2 n) (l2 := rl (fun i => i) n) (List.nodup_cons.mpr ⟨fun z => by
      obtain ⟨w, w0, w1, w2⟩ := mem_rl.mp z
      have := (g3' w w0 w1).2.2
      rw [w2, hk] at this
      omega, rl_nodup (fun i j i0 ij j1 z => by
      have h1 := (g3' i i0 (by omega)).2.2
      have h2 := (g3' j (by omega) j1).2.2
      rw [z, h2] at h1
      omega)⟩) (fun z hz => by
      rcases List.mem_cons.mp hz with q | q
      · rw [q]; exact mem_rl.mpr ⟨k, k0, k1, rfl⟩
      · obtain ⟨w, w0, w1, w2⟩ := mem_rl.mp q
        have := g3' w w0 w1
        rw [w2] at this
        exact mem_rl.mpr ⟨z, this.1, this.2.1, rfl⟩)
    rw [List.length_cons, rl_length, rl_length] at this
    omega
theorem gsK_b (n : Int) (n0 : 0 ≤ n) (S : GS) : 0 ≤ gsK n S ∧ gsK n S ≤ n ∧ (∀ j, 0 ≤ j → j < gsK n S → S.2.1 j ≠ -1) ∧ (gsK n S < n → S.2.1 (gsK n S) = -1) := by
  obtain ⟨h1, h2, h3, h4⟩ := ff_spec S.2.1 n.toNat 0
  exact ⟨h1, by unfold gsK; omega, h3, fun q => h4 (by unfold gsK at q; omega)⟩
theorem GI.step {ch pc : Int → Int → Int} {n : Int} {S : GS} {m : Int} (n2 : 2 ≤ n) (n6 : n ≤ 6) (hc : ChOk ch n) (h : GI ch n S m) (hk : gsK n S < n) : GI ch n (gsN ch pc n S) (m + 1) ∧ m + 1 ≤ 36 := by
  obtain ⟨k0, -, -, k4⟩ := gsK_b n (by omega) S
  have kf := k4 hk
  have hA := h.lt (by omega) hc k0 hk kf
  obtain ⟨g1, g2, g3, g4, g5⟩ := h
  have hA0 := (g1 _ k0 hk).1
  obtain ⟨w0, w1⟩ := (hc _ k0 hk).1 _ hA0 hA
  have hwe : ch (gsK n S) (S.1 (gsK n S)) = gsW ch n S := rfl
  rw [hwe] at w0 w1
  generalize hkk : gsK n S = k at *
  generalize hww : gsW ch n S = w at *
  have a1 : ∀ i, 0 ≤ i → i < n → 0 ≤ upS S.1 k (S.1 k + 1) i ∧ upS S.1 k (S.1 k + 1) i ≤ n := fun i i0 i1 => by
    by_cases e : i = k
    · subst e; unfold upS; rw [if_pos rfl]; omega
    · rw [upS_ne _ _ e]; exact g1 i i0 i1
  have a5 : sm (upS S.1 k (S.1 k + 1)) n.toNat = m + 1 := by
    rw [sm_up, if_pos (by omega), g5]; omega
  have a36 : m + 1 ≤ 36 := by
    have h1 := sm_le (f := upS S.1 k (S.1 k + 1)) (c := n) n.toNat (fun i i0 i1 => (a1 i i0 (by omega)).2)
    have h2 := sq_b n2 n6
    rw [a5, show ((n.toNat : Nat) : Int) = n by omega] at h1
    omega
  have a4 : ∀ (K' : Int → Int), (∀ w', S.2.2 w' ≠ -1 → K' w' ≠ -1) → K' w ≠ -1 → ∀ i, 0 ≤ i → i < n → ∀ j, 0 ≤ j → j < upS S.1 k (S.1 k + 1) i → K' (ch i j) ≠ -1 := fun K' hK hw i i0 i1 j j0 j1 => by
    by_cases e : i = k
    · subst e
      unfold upS at j1
      rw [if_pos rfl] at j1
      by_cases e2 : j = S.1 i
      · subst e2; rw [hwe]; exact hw
      · exact hK _ (g4 i i0 i1 j j0 (by omega))
    · rw [upS_ne _ _ e] at j1
      exact hK _ (g4 i i0 i1 j j0 j1)
  refine ⟨?_, a36⟩
  unfold gsN
  rw [hkk, hww]
  split
  · next q => exact ⟨a1, g2, g3, a4 S.2.2 (fun _ z => z) q.1, a5⟩
  · split
    · next q1 q =>
      refine ⟨a1, fun i i0 i1 => ?_, fun v v0 v1 => ?_, a4 _ (fun w' z => ?_) ?_, a5⟩
      · simp only
        by_cases e : i = k
        · subst e
          refine Or.inr ⟨?_, ?_, ?_⟩
          · unfold upS; rw [if_pos rfl]; exact w0
          · unfold upS; rw [if_pos rfl]; exact w1
          · unfold upS; rw [if_pos rfl, if_pos rfl]
        · rw [upS_ne _ _ e]
          rcases g2 i i0 i1 with z | z
          · exact Or.inl z
          · refine Or.inr ⟨z.1, z.2.1, ?_⟩
            rw [upS_ne _ _ (fun y => by rw [y, q] at z; omega)]
            exact z.2.2
      · simp only
        by_cases e : v = w
        · subst e
          refine Or.inr ⟨?_, ?_, ?_⟩
          · unfold upS; rw [if_pos rfl]; exact k0
          · unfold upS; rw [if_pos rfl]; exact hk
          · unfold upS; rw [if_pos rfl, if_pos rfl]
        · rw [upS_ne _ _ e]
          rcases g3 v v0 v1 with z | z
          · exact Or.inl z
          · refine Or.inr ⟨z.1, z.2.1, ?_⟩
            rw [upS_ne _ _ (fun y => by rw [y, kf] at z; omega)]
            exact z.2.2
      · simp only
        by_cases e : w' = w
        · subst e; unfold upS; rw [if_pos rfl]; omega
        · rw [upS_ne _ _ e]; exact z
      · simp only
        unfold upS; rw [if_pos rfl]; omega
    · next q1 q =>
      have hd : 0 ≤ S.2.2 w ∧ S.2.2 w < n ∧ S.2.1 (S.2.2 w) = w := by
        rcases g3 w w0 w1 with z | z
        · exact absurd z q
        · exact z
      have hne : S.2.2 w ≠ k := fun z => by rw [z, kf] at hd; omega
      refine ⟨a1, fun i i0 i1 => ?_, fun v v0 v1 => ?_, a4 _ (fun w' z => ?_) ?_, a5⟩
      · simp only
        by_cases e : i = k
        · subst e
          refine Or.inr ⟨?_, ?_, ?_⟩
          · unfold upS; rw [if_pos rfl]; exact w0
          · unfold upS; rw [if_pos rfl]; exact w1
          · unfold upS; rw [if_pos rfl, if_pos rfl]
        · rw [upS_ne _ _ e]
          by_cases e2 : i = S.2.2 w
          · subst e2
            left
            unfold upS; rw [if_pos rfl]
          · rw [upS_ne _ _ e2]
            rcases g2 i i0 i1 with z | z
            · exact Or.inl z
            · refine Or.inr ⟨z.1, z.2.1, ?_⟩
              rw [upS_ne _ _ (fun y => by rw [y] at z; exact e2 z.2.2.symm)]
              exact z.2.2
      · simp only
        by_cases e : v = w
        · subst e
          refine Or.inr ⟨?_, ?_, ?_⟩
          · unfold upS; rw [if_pos rfl]; exact k0
          · unfold upS; rw [if_pos rfl]; exact hk
          · unfold upS; rw [if_pos rfl, if_pos rfl]
        · rw [upS_ne _ _ e]
          rcases g3 v v0 v1 with z | z
          · exact Or.inl z
          · refine Or.inr ⟨z.1, z.2.1, ?_⟩
            rw [upS_ne _ _ (fun y => by rw [y, kf] at z; omega), upS_ne _ _ (fun y => by rw [y, hd.2.2] at z; exact e z.2.2.symm)]
            exact z.2.2
      · simp only
        by_cases e : w' = w
        · subst e; unfold upS; rw [if_pos rfl]; omega
        · rw [upS_ne _ _ e]; exact z
      · simp only
        unfold upS; rw [if_pos rfl]; omega
/-! memory: asked, partner, taker at three cells -/
def HG (n : Int) (a b c : Nat) (M : Me) (S : GS) : Prop := ∀ i, 0 ≤ i → i < n → M a i = S.1 i ∧ M b i = S.2.1 i ∧ M c i = S.2.2 i
theorem HG.pa {n : Int} {a b c : Nat} (hd : a ≠ b ∧ a ≠ c ∧ b ≠ c) {M : Me} {A P K : Int → Int} (h : HG n a b c M (A, P, K)) (i v : Int) : HG n a b c (mput M a i v) (upS A i v, P, K) := fun j j0 j1 => by
  obtain ⟨h1, h2, h3⟩ := h j j0 j1
  refine ⟨?_, by rw [mput_ne _ _ _ _ (Ne.symm hd.1)]; exact h2, by rw [mput_ne _ _ _ _ (Ne.symm hd.2.1)]; exact h3⟩
  unfold upS
  rw [mput_at]
  simp only
  split
  · rfl
  · exact h1
theorem HG.pb {n : Int} {a b c : Nat} (hd : a ≠ b ∧ a ≠ c ∧ b ≠ c) {M : Me} {A P K : Int → Int} (h : HG n a b c M (A, P, K)) (i v : Int) : HG n a b c (mput M b i v) (A, upS P i v, K) := fun j j0 j1 => by
  obtain ⟨h1, h2, h3⟩ := h j j0 j1
  refine ⟨by rw [mput_ne _ _ _ _ hd.1]; exact h1, ?_, by rw [mput_ne _ _ _ _ (Ne.symm hd.2.2)]; exact h3⟩
  unfold upS
  rw [mput_at]
  simp only
  split
  · rfl
  · exact h2
theorem HG.pc {n : Int} {a b c : Nat} (hd : a ≠ b ∧ a ≠ c ∧ b ≠ c) {M : Me} {A P K : Int → Int} (h : HG n a b c M (A, P, K)) (i v : Int) : HG n a b c (mput M c i v) (A, P, upS K i v) := fun j j0 j1 => by
  obtain ⟨h1, h2, h3⟩ := h j j0 j1
  refine ⟨by rw [mput_ne _ _ _ _ hd.2.1]; exact h1, by rw [mput_ne _ _ _ _ hd.2.2]; exact h2, ?_⟩
  unfold upS
  rw [mput_at]
  simp only
  split
  · rfl
  · exact h3
def GFr (a b c : Nat) (M M' : Me) : Prop := ∀ k i, k ≠ a → k ≠ b → k ≠ c → M' k i = M k i
theorem GFr.tr {a b c : Nat} {A B C : Me} (h : GFr a b c A B) (h' : GFr a b c B C) : GFr a b c A C := fun k i x y z => (h' k i x y z).trans (h k i x y z)
theorem GFr.put {a b c : Nat} (M : Me) {k : Nat} (i v : Int) (hk : k = a ∨ k = b ∨ k = c) : GFr a b c M (mput M k i v) := fun j i x y z => mput_ne _ _ _ _ (fun q => by rcases hk with e | e | e <;> omega)
/-! the class -/
theorem t_oneFree {Q : Int → Me → Prop} {M : Me} {n : Int} {S : GS} (n2 : 2 ≤ n) (n6 : n ≤ 6) (hn : M 69 6 = n) (hS : HG n 74 73 75 M S) (hlt : ∀ k, 0 ≤ k → k < n → S.2.1 k = -1 → S.1 k < n) (h : Q (if gsK n S = n then -1 else gsK n S) M) : Calls 0 mX5_oneFree [.inr 69] M Q := by
  have loop : ∀ (k : Nat) (i : Int), 0 ≤ i → i + k = n → ff S.2.1 k i = gsK n S → Go (km 0 mX5_oneFree Q) 2 [some (.inr 69), some (.inl i)] [] M := by
    intro k
    induction k with
    | zero =>
      intro i i0 hi he
      simp only [ff] at he
      refine s_X5_oneFree_2 _ M ⟨fun _ => ?_, fun z => by exfalso; omega⟩
      rw [if_pos (by omega)] at h
      exact h
    | succ k ih =>
      intro i i0 hi he
      obtain ⟨e1, e2, e3⟩ := hS i i0 (by omega)
      simp only [ff] at he
      refine s_X5_oneFree_2 _ M ?_
      rw [hn, e1, e2]
      refine ⟨fun z => by exfalso; omega, fun _ => ⟨by omega, fun z => ⟨by unfold cn; omega, ?_⟩, fun z => ⟨by omega, fun y => ?_, fun y => ?_⟩⟩⟩
      · rw [if_neg z] at he
        exact ih (i + 1) (by omega) (by omega) he
      · have := hlt i i0 (by omega) z
        exfalso; omega
      · rw [if_pos z] at he
        rw [if_neg (by omega), ← he] at h
        exact h
  exact e_X5_oneFree (loop n.toNat 0 (by omega) (by omega) rfl)
theorem t_ask {Q : Int → Me → Prop} {M : Me} {n : Int} {ch pc : Int → Int → Int} {S : GS} {m : Int} (n2 : 2 ≤ n) (n6 : n ≤ 6) (hS : HG n 74 73 75 M S) (hc : ChOk ch n) (h : GI ch n S m) (hk : gsK n S < n) (hch : ∀ k j, 0 ≤ k → k < n → 0 ≤ j → j < n → M 70 (6 * k + j) = ch k j) (hpc : ∀ w x, 0 ≤ w → w < n → 0 ≤ x → x < n → M 72 (6 * w + x) = pc w x)
    (hQ : ∀ M', GFr 74 73 75 M M' → HG n 74 73 75 M' (gsN ch pc n S) → Q 0 M') : Calls 0 mX5_ask [.inr 69, .inl (gsK n S)] M Q := by
  have hd : (74 : Nat) ≠ 73 ∧ (74 : Nat) ≠ 75 ∧ (73 : Nat) ≠ 75 := by decide
  obtain ⟨k0, -, -, k4⟩ := gsK_b n (by omega) S
  have kf := k4 hk
  have hA := h.lt (by omega) hc k0 hk kf
  have hA0 := (h.1 _ k0 hk).1
  obtain ⟨w0, w1⟩ := (hc _ k0 hk).1 _ hA0 hA
  have hwe : ch (gsK n S) (S.1 (gsK n S)) = gsW ch n S := rfl
  rw [hwe] at w0 w1
  have e74 := (hS _ k0 hk).1
  have e70 : M 70 (6 * gsK n S + S.1 (gsK n S)) = gsW ch n S := hch _ _ k0 hk hA0 hA
  have e75 := (hS _ w0 w1).2.2
  unfold gsN at hQ
  generalize hkk : gsK n S = k at *
  generalize hww : gsW ch n S = w at *
  have g3 := h.2.2.1 w w0 w1
  refine e_X5_ask ?_
  rw [e74, e70, e75]
  have hS' : HG n 74 73 75 M (S.1, S.2.1, S.2.2) := hS
  have acc0 : S.2.2 w = -1 → (0 ≤ w ∧ w < 6) ∧ (0 ≤ k ∧ k < 6) ∧ Q 0 (mput (mput (mput M 74 k (S.1 k + 1)) 75 w k) 73 k w) := fun z => by
    rw [if_neg (fun y => y.1 z), if_pos z] at hQ
    exact ⟨by omega, by omega, hQ _ ((GFr.put _ _ _ (by omega)).tr ((GFr.put _ _ _ (by omega)).tr (GFr.put _ _ _ (by omega)))) (((hS'.pa hd k (S.1 k + 1)).pc hd w k).pb hd k w)⟩
  have acc1 : S.2.2 w ≠ -1 → ¬ pc w (S.2.2 w) < pc w k → (0 ≤ S.2.2 w ∧ S.2.2 w < 6) ∧ (0 ≤ w ∧ w < 6) ∧ (0 ≤ k ∧ k < 6) ∧ Q 0 (mput (mput (mput (mput M 74 k (S.1 k + 1)) 73 (S.2.2 w) (-1)) 75 w k) 73 k w) := fun z y => by
    rw [if_neg (fun x => y x.2), if_neg z] at hQ
    exact ⟨by omega, by omega, by omega, hQ _ ((GFr.put _ _ _ (by omega)).tr ((GFr.put _ _ _ (by omega)).tr ((GFr.put _ _ _ (by omega)).tr (GFr.put _ _ _ (by omega))))) ((((hS'.pa hd k (S.1 k + 1)).pb hd (S.2.2 w) (-1)).pc hd w k).pb hd k w)⟩
  refine ⟨by unfold cn; omega, by omega, by unfold cn; omega, by omega, by omega, by unfold cn; omega, by omega, by omega, fun z => ⟨fun _ => acc0 z, fun y => absurd z y⟩, fun z => ?_⟩
  have hh : 0 ≤ S.2.2 w ∧ S.2.2 w < n := by
    rcases g3 with y | y
    · exact absurd y z
    · exact ⟨y.1, y.2.1⟩
  rw [hpc w (S.2.2 w) w0 w1 hh.1 hh.2, hpc w k w0 w1 k0 hk]
  refine ⟨by unfold cn; omega, by unfold cn; omega, by omega, by unfold cn; omega, by unfold cn; omega, by omega, fun y => ⟨fun x => absurd x z, fun _ => acc1 z (by omega)⟩, fun y => ?_⟩
  rw [if_pos ⟨z, y⟩] at hQ
  exact hQ _ (GFr.put _ _ _ (by omega)) (hS'.pa hd k (S.1 k + 1))
def gs0 : GS := (fun _ => 0, fun _ => -1, fun _ => -1)
theorem gs0_GI (ch : Int → Int → Int) {n : Int} (n0 : 0 ≤ n) : GI ch n gs0 0 := by
  refine ⟨fun k _ _ => ⟨Int.le_refl _, n0⟩, fun k _ _ => Or.inl rfl, fun w _ _ => Or.inl rfl, fun k _ _ j j0 j1 => ?_, ?_⟩
  · have : j < 0 := j1
    omega
  · have : ∀ k : Nat, sm (fun _ => 0) k = 0 := fun k => by
      induction k with
      | zero => rfl
      | succ k ih => simp only [sm, ih]; rfl
    exact this _
theorem t_whomGets {Q : Int → Me → Prop} {M0 : Me} {n b : Int} {ch pc : Int → Int → Int} (n2 : 2 ≤ n) (n6 : n ≤ 6) (b0 : 0 ≤ b) (b1 : b < n) (hn : M0 69 6 = n) (hc : ChOk ch n) (hch : ∀ k j, 0 ≤ k → k < n → 0 ≤ j → j < n → M0 70 (6 * k + j) = ch k j) (hpc : ∀ w x, 0 ≤ w → w < n → 0 ≤ x → x < n → M0 72 (6 * w + x) = pc w x)
    (hQ : ∀ M', GFr 74 73 75 M0 M' → Q ((gsR ch pc n 36 gs0).2.1 b) M') : Calls 1 mX5_whomGets [.inr 69, .inl b] M0 Q := by
  obtain ⟨R, hR⟩ : ∃ R, gsR ch pc n 36 gs0 = R := ⟨_, rfl⟩
  rw [hR] at hQ
  have loop : ∀ (k : Nat) (i : Int) (M : Me) (S : GS), 0 ≤ i → i + k = 36 → GFr 74 73 75 M0 M → HG n 74 73 75 M S → GI ch n S i → gsR ch pc n k S = R → Go (km 1 mX5_whomGets Q) 39 [some (.inr 69), some (.inl b), some (.inl i), none] [] M := by
    intro k
    induction k with
    | zero =>
      intro i M S i0 hi f hS hG he
      simp only [gsR] at he
      refine s_X5_whomGets_39 _ _ M ⟨fun _ => ⟨by omega, ?_⟩, fun z => by exfalso; omega⟩
      rw [(hS b b0 b1).2.1, he]
      exact hQ M f
    | succ k ih =>
      intro i M S i0 hi f hS hG he
      simp only [gsR] at he
      obtain ⟨k0, k1, -⟩ := gsK_b n (by omega) S
      refine s_X5_whomGets_39 _ _ M ⟨fun z => by exfalso; omega, fun _ => ?_⟩
      refine t_oneFree n2 n6 (by rw [f 69 6 (by omega) (by omega) (by omega)]; exact hn) hS (fun j j0 j1 j2 => hG.lt (by omega) hc j0 j1 j2) ?_
      by_cases e : gsK n S = n
      · rw [if_pos e]
        rw [if_pos e] at he
        refine ⟨fun z => absurd rfl z, fun _ => ⟨by omega, ?_⟩⟩
        rw [(hS b b0 b1).2.1, he]
        exact hQ M f
      · rw [if_neg e]
        rw [if_neg e] at he
        refine ⟨fun _ => ?_, fun z => by exfalso; omega⟩
        refine t_ask (ch := ch) (pc := pc) n2 n6 hS hc hG (by omega) (fun x j a b c d => by rw [f 70 _ (by omega) (by omega) (by omega)]; exact hch x j a b c d) (fun x j a b c d => by rw [f 72 _ (by omega) (by omega) (by omega)]; exact hpc x j a b c d) (fun M' f' hS' => ⟨by unfold cn; omega, ?_⟩)
        exact ih (i + 1) M' _ (by omega) (by omega) (f.tr f') hS' (hG.step n2 n6 hc (by omega)).1 he
  have ini : ∀ (k : Nat) (i : Int) (M : Me), 0 ≤ i → i + k = n → GFr 74 73 75 M0 M → (∀ j, 0 ≤ j → j < i → M 74 j = 0 ∧ M 73 j = -1 ∧ M 75 j = -1) → Go (km 1 mX5_whomGets Q) 2 [some (.inr 69), some (.inl b), some (.inl i), none] [] M := by
    intro k
    induction k with
    | zero =>
      intro i M i0 hi f hd
      refine s_X5_whomGets_2 _ _ M ?_
      rw [f 69 6 (by omega) (by omega) (by omega), hn]
      exact ⟨fun _ => loop 36 0 M gs0 (by omega) (by omega) f (fun j j0 j1 => hd j j0 (by omega)) (gs0_GI ch (by omega)) hR, fun z => by exfalso; omega⟩
    | succ k ih =>
      intro i M i0 hi f hd
      refine s_X5_whomGets_2 _ _ M ?_
      rw [f 69 6 (by omega) (by omega) (by omega), hn]
      refine ⟨fun z => by exfalso; omega, fun _ => ⟨by omega, by omega, by omega, by unfold cn; omega, ?_⟩⟩
      refine ih (i + 1) _ (by omega) (by omega) (f.tr ((GFr.put _ _ _ (by omega)).tr ((GFr.put _ _ _ (by omega)).tr (GFr.put _ _ _ (by omega))))) (fun j j0 j1 => ?_)
      by_cases e : j = i
      · subst e
        refine ⟨?_, ?_, mput_same _ _ _ _⟩
        · rw [mput_ne _ _ _ _ (by omega), mput_ne _ _ _ _ (by omega), mput_same]
        · rw [mput_ne _ _ _ _ (by omega), mput_same]
      · have := hd j j0 (by omega)
        rw [mput_ne _ _ _ _ (by omega), mput_ne _ _ _ _ (by omega), mput_ni _ _ _ _ e, mput_ne _ _ _ _ (by omega), mput_ni _ _ _ _ e, mput_ne _ _ _ _ (by omega), mput_ni _ _ _ _ e, mput_ne _ _ _ _ (by omega), mput_ne _ _ _ _ (by omega)]
        exact this
  exact e_X5_whomGets (ini n.toNat 0 M0 (by omega) (by omega) (fun _ _ _ _ _ => rfl) (fun j a b => by omega))
/-! the reference -/
def eng (P : Int → Int) (n : Int) : Int := sm (fun k => if P k = -1 then 0 else 1) n.toNat
theorem eng_up {P : Int → Int} {n k v : Int} (k0 : 0 ≤ k) (k1 : k < n) : eng (upS P k v) n = eng P n + (if v = -1 then 0 else 1) - (if P k = -1 then 0 else 1) := by
  unfold eng
  have e : sm (fun i => if upS P k v i = -1 then 0 else 1) n.toNat = sm (upS (fun i => if P i = -1 then 0 else 1) k (if v = -1 then 0 else 1)) n.toNat := sm_congr _ (fun i _ _ => by
    unfold upS
    split <;> rfl)
  rw [e, sm_up, if_pos (by omega)]
theorem eng_le (P : Int → Int) (n : Int) (n0 : 0 ≤ n) : 0 ≤ eng P n ∧ eng P n ≤ n := by
  have h1 : ∀ k : Nat, 0 ≤ sm (fun k => if P k = -1 then 0 else 1) k ∧ sm (fun k => if P k = -1 then 0 else 1) k ≤ k := fun k => by
    induction k with
    | zero => simp [sm]
    | succ k ih => simp only [sm]; split <;> omega
  have := h1 n.toNat
  unfold eng
  omega
theorem eng_full {P : Int → Int} : ∀ (k : Nat), (∀ i, 0 ≤ i → i < (k : Int) → P i ≠ -1) → sm (fun k => if P k = -1 then 0 else 1) k = k
  | 0, _ => rfl
  | k + 1, h => by
    simp only [sm]
    rw [eng_full k (fun i a b => h i a (by omega)), if_neg (h k (by omega) (by omega))]
    omega
theorem eng_not {P : Int → Int} {n k : Int} (k0 : 0 ≤ k) (k1 : k < n) (hk : P k = -1) : eng P n < n := by
  have h1 := eng_up (P := P) (v := 0) k0 k1
  have h2 := (eng_le (upS P k 0) n (by omega)).2
  rw [hk, if_neg (by omega), if_pos rfl] at h1
  omega
theorem q_asks {Q : Int → Me → Prop} {M0 : Me} {n : Int} {ch pc : Int → Int → Int} (n2 : 2 ≤ n) (n6 : n ≤ 6) (hc : ChOk ch n) (hch : ∀ k j, 0 ≤ k → k < n → 0 ≤ j → j < n → M0 117 (6 * k + j) = ch k j) (hpc : ∀ w x, 0 ≤ w → w < n → 0 ≤ x → x < n → M0 116 (6 * (n + w) + x) = pc w x)
    (hQ : ∀ M', GFr 119 118 120 M0 M' → (∀ b, 0 ≤ b → b < n → M' 118 b = (gsR ch pc n 36 gs0).2.1 b) → Q 0 M') : Calls 0 mX12_asks [.inr 76, .inl n] M0 Q := by
  obtain ⟨R, hR⟩ : ∃ R, gsR ch pc n 36 gs0 = R := ⟨_, rfl⟩
  rw [hR] at hQ
  have hd : (119 : Nat) ≠ 118 ∧ (119 : Nat) ≠ 120 ∧ (118 : Nat) ≠ 120 := by decide
  have loop : ∀ (k : Nat) (i : Int) (M : Me) (S : GS), 0 ≤ i → i + k = 36 → GFr 119 118 120 M0 M → HG n 119 118 120 M S → GI ch n S i → gsR ch pc n k S = R → Go (km 0 mX12_asks Q) 36 [some (.inr 76), some (.inl n), some (.inl (eng S.2.1 n)), none, none, none] [] M := by
    intro k
    induction k with
    | zero =>
      intro i M S i0 hi f hS hG he
      simp only [gsR] at he
      have hfull : gsK n S = n := by
        obtain ⟨k0, k1, -⟩ := gsK_b n (by omega) S
        by_cases q : gsK n S < n
        · have := (hG.step (pc := pc) n2 n6 hc q).2
          omega
        · omega
      obtain ⟨-, -, k3, -⟩ := gsK_b n (by omega) S
      rw [hfull] at k3
      have he2 : eng S.2.1 n = n := by
        unfold eng
        rw [eng_full _ (fun i a b => k3 i a (by omega))]
        omega
      refine s_X12_asks_36 _ _ M ⟨fun _ => hQ M f (fun b b0 b1 => ?_), fun z => by exfalso; omega⟩
      rw [(hS b b0 b1).2.1, he]
    | succ k ih =>
      intro i M S i0 hi f hS hG he
      simp only [gsR] at he
      obtain ⟨k0, k1, k3, k4⟩ := gsK_b n (by omega) S
      by_cases e : gsK n S = n
      · rw [if_pos e] at he
        rw [e] at k3
        have he2 : eng S.2.1 n = n := by
          unfold eng
          rw [eng_full _ (fun i a b => k3 i a (by omega))]
          omega
        refine s_X12_asks_36 _ _ M ⟨fun _ => hQ M f (fun b b0 b1 => ?_), fun z => by exfalso; omega⟩
        rw [(hS b b0 b1).2.1, he]
      · rw [if_neg e] at he
        have hk : gsK n S < n := by omega
        have kf := k4 hk
        have hlt := eng_not k0 hk kf
        have nx := ih (i + 1)
        have hGn := (hG.step (pc := pc) n2 n6 hc hk).1
        refine s_X12_asks_36 _ _ M ⟨fun z => by exfalso; omega, fun _ => ?_⟩
        have hA := hG.lt (by omega) hc k0 hk kf
        have hA0 := (hG.1 _ k0 hk).1
        obtain ⟨w0, w1⟩ := (hc _ k0 hk).1 _ hA0 hA
        have hwe : ch (gsK n S) (S.1 (gsK n S)) = gsW ch n S := rfl
        rw [hwe] at w0 w1
        have e119 := (hS _ k0 hk).1
        have e118 := (hS _ k0 hk).2.1
        have e117 : M 117 (6 * gsK n S + S.1 (gsK n S)) = gsW ch n S := by rw [f 117 _ (by omega) (by omega) (by omega)]; exact hch _ _ k0 hk hA0 hA
        have e120 := (hS _ w0 w1).2.2
        have g3 := hG.2.2.1 _ w0 w1
        have hS' : HG n 119 118 120 M (S.1, S.2.1, S.2.2) := hS
        unfold gsN at he nx hGn
        generalize hkk : gsK n S = kk at *
        generalize hww : gsW ch n S = w at *
        have go43 : Go (km 0 mX12_asks Q) 43 [some (.inr 76), some (.inl n), some (.inl (eng S.2.1 n)), some (.inl kk), none, none] [] M := by
          refine s_X12_asks_43 _ _ _ M ?_
          rw [e118, e119, e117, e120]
          have acc0 : S.2.2 w = -1 → cn (eng S.2.1 n + 1) ∧ (0 ≤ w ∧ w < 6) ∧ (0 ≤ kk ∧ kk < 6) ∧ Go (km 0 mX12_asks Q) 36 [some (.inr 76), some (.inl n), some (.inl (eng S.2.1 n + 1)), none, none, none] [] (mput (mput (mput M 119 kk (S.1 kk + 1)) 120 w kk) 118 kk w) := fun z => by
            rw [if_neg (fun y => y.1 z), if_pos z] at he hGn
            have hh := (((hS'.pa hd kk (S.1 kk + 1)).pc hd w kk).pb hd kk w)
            have ee : eng (upS S.2.1 kk w) n = eng S.2.1 n + 1 := by rw [eng_up k0 hk, kf, if_neg (by omega), if_pos rfl]; omega
            have := nx _ _ (by omega) (by omega) (f.tr ((GFr.put _ _ _ (by omega)).tr ((GFr.put _ _ _ (by omega)).tr (GFr.put _ _ _ (by omega))))) hh hGn he
            simp only at this
            rw [ee] at this
            have hel := eng_le S.2.1 n (by omega)
            exact ⟨by unfold cn; omega, by omega, by omega, this⟩
          have acc1 : S.2.2 w ≠ -1 → ¬ pc w (S.2.2 w) < pc w kk → (0 ≤ S.2.2 w ∧ S.2.2 w < 6) ∧ (0 ≤ w ∧ w < 6) ∧ (0 ≤ kk ∧ kk < 6) ∧ Go (km 0 mX12_asks Q) 36 [some (.inr 76), some (.inl n), some (.inl (eng S.2.1 n)), none, none, none] [] (mput (mput (mput (mput M 119 kk (S.1 kk + 1)) 118 (S.2.2 w) (-1)) 120 w kk) 118 kk w) := fun z y => by
            rw [if_neg (fun x => y x.2), if_neg z] at he hGn
            have hh := ((((hS'.pa hd kk (S.1 kk + 1)).pb hd (S.2.2 w) (-1)).pc hd w kk).pb hd kk w)
            have hb : 0 ≤ S.2.2 w ∧ S.2.2 w < n ∧ S.2.1 (S.2.2 w) = w := by
              rcases g3 with x | x
              · exact absurd x z
              · exact x
            have hne : kk ≠ S.2.2 w := fun x => by rw [← x, kf] at hb; omega
            have ee : eng (upS (upS S.2.1 (S.2.2 w) (-1)) kk w) n = eng S.2.1 n := by
              have hw' : ¬ w = -1 := by omega
              rw [eng_up k0 hk, upS_ne _ _ hne, kf, eng_up hb.1 hb.2.1, hb.2.2]
              simp only [hw', if_false, if_true]
              omega
            have := nx _ _ (by omega) (by omega) (f.tr ((GFr.put _ _ _ (by omega)).tr ((GFr.put _ _ _ (by omega)).tr ((GFr.put _ _ _ (by omega)).tr (GFr.put _ _ _ (by omega)))))) hh hGn he
            simp only at this
            rw [ee] at this
            exact ⟨by omega, by omega, by omega, this⟩
          refine ⟨by omega, fun _ => ⟨by unfold cn; omega, by omega, by unfold cn; omega, by omega, by omega, by unfold cn; omega, by omega, by omega, fun z => ⟨fun y => absurd z y, fun _ => acc0 z⟩, fun z => ?_⟩, fun z => absurd kf z⟩
          have hb : 0 ≤ S.2.2 w ∧ S.2.2 w < n := by
            rcases g3 with x | x
            · exact absurd x z
            · exact ⟨x.1, x.2.1⟩
          have p1 : M 116 (6 * (n + w) + S.2.2 w) = pc w (S.2.2 w) := by rw [f 116 _ (by omega) (by omega) (by omega)]; exact hpc w _ w0 w1 hb.1 hb.2
          have p2 : M 116 (6 * (n + w) + kk) = pc w kk := by rw [f 116 _ (by omega) (by omega) (by omega)]; exact hpc w _ w0 w1 k0 hk
          rw [p1, p2]
          refine ⟨by unfold cn; omega, by unfold cn; omega, by unfold cn; omega, by omega, by unfold cn; omega, by unfold cn; omega, by unfold cn; omega, by omega, fun y => ⟨fun _ => acc1 z (by omega), fun x => absurd x z⟩, fun y => ?_⟩
          rw [if_pos ⟨z, y⟩] at he hGn
          exact nx _ (upS S.1 kk (S.1 kk + 1), S.2.1, S.2.2) (by omega) (by omega) (f.tr (GFr.put _ _ _ (by omega))) (hS'.pa hd kk (S.1 kk + 1)) hGn he
        have find : ∀ (r : Nat) (x : Int), 0 ≤ x → x + r = kk → Go (km 0 mX12_asks Q) 43 [some (.inr 76), some (.inl n), some (.inl (eng S.2.1 n)), some (.inl x), none, none] [] M := by
          intro r
          induction r with
          | zero =>
            intro x x0 hx
            have : x = kk := by omega
            subst this
            exact go43
          | succ r ihr =>
            intro x x0 hx
            have hx1 := k3 x x0 (by omega)
            have ex := (hS x x0 (by omega)).2.1
            refine s_X12_asks_43 _ _ _ M ?_
            rw [ex]
            exact ⟨by omega, fun z => absurd z hx1, fun _ => ⟨by unfold cn; omega, ihr (x + 1) (by omega) (by omega)⟩⟩
        exact find kk.toNat 0 (by omega) (by omega)
  have ini : ∀ (k : Nat) (i : Int) (M : Me), 0 ≤ i → i + k = n → GFr 119 118 120 M0 M → (∀ j, 0 ≤ j → j < i → M 119 j = 0 ∧ M 118 j = -1 ∧ M 120 j = -1) → Go (km 0 mX12_asks Q) 2 [some (.inr 76), some (.inl n), some (.inl i), none, none, none] [] M := by
    intro k
    induction k with
    | zero =>
      intro i M i0 hi f hd
      have e0 : eng gs0.2.1 n = 0 := by
        unfold eng gs0
        simp only
        have : ∀ k : Nat, sm (fun _ => if (-1 : Int) = -1 then 0 else 1) k = 0 := fun k => by
          induction k with
          | zero => rfl
          | succ k ih =>
            show sm (fun _ => if (-1 : Int) = -1 then 0 else 1) k + (if (-1 : Int) = -1 then 0 else 1) = 0
            rw [ih, if_pos rfl]
            rfl
        exact this _
      have := loop 36 0 M gs0 (by omega) (by omega) f (fun j j0 j1 => hd j j0 (by omega)) (gs0_GI ch (by omega)) hR
      rw [e0] at this
      exact s_X12_asks_2 _ _ M ⟨fun _ => this, fun z => by exfalso; omega⟩
    | succ k ih =>
      intro i M i0 hi f hd
      refine s_X12_asks_2 _ _ M ⟨fun z => by exfalso; omega, fun _ => ⟨by omega, by omega, by omega, by unfold cn; omega, ?_⟩⟩
      refine ih (i + 1) _ (by omega) (by omega) (f.tr ((GFr.put _ _ _ (by omega)).tr ((GFr.put _ _ _ (by omega)).tr (GFr.put _ _ _ (by omega))))) (fun j j0 j1 => ?_)
      by_cases e : j = i
      · subst e
        refine ⟨?_, ?_, mput_same _ _ _ _⟩
        · rw [mput_ne _ _ _ _ (by omega), mput_same]
        · rw [mput_ne _ _ _ _ (by omega), mput_ne _ _ _ _ (by omega), mput_same]
      · have := hd j j0 (by omega)
        rw [mput_ne _ _ _ _ (by omega), mput_ni _ _ _ _ e, mput_ne _ _ _ _ (by omega), mput_ne _ _ _ _ (by omega), mput_ne _ _ _ _ (by omega), mput_ni _ _ _ _ e, mput_ni _ _ _ _ e, mput_ne _ _ _ _ (by omega), mput_ne _ _ _ _ (by omega)]
        exact this
  exact e_X12_asks (ini n.toNat 0 M0 (by omega) (by omega) (fun _ _ _ _ _ => rfl) (fun j a b => by omega))
