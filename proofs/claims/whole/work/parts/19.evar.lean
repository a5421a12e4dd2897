theorem a_getiE {K : Kx} {pc : Nat} {ls : List (Option AV)} {st : List AV} {M : Me} {idx ci k o : Nat} {fin : Bool} {ty : FieldType} (v j : Int) (hd : decode K.1.2.1 pc = .ok (.getfield idx, 3)) (hf : FOK K.1.1.cls idx ci k fin ty) (ho : fldS o ci k = some none) (hj : (k : Int) = j) (hv : M o j = v) (kk : Go K (pc + 3) ls (.inl v :: st) M) : Go K pc ls (.inr o :: st) M := a_geti j hd hf ho hj (by rw [hv]; exact kk)
theorem a_ialdE {K : Kx} {pc : Nat} {ls : List (Option AV)} {st : List AV} {M : Me} {o n : Nat} {i : Int} (v : Int) (hd : decode K.1.2.1 pc = .ok (.iaload, 1)) (ho : lay[o]? = some (.inl (false, n))) (h0 : 0 ≤ i) (h1 : i < (n : Int)) (hv : M o i = v) (kk : Go K (pc + 1) ls (.inl v :: st) M) : Go K pc ls (.inl i :: .inr o :: st) M := a_iald hd ho h0 h1 (by rw [hv]; exact kk)
theorem a_baldE {K : Kx} {pc : Nat} {ls : List (Option AV)} {st : List AV} {M : Me} {o n : Nat} {i : Int} (v : Int) (hd : decode K.1.2.1 pc = .ok (.baload, 1)) (ho : lay[o]? = some (.inl (true, n))) (h0 : 0 ≤ i) (h1 : i < (n : Int)) (hv : M o i = v) (kk : Go K (pc + 1) ls (.inl v :: st) M) : Go K pc ls (.inl i :: .inr o :: st) M := a_bald hd ho h0 h1 (by rw [hv]; exact kk)
theorem mcopy_ne (M : Me) {a b k : Nat} (n i : Int) (h : k ≠ b) : mcopy M a b n k i = M k i := by simp [mcopy, h]
theorem mcopy_at (M : Me) (a b : Nat) {n i : Int} (h0 : 0 ≤ i) (h : i < n) : mcopy M a b n b i = M a i := by simp [mcopy, h0, h]
theorem cnb {n : Int} (h : (decide (-2147483648 ≤ n) && decide (n ≤ 2147483647)) = true) : cn n := by
  simp only [Bool.and_eq_true, decide_eq_true_eq] at h
  exact h
