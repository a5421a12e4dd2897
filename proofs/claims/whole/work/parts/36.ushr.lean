def bushr (x y : Int) : Int := ((Int32.ofInt x).toUInt32 >>> ((Int32.ofInt y).toUInt32 &&& Int32.toUInt32 31)).toInt32.toInt
theorem a_iushr {K : Kx} {pc : Nat} {ls : List (Option AV)} {st : List AV} {M : Me} {x y : Int} (hd : decode K.1.2.1 pc = .ok (.iushr, 1)) (k : Go K (pc + 1) ls (.inl (bushr x y) :: st) M) : Go K pc ls (.inl y :: .inl x :: st) M := by
  intro hM hl hs g p l e s m args below meth c H locs la C
  refine lv_iushr C.1.1 C.1.2.1 hd rfl ?_
  have h := k hM hl (hs.tl.tl.consI (cn_of32 _)) g p l e s m args below meth c H locs la C
  simp only [List.map_cons, cv, bushr, ofInt_of32] at h
  exact h
theorem us_mod : ∀ i, i < 31 → (((nI i).toUInt32 &&& Int32.toUInt32 31).toBitVec % 32).toNat = i := by decide +kernel
theorem bushr_nat {x i : Nat} (hx : x < 2 ^ 31) (hi : i < 31) : bushr (x : Int) (i : Int) = ((x / 2 ^ i : Nat) : Int) := by
  have h2 : x / 2 ^ i ≤ x := Nat.div_le_self _ _
  unfold bushr
  rw [ofInt_nat, ofInt_nat, pk_ushrN (by omega) _ i (us_mod i hi), nI_toInt (by omega)]
