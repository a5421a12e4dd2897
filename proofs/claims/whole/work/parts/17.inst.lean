theorem ofInt_nI {x : Int} (h : 0 ≤ x) : Int32.ofInt x = nI x.toNat := by
  show Int32.ofInt x = Int32.ofNat x.toNat
  rw [← Int32.ofInt_eq_ofNat, Int.toNat_of_nonneg h]
theorem bdiv_nn {x y : Int} (hx : cn x) (hy : cn y) (h0 : 0 ≤ x) (h1 : 0 < y) : bdiv x y = x / y := by
  unfold cn at hx hy
  have hq : x / y ≤ x := Int.ediv_le_self y h0
  have hq0 : 0 ≤ x / y := Int.ediv_nonneg h0 (by omega)
  unfold bdiv
  rw [ofInt_nI h0, ofInt_nI (Int.le_of_lt h1), pk_div (by omega) (by omega) (by omega), nI_toInt (by
    have : x.toNat / y.toNat ≤ x.toNat := Nat.div_le_self _ _
    omega)]
  have e1 : ((x.toNat : Nat) : Int) = x := Int.toNat_of_nonneg h0
  have e2 : ((y.toNat : Nat) : Int) = y := Int.toNat_of_nonneg (Int.le_of_lt h1)
  rw [Int.natCast_ediv, e1, e2]
theorem brem_nn {x y : Int} (hx : cn x) (hy : cn y) (h0 : 0 ≤ x) (h1 : 0 < y) : brem x y = x % y := by
  unfold cn at hx hy
  unfold brem
  rw [ofInt_nI h0, ofInt_nI (Int.le_of_lt h1), pk_rem (by omega) (by omega) (by omega), nI_toInt (by
    have : x.toNat % y.toNat ≤ x.toNat := Nat.mod_le _ _
    omega)]
  have e1 : ((x.toNat : Nat) : Int) = x := Int.toNat_of_nonneg h0
  have e2 : ((y.toNat : Nat) : Int) = y := Int.toNat_of_nonneg (Int.le_of_lt h1)
  rw [Int.natCast_emod, e1, e2]
theorem a_idivn {K : Kx} {pc : Nat} {ls : List (Option AV)} {st : List AV} {M : Me} {x y : Int} (hd : decode K.1.2.1 pc = .ok (.idiv, 1)) (h1 : 0 < y) (h0 : 0 ≤ x) (k : Go K (pc + 1) ls (.inl (x / y) :: st) M) : Go K pc ls (.inl y :: .inl x :: st) M := by
  refine Go.known (fun hM hl hs => ?_)
  refine a_idiv hd (by omega) ?_
  rw [bdiv_nn hs.tl.hd hs.hd h0 h1]
  exact k
theorem a_iremn {K : Kx} {pc : Nat} {ls : List (Option AV)} {st : List AV} {M : Me} {x y : Int} (hd : decode K.1.2.1 pc = .ok (.irem, 1)) (h1 : 0 < y) (h0 : 0 ≤ x) (k : Go K (pc + 1) ls (.inl (x % y) :: st) M) : Go K pc ls (.inl y :: .inl x :: st) M := by
  refine Go.known (fun hM hl hs => ?_)
  refine a_irem hd (by omega) ?_
  rw [brem_nn hs.tl.hd hs.hd h0 h1]
  exact k
def isX1 (o : Nat) : Prop := o = 3 ∨ o = 13
theorem fr_X1_0 {o : Nat} (h : isX1 o) : fldS o 1 0 = some (some (o + 1)) := by rcases h with rfl | rfl <;> rfl
theorem ar_X1_0 {o : Nat} (h : isX1 o) : lay[o + 1]? = some (.inl (false, 16)) := by rcases h with rfl | rfl <;> rfl
theorem fr_X1_1 {o : Nat} (h : isX1 o) : fldS o 1 1 = some (some (o + 2)) := by rcases h with rfl | rfl <;> rfl
theorem ar_X1_1 {o : Nat} (h : isX1 o) : lay[o + 2]? = some (.inl (false, 16)) := by rcases h with rfl | rfl <;> rfl
theorem fr_X1_2 {o : Nat} (h : isX1 o) : fldS o 1 2 = some (some (o + 3)) := by rcases h with rfl | rfl <;> rfl
theorem ar_X1_2 {o : Nat} (h : isX1 o) : lay[o + 3]? = some (.inl (false, 16)) := by rcases h with rfl | rfl <;> rfl
theorem fr_X1_3 {o : Nat} (h : isX1 o) : fldS o 1 3 = some (some (o + 4)) := by rcases h with rfl | rfl <;> rfl
theorem ar_X1_3 {o : Nat} (h : isX1 o) : lay[o + 4]? = some (.inl (false, 16)) := by rcases h with rfl | rfl <;> rfl
theorem fr_X1_4 {o : Nat} (h : isX1 o) : fldS o 1 4 = some (some (o + 5)) := by rcases h with rfl | rfl <;> rfl
theorem ar_X1_4 {o : Nat} (h : isX1 o) : lay[o + 5]? = some (.inl (false, 16)) := by rcases h with rfl | rfl <;> rfl
theorem fr_X1_5 {o : Nat} (h : isX1 o) : fldS o 1 5 = some (some (o + 6)) := by rcases h with rfl | rfl <;> rfl
theorem ar_X1_5 {o : Nat} (h : isX1 o) : lay[o + 6]? = some (.inl (false, 16)) := by rcases h with rfl | rfl <;> rfl
theorem fr_X1_6 {o : Nat} (h : isX1 o) : fldS o 1 6 = some (some (o + 7)) := by rcases h with rfl | rfl <;> rfl
theorem ar_X1_6 {o : Nat} (h : isX1 o) : lay[o + 7]? = some (.inl (false, 16)) := by rcases h with rfl | rfl <;> rfl
theorem fr_X1_7 {o : Nat} (h : isX1 o) : fldS o 1 7 = some (some (o + 8)) := by rcases h with rfl | rfl <;> rfl
theorem ar_X1_7 {o : Nat} (h : isX1 o) : lay[o + 8]? = some (.inl (false, 16)) := by rcases h with rfl | rfl <;> rfl
theorem fi_X1_8 {o : Nat} (h : isX1 o) : fldS o 1 8 = some none := by rcases h with rfl | rfl <;> rfl
theorem ob_X1 {o : Nat} (h : isX1 o) : ∃ ss, lay[o]? = some (.inr (1, ss)) := by rcases h with rfl | rfl <;> exact ⟨_, rfl⟩
def isX3 (o : Nat) : Prop := o = 22 ∨ o = 30
theorem fr_X3_0 {o : Nat} (h : isX3 o) : fldS o 3 0 = some (some (o + 1)) := by rcases h with rfl | rfl <;> rfl
theorem ar_X3_0 {o : Nat} (h : isX3 o) : lay[o + 1]? = some (.inl (false, 16)) := by rcases h with rfl | rfl <;> rfl
theorem fr_X3_1 {o : Nat} (h : isX3 o) : fldS o 3 1 = some (some (o + 2)) := by rcases h with rfl | rfl <;> rfl
theorem ar_X3_1 {o : Nat} (h : isX3 o) : lay[o + 2]? = some (.inl (false, 16)) := by rcases h with rfl | rfl <;> rfl
theorem fr_X3_2 {o : Nat} (h : isX3 o) : fldS o 3 2 = some (some (o + 3)) := by rcases h with rfl | rfl <;> rfl
theorem ar_X3_2 {o : Nat} (h : isX3 o) : lay[o + 3]? = some (.inl (false, 16)) := by rcases h with rfl | rfl <;> rfl
theorem fr_X3_3 {o : Nat} (h : isX3 o) : fldS o 3 3 = some (some (o + 4)) := by rcases h with rfl | rfl <;> rfl
theorem ar_X3_3 {o : Nat} (h : isX3 o) : lay[o + 4]? = some (.inl (false, 16)) := by rcases h with rfl | rfl <;> rfl
theorem fr_X3_4 {o : Nat} (h : isX3 o) : fldS o 3 4 = some (some (o + 5)) := by rcases h with rfl | rfl <;> rfl
theorem ar_X3_4 {o : Nat} (h : isX3 o) : lay[o + 5]? = some (.inl (false, 240)) := by rcases h with rfl | rfl <;> rfl
theorem fr_X3_5 {o : Nat} (h : isX3 o) : fldS o 3 5 = some (some (o + 6)) := by rcases h with rfl | rfl <;> rfl
theorem ar_X3_5 {o : Nat} (h : isX3 o) : lay[o + 6]? = some (.inl (false, 64)) := by rcases h with rfl | rfl <;> rfl
theorem fi_X3_6 {o : Nat} (h : isX3 o) : fldS o 3 6 = some none := by rcases h with rfl | rfl <;> rfl
theorem fi_X3_7 {o : Nat} (h : isX3 o) : fldS o 3 7 = some none := by rcases h with rfl | rfl <;> rfl
theorem fi_X3_8 {o : Nat} (h : isX3 o) : fldS o 3 8 = some none := by rcases h with rfl | rfl <;> rfl
theorem ob_X3 {o : Nat} (h : isX3 o) : ∃ ss, lay[o]? = some (.inr (3, ss)) := by rcases h with rfl | rfl <;> exact ⟨_, rfl⟩
def isX8 (o : Nat) : Prop := o = 37 ∨ o = 43 ∨ o = 49
theorem fr_X8_0 {o : Nat} (h : isX8 o) : fldS o 8 0 = some (some (o + 1)) := by rcases h with rfl | rfl | rfl <;> rfl
theorem ar_X8_0 {o : Nat} (h : isX8 o) : lay[o + 1]? = some (.inl (false, 16)) := by rcases h with rfl | rfl | rfl <;> rfl
theorem fr_X8_1 {o : Nat} (h : isX8 o) : fldS o 8 1 = some (some (o + 2)) := by rcases h with rfl | rfl | rfl <;> rfl
theorem ar_X8_1 {o : Nat} (h : isX8 o) : lay[o + 2]? = some (.inl (false, 16)) := by rcases h with rfl | rfl | rfl <;> rfl
theorem fr_X8_2 {o : Nat} (h : isX8 o) : fldS o 8 2 = some (some (o + 3)) := by rcases h with rfl | rfl | rfl <;> rfl
theorem ar_X8_2 {o : Nat} (h : isX8 o) : lay[o + 3]? = some (.inl (false, 16)) := by rcases h with rfl | rfl | rfl <;> rfl
theorem fr_X8_3 {o : Nat} (h : isX8 o) : fldS o 8 3 = some (some (o + 4)) := by rcases h with rfl | rfl | rfl <;> rfl
theorem ar_X8_3 {o : Nat} (h : isX8 o) : lay[o + 4]? = some (.inl (false, 16)) := by rcases h with rfl | rfl | rfl <;> rfl
theorem fr_X8_4 {o : Nat} (h : isX8 o) : fldS o 8 4 = some (some (o + 5)) := by rcases h with rfl | rfl | rfl <;> rfl
theorem ar_X8_4 {o : Nat} (h : isX8 o) : lay[o + 5]? = some (.inl (false, 16)) := by rcases h with rfl | rfl | rfl <;> rfl
theorem fi_X8_5 {o : Nat} (h : isX8 o) : fldS o 8 5 = some none := by rcases h with rfl | rfl | rfl <;> rfl
theorem fi_X8_6 {o : Nat} (h : isX8 o) : fldS o 8 6 = some none := by rcases h with rfl | rfl | rfl <;> rfl
theorem ob_X8 {o : Nat} (h : isX8 o) : ∃ ss, lay[o]? = some (.inr (8, ss)) := by rcases h with rfl | rfl | rfl <;> exact ⟨_, rfl⟩
theorem mt_cd_max : Cond.code Lib.Math.max.name Lib.Math.max.code 2 (some .int) ∈ lwg := lwg_of (List.mem_of_getElem? (i := 579) (by decide +kernel)) (by decide +kernel)
theorem mt_st_max : Cond.static Lib.Math.max.name ∈ lwg := lwg_of (List.mem_of_getElem? (i := 578) (by decide +kernel)) (by decide +kernel)
theorem mt_cd_min : Cond.code Lib.Math.min.name Lib.Math.min.code 2 (some .int) ∈ lwg := lwg_of (List.mem_of_getElem? (i := 527) (by decide +kernel)) (by decide +kernel)
theorem mt_st_min : Cond.static Lib.Math.min.name ∈ lwg := lwg_of (List.mem_of_getElem? (i := 526) (by decide +kernel)) (by decide +kernel)
theorem mt_cd_abs : Cond.code Lib.Math.abs.name Lib.Math.abs.code 1 (some .int) ∈ lwg := lwg_of (List.mem_of_getElem? (i := 766) (by decide +kernel)) (by decide +kernel)
theorem mt_st_abs : Cond.static Lib.Math.abs.name ∈ lwg := lwg_of (List.mem_of_getElem? (i := 765) (by decide +kernel)) (by decide +kernel)
theorem mt_ini : Cond.initialized "java/lang/Math" ∈ lwg := lwg_of (List.mem_of_getElem? (i := 110) (by decide +kernel)) (by decide +kernel)
theorem ac_nat : Cond.native arraycopyName ∈ lwg := lwg_of (List.mem_of_getElem? (i := 685) (by decide +kernel)) (by decide +kernel)
theorem ac_st : Cond.static arraycopyName ∈ lwg := lwg_of (List.mem_of_getElem? (i := 684) (by decide +kernel)) (by decide +kernel)
theorem ac_ini : Cond.initialized "java/lang/System" ∈ lwg := lwg_of (List.mem_of_getElem? (i := 116) (by decide +kernel)) (by decide +kernel)
theorem ml_X11_215 : Cond.methodLink RX11 215 Lib.Math.max.name ∈ lwg := lwg_of (List.mem_of_getElem? (i := 878) (by decide +kernel)) (by decide +kernel)
theorem ml_X11_220 : Cond.methodLink RX11 220 Lib.Math.min.name ∈ lwg := lwg_of (List.mem_of_getElem? (i := 883) (by decide +kernel)) (by decide +kernel)
theorem ml_X11_313 : Cond.methodLink RX11 313 Lib.Math.abs.name ∈ lwg := lwg_of (List.mem_of_getElem? (i := 764) (by decide +kernel)) (by decide +kernel)
theorem ml_X1_40 : Cond.methodLink RX1 40 arraycopyName ∈ lwg := lwg_of (List.mem_of_getElem? (i := 729) (by decide +kernel)) (by decide +kernel)
theorem ml_X2_50 : Cond.methodLink RX2 50 Lib.Math.max.name ∈ lwg := lwg_of (List.mem_of_getElem? (i := 939) (by decide +kernel)) (by decide +kernel)
theorem ml_X2_60 : Cond.methodLink RX2 60 Lib.Math.abs.name ∈ lwg := lwg_of (List.mem_of_getElem? (i := 944) (by decide +kernel)) (by decide +kernel)
theorem ml_X2_71 : Cond.methodLink RX2 71 Lib.Math.min.name ∈ lwg := lwg_of (List.mem_of_getElem? (i := 972) (by decide +kernel)) (by decide +kernel)
theorem ml_X3_39 : Cond.methodLink RX3 39 arraycopyName ∈ lwg := lwg_of (List.mem_of_getElem? (i := 683) (by decide +kernel)) (by decide +kernel)
theorem ml_X3_57 : Cond.methodLink RX3 57 Lib.Math.min.name ∈ lwg := lwg_of (List.mem_of_getElem? (i := 788) (by decide +kernel)) (by decide +kernel)
theorem ml_X3_63 : Cond.methodLink RX3 63 Lib.Math.max.name ∈ lwg := lwg_of (List.mem_of_getElem? (i := 792) (by decide +kernel)) (by decide +kernel)
theorem ml_X6_52 : Cond.methodLink RX6 52 Lib.Math.min.name ∈ lwg := lwg_of (List.mem_of_getElem? (i := 997) (by decide +kernel)) (by decide +kernel)
theorem ml_X8_42 : Cond.methodLink RX8 42 Lib.Math.min.name ∈ lwg := lwg_of (List.mem_of_getElem? (i := 829) (by decide +kernel)) (by decide +kernel)
theorem ml_X8_48 : Cond.methodLink RX8 48 Lib.Math.max.name ∈ lwg := lwg_of (List.mem_of_getElem? (i := 830) (by decide +kernel)) (by decide +kernel)
theorem ml_X8_51 : Cond.methodLink RX8 51 arraycopyName ∈ lwg := lwg_of (List.mem_of_getElem? (i := 831) (by decide +kernel)) (by decide +kernel)
theorem ml_X9_28 : Cond.methodLink RX9 28 Lib.Math.min.name ∈ lwg := lwg_of (List.mem_of_getElem? (i := 525) (by decide +kernel)) (by decide +kernel)
theorem ml_X10_118 : Cond.methodLink RX10 118 Lib.Math.min.name ∈ lwg := lwg_of (List.mem_of_getElem? (i := 809) (by decide +kernel)) (by decide +kernel)
theorem ml_X10_123 : Cond.methodLink RX10 123 Lib.Math.max.name ∈ lwg := lwg_of (List.mem_of_getElem? (i := 820) (by decide +kernel)) (by decide +kernel)
theorem ml_J1_38 : Cond.methodLink RJ1 38 Lib.Math.min.name ∈ lwg := lwg_of (List.mem_of_getElem? (i := 580) (by decide +kernel)) (by decide +kernel)
theorem ml_J1_92 : Cond.methodLink RJ1 92 Lib.Math.max.name ∈ lwg := lwg_of (List.mem_of_getElem? (i := 577) (by decide +kernel)) (by decide +kernel)
theorem ml_J2_183 : Cond.methodLink RJ2 183 Lib.Math.min.name ∈ lwg := lwg_of (List.mem_of_getElem? (i := 588) (by decide +kernel)) (by decide +kernel)
theorem ml_J2_224 : Cond.methodLink RJ2 224 Lib.Math.max.name ∈ lwg := lwg_of (List.mem_of_getElem? (i := 587) (by decide +kernel)) (by decide +kernel)
