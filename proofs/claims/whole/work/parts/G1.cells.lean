abbrev dfX9 : List Value := [.null, .int (Int32.ofInt 0), .int (Int32.ofInt 0), .int (Int32.ofInt 0), .int (Int32.ofInt 0)]
theorem dvX9 : ∀ j, j < 5 → defaultValue (tyX9 j) = vp_V dfX9 j := fun j hj => match j, hj with | 0, _ => rfl | 1, _ => rfl | 2, _ => rfl | 3, _ => rfl | 4, _ => rfl | n + 5, h => absurd h (by omega)
theorem nokX9 : NOK 9 5 RX9 dfX9 := ⟨TX9, tyX9, rfl, inGX9, tyX9_ok, lwg_of (List.mem_of_getElem? (i := 127) (by decide +kernel)) (by decide +kernel), ini_X9, dvX9⟩
abbrev dfX1 : List Value := [.null, .null, .null, .null, .null, .null, .null, .null, .int (Int32.ofInt 0)]
theorem dvX1 : ∀ j, j < 9 → defaultValue (tyX1 j) = vp_V dfX1 j := fun j hj => match j, hj with | 0, _ => rfl | 1, _ => rfl | 2, _ => rfl | 3, _ => rfl | 4, _ => rfl | 5, _ => rfl | 6, _ => rfl | 7, _ => rfl | 8, _ => rfl | n + 9, h => absurd h (by omega)
theorem nokX1 : NOK 1 9 RX1 dfX1 := ⟨TX1, tyX1, rfl, inGX1, tyX1_ok, lwg_of (List.mem_of_getElem? (i := 153) (by decide +kernel)) (by decide +kernel), ini_X1, dvX1⟩
abbrev dfX3 : List Value := [.null, .null, .null, .null, .null, .null, .int (Int32.ofInt 0), .int (Int32.ofInt 0), .int (Int32.ofInt 0)]
theorem dvX3 : ∀ j, j < 9 → defaultValue (tyX3 j) = vp_V dfX3 j := fun j hj => match j, hj with | 0, _ => rfl | 1, _ => rfl | 2, _ => rfl | 3, _ => rfl | 4, _ => rfl | 5, _ => rfl | 6, _ => rfl | 7, _ => rfl | 8, _ => rfl | n + 9, h => absurd h (by omega)
theorem nokX3 : NOK 3 9 RX3 dfX3 := ⟨TX3, tyX3, rfl, inGX3, tyX3_ok, lwg_of (List.mem_of_getElem? (i := 234) (by decide +kernel)) (by decide +kernel), ini_X3, dvX3⟩
abbrev dfX8 : List Value := [.null, .null, .null, .null, .null, .int (Int32.ofInt 0), .int (Int32.ofInt 0)]
theorem dvX8 : ∀ j, j < 7 → defaultValue (tyX8 j) = vp_V dfX8 j := fun j hj => match j, hj with | 0, _ => rfl | 1, _ => rfl | 2, _ => rfl | 3, _ => rfl | 4, _ => rfl | 5, _ => rfl | 6, _ => rfl | n + 7, h => absurd h (by omega)
theorem nokX8 : NOK 8 7 RX8 dfX8 := ⟨TX8, tyX8, rfl, inGX8, tyX8_ok, lwg_of (List.mem_of_getElem? (i := 291) (by decide +kernel)) (by decide +kernel), ini_X8, dvX8⟩
abbrev dfX2 : List Value := [.null, .null, .null, .int (Int32.ofInt 0), .int (Int32.ofInt 0)]
theorem dvX2 : ∀ j, j < 5 → defaultValue (tyX2 j) = vp_V dfX2 j := fun j hj => match j, hj with | 0, _ => rfl | 1, _ => rfl | 2, _ => rfl | 3, _ => rfl | 4, _ => rfl | n + 5, h => absurd h (by omega)
theorem nokX2 : NOK 2 5 RX2 dfX2 := ⟨TX2, tyX2, rfl, inGX2, tyX2_ok, lwg_of (List.mem_of_getElem? (i := 351) (by decide +kernel)) (by decide +kernel), ini_X2, dvX2⟩
abbrev dfX6 : List Value := [.null, .null, .null, .null, .int (Int32.ofInt 0), .int (Int32.ofInt 0)]
theorem dvX6 : ∀ j, j < 6 → defaultValue (tyX6 j) = vp_V dfX6 j := fun j hj => match j, hj with | 0, _ => rfl | 1, _ => rfl | 2, _ => rfl | 3, _ => rfl | 4, _ => rfl | 5, _ => rfl | n + 6, h => absurd h (by omega)
theorem nokX6 : NOK 6 6 RX6 dfX6 := ⟨TX6, tyX6, rfl, inGX6, tyX6_ok, lwg_of (List.mem_of_getElem? (i := 375) (by decide +kernel)) (by decide +kernel), ini_X6, dvX6⟩
abbrev dfX7 : List Value := [.null, .null, .int (Int32.ofInt 0)]
theorem dvX7 : ∀ j, j < 3 → defaultValue (tyX7 j) = vp_V dfX7 j := fun j hj => match j, hj with | 0, _ => rfl | 1, _ => rfl | 2, _ => rfl | n + 3, h => absurd h (by omega)
theorem nokX7 : NOK 7 3 RX7 dfX7 := ⟨TX7, tyX7, rfl, inGX7, tyX7_ok, lwg_of (List.mem_of_getElem? (i := 402) (by decide +kernel)) (by decide +kernel), ini_X7, dvX7⟩
abbrev dfX5 : List Value := [.null, .null, .null, .null, .null, .null, .int (Int32.ofInt 0)]
theorem dvX5 : ∀ j, j < 7 → defaultValue (tyX5 j) = vp_V dfX5 j := fun j hj => match j, hj with | 0, _ => rfl | 1, _ => rfl | 2, _ => rfl | 3, _ => rfl | 4, _ => rfl | 5, _ => rfl | 6, _ => rfl | n + 7, h => absurd h (by omega)
theorem nokX5 : NOK 5 7 RX5 dfX5 := ⟨TX5, tyX5, rfl, inGX5, tyX5_ok, lwg_of (List.mem_of_getElem? (i := 418) (by decide +kernel)) (by decide +kernel), ini_X5, dvX5⟩
abbrev dfX10 : List Value := [.null, .null, .null]
theorem dvX10 : ∀ j, j < 3 → defaultValue (tyX10 j) = vp_V dfX10 j := fun j hj => match j, hj with | 0, _ => rfl | 1, _ => rfl | 2, _ => rfl | n + 3, h => absurd h (by omega)
theorem nokX10 : NOK 10 3 RX10 dfX10 := ⟨TX10, tyX10, rfl, inGX10, tyX10_ok, lwg_of (List.mem_of_getElem? (i := 335) (by decide +kernel)) (by decide +kernel), ini_X10, dvX10⟩
abbrev dfX0 : List Value := [.null, .null]
theorem dvX0 : ∀ j, j < 2 → defaultValue (tyX0 j) = vp_V dfX0 j := fun j hj => match j, hj with | 0, _ => rfl | 1, _ => rfl | n + 2, h => absurd h (by omega)
theorem nokX0 : NOK 0 2 RX0 dfX0 := ⟨TX0, tyX0, rfl, inGX0, tyX0_ok, lwg_of (List.mem_of_getElem? (i := 218) (by decide +kernel)) (by decide +kernel), ini_X0, dvX0⟩
abbrev dfX4 : List Value := [.null, .null]
theorem dvX4 : ∀ j, j < 2 → defaultValue (tyX4 j) = vp_V dfX4 j := fun j hj => match j, hj with | 0, _ => rfl | 1, _ => rfl | n + 2, h => absurd h (by omega)
theorem nokX4 : NOK 4 2 RX4 dfX4 := ⟨TX4, tyX4, rfl, inGX4, tyX4_ok, lwg_of (List.mem_of_getElem? (i := 275) (by decide +kernel)) (by decide +kernel), ini_X4, dvX4⟩
abbrev dfX11 : List Value := [.null, .null, .null, .null, .null, .null, .null, .null, .null, .null, .null, .null, .null, .int (Int32.ofInt 0), .int (Int32.ofInt 0)]
theorem dvX11 : ∀ j, j < 15 → defaultValue (tyX11 j) = vp_V dfX11 j := fun j hj => match j, hj with | 0, _ => rfl | 1, _ => rfl | 2, _ => rfl | 3, _ => rfl | 4, _ => rfl | 5, _ => rfl | 6, _ => rfl | 7, _ => rfl | 8, _ => rfl | 9, _ => rfl | 10, _ => rfl | 11, _ => rfl | 12, _ => rfl | 13, _ => rfl | 14, _ => rfl | n + 15, h => absurd h (by omega)
theorem nokX11 : NOK 11 15 RX11 dfX11 := ⟨TX11, tyX11, rfl, inGX11, tyX11_ok, lwg_of (List.mem_of_getElem? (i := 119) (by decide +kernel)) (by decide +kernel), ini_X11, dvX11⟩
abbrev dfX12 : List Value := [.null, .null, .null, .null, .null, .null, .null, .null, .null, .null, .null, .int (Int32.ofInt 0), .null, .int (Int32.ofInt 0), .int (Int32.ofInt 0), .int (Int32.ofInt 0), .int (Int32.ofInt 0), .int (Int32.ofInt 0), .int (Int32.ofInt 0), .int (Int32.ofInt 0), .int (Int32.ofInt 0), .int (Int32.ofInt 0), .int (Int32.ofInt 0), .null, .null, .null, .null, .null, .null, .null, .null, .null, .null, .null, .null, .null, .null, .null, .null, .null, .null, .null, .null, .int (Int32.ofInt 0), .int (Int32.ofInt 0), .null, .null, .int (Int32.ofInt 0), .int (Int32.ofInt 0), .null, .null, .null, .int (Int32.ofInt 0), .null, .null, .int (Int32.ofInt 0), .null, .null, .null, .null, .null, .null, .null, .null, .int (Int32.ofInt 0), .int (Int32.ofInt 0)]
theorem dvX12 : ∀ j, j < 66 → defaultValue (tyX12 j) = vp_V dfX12 j := fun j hj => match j, hj with | 0, _ => rfl | 1, _ => rfl | 2, _ => rfl | 3, _ => rfl | 4, _ => rfl | 5, _ => rfl | 6, _ => rfl | 7, _ => rfl | 8, _ => rfl | 9, _ => rfl | 10, _ => rfl | 11, _ => rfl | 12, _ => rfl | 13, _ => rfl | 14, _ => rfl | 15, _ => rfl | 16, _ => rfl | 17, _ => rfl | 18, _ => rfl | 19, _ => rfl | 20, _ => rfl | 21, _ => rfl | 22, _ => rfl | 23, _ => rfl | 24, _ => rfl | 25, _ => rfl | 26, _ => rfl | 27, _ => rfl | 28, _ => rfl | 29, _ => rfl | 30, _ => rfl | 31, _ => rfl | 32, _ => rfl | 33, _ => rfl | 34, _ => rfl | 35, _ => rfl | 36, _ => rfl | 37, _ => rfl | 38, _ => rfl | 39, _ => rfl | 40, _ => rfl | 41, _ => rfl | 42, _ => rfl | 43, _ => rfl | 44, _ => rfl | 45, _ => rfl | 46, _ => rfl | 47, _ => rfl | 48, _ => rfl | 49, _ => rfl | 50, _ => rfl | 51, _ => rfl | 52, _ => rfl | 53, _ => rfl | 54, _ => rfl | 55, _ => rfl | 56, _ => rfl | 57, _ => rfl | 58, _ => rfl | 59, _ => rfl | 60, _ => rfl | 61, _ => rfl | 62, _ => rfl | 63, _ => rfl | 64, _ => rfl | 65, _ => rfl | n + 66, h => absurd h (by omega)
theorem nokX12 : NOK 12 66 RX12 dfX12 := ⟨TX12, tyX12, rfl, inGX12, tyX12_ok, lwg_of (List.mem_of_getElem? (i := 1114) (by decide +kernel)) (by decide +kernel), ini_X12, dvX12⟩
def M0 : Me := fun k i => match k with
  | 37 => if i = 6 then 1 else 0
  | 43 => if i = 6 then 1 else 0
  | 49 => if i = 6 then 1 else 0
  | 77 => if i = 81 then 1 else 0
  | _ => 0
theorem f77 : upd (fun _ => Int32.ofInt 0) (Int32.ofInt 81).toNatClampNeg (Int32.ofInt 1) = fun j : Nat => Int32.ofInt (M0 77 (j : Int)) := by
  funext j
  have e : (Int32.ofInt 81).toNatClampNeg = 81 := by decide
  rw [e]
  unfold upd
  by_cases h : j = 81
  · subst h; rfl
  · rw [if_neg h]
    show Int32.ofInt 0 = Int32.ofInt (if (j : Int) = 81 then 1 else 0)
    rw [if_neg (by omega)]
theorem wo_X9 : Cond.methodLink RX9 3 Lib.objectInit ∈ lwg := lwg_of (List.mem_of_getElem? (i := 131) (by decide +kernel)) (by decide +kernel)
theorem g_X9_11 : GOK RX9 11 9 0 true (.array .int) := ⟨RX9, TX9, 5, tyX9, rfl, by decide, inGX9, tyX9_ok, nmX9, lwg_of (List.mem_of_getElem? (i := 132) (by decide +kernel)) (by decide +kernel), rfl, rfl, rfl⟩
theorem g_X9_15 : GOK RX9 15 9 1 false (.int) := ⟨RX9, TX9, 5, tyX9, rfl, by decide, inGX9, tyX9_ok, nmX9, lwg_of (List.mem_of_getElem? (i := 133) (by decide +kernel)) (by decide +kernel), rfl, rfl, rfl⟩
theorem g_X9_19 : GOK RX9 19 9 2 false (.int) := ⟨RX9, TX9, 5, tyX9, rfl, by decide, inGX9, tyX9_ok, nmX9, lwg_of (List.mem_of_getElem? (i := 135) (by decide +kernel)) (by decide +kernel), rfl, rfl, rfl⟩
theorem g_X9_22 : GOK RX9 22 9 3 false (.int) := ⟨RX9, TX9, 5, tyX9, rfl, by decide, inGX9, tyX9_ok, nmX9, lwg_of (List.mem_of_getElem? (i := 136) (by decide +kernel)) (by decide +kernel), rfl, rfl, rfl⟩
theorem g_X9_25 : GOK RX9 25 9 4 false (.int) := ⟨RX9, TX9, 5, tyX9, rfl, by decide, inGX9, tyX9_ok, nmX9, lwg_of (List.mem_of_getElem? (i := 139) (by decide +kernel)) (by decide +kernel), rfl, rfl, rfl⟩
def eX9 (cI cB : ClassId) (as : List Value) (q : Nat → Nat) : List va_E := [
  .inr (9, [.ref (q 1), .int (Int32.ofInt 0), .int (Int32.ofInt 0), .int (Int32.ofInt 0), .int (Int32.ofInt 0)]),
  .inl (cI, 260, .inl (fun _ => Int32.ofInt 0))]
theorem depX9 {cI cB : ClassId} (as : List Value) (q q' : Nat → Nat) (h : ∀ i, i < 2 → q i = q' i) : eX9 cI cB as q = eX9 cI cB as q' := by
  unfold eX9
  rw [h 1 (Nat.le_of_ble_eq_true rfl)]
theorem wo_X1 : Cond.methodLink RX1 3 Lib.objectInit ∈ lwg := lwg_of (List.mem_of_getElem? (i := 157) (by decide +kernel)) (by decide +kernel)
theorem g_X1_9 : GOK RX1 9 1 0 true (.array .int) := ⟨RX1, TX1, 9, tyX1, rfl, by decide, inGX1, tyX1_ok, nmX1, lwg_of (List.mem_of_getElem? (i := 158) (by decide +kernel)) (by decide +kernel), rfl, rfl, rfl⟩
theorem g_X1_15 : GOK RX1 15 1 1 true (.array .int) := ⟨RX1, TX1, 9, tyX1, rfl, by decide, inGX1, tyX1_ok, nmX1, lwg_of (List.mem_of_getElem? (i := 165) (by decide +kernel)) (by decide +kernel), rfl, rfl, rfl⟩
theorem g_X1_18 : GOK RX1 18 1 2 true (.array .int) := ⟨RX1, TX1, 9, tyX1, rfl, by decide, inGX1, tyX1_ok, nmX1, lwg_of (List.mem_of_getElem? (i := 168) (by decide +kernel)) (by decide +kernel), rfl, rfl, rfl⟩
theorem g_X1_21 : GOK RX1 21 1 3 true (.array .int) := ⟨RX1, TX1, 9, tyX1, rfl, by decide, inGX1, tyX1_ok, nmX1, lwg_of (List.mem_of_getElem? (i := 171) (by decide +kernel)) (by decide +kernel), rfl, rfl, rfl⟩
theorem g_X1_24 : GOK RX1 24 1 4 true (.array .int) := ⟨RX1, TX1, 9, tyX1, rfl, by decide, inGX1, tyX1_ok, nmX1, lwg_of (List.mem_of_getElem? (i := 175) (by decide +kernel)) (by decide +kernel), rfl, rfl, rfl⟩
theorem g_X1_27 : GOK RX1 27 1 5 true (.array .int) := ⟨RX1, TX1, 9, tyX1, rfl, by decide, inGX1, tyX1_ok, nmX1, lwg_of (List.mem_of_getElem? (i := 179) (by decide +kernel)) (by decide +kernel), rfl, rfl, rfl⟩
theorem g_X1_30 : GOK RX1 30 1 6 true (.array .int) := ⟨RX1, TX1, 9, tyX1, rfl, by decide, inGX1, tyX1_ok, nmX1, lwg_of (List.mem_of_getElem? (i := 183) (by decide +kernel)) (by decide +kernel), rfl, rfl, rfl⟩
theorem g_X1_33 : GOK RX1 33 1 7 true (.array .int) := ⟨RX1, TX1, 9, tyX1, rfl, by decide, inGX1, tyX1_ok, nmX1, lwg_of (List.mem_of_getElem? (i := 186) (by decide +kernel)) (by decide +kernel), rfl, rfl, rfl⟩
theorem g_X1_36 : GOK RX1 36 1 8 false (.int) := ⟨RX1, TX1, 9, tyX1, rfl, by decide, inGX1, tyX1_ok, nmX1, lwg_of (List.mem_of_getElem? (i := 190) (by decide +kernel)) (by decide +kernel), rfl, rfl, rfl⟩
def eX1 (cI cB : ClassId) (as : List Value) (q : Nat → Nat) : List va_E := [
  .inr (1, [.ref (q 1), .ref (q 2), .ref (q 3), .ref (q 4), .ref (q 5), .ref (q 6), .ref (q 7), .ref (q 8), .int (Int32.ofInt 0)]),
  .inl (cI, 16, .inl (fun _ => Int32.ofInt 0)),
  .inl (cI, 16, .inl (fun _ => Int32.ofInt 0)),
  .inl (cI, 16, .inl (fun _ => Int32.ofInt 0)),
  .inl (cI, 16, .inl (fun _ => Int32.ofInt 0)),
  .inl (cI, 16, .inl (fun _ => Int32.ofInt 0)),
  .inl (cI, 16, .inl (fun _ => Int32.ofInt 0)),
  .inl (cI, 16, .inl (fun _ => Int32.ofInt 0)),
  .inl (cI, 16, .inl (fun _ => Int32.ofInt 0))]
theorem depX1 {cI cB : ClassId} (as : List Value) (q q' : Nat → Nat) (h : ∀ i, i < 9 → q i = q' i) : eX1 cI cB as q = eX1 cI cB as q' := by
  unfold eX1
  rw [h 1 (Nat.le_of_ble_eq_true rfl), h 2 (Nat.le_of_ble_eq_true rfl), h 3 (Nat.le_of_ble_eq_true rfl), h 4 (Nat.le_of_ble_eq_true rfl), h 5 (Nat.le_of_ble_eq_true rfl), h 6 (Nat.le_of_ble_eq_true rfl), h 7 (Nat.le_of_ble_eq_true rfl), h 8 (Nat.le_of_ble_eq_true rfl)]
theorem wo_X3 : Cond.methodLink RX3 1 Lib.objectInit ∈ lwg := lwg_of (List.mem_of_getElem? (i := 238) (by decide +kernel)) (by decide +kernel)
theorem g_X3_9 : GOK RX3 9 3 0 true (.array .int) := ⟨RX3, TX3, 9, tyX3, rfl, by decide, inGX3, tyX3_ok, nmX3, lwg_of (List.mem_of_getElem? (i := 239) (by decide +kernel)) (by decide +kernel), rfl, rfl, rfl⟩
theorem g_X3_13 : GOK RX3 13 3 1 true (.array .int) := ⟨RX3, TX3, 9, tyX3, rfl, by decide, inGX3, tyX3_ok, nmX3, lwg_of (List.mem_of_getElem? (i := 241) (by decide +kernel)) (by decide +kernel), rfl, rfl, rfl⟩
theorem g_X3_16 : GOK RX3 16 3 2 true (.array .int) := ⟨RX3, TX3, 9, tyX3, rfl, by decide, inGX3, tyX3_ok, nmX3, lwg_of (List.mem_of_getElem? (i := 243) (by decide +kernel)) (by decide +kernel), rfl, rfl, rfl⟩
theorem g_X3_19 : GOK RX3 19 3 3 true (.array .int) := ⟨RX3, TX3, 9, tyX3, rfl, by decide, inGX3, tyX3_ok, nmX3, lwg_of (List.mem_of_getElem? (i := 245) (by decide +kernel)) (by decide +kernel), rfl, rfl, rfl⟩
theorem g_X3_22 : GOK RX3 22 3 4 true (.array .int) := ⟨RX3, TX3, 9, tyX3, rfl, by decide, inGX3, tyX3_ok, nmX3, lwg_of (List.mem_of_getElem? (i := 247) (by decide +kernel)) (by decide +kernel), rfl, rfl, rfl⟩
theorem g_X3_25 : GOK RX3 25 3 5 true (.array .int) := ⟨RX3, TX3, 9, tyX3, rfl, by decide, inGX3, tyX3_ok, nmX3, lwg_of (List.mem_of_getElem? (i := 248) (by decide +kernel)) (by decide +kernel), rfl, rfl, rfl⟩
theorem g_X3_28 : GOK RX3 28 3 6 false (.int) := ⟨RX3, TX3, 9, tyX3, rfl, by decide, inGX3, tyX3_ok, nmX3, lwg_of (List.mem_of_getElem? (i := 249) (by decide +kernel)) (by decide +kernel), rfl, rfl, rfl⟩
theorem g_X3_32 : GOK RX3 32 3 7 false (.int) := ⟨RX3, TX3, 9, tyX3, rfl, by decide, inGX3, tyX3_ok, nmX3, lwg_of (List.mem_of_getElem? (i := 252) (by decide +kernel)) (by decide +kernel), rfl, rfl, rfl⟩
theorem g_X3_35 : GOK RX3 35 3 8 false (.boolean) := ⟨RX3, TX3, 9, tyX3, rfl, by decide, inGX3, tyX3_ok, nmX3, lwg_of (List.mem_of_getElem? (i := 254) (by decide +kernel)) (by decide +kernel), rfl, rfl, rfl⟩
def eX3 (cI cB : ClassId) (as : List Value) (q : Nat → Nat) : List va_E := [
  .inr (3, [.ref (q 1), .ref (q 2), .ref (q 3), .ref (q 4), .ref (q 5), .ref (q 6), .int (Int32.ofInt 0), .int (Int32.ofInt 0), .int (Int32.ofInt 0)]),
  .inl (cI, 16, .inl (fun _ => Int32.ofInt 0)),
  .inl (cI, 16, .inl (fun _ => Int32.ofInt 0)),
  .inl (cI, 16, .inl (fun _ => Int32.ofInt 0)),
  .inl (cI, 16, .inl (fun _ => Int32.ofInt 0)),
  .inl (cI, 240, .inl (fun _ => Int32.ofInt 0)),
  .inl (cI, 64, .inl (fun _ => Int32.ofInt 0))]
theorem depX3 {cI cB : ClassId} (as : List Value) (q q' : Nat → Nat) (h : ∀ i, i < 7 → q i = q' i) : eX3 cI cB as q = eX3 cI cB as q' := by
  unfold eX3
  rw [h 1 (Nat.le_of_ble_eq_true rfl), h 2 (Nat.le_of_ble_eq_true rfl), h 3 (Nat.le_of_ble_eq_true rfl), h 4 (Nat.le_of_ble_eq_true rfl), h 5 (Nat.le_of_ble_eq_true rfl), h 6 (Nat.le_of_ble_eq_true rfl)]
theorem wo_X8 : Cond.methodLink RX8 3 Lib.objectInit ∈ lwg := lwg_of (List.mem_of_getElem? (i := 295) (by decide +kernel)) (by decide +kernel)
theorem g_X8_9 : GOK RX8 9 8 0 true (.array .int) := ⟨RX8, TX8, 7, tyX8, rfl, by decide, inGX8, tyX8_ok, nmX8, lwg_of (List.mem_of_getElem? (i := 296) (by decide +kernel)) (by decide +kernel), rfl, rfl, rfl⟩
theorem g_X8_15 : GOK RX8 15 8 1 true (.array .int) := ⟨RX8, TX8, 7, tyX8, rfl, by decide, inGX8, tyX8_ok, nmX8, lwg_of (List.mem_of_getElem? (i := 301) (by decide +kernel)) (by decide +kernel), rfl, rfl, rfl⟩
theorem g_X8_18 : GOK RX8 18 8 2 true (.array .int) := ⟨RX8, TX8, 7, tyX8, rfl, by decide, inGX8, tyX8_ok, nmX8, lwg_of (List.mem_of_getElem? (i := 305) (by decide +kernel)) (by decide +kernel), rfl, rfl, rfl⟩
theorem g_X8_21 : GOK RX8 21 8 3 true (.array .int) := ⟨RX8, TX8, 7, tyX8, rfl, by decide, inGX8, tyX8_ok, nmX8, lwg_of (List.mem_of_getElem? (i := 308) (by decide +kernel)) (by decide +kernel), rfl, rfl, rfl⟩
theorem g_X8_24 : GOK RX8 24 8 4 true (.array .int) := ⟨RX8, TX8, 7, tyX8, rfl, by decide, inGX8, tyX8_ok, nmX8, lwg_of (List.mem_of_getElem? (i := 311) (by decide +kernel)) (by decide +kernel), rfl, rfl, rfl⟩
theorem g_X8_27 : GOK RX8 27 8 5 false (.int) := ⟨RX8, TX8, 7, tyX8, rfl, by decide, inGX8, tyX8_ok, nmX8, lwg_of (List.mem_of_getElem? (i := 314) (by decide +kernel)) (by decide +kernel), rfl, rfl, rfl⟩
theorem g_X8_31 : GOK RX8 31 8 6 false (.int) := ⟨RX8, TX8, 7, tyX8, rfl, by decide, inGX8, tyX8_ok, nmX8, lwg_of (List.mem_of_getElem? (i := 317) (by decide +kernel)) (by decide +kernel), rfl, rfl, rfl⟩
def eX8 (cI cB : ClassId) (as : List Value) (q : Nat → Nat) : List va_E := [
  .inr (8, [.ref (q 1), .ref (q 2), .ref (q 3), .ref (q 4), .ref (q 5), .int (Int32.ofInt 0), .int (Int32.ofInt 1)]),
  .inl (cI, 16, .inl (fun _ => Int32.ofInt 0)),
  .inl (cI, 16, .inl (fun _ => Int32.ofInt 0)),
  .inl (cI, 16, .inl (fun _ => Int32.ofInt 0)),
  .inl (cI, 16, .inl (fun _ => Int32.ofInt 0)),
  .inl (cI, 16, .inl (fun _ => Int32.ofInt 0))]
theorem depX8 {cI cB : ClassId} (as : List Value) (q q' : Nat → Nat) (h : ∀ i, i < 6 → q i = q' i) : eX8 cI cB as q = eX8 cI cB as q' := by
  unfold eX8
  rw [h 1 (Nat.le_of_ble_eq_true rfl), h 2 (Nat.le_of_ble_eq_true rfl), h 3 (Nat.le_of_ble_eq_true rfl), h 4 (Nat.le_of_ble_eq_true rfl), h 5 (Nat.le_of_ble_eq_true rfl)]
theorem wo_X2 : Cond.methodLink RX2 3 Lib.objectInit ∈ lwg := lwg_of (List.mem_of_getElem? (i := 355) (by decide +kernel)) (by decide +kernel)
theorem g_X2_11 : GOK RX2 11 2 0 true (.array .int) := ⟨RX2, TX2, 5, tyX2, rfl, by decide, inGX2, tyX2_ok, nmX2, lwg_of (List.mem_of_getElem? (i := 356) (by decide +kernel)) (by decide +kernel), rfl, rfl, rfl⟩
theorem g_X2_15 : GOK RX2 15 2 1 true (.array .int) := ⟨RX2, TX2, 5, tyX2, rfl, by decide, inGX2, tyX2_ok, nmX2, lwg_of (List.mem_of_getElem? (i := 357) (by decide +kernel)) (by decide +kernel), rfl, rfl, rfl⟩
theorem g_X2_18 : GOK RX2 18 2 2 true (.array .int) := ⟨RX2, TX2, 5, tyX2, rfl, by decide, inGX2, tyX2_ok, nmX2, lwg_of (List.mem_of_getElem? (i := 358) (by decide +kernel)) (by decide +kernel), rfl, rfl, rfl⟩
theorem g_X2_21 : GOK RX2 21 2 3 false (.int) := ⟨RX2, TX2, 5, tyX2, rfl, by decide, inGX2, tyX2_ok, nmX2, lwg_of (List.mem_of_getElem? (i := 359) (by decide +kernel)) (by decide +kernel), rfl, rfl, rfl⟩
theorem g_X2_25 : GOK RX2 25 2 4 false (.int) := ⟨RX2, TX2, 5, tyX2, rfl, by decide, inGX2, tyX2_ok, nmX2, lwg_of (List.mem_of_getElem? (i := 361) (by decide +kernel)) (by decide +kernel), rfl, rfl, rfl⟩
def eX2 (cI cB : ClassId) (as : List Value) (q : Nat → Nat) : List va_E := [
  .inr (2, [.ref (q 1), .ref (q 2), .ref (q 3), .int (Int32.ofInt 0), .int (Int32.ofInt 0)]),
  .inl (cI, 32, .inl (fun _ => Int32.ofInt 0)),
  .inl (cI, 64, .inl (fun _ => Int32.ofInt 0)),
  .inl (cI, 32, .inl (fun _ => Int32.ofInt 0))]
theorem depX2 {cI cB : ClassId} (as : List Value) (q q' : Nat → Nat) (h : ∀ i, i < 4 → q i = q' i) : eX2 cI cB as q = eX2 cI cB as q' := by
  unfold eX2
  rw [h 1 (Nat.le_of_ble_eq_true rfl), h 2 (Nat.le_of_ble_eq_true rfl), h 3 (Nat.le_of_ble_eq_true rfl)]
theorem wo_X6 : Cond.methodLink RX6 3 Lib.objectInit ∈ lwg := lwg_of (List.mem_of_getElem? (i := 379) (by decide +kernel)) (by decide +kernel)
theorem g_X6_11 : GOK RX6 11 6 0 true (.array .int) := ⟨RX6, TX6, 6, tyX6, rfl, by decide, inGX6, tyX6_ok, nmX6, lwg_of (List.mem_of_getElem? (i := 380) (by decide +kernel)) (by decide +kernel), rfl, rfl, rfl⟩
theorem g_X6_15 : GOK RX6 15 6 1 true (.array .int) := ⟨RX6, TX6, 6, tyX6, rfl, by decide, inGX6, tyX6_ok, nmX6, lwg_of (List.mem_of_getElem? (i := 381) (by decide +kernel)) (by decide +kernel), rfl, rfl, rfl⟩
theorem g_X6_18 : GOK RX6 18 6 2 true (.array .int) := ⟨RX6, TX6, 6, tyX6, rfl, by decide, inGX6, tyX6_ok, nmX6, lwg_of (List.mem_of_getElem? (i := 382) (by decide +kernel)) (by decide +kernel), rfl, rfl, rfl⟩
theorem g_X6_21 : GOK RX6 21 6 3 true (.array .int) := ⟨RX6, TX6, 6, tyX6, rfl, by decide, inGX6, tyX6_ok, nmX6, lwg_of (List.mem_of_getElem? (i := 383) (by decide +kernel)) (by decide +kernel), rfl, rfl, rfl⟩
theorem g_X6_24 : GOK RX6 24 6 4 false (.int) := ⟨RX6, TX6, 6, tyX6, rfl, by decide, inGX6, tyX6_ok, nmX6, lwg_of (List.mem_of_getElem? (i := 384) (by decide +kernel)) (by decide +kernel), rfl, rfl, rfl⟩
theorem g_X6_28 : GOK RX6 28 6 5 false (.int) := ⟨RX6, TX6, 6, tyX6, rfl, by decide, inGX6, tyX6_ok, nmX6, lwg_of (List.mem_of_getElem? (i := 386) (by decide +kernel)) (by decide +kernel), rfl, rfl, rfl⟩
def eX6 (cI cB : ClassId) (as : List Value) (q : Nat → Nat) : List va_E := [
  .inr (6, [.ref (q 1), .ref (q 2), .ref (q 3), .ref (q 4), .int (Int32.ofInt 0), .int (Int32.ofInt 0)]),
  .inl (cI, 4608, .inl (fun _ => Int32.ofInt 0)),
  .inl (cI, 9, .inl (fun _ => Int32.ofInt 0)),
  .inl (cI, 9, .inl (fun _ => Int32.ofInt 0)),
  .inl (cI, 10, .inl (fun _ => Int32.ofInt 0))]
theorem depX6 {cI cB : ClassId} (as : List Value) (q q' : Nat → Nat) (h : ∀ i, i < 5 → q i = q' i) : eX6 cI cB as q = eX6 cI cB as q' := by
  unfold eX6
  rw [h 1 (Nat.le_of_ble_eq_true rfl), h 2 (Nat.le_of_ble_eq_true rfl), h 3 (Nat.le_of_ble_eq_true rfl), h 4 (Nat.le_of_ble_eq_true rfl)]
theorem wo_X7 : Cond.methodLink RX7 3 Lib.objectInit ∈ lwg := lwg_of (List.mem_of_getElem? (i := 406) (by decide +kernel)) (by decide +kernel)
theorem g_X7_9 : GOK RX7 9 7 0 true (.array .int) := ⟨RX7, TX7, 3, tyX7, rfl, by decide, inGX7, tyX7_ok, nmX7, lwg_of (List.mem_of_getElem? (i := 407) (by decide +kernel)) (by decide +kernel), rfl, rfl, rfl⟩
theorem g_X7_15 : GOK RX7 15 7 1 true (.array .int) := ⟨RX7, TX7, 3, tyX7, rfl, by decide, inGX7, tyX7_ok, nmX7, lwg_of (List.mem_of_getElem? (i := 408) (by decide +kernel)) (by decide +kernel), rfl, rfl, rfl⟩
theorem g_X7_18 : GOK RX7 18 7 2 false (.int) := ⟨RX7, TX7, 3, tyX7, rfl, by decide, inGX7, tyX7_ok, nmX7, lwg_of (List.mem_of_getElem? (i := 409) (by decide +kernel)) (by decide +kernel), rfl, rfl, rfl⟩
def eX7 (cI cB : ClassId) (as : List Value) (q : Nat → Nat) : List va_E := [
  .inr (7, [.ref (q 1), .ref (q 2), .int (Int32.ofInt 0)]),
  .inl (cI, 16, .inl (fun _ => Int32.ofInt 0)),
  .inl (cI, 128, .inl (fun _ => Int32.ofInt 0))]
theorem depX7 {cI cB : ClassId} (as : List Value) (q q' : Nat → Nat) (h : ∀ i, i < 3 → q i = q' i) : eX7 cI cB as q = eX7 cI cB as q' := by
  unfold eX7
  rw [h 1 (Nat.le_of_ble_eq_true rfl), h 2 (Nat.le_of_ble_eq_true rfl)]
theorem wo_X5 : Cond.methodLink RX5 1 Lib.objectInit ∈ lwg := lwg_of (List.mem_of_getElem? (i := 422) (by decide +kernel)) (by decide +kernel)
theorem g_X5_9 : GOK RX5 9 5 0 true (.array .int) := ⟨RX5, TX5, 7, tyX5, rfl, by decide, inGX5, tyX5_ok, nmX5, lwg_of (List.mem_of_getElem? (i := 423) (by decide +kernel)) (by decide +kernel), rfl, rfl, rfl⟩
theorem g_X5_13 : GOK RX5 13 5 1 true (.array .int) := ⟨RX5, TX5, 7, tyX5, rfl, by decide, inGX5, tyX5_ok, nmX5, lwg_of (List.mem_of_getElem? (i := 424) (by decide +kernel)) (by decide +kernel), rfl, rfl, rfl⟩
theorem g_X5_16 : GOK RX5 16 5 2 true (.array .int) := ⟨RX5, TX5, 7, tyX5, rfl, by decide, inGX5, tyX5_ok, nmX5, lwg_of (List.mem_of_getElem? (i := 425) (by decide +kernel)) (by decide +kernel), rfl, rfl, rfl⟩
theorem g_X5_19 : GOK RX5 19 5 3 true (.array .int) := ⟨RX5, TX5, 7, tyX5, rfl, by decide, inGX5, tyX5_ok, nmX5, lwg_of (List.mem_of_getElem? (i := 426) (by decide +kernel)) (by decide +kernel), rfl, rfl, rfl⟩
theorem g_X5_22 : GOK RX5 22 5 4 true (.array .int) := ⟨RX5, TX5, 7, tyX5, rfl, by decide, inGX5, tyX5_ok, nmX5, lwg_of (List.mem_of_getElem? (i := 427) (by decide +kernel)) (by decide +kernel), rfl, rfl, rfl⟩
theorem g_X5_25 : GOK RX5 25 5 5 true (.array .int) := ⟨RX5, TX5, 7, tyX5, rfl, by decide, inGX5, tyX5_ok, nmX5, lwg_of (List.mem_of_getElem? (i := 428) (by decide +kernel)) (by decide +kernel), rfl, rfl, rfl⟩
theorem g_X5_28 : GOK RX5 28 5 6 false (.int) := ⟨RX5, TX5, 7, tyX5, rfl, by decide, inGX5, tyX5_ok, nmX5, lwg_of (List.mem_of_getElem? (i := 429) (by decide +kernel)) (by decide +kernel), rfl, rfl, rfl⟩
def eX5 (cI cB : ClassId) (as : List Value) (q : Nat → Nat) : List va_E := [
  .inr (5, [.ref (q 1), .ref (q 2), .ref (q 3), .ref (q 4), .ref (q 5), .ref (q 6), .int (Int32.ofInt 0)]),
  .inl (cI, 36, .inl (fun _ => Int32.ofInt 0)),
  .inl (cI, 36, .inl (fun _ => Int32.ofInt 0)),
  .inl (cI, 36, .inl (fun _ => Int32.ofInt 0)),
  .inl (cI, 6, .inl (fun _ => Int32.ofInt 0)),
  .inl (cI, 6, .inl (fun _ => Int32.ofInt 0)),
  .inl (cI, 6, .inl (fun _ => Int32.ofInt 0))]
theorem depX5 {cI cB : ClassId} (as : List Value) (q q' : Nat → Nat) (h : ∀ i, i < 7 → q i = q' i) : eX5 cI cB as q = eX5 cI cB as q' := by
  unfold eX5
  rw [h 1 (Nat.le_of_ble_eq_true rfl), h 2 (Nat.le_of_ble_eq_true rfl), h 3 (Nat.le_of_ble_eq_true rfl), h 4 (Nat.le_of_ble_eq_true rfl), h 5 (Nat.le_of_ble_eq_true rfl), h 6 (Nat.le_of_ble_eq_true rfl)]
theorem wo_X10 : Cond.methodLink RX10 3 Lib.objectInit ∈ lwg := lwg_of (List.mem_of_getElem? (i := 339) (by decide +kernel)) (by decide +kernel)
theorem g_X10_9 : GOK RX10 9 10 0 true (.object "GrownInitials$Cuts") := ⟨RX10, TX10, 3, tyX10, rfl, by decide, inGX10, tyX10_ok, nmX10, lwg_of (List.mem_of_getElem? (i := 340) (by decide +kernel)) (by decide +kernel), rfl, rfl, rfl⟩
theorem g_X10_15 : GOK RX10 15 10 1 true (.object "GrownInitials$Law") := ⟨RX10, TX10, 3, tyX10, rfl, by decide, inGX10, tyX10_ok, nmX10, lwg_of (List.mem_of_getElem? (i := 341) (by decide +kernel)) (by decide +kernel), rfl, rfl, rfl⟩
theorem g_X10_19 : GOK RX10 19 10 2 true (.array .int) := ⟨RX10, TX10, 3, tyX10, rfl, by decide, inGX10, tyX10_ok, nmX10, lwg_of (List.mem_of_getElem? (i := 342) (by decide +kernel)) (by decide +kernel), rfl, rfl, rfl⟩
def eX10 (cI cB : ClassId) (as : List Value) (q : Nat → Nat) : List va_E := [
  .inr (10, [as.getD 0 .null, as.getD 1 .null, .ref (q 1)]),
  .inl (cI, 11, .inl (fun _ => Int32.ofInt 0))]
theorem depX10 {cI cB : ClassId} (as : List Value) (q q' : Nat → Nat) (h : ∀ i, i < 2 → q i = q' i) : eX10 cI cB as q = eX10 cI cB as q' := by
  unfold eX10
  rw [h 1 (Nat.le_of_ble_eq_true rfl)]
theorem wo_X0 : Cond.methodLink RX0 3 Lib.objectInit ∈ lwg := lwg_of (List.mem_of_getElem? (i := 222) (by decide +kernel)) (by decide +kernel)
theorem g_X0_9 : GOK RX0 9 0 0 true (.object "GrownInitials$Tape") := ⟨RX0, TX0, 2, tyX0, rfl, by decide, inGX0, tyX0_ok, nmX0, lwg_of (List.mem_of_getElem? (i := 225) (by decide +kernel)) (by decide +kernel), rfl, rfl, rfl⟩
theorem wc_X0_15 : Cond.classLink RX0 15 RX1 ∈ lwg := lwg_of (List.mem_of_getElem? (i := 223) (by decide +kernel)) (by decide +kernel)
theorem g_X0_18 : GOK RX0 18 0 1 true (.object "GrownInitials$Cuts") := ⟨RX0, TX0, 2, tyX0, rfl, by decide, inGX0, tyX0_ok, nmX0, lwg_of (List.mem_of_getElem? (i := 226) (by decide +kernel)) (by decide +kernel), rfl, rfl, rfl⟩
def eX0 (cI cB : ClassId) (as : List Value) (q : Nat → Nat) : List va_E := [
  .inr (0, [as.getD 0 .null, .ref (q 1)]),
  .inr (1, [.ref (q 2), .ref (q 3), .ref (q 4), .ref (q 5), .ref (q 6), .ref (q 7), .ref (q 8), .ref (q 9), .int (Int32.ofInt 0)]),
  .inl (cI, 16, .inl (fun _ => Int32.ofInt 0)),
  .inl (cI, 16, .inl (fun _ => Int32.ofInt 0)),
  .inl (cI, 16, .inl (fun _ => Int32.ofInt 0)),
  .inl (cI, 16, .inl (fun _ => Int32.ofInt 0)),
  .inl (cI, 16, .inl (fun _ => Int32.ofInt 0)),
  .inl (cI, 16, .inl (fun _ => Int32.ofInt 0)),
  .inl (cI, 16, .inl (fun _ => Int32.ofInt 0)),
  .inl (cI, 16, .inl (fun _ => Int32.ofInt 0))]
theorem depX0 {cI cB : ClassId} (as : List Value) (q q' : Nat → Nat) (h : ∀ i, i < 10 → q i = q' i) : eX0 cI cB as q = eX0 cI cB as q' := by
  unfold eX0
  rw [h 1 (Nat.le_of_ble_eq_true rfl), h 2 (Nat.le_of_ble_eq_true rfl), h 3 (Nat.le_of_ble_eq_true rfl), h 4 (Nat.le_of_ble_eq_true rfl), h 5 (Nat.le_of_ble_eq_true rfl), h 6 (Nat.le_of_ble_eq_true rfl), h 7 (Nat.le_of_ble_eq_true rfl), h 8 (Nat.le_of_ble_eq_true rfl), h 9 (Nat.le_of_ble_eq_true rfl)]
theorem wo_X4 : Cond.methodLink RX4 1 Lib.objectInit ∈ lwg := lwg_of (List.mem_of_getElem? (i := 279) (by decide +kernel)) (by decide +kernel)
theorem g_X4_7 : GOK RX4 7 4 0 true (.object "GrownInitials$Tape") := ⟨RX4, TX4, 2, tyX4, rfl, by decide, inGX4, tyX4_ok, nmX4, lwg_of (List.mem_of_getElem? (i := 282) (by decide +kernel)) (by decide +kernel), rfl, rfl, rfl⟩
theorem wc_X4_13 : Cond.classLink RX4 13 RX3 ∈ lwg := lwg_of (List.mem_of_getElem? (i := 280) (by decide +kernel)) (by decide +kernel)
theorem g_X4_16 : GOK RX4 16 4 1 true (.object "GrownInitials$Law") := ⟨RX4, TX4, 2, tyX4, rfl, by decide, inGX4, tyX4_ok, nmX4, lwg_of (List.mem_of_getElem? (i := 283) (by decide +kernel)) (by decide +kernel), rfl, rfl, rfl⟩
def eX4 (cI cB : ClassId) (as : List Value) (q : Nat → Nat) : List va_E := [
  .inr (4, [as.getD 0 .null, .ref (q 1)]),
  .inr (3, [.ref (q 2), .ref (q 3), .ref (q 4), .ref (q 5), .ref (q 6), .ref (q 7), .int (Int32.ofInt 0), .int (Int32.ofInt 0), .int (Int32.ofInt 0)]),
  .inl (cI, 16, .inl (fun _ => Int32.ofInt 0)),
  .inl (cI, 16, .inl (fun _ => Int32.ofInt 0)),
  .inl (cI, 16, .inl (fun _ => Int32.ofInt 0)),
  .inl (cI, 16, .inl (fun _ => Int32.ofInt 0)),
  .inl (cI, 240, .inl (fun _ => Int32.ofInt 0)),
  .inl (cI, 64, .inl (fun _ => Int32.ofInt 0))]
theorem depX4 {cI cB : ClassId} (as : List Value) (q q' : Nat → Nat) (h : ∀ i, i < 8 → q i = q' i) : eX4 cI cB as q = eX4 cI cB as q' := by
  unfold eX4
  rw [h 1 (Nat.le_of_ble_eq_true rfl), h 2 (Nat.le_of_ble_eq_true rfl), h 3 (Nat.le_of_ble_eq_true rfl), h 4 (Nat.le_of_ble_eq_true rfl), h 5 (Nat.le_of_ble_eq_true rfl), h 6 (Nat.le_of_ble_eq_true rfl), h 7 (Nat.le_of_ble_eq_true rfl)]
theorem wo_X11 : Cond.methodLink RX11 1 Lib.objectInit ∈ lwg := lwg_of (List.mem_of_getElem? (i := 123) (by decide +kernel)) (by decide +kernel)
theorem wc_X11_7 : Cond.classLink RX11 7 RX9 ∈ lwg := lwg_of (List.mem_of_getElem? (i := 126) (by decide +kernel)) (by decide +kernel)
theorem g_X11_10 : GOK RX11 10 11 0 true (.object "GrownInitials$Tape") := ⟨RX11, TX11, 15, tyX11, rfl, by decide, inGX11, tyX11_ok, nmX11, lwg_of (List.mem_of_getElem? (i := 445) (by decide +kernel)) (by decide +kernel), rfl, rfl, rfl⟩
theorem wc_X11_16 : Cond.classLink RX11 16 RX1 ∈ lwg := lwg_of (List.mem_of_getElem? (i := 152) (by decide +kernel)) (by decide +kernel)
theorem g_X11_19 : GOK RX11 19 11 1 true (.object "GrownInitials$Cuts") := ⟨RX11, TX11, 15, tyX11, rfl, by decide, inGX11, tyX11_ok, nmX11, lwg_of (List.mem_of_getElem? (i := 446) (by decide +kernel)) (by decide +kernel), rfl, rfl, rfl⟩
theorem wc_X11_23 : Cond.classLink RX11 23 RX0 ∈ lwg := lwg_of (List.mem_of_getElem? (i := 217) (by decide +kernel)) (by decide +kernel)
theorem g_X11_28 : GOK RX11 28 11 2 true (.object "GrownInitials$BarkReader") := ⟨RX11, TX11, 15, tyX11, rfl, by decide, inGX11, tyX11_ok, nmX11, lwg_of (List.mem_of_getElem? (i := 447) (by decide +kernel)) (by decide +kernel), rfl, rfl, rfl⟩
theorem wc_X11_32 : Cond.classLink RX11 32 RX3 ∈ lwg := lwg_of (List.mem_of_getElem? (i := 233) (by decide +kernel)) (by decide +kernel)
theorem g_X11_35 : GOK RX11 35 11 3 true (.object "GrownInitials$Law") := ⟨RX11, TX11, 15, tyX11, rfl, by decide, inGX11, tyX11_ok, nmX11, lwg_of (List.mem_of_getElem? (i := 448) (by decide +kernel)) (by decide +kernel), rfl, rfl, rfl⟩
theorem wc_X11_39 : Cond.classLink RX11 39 RX4 ∈ lwg := lwg_of (List.mem_of_getElem? (i := 274) (by decide +kernel)) (by decide +kernel)
theorem g_X11_42 : GOK RX11 42 11 4 true (.object "GrownInitials$LawReader") := ⟨RX11, TX11, 15, tyX11, rfl, by decide, inGX11, tyX11_ok, nmX11, lwg_of (List.mem_of_getElem? (i := 449) (by decide +kernel)) (by decide +kernel), rfl, rfl, rfl⟩
theorem wc_X11_46 : Cond.classLink RX11 46 RX8 ∈ lwg := lwg_of (List.mem_of_getElem? (i := 290) (by decide +kernel)) (by decide +kernel)
theorem g_X11_49 : GOK RX11 49 11 5 true (.object "GrownInitials$Standing") := ⟨RX11, TX11, 15, tyX11, rfl, by decide, inGX11, tyX11_ok, nmX11, lwg_of (List.mem_of_getElem? (i := 450) (by decide +kernel)) (by decide +kernel), rfl, rfl, rfl⟩
theorem g_X11_53 : GOK RX11 53 11 6 true (.object "GrownInitials$Standing") := ⟨RX11, TX11, 15, tyX11, rfl, by decide, inGX11, tyX11_ok, nmX11, lwg_of (List.mem_of_getElem? (i := 451) (by decide +kernel)) (by decide +kernel), rfl, rfl, rfl⟩
theorem g_X11_56 : GOK RX11 56 11 7 true (.object "GrownInitials$Standing") := ⟨RX11, TX11, 15, tyX11, rfl, by decide, inGX11, tyX11_ok, nmX11, lwg_of (List.mem_of_getElem? (i := 452) (by decide +kernel)) (by decide +kernel), rfl, rfl, rfl⟩
theorem wc_X11_59 : Cond.classLink RX11 59 RX10 ∈ lwg := lwg_of (List.mem_of_getElem? (i := 334) (by decide +kernel)) (by decide +kernel)
theorem g_X11_64 : GOK RX11 64 11 8 true (.object "GrownInitials$Walk") := ⟨RX11, TX11, 15, tyX11, rfl, by decide, inGX11, tyX11_ok, nmX11, lwg_of (List.mem_of_getElem? (i := 453) (by decide +kernel)) (by decide +kernel), rfl, rfl, rfl⟩
theorem wc_X11_68 : Cond.classLink RX11 68 RX2 ∈ lwg := lwg_of (List.mem_of_getElem? (i := 350) (by decide +kernel)) (by decide +kernel)
theorem g_X11_71 : GOK RX11 71 11 9 true (.object "GrownInitials$Grove") := ⟨RX11, TX11, 15, tyX11, rfl, by decide, inGX11, tyX11_ok, nmX11, lwg_of (List.mem_of_getElem? (i := 454) (by decide +kernel)) (by decide +kernel), rfl, rfl, rfl⟩
theorem wc_X11_75 : Cond.classLink RX11 75 RX6 ∈ lwg := lwg_of (List.mem_of_getElem? (i := 374) (by decide +kernel)) (by decide +kernel)
theorem g_X11_78 : GOK RX11 78 11 10 true (.object "GrownInitials$Rows") := ⟨RX11, TX11, 15, tyX11, rfl, by decide, inGX11, tyX11_ok, nmX11, lwg_of (List.mem_of_getElem? (i := 455) (by decide +kernel)) (by decide +kernel), rfl, rfl, rfl⟩
theorem wc_X11_82 : Cond.classLink RX11 82 RX7 ∈ lwg := lwg_of (List.mem_of_getElem? (i := 401) (by decide +kernel)) (by decide +kernel)
theorem g_X11_85 : GOK RX11 85 11 11 true (.object "GrownInitials$Spelling") := ⟨RX11, TX11, 15, tyX11, rfl, by decide, inGX11, tyX11_ok, nmX11, lwg_of (List.mem_of_getElem? (i := 456) (by decide +kernel)) (by decide +kernel), rfl, rfl, rfl⟩
theorem wc_X11_89 : Cond.classLink RX11 89 RX5 ∈ lwg := lwg_of (List.mem_of_getElem? (i := 417) (by decide +kernel)) (by decide +kernel)
theorem g_X11_92 : GOK RX11 92 11 12 true (.object "GrownInitials$Matches") := ⟨RX11, TX11, 15, tyX11, rfl, by decide, inGX11, tyX11_ok, nmX11, lwg_of (List.mem_of_getElem? (i := 457) (by decide +kernel)) (by decide +kernel), rfl, rfl, rfl⟩
theorem g_X11_96 : GOK RX11 96 11 13 false (.boolean) := ⟨RX11, TX11, 15, tyX11, rfl, by decide, inGX11, tyX11_ok, nmX11, lwg_of (List.mem_of_getElem? (i := 458) (by decide +kernel)) (by decide +kernel), rfl, rfl, rfl⟩
theorem g_X11_100 : GOK RX11 100 11 14 false (.int) := ⟨RX11, TX11, 15, tyX11, rfl, by decide, inGX11, tyX11_ok, nmX11, lwg_of (List.mem_of_getElem? (i := 459) (by decide +kernel)) (by decide +kernel), rfl, rfl, rfl⟩
def eX11 (cI cB : ClassId) (as : List Value) (q : Nat → Nat) : List va_E := [
  .inr (11, [.ref (q 1), .ref (q 3), .ref (q 12), .ref (q 22), .ref (q 29), .ref (q 37), .ref (q 43), .ref (q 49), .ref (q 55), .ref (q 57), .ref (q 61), .ref (q 66), .ref (q 69), .int (Int32.ofInt 0), .int (Int32.ofInt 0)]),
  .inr (9, [.ref (q 2), .int (Int32.ofInt 0), .int (Int32.ofInt 0), .int (Int32.ofInt 0), .int (Int32.ofInt 0)]),
  .inl (cI, 260, .inl (fun _ => Int32.ofInt 0)),
  .inr (1, [.ref (q 4), .ref (q 5), .ref (q 6), .ref (q 7), .ref (q 8), .ref (q 9), .ref (q 10), .ref (q 11), .int (Int32.ofInt 0)]),
  .inl (cI, 16, .inl (fun _ => Int32.ofInt 0)),
  .inl (cI, 16, .inl (fun _ => Int32.ofInt 0)),
  .inl (cI, 16, .inl (fun _ => Int32.ofInt 0)),
  .inl (cI, 16, .inl (fun _ => Int32.ofInt 0)),
  .inl (cI, 16, .inl (fun _ => Int32.ofInt 0)),
  .inl (cI, 16, .inl (fun _ => Int32.ofInt 0)),
  .inl (cI, 16, .inl (fun _ => Int32.ofInt 0)),
  .inl (cI, 16, .inl (fun _ => Int32.ofInt 0)),
  .inr (0, [.ref (q 1), .ref (q 13)]),
  .inr (1, [.ref (q 14), .ref (q 15), .ref (q 16), .ref (q 17), .ref (q 18), .ref (q 19), .ref (q 20), .ref (q 21), .int (Int32.ofInt 0)]),
  .inl (cI, 16, .inl (fun _ => Int32.ofInt 0)),
  .inl (cI, 16, .inl (fun _ => Int32.ofInt 0)),
  .inl (cI, 16, .inl (fun _ => Int32.ofInt 0)),
  .inl (cI, 16, .inl (fun _ => Int32.ofInt 0)),
  .inl (cI, 16, .inl (fun _ => Int32.ofInt 0)),
  .inl (cI, 16, .inl (fun _ => Int32.ofInt 0)),
  .inl (cI, 16, .inl (fun _ => Int32.ofInt 0)),
  .inl (cI, 16, .inl (fun _ => Int32.ofInt 0)),
  .inr (3, [.ref (q 23), .ref (q 24), .ref (q 25), .ref (q 26), .ref (q 27), .ref (q 28), .int (Int32.ofInt 0), .int (Int32.ofInt 0), .int (Int32.ofInt 0)]),
  .inl (cI, 16, .inl (fun _ => Int32.ofInt 0)),
  .inl (cI, 16, .inl (fun _ => Int32.ofInt 0)),
  .inl (cI, 16, .inl (fun _ => Int32.ofInt 0)),
  .inl (cI, 16, .inl (fun _ => Int32.ofInt 0)),
  .inl (cI, 240, .inl (fun _ => Int32.ofInt 0)),
  .inl (cI, 64, .inl (fun _ => Int32.ofInt 0)),
  .inr (4, [.ref (q 1), .ref (q 30)]),
  .inr (3, [.ref (q 31), .ref (q 32), .ref (q 33), .ref (q 34), .ref (q 35), .ref (q 36), .int (Int32.ofInt 0), .int (Int32.ofInt 0), .int (Int32.ofInt 0)]),
  .inl (cI, 16, .inl (fun _ => Int32.ofInt 0)),
  .inl (cI, 16, .inl (fun _ => Int32.ofInt 0)),
  .inl (cI, 16, .inl (fun _ => Int32.ofInt 0)),
  .inl (cI, 16, .inl (fun _ => Int32.ofInt 0)),
  .inl (cI, 240, .inl (fun _ => Int32.ofInt 0)),
  .inl (cI, 64, .inl (fun _ => Int32.ofInt 0)),
  .inr (8, [.ref (q 38), .ref (q 39), .ref (q 40), .ref (q 41), .ref (q 42), .int (Int32.ofInt 0), .int (Int32.ofInt 1)]),
  .inl (cI, 16, .inl (fun _ => Int32.ofInt 0)),
  .inl (cI, 16, .inl (fun _ => Int32.ofInt 0)),
  .inl (cI, 16, .inl (fun _ => Int32.ofInt 0)),
  .inl (cI, 16, .inl (fun _ => Int32.ofInt 0)),
  .inl (cI, 16, .inl (fun _ => Int32.ofInt 0)),
  .inr (8, [.ref (q 44), .ref (q 45), .ref (q 46), .ref (q 47), .ref (q 48), .int (Int32.ofInt 0), .int (Int32.ofInt 1)]),
  .inl (cI, 16, .inl (fun _ => Int32.ofInt 0)),
  .inl (cI, 16, .inl (fun _ => Int32.ofInt 0)),
  .inl (cI, 16, .inl (fun _ => Int32.ofInt 0)),
  .inl (cI, 16, .inl (fun _ => Int32.ofInt 0)),
  .inl (cI, 16, .inl (fun _ => Int32.ofInt 0)),
  .inr (8, [.ref (q 50), .ref (q 51), .ref (q 52), .ref (q 53), .ref (q 54), .int (Int32.ofInt 0), .int (Int32.ofInt 1)]),
  .inl (cI, 16, .inl (fun _ => Int32.ofInt 0)),
  .inl (cI, 16, .inl (fun _ => Int32.ofInt 0)),
  .inl (cI, 16, .inl (fun _ => Int32.ofInt 0)),
  .inl (cI, 16, .inl (fun _ => Int32.ofInt 0)),
  .inl (cI, 16, .inl (fun _ => Int32.ofInt 0)),
  .inr (10, [.ref (q 3), .ref (q 22), .ref (q 56)]),
  .inl (cI, 11, .inl (fun _ => Int32.ofInt 0)),
  .inr (2, [.ref (q 58), .ref (q 59), .ref (q 60), .int (Int32.ofInt 0), .int (Int32.ofInt 0)]),
  .inl (cI, 32, .inl (fun _ => Int32.ofInt 0)),
  .inl (cI, 64, .inl (fun _ => Int32.ofInt 0)),
  .inl (cI, 32, .inl (fun _ => Int32.ofInt 0)),
  .inr (6, [.ref (q 62), .ref (q 63), .ref (q 64), .ref (q 65), .int (Int32.ofInt 0), .int (Int32.ofInt 0)]),
  .inl (cI, 4608, .inl (fun _ => Int32.ofInt 0)),
  .inl (cI, 9, .inl (fun _ => Int32.ofInt 0)),
  .inl (cI, 9, .inl (fun _ => Int32.ofInt 0)),
  .inl (cI, 10, .inl (fun _ => Int32.ofInt 0)),
  .inr (7, [.ref (q 67), .ref (q 68), .int (Int32.ofInt 0)]),
  .inl (cI, 16, .inl (fun _ => Int32.ofInt 0)),
  .inl (cI, 128, .inl (fun _ => Int32.ofInt 0)),
  .inr (5, [.ref (q 70), .ref (q 71), .ref (q 72), .ref (q 73), .ref (q 74), .ref (q 75), .int (Int32.ofInt 0)]),
  .inl (cI, 36, .inl (fun _ => Int32.ofInt 0)),
  .inl (cI, 36, .inl (fun _ => Int32.ofInt 0)),
  .inl (cI, 36, .inl (fun _ => Int32.ofInt 0)),
  .inl (cI, 6, .inl (fun _ => Int32.ofInt 0)),
  .inl (cI, 6, .inl (fun _ => Int32.ofInt 0)),
  .inl (cI, 6, .inl (fun _ => Int32.ofInt 0))]
theorem depX11 {cI cB : ClassId} (as : List Value) (q q' : Nat → Nat) (h : ∀ i, i < 76 → q i = q' i) : eX11 cI cB as q = eX11 cI cB as q' := by
  unfold eX11
  rw [h 1 (Nat.le_of_ble_eq_true rfl), h 2 (Nat.le_of_ble_eq_true rfl), h 3 (Nat.le_of_ble_eq_true rfl), h 4 (Nat.le_of_ble_eq_true rfl), h 5 (Nat.le_of_ble_eq_true rfl), h 6 (Nat.le_of_ble_eq_true rfl), h 7 (Nat.le_of_ble_eq_true rfl), h 8 (Nat.le_of_ble_eq_true rfl), h 9 (Nat.le_of_ble_eq_true rfl), h 10 (Nat.le_of_ble_eq_true rfl), h 11 (Nat.le_of_ble_eq_true rfl), h 12 (Nat.le_of_ble_eq_true rfl), h 13 (Nat.le_of_ble_eq_true rfl), h 14 (Nat.le_of_ble_eq_true rfl), h 15 (Nat.le_of_ble_eq_true rfl), h 16 (Nat.le_of_ble_eq_true rfl), h 17 (Nat.le_of_ble_eq_true rfl), h 18 (Nat.le_of_ble_eq_true rfl), h 19 (Nat.le_of_ble_eq_true rfl), h 20 (Nat.le_of_ble_eq_true rfl), h 21 (Nat.le_of_ble_eq_true rfl), h 22 (Nat.le_of_ble_eq_true rfl), h 23 (Nat.le_of_ble_eq_true rfl), h 24 (Nat.le_of_ble_eq_true rfl), h 25 (Nat.le_of_ble_eq_true rfl), h 26 (Nat.le_of_ble_eq_true rfl), h 27 (Nat.le_of_ble_eq_true rfl), h 28 (Nat.le_of_ble_eq_true rfl), h 29 (Nat.le_of_ble_eq_true rfl), h 30 (Nat.le_of_ble_eq_true rfl), h 31 (Nat.le_of_ble_eq_true rfl), h 32 (Nat.le_of_ble_eq_true rfl), h 33 (Nat.le_of_ble_eq_true rfl), h 34 (Nat.le_of_ble_eq_true rfl), h 35 (Nat.le_of_ble_eq_true rfl), h 36 (Nat.le_of_ble_eq_true rfl), h 37 (Nat.le_of_ble_eq_true rfl), h 38 (Nat.le_of_ble_eq_true rfl), h 39 (Nat.le_of_ble_eq_true rfl), h 40 (Nat.le_of_ble_eq_true rfl), h 41 (Nat.le_of_ble_eq_true rfl), h 42 (Nat.le_of_ble_eq_true rfl), h 43 (Nat.le_of_ble_eq_true rfl), h 44 (Nat.le_of_ble_eq_true rfl), h 45 (Nat.le_of_ble_eq_true rfl), h 46 (Nat.le_of_ble_eq_true rfl), h 47 (Nat.le_of_ble_eq_true rfl), h 48 (Nat.le_of_ble_eq_true rfl), h 49 (Nat.le_of_ble_eq_true rfl), h 50 (Nat.le_of_ble_eq_true rfl), h 51 (Nat.le_of_ble_eq_true rfl), h 52 (Nat.le_of_ble_eq_true rfl), h 53 (Nat.le_of_ble_eq_true rfl), h 54 (Nat.le_of_ble_eq_true rfl), h 55 (Nat.le_of_ble_eq_true rfl), h 56 (Nat.le_of_ble_eq_true rfl), h 57 (Nat.le_of_ble_eq_true rfl), h 58 (Nat.le_of_ble_eq_true rfl), h 59 (Nat.le_of_ble_eq_true rfl), h 60 (Nat.le_of_ble_eq_true rfl), h 61 (Nat.le_of_ble_eq_true rfl), h 62 (Nat.le_of_ble_eq_true rfl), h 63 (Nat.le_of_ble_eq_true rfl), h 64 (Nat.le_of_ble_eq_true rfl), h 65 (Nat.le_of_ble_eq_true rfl), h 66 (Nat.le_of_ble_eq_true rfl), h 67 (Nat.le_of_ble_eq_true rfl), h 68 (Nat.le_of_ble_eq_true rfl), h 69 (Nat.le_of_ble_eq_true rfl), h 70 (Nat.le_of_ble_eq_true rfl), h 71 (Nat.le_of_ble_eq_true rfl), h 72 (Nat.le_of_ble_eq_true rfl), h 73 (Nat.le_of_ble_eq_true rfl), h 74 (Nat.le_of_ble_eq_true rfl), h 75 (Nat.le_of_ble_eq_true rfl)]
theorem wo_X12 : Cond.methodLink RX12 1 Lib.objectInit ∈ lwg := lwg_of (List.mem_of_getElem? (i := 1118) (by decide +kernel)) (by decide +kernel)
theorem g_X12_7 : GOK RX12 7 12 0 true (.array .int) := ⟨RX12, TX12, 66, tyX12, rfl, by decide, inGX12, tyX12_ok, nmX12, lwg_of (List.mem_of_getElem? (i := 1119) (by decide +kernel)) (by decide +kernel), rfl, rfl, rfl⟩
theorem g_X12_13 : GOK RX12 13 12 1 true (.array .int) := ⟨RX12, TX12, 66, tyX12, rfl, by decide, inGX12, tyX12_ok, nmX12, lwg_of (List.mem_of_getElem? (i := 1120) (by decide +kernel)) (by decide +kernel), rfl, rfl, rfl⟩
theorem g_X12_16 : GOK RX12 16 12 2 true (.array .int) := ⟨RX12, TX12, 66, tyX12, rfl, by decide, inGX12, tyX12_ok, nmX12, lwg_of (List.mem_of_getElem? (i := 1121) (by decide +kernel)) (by decide +kernel), rfl, rfl, rfl⟩
theorem g_X12_19 : GOK RX12 19 12 3 true (.array .int) := ⟨RX12, TX12, 66, tyX12, rfl, by decide, inGX12, tyX12_ok, nmX12, lwg_of (List.mem_of_getElem? (i := 1122) (by decide +kernel)) (by decide +kernel), rfl, rfl, rfl⟩
theorem g_X12_22 : GOK RX12 22 12 4 true (.array .int) := ⟨RX12, TX12, 66, tyX12, rfl, by decide, inGX12, tyX12_ok, nmX12, lwg_of (List.mem_of_getElem? (i := 1123) (by decide +kernel)) (by decide +kernel), rfl, rfl, rfl⟩
theorem g_X12_25 : GOK RX12 25 12 5 true (.array .int) := ⟨RX12, TX12, 66, tyX12, rfl, by decide, inGX12, tyX12_ok, nmX12, lwg_of (List.mem_of_getElem? (i := 1124) (by decide +kernel)) (by decide +kernel), rfl, rfl, rfl⟩
theorem g_X12_28 : GOK RX12 28 12 6 true (.array .int) := ⟨RX12, TX12, 66, tyX12, rfl, by decide, inGX12, tyX12_ok, nmX12, lwg_of (List.mem_of_getElem? (i := 1125) (by decide +kernel)) (by decide +kernel), rfl, rfl, rfl⟩
theorem g_X12_31 : GOK RX12 31 12 7 true (.array .int) := ⟨RX12, TX12, 66, tyX12, rfl, by decide, inGX12, tyX12_ok, nmX12, lwg_of (List.mem_of_getElem? (i := 1126) (by decide +kernel)) (by decide +kernel), rfl, rfl, rfl⟩
theorem g_X12_34 : GOK RX12 34 12 8 true (.array .int) := ⟨RX12, TX12, 66, tyX12, rfl, by decide, inGX12, tyX12_ok, nmX12, lwg_of (List.mem_of_getElem? (i := 1127) (by decide +kernel)) (by decide +kernel), rfl, rfl, rfl⟩
theorem g_X12_37 : GOK RX12 37 12 9 true (.array .int) := ⟨RX12, TX12, 66, tyX12, rfl, by decide, inGX12, tyX12_ok, nmX12, lwg_of (List.mem_of_getElem? (i := 1128) (by decide +kernel)) (by decide +kernel), rfl, rfl, rfl⟩
theorem g_X12_40 : GOK RX12 40 12 10 true (.array .int) := ⟨RX12, TX12, 66, tyX12, rfl, by decide, inGX12, tyX12_ok, nmX12, lwg_of (List.mem_of_getElem? (i := 1129) (by decide +kernel)) (by decide +kernel), rfl, rfl, rfl⟩
theorem g_X12_43 : GOK RX12 43 12 12 true (.array .byte) := ⟨RX12, TX12, 66, tyX12, rfl, by decide, inGX12, tyX12_ok, nmX12, lwg_of (List.mem_of_getElem? (i := 1131) (by decide +kernel)) (by decide +kernel), rfl, rfl, rfl⟩
theorem g_X12_47 : GOK RX12 47 12 23 true (.array .int) := ⟨RX12, TX12, 66, tyX12, rfl, by decide, inGX12, tyX12_ok, nmX12, lwg_of (List.mem_of_getElem? (i := 1142) (by decide +kernel)) (by decide +kernel), rfl, rfl, rfl⟩
theorem g_X12_50 : GOK RX12 50 12 24 true (.array .int) := ⟨RX12, TX12, 66, tyX12, rfl, by decide, inGX12, tyX12_ok, nmX12, lwg_of (List.mem_of_getElem? (i := 1143) (by decide +kernel)) (by decide +kernel), rfl, rfl, rfl⟩
theorem g_X12_53 : GOK RX12 53 12 25 true (.array .int) := ⟨RX12, TX12, 66, tyX12, rfl, by decide, inGX12, tyX12_ok, nmX12, lwg_of (List.mem_of_getElem? (i := 1144) (by decide +kernel)) (by decide +kernel), rfl, rfl, rfl⟩
theorem g_X12_56 : GOK RX12 56 12 26 true (.array .int) := ⟨RX12, TX12, 66, tyX12, rfl, by decide, inGX12, tyX12_ok, nmX12, lwg_of (List.mem_of_getElem? (i := 1145) (by decide +kernel)) (by decide +kernel), rfl, rfl, rfl⟩
theorem g_X12_59 : GOK RX12 59 12 27 true (.array .int) := ⟨RX12, TX12, 66, tyX12, rfl, by decide, inGX12, tyX12_ok, nmX12, lwg_of (List.mem_of_getElem? (i := 1146) (by decide +kernel)) (by decide +kernel), rfl, rfl, rfl⟩
theorem g_X12_62 : GOK RX12 62 12 28 true (.array .int) := ⟨RX12, TX12, 66, tyX12, rfl, by decide, inGX12, tyX12_ok, nmX12, lwg_of (List.mem_of_getElem? (i := 1147) (by decide +kernel)) (by decide +kernel), rfl, rfl, rfl⟩
theorem g_X12_65 : GOK RX12 65 12 29 true (.array .int) := ⟨RX12, TX12, 66, tyX12, rfl, by decide, inGX12, tyX12_ok, nmX12, lwg_of (List.mem_of_getElem? (i := 1148) (by decide +kernel)) (by decide +kernel), rfl, rfl, rfl⟩
theorem g_X12_68 : GOK RX12 68 12 30 true (.array .int) := ⟨RX12, TX12, 66, tyX12, rfl, by decide, inGX12, tyX12_ok, nmX12, lwg_of (List.mem_of_getElem? (i := 1149) (by decide +kernel)) (by decide +kernel), rfl, rfl, rfl⟩
theorem g_X12_71 : GOK RX12 71 12 31 true (.array .int) := ⟨RX12, TX12, 66, tyX12, rfl, by decide, inGX12, tyX12_ok, nmX12, lwg_of (List.mem_of_getElem? (i := 1150) (by decide +kernel)) (by decide +kernel), rfl, rfl, rfl⟩
theorem g_X12_74 : GOK RX12 74 12 32 true (.array .int) := ⟨RX12, TX12, 66, tyX12, rfl, by decide, inGX12, tyX12_ok, nmX12, lwg_of (List.mem_of_getElem? (i := 1151) (by decide +kernel)) (by decide +kernel), rfl, rfl, rfl⟩
theorem g_X12_77 : GOK RX12 77 12 33 true (.array .int) := ⟨RX12, TX12, 66, tyX12, rfl, by decide, inGX12, tyX12_ok, nmX12, lwg_of (List.mem_of_getElem? (i := 1152) (by decide +kernel)) (by decide +kernel), rfl, rfl, rfl⟩
theorem g_X12_80 : GOK RX12 80 12 34 true (.array .int) := ⟨RX12, TX12, 66, tyX12, rfl, by decide, inGX12, tyX12_ok, nmX12, lwg_of (List.mem_of_getElem? (i := 1153) (by decide +kernel)) (by decide +kernel), rfl, rfl, rfl⟩
theorem g_X12_83 : GOK RX12 83 12 35 true (.array .int) := ⟨RX12, TX12, 66, tyX12, rfl, by decide, inGX12, tyX12_ok, nmX12, lwg_of (List.mem_of_getElem? (i := 1154) (by decide +kernel)) (by decide +kernel), rfl, rfl, rfl⟩
theorem g_X12_86 : GOK RX12 86 12 36 true (.array .int) := ⟨RX12, TX12, 66, tyX12, rfl, by decide, inGX12, tyX12_ok, nmX12, lwg_of (List.mem_of_getElem? (i := 1155) (by decide +kernel)) (by decide +kernel), rfl, rfl, rfl⟩
theorem g_X12_89 : GOK RX12 89 12 37 true (.array .int) := ⟨RX12, TX12, 66, tyX12, rfl, by decide, inGX12, tyX12_ok, nmX12, lwg_of (List.mem_of_getElem? (i := 1156) (by decide +kernel)) (by decide +kernel), rfl, rfl, rfl⟩
theorem g_X12_92 : GOK RX12 92 12 38 true (.array .int) := ⟨RX12, TX12, 66, tyX12, rfl, by decide, inGX12, tyX12_ok, nmX12, lwg_of (List.mem_of_getElem? (i := 1157) (by decide +kernel)) (by decide +kernel), rfl, rfl, rfl⟩
theorem g_X12_95 : GOK RX12 95 12 39 true (.array .int) := ⟨RX12, TX12, 66, tyX12, rfl, by decide, inGX12, tyX12_ok, nmX12, lwg_of (List.mem_of_getElem? (i := 1158) (by decide +kernel)) (by decide +kernel), rfl, rfl, rfl⟩
theorem g_X12_98 : GOK RX12 98 12 40 true (.array .int) := ⟨RX12, TX12, 66, tyX12, rfl, by decide, inGX12, tyX12_ok, nmX12, lwg_of (List.mem_of_getElem? (i := 1159) (by decide +kernel)) (by decide +kernel), rfl, rfl, rfl⟩
theorem g_X12_101 : GOK RX12 101 12 41 true (.array .int) := ⟨RX12, TX12, 66, tyX12, rfl, by decide, inGX12, tyX12_ok, nmX12, lwg_of (List.mem_of_getElem? (i := 1160) (by decide +kernel)) (by decide +kernel), rfl, rfl, rfl⟩
theorem g_X12_104 : GOK RX12 104 12 42 true (.array .int) := ⟨RX12, TX12, 66, tyX12, rfl, by decide, inGX12, tyX12_ok, nmX12, lwg_of (List.mem_of_getElem? (i := 1161) (by decide +kernel)) (by decide +kernel), rfl, rfl, rfl⟩
theorem g_X12_107 : GOK RX12 107 12 45 true (.array .int) := ⟨RX12, TX12, 66, tyX12, rfl, by decide, inGX12, tyX12_ok, nmX12, lwg_of (List.mem_of_getElem? (i := 1164) (by decide +kernel)) (by decide +kernel), rfl, rfl, rfl⟩
theorem g_X12_110 : GOK RX12 110 12 46 true (.array .int) := ⟨RX12, TX12, 66, tyX12, rfl, by decide, inGX12, tyX12_ok, nmX12, lwg_of (List.mem_of_getElem? (i := 1165) (by decide +kernel)) (by decide +kernel), rfl, rfl, rfl⟩
theorem g_X12_113 : GOK RX12 113 12 49 true (.array .int) := ⟨RX12, TX12, 66, tyX12, rfl, by decide, inGX12, tyX12_ok, nmX12, lwg_of (List.mem_of_getElem? (i := 1168) (by decide +kernel)) (by decide +kernel), rfl, rfl, rfl⟩
theorem g_X12_116 : GOK RX12 116 12 50 true (.array .int) := ⟨RX12, TX12, 66, tyX12, rfl, by decide, inGX12, tyX12_ok, nmX12, lwg_of (List.mem_of_getElem? (i := 1169) (by decide +kernel)) (by decide +kernel), rfl, rfl, rfl⟩
theorem g_X12_119 : GOK RX12 119 12 51 true (.array .int) := ⟨RX12, TX12, 66, tyX12, rfl, by decide, inGX12, tyX12_ok, nmX12, lwg_of (List.mem_of_getElem? (i := 1170) (by decide +kernel)) (by decide +kernel), rfl, rfl, rfl⟩
theorem g_X12_122 : GOK RX12 122 12 53 true (.array .int) := ⟨RX12, TX12, 66, tyX12, rfl, by decide, inGX12, tyX12_ok, nmX12, lwg_of (List.mem_of_getElem? (i := 1172) (by decide +kernel)) (by decide +kernel), rfl, rfl, rfl⟩
theorem g_X12_125 : GOK RX12 125 12 54 true (.array .int) := ⟨RX12, TX12, 66, tyX12, rfl, by decide, inGX12, tyX12_ok, nmX12, lwg_of (List.mem_of_getElem? (i := 1173) (by decide +kernel)) (by decide +kernel), rfl, rfl, rfl⟩
theorem g_X12_128 : GOK RX12 128 12 56 true (.array .int) := ⟨RX12, TX12, 66, tyX12, rfl, by decide, inGX12, tyX12_ok, nmX12, lwg_of (List.mem_of_getElem? (i := 1175) (by decide +kernel)) (by decide +kernel), rfl, rfl, rfl⟩
theorem g_X12_131 : GOK RX12 131 12 57 true (.array .int) := ⟨RX12, TX12, 66, tyX12, rfl, by decide, inGX12, tyX12_ok, nmX12, lwg_of (List.mem_of_getElem? (i := 1176) (by decide +kernel)) (by decide +kernel), rfl, rfl, rfl⟩
theorem g_X12_134 : GOK RX12 134 12 58 true (.array .int) := ⟨RX12, TX12, 66, tyX12, rfl, by decide, inGX12, tyX12_ok, nmX12, lwg_of (List.mem_of_getElem? (i := 1177) (by decide +kernel)) (by decide +kernel), rfl, rfl, rfl⟩
theorem g_X12_137 : GOK RX12 137 12 59 true (.array .int) := ⟨RX12, TX12, 66, tyX12, rfl, by decide, inGX12, tyX12_ok, nmX12, lwg_of (List.mem_of_getElem? (i := 1178) (by decide +kernel)) (by decide +kernel), rfl, rfl, rfl⟩
theorem g_X12_140 : GOK RX12 140 12 60 true (.array .int) := ⟨RX12, TX12, 66, tyX12, rfl, by decide, inGX12, tyX12_ok, nmX12, lwg_of (List.mem_of_getElem? (i := 1179) (by decide +kernel)) (by decide +kernel), rfl, rfl, rfl⟩
theorem g_X12_143 : GOK RX12 143 12 61 true (.array .int) := ⟨RX12, TX12, 66, tyX12, rfl, by decide, inGX12, tyX12_ok, nmX12, lwg_of (List.mem_of_getElem? (i := 1180) (by decide +kernel)) (by decide +kernel), rfl, rfl, rfl⟩
theorem g_X12_146 : GOK RX12 146 12 62 true (.array .int) := ⟨RX12, TX12, 66, tyX12, rfl, by decide, inGX12, tyX12_ok, nmX12, lwg_of (List.mem_of_getElem? (i := 1181) (by decide +kernel)) (by decide +kernel), rfl, rfl, rfl⟩
theorem g_X12_149 : GOK RX12 149 12 63 true (.array .int) := ⟨RX12, TX12, 66, tyX12, rfl, by decide, inGX12, tyX12_ok, nmX12, lwg_of (List.mem_of_getElem? (i := 1182) (by decide +kernel)) (by decide +kernel), rfl, rfl, rfl⟩
def eX12 (cI cB : ClassId) (as : List Value) (q : Nat → Nat) : List va_E := [
  .inr (12, [.ref (q 1), .ref (q 2), .ref (q 3), .ref (q 4), .ref (q 5), .ref (q 6), .ref (q 7), .ref (q 8), .ref (q 9), .ref (q 10), .ref (q 11), .int (Int32.ofInt 0), .ref (q 12), .int (Int32.ofInt 0), .int (Int32.ofInt 0), .int (Int32.ofInt 0), .int (Int32.ofInt 0), .int (Int32.ofInt 0), .int (Int32.ofInt 0), .int (Int32.ofInt 0), .int (Int32.ofInt 0), .int (Int32.ofInt 0), .int (Int32.ofInt 0), .ref (q 13), .ref (q 14), .ref (q 15), .ref (q 16), .ref (q 17), .ref (q 18), .ref (q 19), .ref (q 20), .ref (q 21), .ref (q 22), .ref (q 23), .ref (q 24), .ref (q 25), .ref (q 26), .ref (q 27), .ref (q 28), .ref (q 29), .ref (q 30), .ref (q 31), .ref (q 32), .int (Int32.ofInt 0), .int (Int32.ofInt 0), .ref (q 33), .ref (q 34), .int (Int32.ofInt 0), .int (Int32.ofInt 0), .ref (q 35), .ref (q 36), .ref (q 37), .int (Int32.ofInt 0), .ref (q 38), .ref (q 39), .int (Int32.ofInt 0), .ref (q 40), .ref (q 41), .ref (q 42), .ref (q 43), .ref (q 44), .ref (q 45), .ref (q 46), .ref (q 47), .int (Int32.ofInt 0), .int (Int32.ofInt 0)]),
  .inl (cI, 82, .inl (fun j : Nat => Int32.ofInt (M0 77 (j : Int)))),
  .inl (cI, 82, .inl (fun _ => Int32.ofInt 0)),
  .inl (cI, 82, .inl (fun _ => Int32.ofInt 0)),
  .inl (cI, 16, .inl (fun _ => Int32.ofInt 0)),
  .inl (cI, 16, .inl (fun _ => Int32.ofInt 0)),
  .inl (cI, 16, .inl (fun _ => Int32.ofInt 0)),
  .inl (cI, 16, .inl (fun _ => Int32.ofInt 0)),
  .inl (cI, 16, .inl (fun _ => Int32.ofInt 0)),
  .inl (cI, 16, .inl (fun _ => Int32.ofInt 0)),
  .inl (cI, 16, .inl (fun _ => Int32.ofInt 0)),
  .inl (cI, 16, .inl (fun _ => Int32.ofInt 0)),
  .inl (cB, 260, .inl (fun _ => Int32.ofInt 0)),
  .inl (cI, 260, .inl (fun _ => Int32.ofInt 0)),
  .inl (cI, 260, .inl (fun _ => Int32.ofInt 0)),
  .inl (cI, 16, .inl (fun _ => Int32.ofInt 0)),
  .inl (cI, 16, .inl (fun _ => Int32.ofInt 0)),
  .inl (cI, 16, .inl (fun _ => Int32.ofInt 0)),
  .inl (cI, 16, .inl (fun _ => Int32.ofInt 0)),
  .inl (cI, 260, .inl (fun _ => Int32.ofInt 0)),
  .inl (cI, 16, .inl (fun _ => Int32.ofInt 0)),
  .inl (cI, 16, .inl (fun _ => Int32.ofInt 0)),
  .inl (cI, 16, .inl (fun _ => Int32.ofInt 0)),
  .inl (cI, 16, .inl (fun _ => Int32.ofInt 0)),
  .inl (cI, 260, .inl (fun _ => Int32.ofInt 0)),
  .inl (cI, 11, .inl (fun _ => Int32.ofInt 0)),
  .inl (cI, 16, .inl (fun _ => Int32.ofInt 0)),
  .inl (cI, 16, .inl (fun _ => Int32.ofInt 0)),
  .inl (cI, 16, .inl (fun _ => Int32.ofInt 0)),
  .inl (cI, 16, .inl (fun _ => Int32.ofInt 0)),
  .inl (cI, 16, .inl (fun _ => Int32.ofInt 0)),
  .inl (cI, 16, .inl (fun _ => Int32.ofInt 0)),
  .inl (cI, 16, .inl (fun _ => Int32.ofInt 0)),
  .inl (cI, 32, .inl (fun _ => Int32.ofInt 0)),
  .inl (cI, 34, .inl (fun _ => Int32.ofInt 0)),
  .inl (cI, 32, .inl (fun _ => Int32.ofInt 0)),
  .inl (cI, 4608, .inl (fun _ => Int32.ofInt 0)),
  .inl (cI, 9, .inl (fun _ => Int32.ofInt 0)),
  .inl (cI, 16, .inl (fun _ => Int32.ofInt 0)),
  .inl (cI, 128, .inl (fun _ => Int32.ofInt 0)),
  .inl (cI, 72, .inl (fun _ => Int32.ofInt 0)),
  .inl (cI, 72, .inl (fun _ => Int32.ofInt 0)),
  .inl (cI, 6, .inl (fun _ => Int32.ofInt 0)),
  .inl (cI, 6, .inl (fun _ => Int32.ofInt 0)),
  .inl (cI, 6, .inl (fun _ => Int32.ofInt 0)),
  .inl (cI, 6, .inl (fun _ => Int32.ofInt 0)),
  .inl (cI, 10, .inl (fun _ => Int32.ofInt 0)),
  .inl (cI, 1024, .inl (fun _ => Int32.ofInt 0))]
theorem depX12 {cI cB : ClassId} (as : List Value) (q q' : Nat → Nat) (h : ∀ i, i < 48 → q i = q' i) : eX12 cI cB as q = eX12 cI cB as q' := by
  unfold eX12
  rw [h 1 (Nat.le_of_ble_eq_true rfl), h 2 (Nat.le_of_ble_eq_true rfl), h 3 (Nat.le_of_ble_eq_true rfl), h 4 (Nat.le_of_ble_eq_true rfl), h 5 (Nat.le_of_ble_eq_true rfl), h 6 (Nat.le_of_ble_eq_true rfl), h 7 (Nat.le_of_ble_eq_true rfl), h 8 (Nat.le_of_ble_eq_true rfl), h 9 (Nat.le_of_ble_eq_true rfl), h 10 (Nat.le_of_ble_eq_true rfl), h 11 (Nat.le_of_ble_eq_true rfl), h 12 (Nat.le_of_ble_eq_true rfl), h 13 (Nat.le_of_ble_eq_true rfl), h 14 (Nat.le_of_ble_eq_true rfl), h 15 (Nat.le_of_ble_eq_true rfl), h 16 (Nat.le_of_ble_eq_true rfl), h 17 (Nat.le_of_ble_eq_true rfl), h 18 (Nat.le_of_ble_eq_true rfl), h 19 (Nat.le_of_ble_eq_true rfl), h 20 (Nat.le_of_ble_eq_true rfl), h 21 (Nat.le_of_ble_eq_true rfl), h 22 (Nat.le_of_ble_eq_true rfl), h 23 (Nat.le_of_ble_eq_true rfl), h 24 (Nat.le_of_ble_eq_true rfl), h 25 (Nat.le_of_ble_eq_true rfl), h 26 (Nat.le_of_ble_eq_true rfl), h 27 (Nat.le_of_ble_eq_true rfl), h 28 (Nat.le_of_ble_eq_true rfl), h 29 (Nat.le_of_ble_eq_true rfl), h 30 (Nat.le_of_ble_eq_true rfl), h 31 (Nat.le_of_ble_eq_true rfl), h 32 (Nat.le_of_ble_eq_true rfl), h 33 (Nat.le_of_ble_eq_true rfl), h 34 (Nat.le_of_ble_eq_true rfl), h 35 (Nat.le_of_ble_eq_true rfl), h 36 (Nat.le_of_ble_eq_true rfl), h 37 (Nat.le_of_ble_eq_true rfl), h 38 (Nat.le_of_ble_eq_true rfl), h 39 (Nat.le_of_ble_eq_true rfl), h 40 (Nat.le_of_ble_eq_true rfl), h 41 (Nat.le_of_ble_eq_true rfl), h 42 (Nat.le_of_ble_eq_true rfl), h 43 (Nat.le_of_ble_eq_true rfl), h 44 (Nat.le_of_ble_eq_true rfl), h 45 (Nat.le_of_ble_eq_true rfl), h 46 (Nat.le_of_ble_eq_true rfl), h 47 (Nat.le_of_ble_eq_true rfl)]
