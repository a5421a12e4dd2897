set_option maxRecDepth 20000 in
set_option maxHeartbeats 4000000 in
theorem c_X9 {D : va_G} {cI cB : ClassId} : InitC 1 1 260 mX9_init 9 dfX9 [] D cI cB (eX9 cI cB []) := by
  refine InitC.of (by decide) rfl rfl (fun _ => Nat.le_of_ble_eq_true rfl) (fun h0 sz => ?_)
  refine i_aload0 dX9_init_0 ?_
  refine i_obj dX9_init_1 wo_X9 ⟨Nat.le_of_ble_eq_true rfl, Nat.le_of_ble_eq_true rfl⟩ ?_
  refine i_aload0 dX9_init_4 ?_
  refine i_sipush dX9_init_5 (by decide) ?_
  refine i_newaI (n := 1) (cl := 0) (sl := 0) (N := 260) dX9_init_8 (by decide) (by decide) (Nat.le_of_ble_eq_true rfl) ⟨Nat.le_of_ble_eq_true rfl, Nat.le_of_ble_eq_true rfl⟩ ?_
  refine i_put (k := 0) dX9_init_10 g_X9_11 (fun q => ⟨rfl, rfl⟩) (Nat.le_of_ble_eq_true rfl) ?_
  refine i_aload0 dX9_init_13 ?_
  refine i_iconst dX9_init_14 ?_
  refine i_put (k := 1) dX9_init_15 g_X9_15 (fun q => ⟨rfl, rfl⟩) (Nat.le_of_ble_eq_true rfl) ?_
  refine i_aload0 dX9_init_18 ?_
  refine i_iconst dX9_init_19 ?_
  refine i_put (k := 2) dX9_init_20 g_X9_19 (fun q => ⟨rfl, rfl⟩) (Nat.le_of_ble_eq_true rfl) ?_
  refine i_aload0 dX9_init_23 ?_
  refine i_iconst dX9_init_24 ?_
  refine i_put (k := 3) dX9_init_25 g_X9_22 (fun q => ⟨rfl, rfl⟩) (Nat.le_of_ble_eq_true rfl) ?_
  refine i_aload0 dX9_init_28 ?_
  refine i_iconst dX9_init_29 ?_
  refine i_put (k := 4) dX9_init_30 g_X9_25 (fun q => ⟨rfl, rfl⟩) (Nat.le_of_ble_eq_true rfl) ?_
  exact i_ret dX9_init_33 (fun q => rfl)
set_option maxRecDepth 20000 in
set_option maxHeartbeats 4000000 in
theorem c_X1 {D : va_G} {cI cB : ClassId} : InitC 1 8 128 mX1_init 1 dfX1 [] D cI cB (eX1 cI cB []) := by
  refine InitC.of (by decide) rfl rfl (fun _ => Nat.le_of_ble_eq_true rfl) (fun h0 sz => ?_)
  refine i_aload0 dX1_init_0 ?_
  refine i_obj dX1_init_1 wo_X1 ⟨Nat.le_of_ble_eq_true rfl, Nat.le_of_ble_eq_true rfl⟩ ?_
  refine i_aload0 dX1_init_4 ?_
  refine i_bipush dX1_init_5 (by decide) ?_
  refine i_newaI (n := 1) (cl := 0) (sl := 0) (N := 16) dX1_init_7 (by decide) (by decide) (Nat.le_of_ble_eq_true rfl) ⟨Nat.le_of_ble_eq_true rfl, Nat.le_of_ble_eq_true rfl⟩ ?_
  refine i_put (k := 0) dX1_init_9 g_X1_9 (fun q => ⟨rfl, rfl⟩) (Nat.le_of_ble_eq_true rfl) ?_
  refine i_aload0 dX1_init_12 ?_
  refine i_bipush dX1_init_13 (by decide) ?_
  refine i_newaI (n := 2) (cl := 1) (sl := 16) (N := 16) dX1_init_15 (by decide) (by decide) (Nat.le_of_ble_eq_true rfl) ⟨Nat.le_of_ble_eq_true rfl, Nat.le_of_ble_eq_true rfl⟩ ?_
  refine i_put (k := 1) dX1_init_17 g_X1_15 (fun q => ⟨rfl, rfl⟩) (Nat.le_of_ble_eq_true rfl) ?_
  refine i_aload0 dX1_init_20 ?_
  refine i_bipush dX1_init_21 (by decide) ?_
  refine i_newaI (n := 3) (cl := 2) (sl := 32) (N := 16) dX1_init_23 (by decide) (by decide) (Nat.le_of_ble_eq_true rfl) ⟨Nat.le_of_ble_eq_true rfl, Nat.le_of_ble_eq_true rfl⟩ ?_
  refine i_put (k := 2) dX1_init_25 g_X1_18 (fun q => ⟨rfl, rfl⟩) (Nat.le_of_ble_eq_true rfl) ?_
  refine i_aload0 dX1_init_28 ?_
  refine i_bipush dX1_init_29 (by decide) ?_
  refine i_newaI (n := 4) (cl := 3) (sl := 48) (N := 16) dX1_init_31 (by decide) (by decide) (Nat.le_of_ble_eq_true rfl) ⟨Nat.le_of_ble_eq_true rfl, Nat.le_of_ble_eq_true rfl⟩ ?_
  refine i_put (k := 3) dX1_init_33 g_X1_21 (fun q => ⟨rfl, rfl⟩) (Nat.le_of_ble_eq_true rfl) ?_
  refine i_aload0 dX1_init_36 ?_
  refine i_bipush dX1_init_37 (by decide) ?_
  refine i_newaI (n := 5) (cl := 4) (sl := 64) (N := 16) dX1_init_39 (by decide) (by decide) (Nat.le_of_ble_eq_true rfl) ⟨Nat.le_of_ble_eq_true rfl, Nat.le_of_ble_eq_true rfl⟩ ?_
  refine i_put (k := 4) dX1_init_41 g_X1_24 (fun q => ⟨rfl, rfl⟩) (Nat.le_of_ble_eq_true rfl) ?_
  refine i_aload0 dX1_init_44 ?_
  refine i_bipush dX1_init_45 (by decide) ?_
  refine i_newaI (n := 6) (cl := 5) (sl := 80) (N := 16) dX1_init_47 (by decide) (by decide) (Nat.le_of_ble_eq_true rfl) ⟨Nat.le_of_ble_eq_true rfl, Nat.le_of_ble_eq_true rfl⟩ ?_
  refine i_put (k := 5) dX1_init_49 g_X1_27 (fun q => ⟨rfl, rfl⟩) (Nat.le_of_ble_eq_true rfl) ?_
  refine i_aload0 dX1_init_52 ?_
  refine i_bipush dX1_init_53 (by decide) ?_
  refine i_newaI (n := 7) (cl := 6) (sl := 96) (N := 16) dX1_init_55 (by decide) (by decide) (Nat.le_of_ble_eq_true rfl) ⟨Nat.le_of_ble_eq_true rfl, Nat.le_of_ble_eq_true rfl⟩ ?_
  refine i_put (k := 6) dX1_init_57 g_X1_30 (fun q => ⟨rfl, rfl⟩) (Nat.le_of_ble_eq_true rfl) ?_
  refine i_aload0 dX1_init_60 ?_
  refine i_bipush dX1_init_61 (by decide) ?_
  refine i_newaI (n := 8) (cl := 7) (sl := 112) (N := 16) dX1_init_63 (by decide) (by decide) (Nat.le_of_ble_eq_true rfl) ⟨Nat.le_of_ble_eq_true rfl, Nat.le_of_ble_eq_true rfl⟩ ?_
  refine i_put (k := 7) dX1_init_65 g_X1_33 (fun q => ⟨rfl, rfl⟩) (Nat.le_of_ble_eq_true rfl) ?_
  refine i_aload0 dX1_init_68 ?_
  refine i_iconst dX1_init_69 ?_
  refine i_put (k := 8) dX1_init_70 g_X1_36 (fun q => ⟨rfl, rfl⟩) (Nat.le_of_ble_eq_true rfl) ?_
  exact i_ret dX1_init_73 (fun q => rfl)
set_option maxRecDepth 20000 in
set_option maxHeartbeats 4000000 in
theorem c_X3 {D : va_G} {cI cB : ClassId} : InitC 1 6 368 mX3_init 3 dfX3 [] D cI cB (eX3 cI cB []) := by
  refine InitC.of (by decide) rfl rfl (fun _ => Nat.le_of_ble_eq_true rfl) (fun h0 sz => ?_)
  refine i_aload0 dX3_init_0 ?_
  refine i_obj dX3_init_1 wo_X3 ⟨Nat.le_of_ble_eq_true rfl, Nat.le_of_ble_eq_true rfl⟩ ?_
  refine i_aload0 dX3_init_4 ?_
  refine i_bipush dX3_init_5 (by decide) ?_
  refine i_newaI (n := 1) (cl := 0) (sl := 0) (N := 16) dX3_init_7 (by decide) (by decide) (Nat.le_of_ble_eq_true rfl) ⟨Nat.le_of_ble_eq_true rfl, Nat.le_of_ble_eq_true rfl⟩ ?_
  refine i_put (k := 0) dX3_init_9 g_X3_9 (fun q => ⟨rfl, rfl⟩) (Nat.le_of_ble_eq_true rfl) ?_
  refine i_aload0 dX3_init_12 ?_
  refine i_bipush dX3_init_13 (by decide) ?_
  refine i_newaI (n := 2) (cl := 1) (sl := 16) (N := 16) dX3_init_15 (by decide) (by decide) (Nat.le_of_ble_eq_true rfl) ⟨Nat.le_of_ble_eq_true rfl, Nat.le_of_ble_eq_true rfl⟩ ?_
  refine i_put (k := 1) dX3_init_17 g_X3_13 (fun q => ⟨rfl, rfl⟩) (Nat.le_of_ble_eq_true rfl) ?_
  refine i_aload0 dX3_init_20 ?_
  refine i_bipush dX3_init_21 (by decide) ?_
  refine i_newaI (n := 3) (cl := 2) (sl := 32) (N := 16) dX3_init_23 (by decide) (by decide) (Nat.le_of_ble_eq_true rfl) ⟨Nat.le_of_ble_eq_true rfl, Nat.le_of_ble_eq_true rfl⟩ ?_
  refine i_put (k := 2) dX3_init_25 g_X3_16 (fun q => ⟨rfl, rfl⟩) (Nat.le_of_ble_eq_true rfl) ?_
  refine i_aload0 dX3_init_28 ?_
  refine i_bipush dX3_init_29 (by decide) ?_
  refine i_newaI (n := 4) (cl := 3) (sl := 48) (N := 16) dX3_init_31 (by decide) (by decide) (Nat.le_of_ble_eq_true rfl) ⟨Nat.le_of_ble_eq_true rfl, Nat.le_of_ble_eq_true rfl⟩ ?_
  refine i_put (k := 3) dX3_init_33 g_X3_19 (fun q => ⟨rfl, rfl⟩) (Nat.le_of_ble_eq_true rfl) ?_
  refine i_aload0 dX3_init_36 ?_
  refine i_sipush dX3_init_37 (by decide) ?_
  refine i_newaI (n := 5) (cl := 4) (sl := 64) (N := 240) dX3_init_40 (by decide) (by decide) (Nat.le_of_ble_eq_true rfl) ⟨Nat.le_of_ble_eq_true rfl, Nat.le_of_ble_eq_true rfl⟩ ?_
  refine i_put (k := 4) dX3_init_42 g_X3_22 (fun q => ⟨rfl, rfl⟩) (Nat.le_of_ble_eq_true rfl) ?_
  refine i_aload0 dX3_init_45 ?_
  refine i_bipush dX3_init_46 (by decide) ?_
  refine i_newaI (n := 6) (cl := 5) (sl := 304) (N := 64) dX3_init_48 (by decide) (by decide) (Nat.le_of_ble_eq_true rfl) ⟨Nat.le_of_ble_eq_true rfl, Nat.le_of_ble_eq_true rfl⟩ ?_
  refine i_put (k := 5) dX3_init_50 g_X3_25 (fun q => ⟨rfl, rfl⟩) (Nat.le_of_ble_eq_true rfl) ?_
  refine i_aload0 dX3_init_53 ?_
  refine i_iconst dX3_init_54 ?_
  refine i_put (k := 6) dX3_init_55 g_X3_28 (fun q => ⟨rfl, rfl⟩) (Nat.le_of_ble_eq_true rfl) ?_
  refine i_aload0 dX3_init_58 ?_
  refine i_iconst dX3_init_59 ?_
  refine i_put (k := 7) dX3_init_60 g_X3_32 (fun q => ⟨rfl, rfl⟩) (Nat.le_of_ble_eq_true rfl) ?_
  refine i_aload0 dX3_init_63 ?_
  refine i_iconst dX3_init_64 ?_
  refine i_put (k := 8) dX3_init_65 g_X3_35 (fun q => ⟨rfl, rfl⟩) (Nat.le_of_ble_eq_true rfl) ?_
  exact i_ret dX3_init_68 (fun q => rfl)
set_option maxRecDepth 20000 in
set_option maxHeartbeats 4000000 in
theorem c_X8 {D : va_G} {cI cB : ClassId} : InitC 1 5 80 mX8_init 8 dfX8 [] D cI cB (eX8 cI cB []) := by
  refine InitC.of (by decide) rfl rfl (fun _ => Nat.le_of_ble_eq_true rfl) (fun h0 sz => ?_)
  refine i_aload0 dX8_init_0 ?_
  refine i_obj dX8_init_1 wo_X8 ⟨Nat.le_of_ble_eq_true rfl, Nat.le_of_ble_eq_true rfl⟩ ?_
  refine i_aload0 dX8_init_4 ?_
  refine i_bipush dX8_init_5 (by decide) ?_
  refine i_newaI (n := 1) (cl := 0) (sl := 0) (N := 16) dX8_init_7 (by decide) (by decide) (Nat.le_of_ble_eq_true rfl) ⟨Nat.le_of_ble_eq_true rfl, Nat.le_of_ble_eq_true rfl⟩ ?_
  refine i_put (k := 0) dX8_init_9 g_X8_9 (fun q => ⟨rfl, rfl⟩) (Nat.le_of_ble_eq_true rfl) ?_
  refine i_aload0 dX8_init_12 ?_
  refine i_bipush dX8_init_13 (by decide) ?_
  refine i_newaI (n := 2) (cl := 1) (sl := 16) (N := 16) dX8_init_15 (by decide) (by decide) (Nat.le_of_ble_eq_true rfl) ⟨Nat.le_of_ble_eq_true rfl, Nat.le_of_ble_eq_true rfl⟩ ?_
  refine i_put (k := 1) dX8_init_17 g_X8_15 (fun q => ⟨rfl, rfl⟩) (Nat.le_of_ble_eq_true rfl) ?_
  refine i_aload0 dX8_init_20 ?_
  refine i_bipush dX8_init_21 (by decide) ?_
  refine i_newaI (n := 3) (cl := 2) (sl := 32) (N := 16) dX8_init_23 (by decide) (by decide) (Nat.le_of_ble_eq_true rfl) ⟨Nat.le_of_ble_eq_true rfl, Nat.le_of_ble_eq_true rfl⟩ ?_
  refine i_put (k := 2) dX8_init_25 g_X8_18 (fun q => ⟨rfl, rfl⟩) (Nat.le_of_ble_eq_true rfl) ?_
  refine i_aload0 dX8_init_28 ?_
  refine i_bipush dX8_init_29 (by decide) ?_
  refine i_newaI (n := 4) (cl := 3) (sl := 48) (N := 16) dX8_init_31 (by decide) (by decide) (Nat.le_of_ble_eq_true rfl) ⟨Nat.le_of_ble_eq_true rfl, Nat.le_of_ble_eq_true rfl⟩ ?_
  refine i_put (k := 3) dX8_init_33 g_X8_21 (fun q => ⟨rfl, rfl⟩) (Nat.le_of_ble_eq_true rfl) ?_
  refine i_aload0 dX8_init_36 ?_
  refine i_bipush dX8_init_37 (by decide) ?_
  refine i_newaI (n := 5) (cl := 4) (sl := 64) (N := 16) dX8_init_39 (by decide) (by decide) (Nat.le_of_ble_eq_true rfl) ⟨Nat.le_of_ble_eq_true rfl, Nat.le_of_ble_eq_true rfl⟩ ?_
  refine i_put (k := 4) dX8_init_41 g_X8_24 (fun q => ⟨rfl, rfl⟩) (Nat.le_of_ble_eq_true rfl) ?_
  refine i_aload0 dX8_init_44 ?_
  refine i_iconst dX8_init_45 ?_
  refine i_put (k := 5) dX8_init_46 g_X8_27 (fun q => ⟨rfl, rfl⟩) (Nat.le_of_ble_eq_true rfl) ?_
  refine i_aload0 dX8_init_49 ?_
  refine i_iconst dX8_init_50 ?_
  refine i_put (k := 6) dX8_init_51 g_X8_31 (fun q => ⟨rfl, rfl⟩) (Nat.le_of_ble_eq_true rfl) ?_
  exact i_ret dX8_init_54 (fun q => rfl)
set_option maxRecDepth 20000 in
set_option maxHeartbeats 4000000 in
theorem c_X2 {D : va_G} {cI cB : ClassId} : InitC 1 3 128 mX2_init 2 dfX2 [] D cI cB (eX2 cI cB []) := by
  refine InitC.of (by decide) rfl rfl (fun _ => Nat.le_of_ble_eq_true rfl) (fun h0 sz => ?_)
  refine i_aload0 dX2_init_0 ?_
  refine i_obj dX2_init_1 wo_X2 ⟨Nat.le_of_ble_eq_true rfl, Nat.le_of_ble_eq_true rfl⟩ ?_
  refine i_aload0 dX2_init_4 ?_
  refine i_bipush dX2_init_5 (by decide) ?_
  refine i_newaI (n := 1) (cl := 0) (sl := 0) (N := 32) dX2_init_7 (by decide) (by decide) (Nat.le_of_ble_eq_true rfl) ⟨Nat.le_of_ble_eq_true rfl, Nat.le_of_ble_eq_true rfl⟩ ?_
  refine i_put (k := 0) dX2_init_9 g_X2_11 (fun q => ⟨rfl, rfl⟩) (Nat.le_of_ble_eq_true rfl) ?_
  refine i_aload0 dX2_init_12 ?_
  refine i_bipush dX2_init_13 (by decide) ?_
  refine i_newaI (n := 2) (cl := 1) (sl := 32) (N := 64) dX2_init_15 (by decide) (by decide) (Nat.le_of_ble_eq_true rfl) ⟨Nat.le_of_ble_eq_true rfl, Nat.le_of_ble_eq_true rfl⟩ ?_
  refine i_put (k := 1) dX2_init_17 g_X2_15 (fun q => ⟨rfl, rfl⟩) (Nat.le_of_ble_eq_true rfl) ?_
  refine i_aload0 dX2_init_20 ?_
  refine i_bipush dX2_init_21 (by decide) ?_
  refine i_newaI (n := 3) (cl := 2) (sl := 96) (N := 32) dX2_init_23 (by decide) (by decide) (Nat.le_of_ble_eq_true rfl) ⟨Nat.le_of_ble_eq_true rfl, Nat.le_of_ble_eq_true rfl⟩ ?_
  refine i_put (k := 2) dX2_init_25 g_X2_18 (fun q => ⟨rfl, rfl⟩) (Nat.le_of_ble_eq_true rfl) ?_
  refine i_aload0 dX2_init_28 ?_
  refine i_iconst dX2_init_29 ?_
  refine i_put (k := 3) dX2_init_30 g_X2_21 (fun q => ⟨rfl, rfl⟩) (Nat.le_of_ble_eq_true rfl) ?_
  refine i_aload0 dX2_init_33 ?_
  refine i_iconst dX2_init_34 ?_
  refine i_put (k := 4) dX2_init_35 g_X2_25 (fun q => ⟨rfl, rfl⟩) (Nat.le_of_ble_eq_true rfl) ?_
  exact i_ret dX2_init_38 (fun q => rfl)
set_option maxRecDepth 20000 in
set_option maxHeartbeats 4000000 in
theorem c_X6 {D : va_G} {cI cB : ClassId} : InitC 1 4 4636 mX6_init 6 dfX6 [] D cI cB (eX6 cI cB []) := by
  refine InitC.of (by decide) rfl rfl (fun _ => Nat.le_of_ble_eq_true rfl) (fun h0 sz => ?_)
  refine i_aload0 dX6_init_0 ?_
  refine i_obj dX6_init_1 wo_X6 ⟨Nat.le_of_ble_eq_true rfl, Nat.le_of_ble_eq_true rfl⟩ ?_
  refine i_aload0 dX6_init_4 ?_
  refine i_sipush dX6_init_5 (by decide) ?_
  refine i_newaI (n := 1) (cl := 0) (sl := 0) (N := 4608) dX6_init_8 (by decide) (by decide) (Nat.le_of_ble_eq_true rfl) ⟨Nat.le_of_ble_eq_true rfl, Nat.le_of_ble_eq_true rfl⟩ ?_
  refine i_put (k := 0) dX6_init_10 g_X6_11 (fun q => ⟨rfl, rfl⟩) (Nat.le_of_ble_eq_true rfl) ?_
  refine i_aload0 dX6_init_13 ?_
  refine i_bipush dX6_init_14 (by decide) ?_
  refine i_newaI (n := 2) (cl := 1) (sl := 4608) (N := 9) dX6_init_16 (by decide) (by decide) (Nat.le_of_ble_eq_true rfl) ⟨Nat.le_of_ble_eq_true rfl, Nat.le_of_ble_eq_true rfl⟩ ?_
  refine i_put (k := 1) dX6_init_18 g_X6_15 (fun q => ⟨rfl, rfl⟩) (Nat.le_of_ble_eq_true rfl) ?_
  refine i_aload0 dX6_init_21 ?_
  refine i_bipush dX6_init_22 (by decide) ?_
  refine i_newaI (n := 3) (cl := 2) (sl := 4617) (N := 9) dX6_init_24 (by decide) (by decide) (Nat.le_of_ble_eq_true rfl) ⟨Nat.le_of_ble_eq_true rfl, Nat.le_of_ble_eq_true rfl⟩ ?_
  refine i_put (k := 2) dX6_init_26 g_X6_18 (fun q => ⟨rfl, rfl⟩) (Nat.le_of_ble_eq_true rfl) ?_
  refine i_aload0 dX6_init_29 ?_
  refine i_bipush dX6_init_30 (by decide) ?_
  refine i_newaI (n := 4) (cl := 3) (sl := 4626) (N := 10) dX6_init_32 (by decide) (by decide) (Nat.le_of_ble_eq_true rfl) ⟨Nat.le_of_ble_eq_true rfl, Nat.le_of_ble_eq_true rfl⟩ ?_
  refine i_put (k := 3) dX6_init_34 g_X6_21 (fun q => ⟨rfl, rfl⟩) (Nat.le_of_ble_eq_true rfl) ?_
  refine i_aload0 dX6_init_37 ?_
  refine i_iconst dX6_init_38 ?_
  refine i_put (k := 4) dX6_init_39 g_X6_24 (fun q => ⟨rfl, rfl⟩) (Nat.le_of_ble_eq_true rfl) ?_
  refine i_aload0 dX6_init_42 ?_
  refine i_iconst dX6_init_43 ?_
  refine i_put (k := 5) dX6_init_44 g_X6_28 (fun q => ⟨rfl, rfl⟩) (Nat.le_of_ble_eq_true rfl) ?_
  exact i_ret dX6_init_47 (fun q => rfl)
set_option maxRecDepth 20000 in
set_option maxHeartbeats 4000000 in
theorem c_X7 {D : va_G} {cI cB : ClassId} : InitC 1 2 144 mX7_init 7 dfX7 [] D cI cB (eX7 cI cB []) := by
  refine InitC.of (by decide) rfl rfl (fun _ => Nat.le_of_ble_eq_true rfl) (fun h0 sz => ?_)
  refine i_aload0 dX7_init_0 ?_
  refine i_obj dX7_init_1 wo_X7 ⟨Nat.le_of_ble_eq_true rfl, Nat.le_of_ble_eq_true rfl⟩ ?_
  refine i_aload0 dX7_init_4 ?_
  refine i_bipush dX7_init_5 (by decide) ?_
  refine i_newaI (n := 1) (cl := 0) (sl := 0) (N := 16) dX7_init_7 (by decide) (by decide) (Nat.le_of_ble_eq_true rfl) ⟨Nat.le_of_ble_eq_true rfl, Nat.le_of_ble_eq_true rfl⟩ ?_
  refine i_put (k := 0) dX7_init_9 g_X7_9 (fun q => ⟨rfl, rfl⟩) (Nat.le_of_ble_eq_true rfl) ?_
  refine i_aload0 dX7_init_12 ?_
  refine i_sipush dX7_init_13 (by decide) ?_
  refine i_newaI (n := 2) (cl := 1) (sl := 16) (N := 128) dX7_init_16 (by decide) (by decide) (Nat.le_of_ble_eq_true rfl) ⟨Nat.le_of_ble_eq_true rfl, Nat.le_of_ble_eq_true rfl⟩ ?_
  refine i_put (k := 1) dX7_init_18 g_X7_15 (fun q => ⟨rfl, rfl⟩) (Nat.le_of_ble_eq_true rfl) ?_
  refine i_aload0 dX7_init_21 ?_
  refine i_iconst dX7_init_22 ?_
  refine i_put (k := 2) dX7_init_23 g_X7_18 (fun q => ⟨rfl, rfl⟩) (Nat.le_of_ble_eq_true rfl) ?_
  exact i_ret dX7_init_26 (fun q => rfl)
set_option maxRecDepth 20000 in
set_option maxHeartbeats 4000000 in
theorem c_X5 {D : va_G} {cI cB : ClassId} : InitC 1 6 126 mX5_init 5 dfX5 [] D cI cB (eX5 cI cB []) := by
  refine InitC.of (by decide) rfl rfl (fun _ => Nat.le_of_ble_eq_true rfl) (fun h0 sz => ?_)
  refine i_aload0 dX5_init_0 ?_
  refine i_obj dX5_init_1 wo_X5 ⟨Nat.le_of_ble_eq_true rfl, Nat.le_of_ble_eq_true rfl⟩ ?_
  refine i_aload0 dX5_init_4 ?_
  refine i_bipush dX5_init_5 (by decide) ?_
  refine i_newaI (n := 1) (cl := 0) (sl := 0) (N := 36) dX5_init_7 (by decide) (by decide) (Nat.le_of_ble_eq_true rfl) ⟨Nat.le_of_ble_eq_true rfl, Nat.le_of_ble_eq_true rfl⟩ ?_
  refine i_put (k := 0) dX5_init_9 g_X5_9 (fun q => ⟨rfl, rfl⟩) (Nat.le_of_ble_eq_true rfl) ?_
  refine i_aload0 dX5_init_12 ?_
  refine i_bipush dX5_init_13 (by decide) ?_
  refine i_newaI (n := 2) (cl := 1) (sl := 36) (N := 36) dX5_init_15 (by decide) (by decide) (Nat.le_of_ble_eq_true rfl) ⟨Nat.le_of_ble_eq_true rfl, Nat.le_of_ble_eq_true rfl⟩ ?_
  refine i_put (k := 1) dX5_init_17 g_X5_13 (fun q => ⟨rfl, rfl⟩) (Nat.le_of_ble_eq_true rfl) ?_
  refine i_aload0 dX5_init_20 ?_
  refine i_bipush dX5_init_21 (by decide) ?_
  refine i_newaI (n := 3) (cl := 2) (sl := 72) (N := 36) dX5_init_23 (by decide) (by decide) (Nat.le_of_ble_eq_true rfl) ⟨Nat.le_of_ble_eq_true rfl, Nat.le_of_ble_eq_true rfl⟩ ?_
  refine i_put (k := 2) dX5_init_25 g_X5_16 (fun q => ⟨rfl, rfl⟩) (Nat.le_of_ble_eq_true rfl) ?_
  refine i_aload0 dX5_init_28 ?_
  refine i_bipush dX5_init_29 (by decide) ?_
  refine i_newaI (n := 4) (cl := 3) (sl := 108) (N := 6) dX5_init_31 (by decide) (by decide) (Nat.le_of_ble_eq_true rfl) ⟨Nat.le_of_ble_eq_true rfl, Nat.le_of_ble_eq_true rfl⟩ ?_
  refine i_put (k := 3) dX5_init_33 g_X5_19 (fun q => ⟨rfl, rfl⟩) (Nat.le_of_ble_eq_true rfl) ?_
  refine i_aload0 dX5_init_36 ?_
  refine i_bipush dX5_init_37 (by decide) ?_
  refine i_newaI (n := 5) (cl := 4) (sl := 114) (N := 6) dX5_init_39 (by decide) (by decide) (Nat.le_of_ble_eq_true rfl) ⟨Nat.le_of_ble_eq_true rfl, Nat.le_of_ble_eq_true rfl⟩ ?_
  refine i_put (k := 4) dX5_init_41 g_X5_22 (fun q => ⟨rfl, rfl⟩) (Nat.le_of_ble_eq_true rfl) ?_
  refine i_aload0 dX5_init_44 ?_
  refine i_bipush dX5_init_45 (by decide) ?_
  refine i_newaI (n := 6) (cl := 5) (sl := 120) (N := 6) dX5_init_47 (by decide) (by decide) (Nat.le_of_ble_eq_true rfl) ⟨Nat.le_of_ble_eq_true rfl, Nat.le_of_ble_eq_true rfl⟩ ?_
  refine i_put (k := 5) dX5_init_49 g_X5_25 (fun q => ⟨rfl, rfl⟩) (Nat.le_of_ble_eq_true rfl) ?_
  refine i_aload0 dX5_init_52 ?_
  refine i_iconst dX5_init_53 ?_
  refine i_put (k := 6) dX5_init_54 g_X5_28 (fun q => ⟨rfl, rfl⟩) (Nat.le_of_ble_eq_true rfl) ?_
  exact i_ret dX5_init_57 (fun q => rfl)
set_option maxRecDepth 20000 in
set_option maxHeartbeats 4000000 in
theorem c_X10 {D : va_G} {cI cB : ClassId} (a1 a2 : Nat) : InitC 1 1 11 mX10_init 10 dfX10 [.ref a1, .ref a2] D cI cB (eX10 cI cB [.ref a1, .ref a2]) := by
  refine InitC.of (by decide) rfl rfl (fun _ => Nat.le_of_ble_eq_true rfl) (fun h0 sz => ?_)
  refine i_aload0 dX10_init_0 ?_
  refine i_obj dX10_init_1 wo_X10 ⟨Nat.le_of_ble_eq_true rfl, Nat.le_of_ble_eq_true rfl⟩ ?_
  refine i_aload0 dX10_init_4 ?_
  refine i_aloadk (a := a1) dX10_init_5 rfl rfl ?_
  refine i_put (k := 0) dX10_init_6 g_X10_9 (fun q => ⟨rfl, rfl⟩) (Nat.le_of_ble_eq_true rfl) ?_
  refine i_aload0 dX10_init_9 ?_
  refine i_aloadk (a := a2) dX10_init_10 rfl rfl ?_
  refine i_put (k := 1) dX10_init_11 g_X10_15 (fun q => ⟨rfl, rfl⟩) (Nat.le_of_ble_eq_true rfl) ?_
  refine i_aload0 dX10_init_14 ?_
  refine i_bipush dX10_init_15 (by decide) ?_
  refine i_newaI (n := 1) (cl := 0) (sl := 0) (N := 11) dX10_init_17 (by decide) (by decide) (Nat.le_of_ble_eq_true rfl) ⟨Nat.le_of_ble_eq_true rfl, Nat.le_of_ble_eq_true rfl⟩ ?_
  refine i_put (k := 2) dX10_init_19 g_X10_19 (fun q => ⟨rfl, rfl⟩) (Nat.le_of_ble_eq_true rfl) ?_
  exact i_ret dX10_init_22 (fun q => rfl)
set_option maxRecDepth 20000 in
set_option maxHeartbeats 4000000 in
theorem c_X0 {D : va_G} {cI cB : ClassId} (a1 : Nat) : InitC 2 9 137 mX0_init 0 dfX0 [.ref a1] D cI cB (eX0 cI cB [.ref a1]) := by
  refine InitC.of (by decide) rfl rfl (fun _ => Nat.le_of_ble_eq_true rfl) (fun h0 sz => ?_)
  refine i_aload0 dX0_init_0 ?_
  refine i_obj dX0_init_1 wo_X0 ⟨Nat.le_of_ble_eq_true rfl, Nat.le_of_ble_eq_true rfl⟩ ?_
  refine i_aload0 dX0_init_4 ?_
  refine i_aloadk (a := a1) dX0_init_5 rfl rfl ?_
  refine i_put (k := 0) dX0_init_6 g_X0_9 (fun q => ⟨rfl, rfl⟩) (Nat.le_of_ble_eq_true rfl) ?_
  refine i_aload0 dX0_init_9 ?_
  refine i_new (n := 1) (cl := 0) (sl := 0) dX0_init_10 wc_X0_15 nokX1 ⟨Nat.le_of_ble_eq_true rfl, Nat.le_of_ble_eq_true rfl⟩ ?_
  refine i_dup dX0_init_13 ?_
  refine i_call (n0 := 1) (n1 := 9) (cl := 1) (sl := 9) (xs := []) (E := eX1 cI cB) dX0_init_14 l_X0_17 rfl rfl in_X1_init (fun q => c_X1) (fun _ _ => rfl) (Nat.le_of_ble_eq_true rfl) depX1 ⟨Nat.le_of_ble_eq_true rfl, Nat.le_of_ble_eq_true rfl⟩ ⟨Nat.le_of_ble_eq_true rfl, Nat.le_of_ble_eq_true rfl⟩ (fun q => Nat.le_of_ble_eq_true rfl) ?_
  refine i_put (k := 1) dX0_init_17 g_X0_18 (fun q => ⟨rfl, rfl⟩) (Nat.le_of_ble_eq_true rfl) ?_
  exact i_ret dX0_init_20 (fun q => rfl)
set_option maxRecDepth 20000 in
set_option maxHeartbeats 4000000 in
theorem c_X4 {D : va_G} {cI cB : ClassId} (a1 : Nat) : InitC 2 7 377 mX4_init 4 dfX4 [.ref a1] D cI cB (eX4 cI cB [.ref a1]) := by
  refine InitC.of (by decide) rfl rfl (fun _ => Nat.le_of_ble_eq_true rfl) (fun h0 sz => ?_)
  refine i_aload0 dX4_init_0 ?_
  refine i_obj dX4_init_1 wo_X4 ⟨Nat.le_of_ble_eq_true rfl, Nat.le_of_ble_eq_true rfl⟩ ?_
  refine i_aload0 dX4_init_4 ?_
  refine i_aloadk (a := a1) dX4_init_5 rfl rfl ?_
  refine i_put (k := 0) dX4_init_6 g_X4_7 (fun q => ⟨rfl, rfl⟩) (Nat.le_of_ble_eq_true rfl) ?_
  refine i_aload0 dX4_init_9 ?_
  refine i_new (n := 1) (cl := 0) (sl := 0) dX4_init_10 wc_X4_13 nokX3 ⟨Nat.le_of_ble_eq_true rfl, Nat.le_of_ble_eq_true rfl⟩ ?_
  refine i_dup dX4_init_13 ?_
  refine i_call (n0 := 1) (n1 := 7) (cl := 1) (sl := 9) (xs := []) (E := eX3 cI cB) dX4_init_14 l_X4_15 rfl rfl in_X3_init (fun q => c_X3) (fun _ _ => rfl) (Nat.le_of_ble_eq_true rfl) depX3 ⟨Nat.le_of_ble_eq_true rfl, Nat.le_of_ble_eq_true rfl⟩ ⟨Nat.le_of_ble_eq_true rfl, Nat.le_of_ble_eq_true rfl⟩ (fun q => Nat.le_of_ble_eq_true rfl) ?_
  refine i_put (k := 1) dX4_init_17 g_X4_16 (fun q => ⟨rfl, rfl⟩) (Nat.le_of_ble_eq_true rfl) ?_
  exact i_ret dX4_init_20 (fun q => rfl)
set_option maxRecDepth 20000 in
set_option maxHeartbeats 4000000 in
theorem c_X11 {D : va_G} {cI cB : ClassId} : InitC 3 75 6627 mX11_init 11 dfX11 [] D cI cB (eX11 cI cB []) := by
  refine InitC.of (by decide) rfl rfl (fun _ => Nat.le_of_ble_eq_true rfl) (fun h0 sz => ?_)
  refine i_aload0 dX11_init_0 ?_
  refine i_obj dX11_init_1 wo_X11 ⟨Nat.le_of_ble_eq_true rfl, Nat.le_of_ble_eq_true rfl⟩ ?_
  refine i_aload0 dX11_init_4 ?_
  refine i_new (n := 1) (cl := 0) (sl := 0) dX11_init_5 wc_X11_7 nokX9 ⟨Nat.le_of_ble_eq_true rfl, Nat.le_of_ble_eq_true rfl⟩ ?_
  refine i_dup dX11_init_8 ?_
  refine i_call (n0 := 1) (n1 := 2) (cl := 1) (sl := 5) (xs := []) (E := eX9 cI cB) dX11_init_9 l_X11_9 rfl rfl in_X9_init (fun q => c_X9) (fun _ _ => rfl) (Nat.le_of_ble_eq_true rfl) depX9 ⟨Nat.le_of_ble_eq_true rfl, Nat.le_of_ble_eq_true rfl⟩ ⟨Nat.le_of_ble_eq_true rfl, Nat.le_of_ble_eq_true rfl⟩ (fun q => Nat.le_of_ble_eq_true rfl) ?_
  refine i_put (k := 0) dX11_init_12 g_X11_10 (fun q => ⟨rfl, rfl⟩) (Nat.le_of_ble_eq_true rfl) ?_
  refine i_aload0 dX11_init_15 ?_
  refine i_new (n := 3) (cl := 2) (sl := 265) dX11_init_16 wc_X11_16 nokX1 ⟨Nat.le_of_ble_eq_true rfl, Nat.le_of_ble_eq_true rfl⟩ ?_
  refine i_dup dX11_init_19 ?_
  refine i_call (n0 := 3) (n1 := 9) (cl := 3) (sl := 274) (xs := []) (E := eX1 cI cB) dX11_init_20 l_X11_18 rfl rfl in_X1_init (fun q => c_X1) (fun _ _ => rfl) (Nat.le_of_ble_eq_true rfl) depX1 ⟨Nat.le_of_ble_eq_true rfl, Nat.le_of_ble_eq_true rfl⟩ ⟨Nat.le_of_ble_eq_true rfl, Nat.le_of_ble_eq_true rfl⟩ (fun q => Nat.le_of_ble_eq_true rfl) ?_
  refine i_put (k := 1) dX11_init_23 g_X11_19 (fun q => ⟨rfl, rfl⟩) (Nat.le_of_ble_eq_true rfl) ?_
  refine i_aload0 dX11_init_26 ?_
  refine i_new (n := 12) (cl := 11) (sl := 402) dX11_init_27 wc_X11_23 nokX0 ⟨Nat.le_of_ble_eq_true rfl, Nat.le_of_ble_eq_true rfl⟩ ?_
  refine i_dup dX11_init_30 ?_
  refine i_aload0 dX11_init_31 ?_
  refine i_get (k := 0) (j := 1) dX11_init_32 g_X11_10 (fun q => rfl) (Nat.le_of_ble_eq_true rfl) ?_
  refine i_call (n0 := 12) (n1 := 10) (cl := 12) (sl := 404) (xs := [.inl 1]) (E := eX0 cI cB) dX11_init_35 l_X11_25 rfl rfl in_X0_init (fun q => c_X0 (q 1)) (fun _ _ => rfl) (Nat.le_of_ble_eq_true rfl) depX0 ⟨Nat.le_of_ble_eq_true rfl, Nat.le_of_ble_eq_true rfl⟩ ⟨Nat.le_of_ble_eq_true rfl, Nat.le_of_ble_eq_true rfl⟩ (fun q => Nat.le_of_ble_eq_true rfl) ?_
  refine i_put (k := 2) dX11_init_38 g_X11_28 (fun q => ⟨rfl, rfl⟩) (Nat.le_of_ble_eq_true rfl) ?_
  refine i_aload0 dX11_init_41 ?_
  refine i_new (n := 22) (cl := 21) (sl := 541) dX11_init_42 wc_X11_32 nokX3 ⟨Nat.le_of_ble_eq_true rfl, Nat.le_of_ble_eq_true rfl⟩ ?_
  refine i_dup dX11_init_45 ?_
  refine i_call (n0 := 22) (n1 := 7) (cl := 22) (sl := 550) (xs := []) (E := eX3 cI cB) dX11_init_46 l_X11_34 rfl rfl in_X3_init (fun q => c_X3) (fun _ _ => rfl) (Nat.le_of_ble_eq_true rfl) depX3 ⟨Nat.le_of_ble_eq_true rfl, Nat.le_of_ble_eq_true rfl⟩ ⟨Nat.le_of_ble_eq_true rfl, Nat.le_of_ble_eq_true rfl⟩ (fun q => Nat.le_of_ble_eq_true rfl) ?_
  refine i_put (k := 3) dX11_init_49 g_X11_35 (fun q => ⟨rfl, rfl⟩) (Nat.le_of_ble_eq_true rfl) ?_
  refine i_aload0 dX11_init_52 ?_
  refine i_new (n := 29) (cl := 28) (sl := 918) dX11_init_53 wc_X11_39 nokX4 ⟨Nat.le_of_ble_eq_true rfl, Nat.le_of_ble_eq_true rfl⟩ ?_
  refine i_dup dX11_init_56 ?_
  refine i_aload0 dX11_init_57 ?_
  refine i_get (k := 0) (j := 1) dX11_init_58 g_X11_10 (fun q => rfl) (Nat.le_of_ble_eq_true rfl) ?_
  refine i_call (n0 := 29) (n1 := 8) (cl := 29) (sl := 920) (xs := [.inl 1]) (E := eX4 cI cB) dX11_init_61 l_X11_41 rfl rfl in_X4_init (fun q => c_X4 (q 1)) (fun _ _ => rfl) (Nat.le_of_ble_eq_true rfl) depX4 ⟨Nat.le_of_ble_eq_true rfl, Nat.le_of_ble_eq_true rfl⟩ ⟨Nat.le_of_ble_eq_true rfl, Nat.le_of_ble_eq_true rfl⟩ (fun q => Nat.le_of_ble_eq_true rfl) ?_
  refine i_put (k := 4) dX11_init_64 g_X11_42 (fun q => ⟨rfl, rfl⟩) (Nat.le_of_ble_eq_true rfl) ?_
  refine i_norm (fs2 := fun q => [.ref (q 1), .ref (q 3), .ref (q 12), .ref (q 22), .ref (q 29), .null, .null, .null, .null, .null, .null, .null, .null, .int (Int32.ofInt 0), .int (Int32.ofInt 0)]) (rest2 := fun q => [.inr (9, [.ref (q 2), .int (Int32.ofInt 0), .int (Int32.ofInt 0), .int (Int32.ofInt 0), .int (Int32.ofInt 0)]), .inl (cI, 260, .inl (fun _ => Int32.ofInt 0)), .inr (1, [.ref (q 4), .ref (q 5), .ref (q 6), .ref (q 7), .ref (q 8), .ref (q 9), .ref (q 10), .ref (q 11), .int (Int32.ofInt 0)]), .inl (cI, 16, .inl (fun _ => Int32.ofInt 0)), .inl (cI, 16, .inl (fun _ => Int32.ofInt 0)), .inl (cI, 16, .inl (fun _ => Int32.ofInt 0)), .inl (cI, 16, .inl (fun _ => Int32.ofInt 0)), .inl (cI, 16, .inl (fun _ => Int32.ofInt 0)), .inl (cI, 16, .inl (fun _ => Int32.ofInt 0)), .inl (cI, 16, .inl (fun _ => Int32.ofInt 0)), .inl (cI, 16, .inl (fun _ => Int32.ofInt 0)), .inr (0, [.ref (q 1), .ref (q 13)]), .inr (1, [.ref (q 14), .ref (q 15), .ref (q 16), .ref (q 17), .ref (q 18), .ref (q 19), .ref (q 20), .ref (q 21), .int (Int32.ofInt 0)]), .inl (cI, 16, .inl (fun _ => Int32.ofInt 0)), .inl (cI, 16, .inl (fun _ => Int32.ofInt 0)), .inl (cI, 16, .inl (fun _ => Int32.ofInt 0)), .inl (cI, 16, .inl (fun _ => Int32.ofInt 0)), .inl (cI, 16, .inl (fun _ => Int32.ofInt 0)), .inl (cI, 16, .inl (fun _ => Int32.ofInt 0)), .inl (cI, 16, .inl (fun _ => Int32.ofInt 0)), .inl (cI, 16, .inl (fun _ => Int32.ofInt 0)), .inr (3, [.ref (q 23), .ref (q 24), .ref (q 25), .ref (q 26), .ref (q 27), .ref (q 28), .int (Int32.ofInt 0), .int (Int32.ofInt 0), .int (Int32.ofInt 0)]), .inl (cI, 16, .inl (fun _ => Int32.ofInt 0)), .inl (cI, 16, .inl (fun _ => Int32.ofInt 0)), .inl (cI, 16, .inl (fun _ => Int32.ofInt 0)), .inl (cI, 16, .inl (fun _ => Int32.ofInt 0)), .inl (cI, 240, .inl (fun _ => Int32.ofInt 0)), .inl (cI, 64, .inl (fun _ => Int32.ofInt 0)), .inr (4, [.ref (q 1), .ref (q 30)]), .inr (3, [.ref (q 31), .ref (q 32), .ref (q 33), .ref (q 34), .ref (q 35), .ref (q 36), .int (Int32.ofInt 0), .int (Int32.ofInt 0), .int (Int32.ofInt 0)]), .inl (cI, 16, .inl (fun _ => Int32.ofInt 0)), .inl (cI, 16, .inl (fun _ => Int32.ofInt 0)), .inl (cI, 16, .inl (fun _ => Int32.ofInt 0)), .inl (cI, 16, .inl (fun _ => Int32.ofInt 0)), .inl (cI, 240, .inl (fun _ => Int32.ofInt 0)), .inl (cI, 64, .inl (fun _ => Int32.ofInt 0))]) (fun q => rfl) (fun q => rfl) ?_
  refine i_aload0 dX11_init_67 ?_
  refine i_new (n := 37) (cl := 36) (sl := 1297) dX11_init_68 wc_X11_46 nokX8 ⟨Nat.le_of_ble_eq_true rfl, Nat.le_of_ble_eq_true rfl⟩ ?_
  refine i_dup dX11_init_71 ?_
  refine i_call (n0 := 37) (n1 := 6) (cl := 37) (sl := 1304) (xs := []) (E := eX8 cI cB) dX11_init_72 l_X11_48 rfl rfl in_X8_init (fun q => c_X8) (fun _ _ => rfl) (Nat.le_of_ble_eq_true rfl) depX8 ⟨Nat.le_of_ble_eq_true rfl, Nat.le_of_ble_eq_true rfl⟩ ⟨Nat.le_of_ble_eq_true rfl, Nat.le_of_ble_eq_true rfl⟩ (fun q => Nat.le_of_ble_eq_true rfl) ?_
  refine i_put (k := 5) dX11_init_75 g_X11_49 (fun q => ⟨rfl, rfl⟩) (Nat.le_of_ble_eq_true rfl) ?_
  refine i_aload0 dX11_init_78 ?_
  refine i_new (n := 43) (cl := 42) (sl := 1384) dX11_init_79 wc_X11_46 nokX8 ⟨Nat.le_of_ble_eq_true rfl, Nat.le_of_ble_eq_true rfl⟩ ?_
  refine i_dup dX11_init_82 ?_
  refine i_call (n0 := 43) (n1 := 6) (cl := 43) (sl := 1391) (xs := []) (E := eX8 cI cB) dX11_init_83 l_X11_48 rfl rfl in_X8_init (fun q => c_X8) (fun _ _ => rfl) (Nat.le_of_ble_eq_true rfl) depX8 ⟨Nat.le_of_ble_eq_true rfl, Nat.le_of_ble_eq_true rfl⟩ ⟨Nat.le_of_ble_eq_true rfl, Nat.le_of_ble_eq_true rfl⟩ (fun q => Nat.le_of_ble_eq_true rfl) ?_
  refine i_put (k := 6) dX11_init_86 g_X11_53 (fun q => ⟨rfl, rfl⟩) (Nat.le_of_ble_eq_true rfl) ?_
  refine i_aload0 dX11_init_89 ?_
  refine i_new (n := 49) (cl := 48) (sl := 1471) dX11_init_90 wc_X11_46 nokX8 ⟨Nat.le_of_ble_eq_true rfl, Nat.le_of_ble_eq_true rfl⟩ ?_
  refine i_dup dX11_init_93 ?_
  refine i_call (n0 := 49) (n1 := 6) (cl := 49) (sl := 1478) (xs := []) (E := eX8 cI cB) dX11_init_94 l_X11_48 rfl rfl in_X8_init (fun q => c_X8) (fun _ _ => rfl) (Nat.le_of_ble_eq_true rfl) depX8 ⟨Nat.le_of_ble_eq_true rfl, Nat.le_of_ble_eq_true rfl⟩ ⟨Nat.le_of_ble_eq_true rfl, Nat.le_of_ble_eq_true rfl⟩ (fun q => Nat.le_of_ble_eq_true rfl) ?_
  refine i_put (k := 7) dX11_init_97 g_X11_56 (fun q => ⟨rfl, rfl⟩) (Nat.le_of_ble_eq_true rfl) ?_
  refine i_aload0 dX11_init_100 ?_
  refine i_new (n := 55) (cl := 54) (sl := 1558) dX11_init_101 wc_X11_59 nokX10 ⟨Nat.le_of_ble_eq_true rfl, Nat.le_of_ble_eq_true rfl⟩ ?_
  refine i_dup dX11_init_104 ?_
  refine i_aload0 dX11_init_105 ?_
  refine i_get (k := 1) (j := 3) dX11_init_106 g_X11_19 (fun q => rfl) (Nat.le_of_ble_eq_true rfl) ?_
  refine i_aload0 dX11_init_109 ?_
  refine i_get (k := 3) (j := 22) dX11_init_110 g_X11_35 (fun q => rfl) (Nat.le_of_ble_eq_true rfl) ?_
  refine i_call (n0 := 55) (n1 := 2) (cl := 55) (sl := 1561) (xs := [.inl 3, .inl 22]) (E := eX10 cI cB) dX11_init_113 l_X11_61 rfl rfl in_X10_init (fun q => c_X10 (q 3) (q 22)) (fun _ _ => rfl) (Nat.le_of_ble_eq_true rfl) depX10 ⟨Nat.le_of_ble_eq_true rfl, Nat.le_of_ble_eq_true rfl⟩ ⟨Nat.le_of_ble_eq_true rfl, Nat.le_of_ble_eq_true rfl⟩ (fun q => Nat.le_of_ble_eq_true rfl) ?_
  refine i_put (k := 8) dX11_init_116 g_X11_64 (fun q => ⟨rfl, rfl⟩) (Nat.le_of_ble_eq_true rfl) ?_
  refine i_aload0 dX11_init_119 ?_
  refine i_new (n := 57) (cl := 56) (sl := 1572) dX11_init_120 wc_X11_68 nokX2 ⟨Nat.le_of_ble_eq_true rfl, Nat.le_of_ble_eq_true rfl⟩ ?_
  refine i_dup dX11_init_123 ?_
  refine i_call (n0 := 57) (n1 := 4) (cl := 57) (sl := 1577) (xs := []) (E := eX2 cI cB) dX11_init_124 l_X11_70 rfl rfl in_X2_init (fun q => c_X2) (fun _ _ => rfl) (Nat.le_of_ble_eq_true rfl) depX2 ⟨Nat.le_of_ble_eq_true rfl, Nat.le_of_ble_eq_true rfl⟩ ⟨Nat.le_of_ble_eq_true rfl, Nat.le_of_ble_eq_true rfl⟩ (fun q => Nat.le_of_ble_eq_true rfl) ?_
  refine i_put (k := 9) dX11_init_127 g_X11_71 (fun q => ⟨rfl, rfl⟩) (Nat.le_of_ble_eq_true rfl) ?_
  refine i_norm (fs2 := fun q => [.ref (q 1), .ref (q 3), .ref (q 12), .ref (q 22), .ref (q 29), .ref (q 37), .ref (q 43), .ref (q 49), .ref (q 55), .ref (q 57), .null, .null, .null, .int (Int32.ofInt 0), .int (Int32.ofInt 0)]) (rest2 := fun q => [.inr (9, [.ref (q 2), .int (Int32.ofInt 0), .int (Int32.ofInt 0), .int (Int32.ofInt 0), .int (Int32.ofInt 0)]), .inl (cI, 260, .inl (fun _ => Int32.ofInt 0)), .inr (1, [.ref (q 4), .ref (q 5), .ref (q 6), .ref (q 7), .ref (q 8), .ref (q 9), .ref (q 10), .ref (q 11), .int (Int32.ofInt 0)]), .inl (cI, 16, .inl (fun _ => Int32.ofInt 0)), .inl (cI, 16, .inl (fun _ => Int32.ofInt 0)), .inl (cI, 16, .inl (fun _ => Int32.ofInt 0)), .inl (cI, 16, .inl (fun _ => Int32.ofInt 0)), .inl (cI, 16, .inl (fun _ => Int32.ofInt 0)), .inl (cI, 16, .inl (fun _ => Int32.ofInt 0)), .inl (cI, 16, .inl (fun _ => Int32.ofInt 0)), .inl (cI, 16, .inl (fun _ => Int32.ofInt 0)), .inr (0, [.ref (q 1), .ref (q 13)]), .inr (1, [.ref (q 14), .ref (q 15), .ref (q 16), .ref (q 17), .ref (q 18), .ref (q 19), .ref (q 20), .ref (q 21), .int (Int32.ofInt 0)]), .inl (cI, 16, .inl (fun _ => Int32.ofInt 0)), .inl (cI, 16, .inl (fun _ => Int32.ofInt 0)), .inl (cI, 16, .inl (fun _ => Int32.ofInt 0)), .inl (cI, 16, .inl (fun _ => Int32.ofInt 0)), .inl (cI, 16, .inl (fun _ => Int32.ofInt 0)), .inl (cI, 16, .inl (fun _ => Int32.ofInt 0)), .inl (cI, 16, .inl (fun _ => Int32.ofInt 0)), .inl (cI, 16, .inl (fun _ => Int32.ofInt 0)), .inr (3, [.ref (q 23), .ref (q 24), .ref (q 25), .ref (q 26), .ref (q 27), .ref (q 28), .int (Int32.ofInt 0), .int (Int32.ofInt 0), .int (Int32.ofInt 0)]), .inl (cI, 16, .inl (fun _ => Int32.ofInt 0)), .inl (cI, 16, .inl (fun _ => Int32.ofInt 0)), .inl (cI, 16, .inl (fun _ => Int32.ofInt 0)), .inl (cI, 16, .inl (fun _ => Int32.ofInt 0)), .inl (cI, 240, .inl (fun _ => Int32.ofInt 0)), .inl (cI, 64, .inl (fun _ => Int32.ofInt 0)), .inr (4, [.ref (q 1), .ref (q 30)]), .inr (3, [.ref (q 31), .ref (q 32), .ref (q 33), .ref (q 34), .ref (q 35), .ref (q 36), .int (Int32.ofInt 0), .int (Int32.ofInt 0), .int (Int32.ofInt 0)]), .inl (cI, 16, .inl (fun _ => Int32.ofInt 0)), .inl (cI, 16, .inl (fun _ => Int32.ofInt 0)), .inl (cI, 16, .inl (fun _ => Int32.ofInt 0)), .inl (cI, 16, .inl (fun _ => Int32.ofInt 0)), .inl (cI, 240, .inl (fun _ => Int32.ofInt 0)), .inl (cI, 64, .inl (fun _ => Int32.ofInt 0)), .inr (8, [.ref (q 38), .ref (q 39), .ref (q 40), .ref (q 41), .ref (q 42), .int (Int32.ofInt 0), .int (Int32.ofInt 1)]), .inl (cI, 16, .inl (fun _ => Int32.ofInt 0)), .inl (cI, 16, .inl (fun _ => Int32.ofInt 0)), .inl (cI, 16, .inl (fun _ => Int32.ofInt 0)), .inl (cI, 16, .inl (fun _ => Int32.ofInt 0)), .inl (cI, 16, .inl (fun _ => Int32.ofInt 0)), .inr (8, [.ref (q 44), .ref (q 45), .ref (q 46), .ref (q 47), .ref (q 48), .int (Int32.ofInt 0), .int (Int32.ofInt 1)]), .inl (cI, 16, .inl (fun _ => Int32.ofInt 0)), .inl (cI, 16, .inl (fun _ => Int32.ofInt 0)), .inl (cI, 16, .inl (fun _ => Int32.ofInt 0)), .inl (cI, 16, .inl (fun _ => Int32.ofInt 0)), .inl (cI, 16, .inl (fun _ => Int32.ofInt 0)), .inr (8, [.ref (q 50), .ref (q 51), .ref (q 52), .ref (q 53), .ref (q 54), .int (Int32.ofInt 0), .int (Int32.ofInt 1)]), .inl (cI, 16, .inl (fun _ => Int32.ofInt 0)), .inl (cI, 16, .inl (fun _ => Int32.ofInt 0)), .inl (cI, 16, .inl (fun _ => Int32.ofInt 0)), .inl (cI, 16, .inl (fun _ => Int32.ofInt 0)), .inl (cI, 16, .inl (fun _ => Int32.ofInt 0)), .inr (10, [.ref (q 3), .ref (q 22), .ref (q 56)]), .inl (cI, 11, .inl (fun _ => Int32.ofInt 0)), .inr (2, [.ref (q 58), .ref (q 59), .ref (q 60), .int (Int32.ofInt 0), .int (Int32.ofInt 0)]), .inl (cI, 32, .inl (fun _ => Int32.ofInt 0)), .inl (cI, 64, .inl (fun _ => Int32.ofInt 0)), .inl (cI, 32, .inl (fun _ => Int32.ofInt 0))]) (fun q => rfl) (fun q => rfl) ?_
  refine i_aload0 dX11_init_130 ?_
  refine i_new (n := 61) (cl := 60) (sl := 1705) dX11_init_131 wc_X11_75 nokX6 ⟨Nat.le_of_ble_eq_true rfl, Nat.le_of_ble_eq_true rfl⟩ ?_
  refine i_dup dX11_init_134 ?_
  refine i_call (n0 := 61) (n1 := 5) (cl := 61) (sl := 1711) (xs := []) (E := eX6 cI cB) dX11_init_135 l_X11_77 rfl rfl in_X6_init (fun q => c_X6) (fun _ _ => rfl) (Nat.le_of_ble_eq_true rfl) depX6 ⟨Nat.le_of_ble_eq_true rfl, Nat.le_of_ble_eq_true rfl⟩ ⟨Nat.le_of_ble_eq_true rfl, Nat.le_of_ble_eq_true rfl⟩ (fun q => Nat.le_of_ble_eq_true rfl) ?_
  refine i_put (k := 10) dX11_init_138 g_X11_78 (fun q => ⟨rfl, rfl⟩) (Nat.le_of_ble_eq_true rfl) ?_
  refine i_aload0 dX11_init_141 ?_
  refine i_new (n := 66) (cl := 65) (sl := 6347) dX11_init_142 wc_X11_82 nokX7 ⟨Nat.le_of_ble_eq_true rfl, Nat.le_of_ble_eq_true rfl⟩ ?_
  refine i_dup dX11_init_145 ?_
  refine i_call (n0 := 66) (n1 := 3) (cl := 66) (sl := 6350) (xs := []) (E := eX7 cI cB) dX11_init_146 l_X11_84 rfl rfl in_X7_init (fun q => c_X7) (fun _ _ => rfl) (Nat.le_of_ble_eq_true rfl) depX7 ⟨Nat.le_of_ble_eq_true rfl, Nat.le_of_ble_eq_true rfl⟩ ⟨Nat.le_of_ble_eq_true rfl, Nat.le_of_ble_eq_true rfl⟩ (fun q => Nat.le_of_ble_eq_true rfl) ?_
  refine i_put (k := 11) dX11_init_149 g_X11_85 (fun q => ⟨rfl, rfl⟩) (Nat.le_of_ble_eq_true rfl) ?_
  refine i_aload0 dX11_init_152 ?_
  refine i_new (n := 69) (cl := 68) (sl := 6494) dX11_init_153 wc_X11_89 nokX5 ⟨Nat.le_of_ble_eq_true rfl, Nat.le_of_ble_eq_true rfl⟩ ?_
  refine i_dup dX11_init_156 ?_
  refine i_call (n0 := 69) (n1 := 7) (cl := 69) (sl := 6501) (xs := []) (E := eX5 cI cB) dX11_init_157 l_X11_91 rfl rfl in_X5_init (fun q => c_X5) (fun _ _ => rfl) (Nat.le_of_ble_eq_true rfl) depX5 ⟨Nat.le_of_ble_eq_true rfl, Nat.le_of_ble_eq_true rfl⟩ ⟨Nat.le_of_ble_eq_true rfl, Nat.le_of_ble_eq_true rfl⟩ (fun q => Nat.le_of_ble_eq_true rfl) ?_
  refine i_put (k := 12) dX11_init_160 g_X11_92 (fun q => ⟨rfl, rfl⟩) (Nat.le_of_ble_eq_true rfl) ?_
  refine i_aload0 dX11_init_163 ?_
  refine i_iconst dX11_init_164 ?_
  refine i_put (k := 13) dX11_init_165 g_X11_96 (fun q => ⟨rfl, rfl⟩) (Nat.le_of_ble_eq_true rfl) ?_
  refine i_aload0 dX11_init_168 ?_
  refine i_iconst dX11_init_169 ?_
  refine i_put (k := 14) dX11_init_170 g_X11_100 (fun q => ⟨rfl, rfl⟩) (Nat.le_of_ble_eq_true rfl) ?_
  refine i_norm (fs2 := fun q => [.ref (q 1), .ref (q 3), .ref (q 12), .ref (q 22), .ref (q 29), .ref (q 37), .ref (q 43), .ref (q 49), .ref (q 55), .ref (q 57), .ref (q 61), .ref (q 66), .ref (q 69), .int (Int32.ofInt 0), .int (Int32.ofInt 0)]) (rest2 := fun q => [.inr (9, [.ref (q 2), .int (Int32.ofInt 0), .int (Int32.ofInt 0), .int (Int32.ofInt 0), .int (Int32.ofInt 0)]), .inl (cI, 260, .inl (fun _ => Int32.ofInt 0)), .inr (1, [.ref (q 4), .ref (q 5), .ref (q 6), .ref (q 7), .ref (q 8), .ref (q 9), .ref (q 10), .ref (q 11), .int (Int32.ofInt 0)]), .inl (cI, 16, .inl (fun _ => Int32.ofInt 0)), .inl (cI, 16, .inl (fun _ => Int32.ofInt 0)), .inl (cI, 16, .inl (fun _ => Int32.ofInt 0)), .inl (cI, 16, .inl (fun _ => Int32.ofInt 0)), .inl (cI, 16, .inl (fun _ => Int32.ofInt 0)), .inl (cI, 16, .inl (fun _ => Int32.ofInt 0)), .inl (cI, 16, .inl (fun _ => Int32.ofInt 0)), .inl (cI, 16, .inl (fun _ => Int32.ofInt 0)), .inr (0, [.ref (q 1), .ref (q 13)]), .inr (1, [.ref (q 14), .ref (q 15), .ref (q 16), .ref (q 17), .ref (q 18), .ref (q 19), .ref (q 20), .ref (q 21), .int (Int32.ofInt 0)]), .inl (cI, 16, .inl (fun _ => Int32.ofInt 0)), .inl (cI, 16, .inl (fun _ => Int32.ofInt 0)), .inl (cI, 16, .inl (fun _ => Int32.ofInt 0)), .inl (cI, 16, .inl (fun _ => Int32.ofInt 0)), .inl (cI, 16, .inl (fun _ => Int32.ofInt 0)), .inl (cI, 16, .inl (fun _ => Int32.ofInt 0)), .inl (cI, 16, .inl (fun _ => Int32.ofInt 0)), .inl (cI, 16, .inl (fun _ => Int32.ofInt 0)), .inr (3, [.ref (q 23), .ref (q 24), .ref (q 25), .ref (q 26), .ref (q 27), .ref (q 28), .int (Int32.ofInt 0), .int (Int32.ofInt 0), .int (Int32.ofInt 0)]), .inl (cI, 16, .inl (fun _ => Int32.ofInt 0)), .inl (cI, 16, .inl (fun _ => Int32.ofInt 0)), .inl (cI, 16, .inl (fun _ => Int32.ofInt 0)), .inl (cI, 16, .inl (fun _ => Int32.ofInt 0)), .inl (cI, 240, .inl (fun _ => Int32.ofInt 0)), .inl (cI, 64, .inl (fun _ => Int32.ofInt 0)), .inr (4, [.ref (q 1), .ref (q 30)]), .inr (3, [.ref (q 31), .ref (q 32), .ref (q 33), .ref (q 34), .ref (q 35), .ref (q 36), .int (Int32.ofInt 0), .int (Int32.ofInt 0), .int (Int32.ofInt 0)]), .inl (cI, 16, .inl (fun _ => Int32.ofInt 0)), .inl (cI, 16, .inl (fun _ => Int32.ofInt 0)), .inl (cI, 16, .inl (fun _ => Int32.ofInt 0)), .inl (cI, 16, .inl (fun _ => Int32.ofInt 0)), .inl (cI, 240, .inl (fun _ => Int32.ofInt 0)), .inl (cI, 64, .inl (fun _ => Int32.ofInt 0)), .inr (8, [.ref (q 38), .ref (q 39), .ref (q 40), .ref (q 41), .ref (q 42), .int (Int32.ofInt 0), .int (Int32.ofInt 1)]), .inl (cI, 16, .inl (fun _ => Int32.ofInt 0)), .inl (cI, 16, .inl (fun _ => Int32.ofInt 0)), .inl (cI, 16, .inl (fun _ => Int32.ofInt 0)), .inl (cI, 16, .inl (fun _ => Int32.ofInt 0)), .inl (cI, 16, .inl (fun _ => Int32.ofInt 0)), .inr (8, [.ref (q 44), .ref (q 45), .ref (q 46), .ref (q 47), .ref (q 48), .int (Int32.ofInt 0), .int (Int32.ofInt 1)]), .inl (cI, 16, .inl (fun _ => Int32.ofInt 0)), .inl (cI, 16, .inl (fun _ => Int32.ofInt 0)), .inl (cI, 16, .inl (fun _ => Int32.ofInt 0)), .inl (cI, 16, .inl (fun _ => Int32.ofInt 0)), .inl (cI, 16, .inl (fun _ => Int32.ofInt 0)), .inr (8, [.ref (q 50), .ref (q 51), .ref (q 52), .ref (q 53), .ref (q 54), .int (Int32.ofInt 0), .int (Int32.ofInt 1)]), .inl (cI, 16, .inl (fun _ => Int32.ofInt 0)), .inl (cI, 16, .inl (fun _ => Int32.ofInt 0)), .inl (cI, 16, .inl (fun _ => Int32.ofInt 0)), .inl (cI, 16, .inl (fun _ => Int32.ofInt 0)), .inl (cI, 16, .inl (fun _ => Int32.ofInt 0)), .inr (10, [.ref (q 3), .ref (q 22), .ref (q 56)]), .inl (cI, 11, .inl (fun _ => Int32.ofInt 0)), .inr (2, [.ref (q 58), .ref (q 59), .ref (q 60), .int (Int32.ofInt 0), .int (Int32.ofInt 0)]), .inl (cI, 32, .inl (fun _ => Int32.ofInt 0)), .inl (cI, 64, .inl (fun _ => Int32.ofInt 0)), .inl (cI, 32, .inl (fun _ => Int32.ofInt 0)), .inr (6, [.ref (q 62), .ref (q 63), .ref (q 64), .ref (q 65), .int (Int32.ofInt 0), .int (Int32.ofInt 0)]), .inl (cI, 4608, .inl (fun _ => Int32.ofInt 0)), .inl (cI, 9, .inl (fun _ => Int32.ofInt 0)), .inl (cI, 9, .inl (fun _ => Int32.ofInt 0)), .inl (cI, 10, .inl (fun _ => Int32.ofInt 0)), .inr (7, [.ref (q 67), .ref (q 68), .int (Int32.ofInt 0)]), .inl (cI, 16, .inl (fun _ => Int32.ofInt 0)), .inl (cI, 128, .inl (fun _ => Int32.ofInt 0)), .inr (5, [.ref (q 70), .ref (q 71), .ref (q 72), .ref (q 73), .ref (q 74), .ref (q 75), .int (Int32.ofInt 0)]), .inl (cI, 36, .inl (fun _ => Int32.ofInt 0)), .inl (cI, 36, .inl (fun _ => Int32.ofInt 0)), .inl (cI, 36, .inl (fun _ => Int32.ofInt 0)), .inl (cI, 6, .inl (fun _ => Int32.ofInt 0)), .inl (cI, 6, .inl (fun _ => Int32.ofInt 0)), .inl (cI, 6, .inl (fun _ => Int32.ofInt 0))]) (fun q => rfl) (fun q => rfl) ?_
  exact i_ret dX11_init_173 (fun q => rfl)
set_option maxRecDepth 20000 in
set_option maxHeartbeats 4000000 in
theorem c_X12 {D : va_G} {cI cB : ClassId} : InitC 1 47 7986 mX12_init 12 dfX12 [] D cI cB (eX12 cI cB []) := by
  refine InitC.of (by decide) rfl rfl (fun _ => Nat.le_of_ble_eq_true rfl) (fun h0 sz => ?_)
  refine i_aload0 dX12_init_0 ?_
  refine i_obj dX12_init_1 wo_X12 ⟨Nat.le_of_ble_eq_true rfl, Nat.le_of_ble_eq_true rfl⟩ ?_
  refine i_aload0 dX12_init_4 ?_
  refine i_bipush dX12_init_5 (by decide) ?_
  refine i_newaI (n := 1) (cl := 0) (sl := 0) (N := 82) dX12_init_7 (by decide) (by decide) (Nat.le_of_ble_eq_true rfl) ⟨Nat.le_of_ble_eq_true rfl, Nat.le_of_ble_eq_true rfl⟩ ?_
  refine i_put (k := 0) dX12_init_9 g_X12_7 (fun q => ⟨rfl, rfl⟩) (Nat.le_of_ble_eq_true rfl) ?_
  refine i_aload0 dX12_init_12 ?_
  refine i_bipush dX12_init_13 (by decide) ?_
  refine i_newaI (n := 2) (cl := 1) (sl := 82) (N := 82) dX12_init_15 (by decide) (by decide) (Nat.le_of_ble_eq_true rfl) ⟨Nat.le_of_ble_eq_true rfl, Nat.le_of_ble_eq_true rfl⟩ ?_
  refine i_put (k := 1) dX12_init_17 g_X12_13 (fun q => ⟨rfl, rfl⟩) (Nat.le_of_ble_eq_true rfl) ?_
  refine i_aload0 dX12_init_20 ?_
  refine i_bipush dX12_init_21 (by decide) ?_
  refine i_newaI (n := 3) (cl := 2) (sl := 164) (N := 82) dX12_init_23 (by decide) (by decide) (Nat.le_of_ble_eq_true rfl) ⟨Nat.le_of_ble_eq_true rfl, Nat.le_of_ble_eq_true rfl⟩ ?_
  refine i_put (k := 2) dX12_init_25 g_X12_16 (fun q => ⟨rfl, rfl⟩) (Nat.le_of_ble_eq_true rfl) ?_
  refine i_aload0 dX12_init_28 ?_
  refine i_bipush dX12_init_29 (by decide) ?_
  refine i_newaI (n := 4) (cl := 3) (sl := 246) (N := 16) dX12_init_31 (by decide) (by decide) (Nat.le_of_ble_eq_true rfl) ⟨Nat.le_of_ble_eq_true rfl, Nat.le_of_ble_eq_true rfl⟩ ?_
  refine i_put (k := 3) dX12_init_33 g_X12_19 (fun q => ⟨rfl, rfl⟩) (Nat.le_of_ble_eq_true rfl) ?_
  refine i_aload0 dX12_init_36 ?_
  refine i_bipush dX12_init_37 (by decide) ?_
  refine i_newaI (n := 5) (cl := 4) (sl := 262) (N := 16) dX12_init_39 (by decide) (by decide) (Nat.le_of_ble_eq_true rfl) ⟨Nat.le_of_ble_eq_true rfl, Nat.le_of_ble_eq_true rfl⟩ ?_
  refine i_put (k := 4) dX12_init_41 g_X12_22 (fun q => ⟨rfl, rfl⟩) (Nat.le_of_ble_eq_true rfl) ?_
  refine i_norm (fs2 := fun q => [.ref (q 1), .ref (q 2), .ref (q 3), .ref (q 4), .ref (q 5), .null, .null, .null, .null, .null, .null, .int (Int32.ofInt 0), .null, .int (Int32.ofInt 0), .int (Int32.ofInt 0), .int (Int32.ofInt 0), .int (Int32.ofInt 0), .int (Int32.ofInt 0), .int (Int32.ofInt 0), .int (Int32.ofInt 0), .int (Int32.ofInt 0), .int (Int32.ofInt 0), .int (Int32.ofInt 0), .null, .null, .null, .null, .null, .null, .null, .null, .null, .null, .null, .null, .null, .null, .null, .null, .null, .null, .null, .null, .int (Int32.ofInt 0), .int (Int32.ofInt 0), .null, .null, .int (Int32.ofInt 0), .int (Int32.ofInt 0), .null, .null, .null, .int (Int32.ofInt 0), .null, .null, .int (Int32.ofInt 0), .null, .null, .null, .null, .null, .null, .null, .null, .int (Int32.ofInt 0), .int (Int32.ofInt 0)]) (rest2 := fun q => [.inl (cI, 82, .inl (fun _ => Int32.ofInt 0)), .inl (cI, 82, .inl (fun _ => Int32.ofInt 0)), .inl (cI, 82, .inl (fun _ => Int32.ofInt 0)), .inl (cI, 16, .inl (fun _ => Int32.ofInt 0)), .inl (cI, 16, .inl (fun _ => Int32.ofInt 0))]) (fun q => rfl) (fun q => rfl) ?_
  refine i_aload0 dX12_init_44 ?_
  refine i_bipush dX12_init_45 (by decide) ?_
  refine i_newaI (n := 6) (cl := 5) (sl := 278) (N := 16) dX12_init_47 (by decide) (by decide) (Nat.le_of_ble_eq_true rfl) ⟨Nat.le_of_ble_eq_true rfl, Nat.le_of_ble_eq_true rfl⟩ ?_
  refine i_put (k := 5) dX12_init_49 g_X12_25 (fun q => ⟨rfl, rfl⟩) (Nat.le_of_ble_eq_true rfl) ?_
  refine i_aload0 dX12_init_52 ?_
  refine i_bipush dX12_init_53 (by decide) ?_
  refine i_newaI (n := 7) (cl := 6) (sl := 294) (N := 16) dX12_init_55 (by decide) (by decide) (Nat.le_of_ble_eq_true rfl) ⟨Nat.le_of_ble_eq_true rfl, Nat.le_of_ble_eq_true rfl⟩ ?_
  refine i_put (k := 6) dX12_init_57 g_X12_28 (fun q => ⟨rfl, rfl⟩) (Nat.le_of_ble_eq_true rfl) ?_
  refine i_aload0 dX12_init_60 ?_
  refine i_bipush dX12_init_61 (by decide) ?_
  refine i_newaI (n := 8) (cl := 7) (sl := 310) (N := 16) dX12_init_63 (by decide) (by decide) (Nat.le_of_ble_eq_true rfl) ⟨Nat.le_of_ble_eq_true rfl, Nat.le_of_ble_eq_true rfl⟩ ?_
  refine i_put (k := 7) dX12_init_65 g_X12_31 (fun q => ⟨rfl, rfl⟩) (Nat.le_of_ble_eq_true rfl) ?_
  refine i_aload0 dX12_init_68 ?_
  refine i_bipush dX12_init_69 (by decide) ?_
  refine i_newaI (n := 9) (cl := 8) (sl := 326) (N := 16) dX12_init_71 (by decide) (by decide) (Nat.le_of_ble_eq_true rfl) ⟨Nat.le_of_ble_eq_true rfl, Nat.le_of_ble_eq_true rfl⟩ ?_
  refine i_put (k := 8) dX12_init_73 g_X12_34 (fun q => ⟨rfl, rfl⟩) (Nat.le_of_ble_eq_true rfl) ?_
  refine i_aload0 dX12_init_76 ?_
  refine i_bipush dX12_init_77 (by decide) ?_
  refine i_newaI (n := 10) (cl := 9) (sl := 342) (N := 16) dX12_init_79 (by decide) (by decide) (Nat.le_of_ble_eq_true rfl) ⟨Nat.le_of_ble_eq_true rfl, Nat.le_of_ble_eq_true rfl⟩ ?_
  refine i_put (k := 9) dX12_init_81 g_X12_37 (fun q => ⟨rfl, rfl⟩) (Nat.le_of_ble_eq_true rfl) ?_
  refine i_norm (fs2 := fun q => [.ref (q 1), .ref (q 2), .ref (q 3), .ref (q 4), .ref (q 5), .ref (q 6), .ref (q 7), .ref (q 8), .ref (q 9), .ref (q 10), .null, .int (Int32.ofInt 0), .null, .int (Int32.ofInt 0), .int (Int32.ofInt 0), .int (Int32.ofInt 0), .int (Int32.ofInt 0), .int (Int32.ofInt 0), .int (Int32.ofInt 0), .int (Int32.ofInt 0), .int (Int32.ofInt 0), .int (Int32.ofInt 0), .int (Int32.ofInt 0), .null, .null, .null, .null, .null, .null, .null, .null, .null, .null, .null, .null, .null, .null, .null, .null, .null, .null, .null, .null, .int (Int32.ofInt 0), .int (Int32.ofInt 0), .null, .null, .int (Int32.ofInt 0), .int (Int32.ofInt 0), .null, .null, .null, .int (Int32.ofInt 0), .null, .null, .int (Int32.ofInt 0), .null, .null, .null, .null, .null, .null, .null, .null, .int (Int32.ofInt 0), .int (Int32.ofInt 0)]) (rest2 := fun q => [.inl (cI, 82, .inl (fun _ => Int32.ofInt 0)), .inl (cI, 82, .inl (fun _ => Int32.ofInt 0)), .inl (cI, 82, .inl (fun _ => Int32.ofInt 0)), .inl (cI, 16, .inl (fun _ => Int32.ofInt 0)), .inl (cI, 16, .inl (fun _ => Int32.ofInt 0)), .inl (cI, 16, .inl (fun _ => Int32.ofInt 0)), .inl (cI, 16, .inl (fun _ => Int32.ofInt 0)), .inl (cI, 16, .inl (fun _ => Int32.ofInt 0)), .inl (cI, 16, .inl (fun _ => Int32.ofInt 0)), .inl (cI, 16, .inl (fun _ => Int32.ofInt 0))]) (fun q => rfl) (fun q => rfl) ?_
  refine i_aload0 dX12_init_84 ?_
  refine i_bipush dX12_init_85 (by decide) ?_
  refine i_newaI (n := 11) (cl := 10) (sl := 358) (N := 16) dX12_init_87 (by decide) (by decide) (Nat.le_of_ble_eq_true rfl) ⟨Nat.le_of_ble_eq_true rfl, Nat.le_of_ble_eq_true rfl⟩ ?_
  refine i_put (k := 10) dX12_init_89 g_X12_40 (fun q => ⟨rfl, rfl⟩) (Nat.le_of_ble_eq_true rfl) ?_
  refine i_aload0 dX12_init_92 ?_
  refine i_sipush dX12_init_93 (by decide) ?_
  refine i_newaB (n := 12) (cl := 11) (sl := 374) (N := 260) dX12_init_96 (by decide) (by decide) (Nat.le_of_ble_eq_true rfl) ⟨Nat.le_of_ble_eq_true rfl, Nat.le_of_ble_eq_true rfl⟩ ?_
  refine i_put (k := 12) dX12_init_98 g_X12_43 (fun q => ⟨rfl, rfl⟩) (Nat.le_of_ble_eq_true rfl) ?_
  refine i_aload0 dX12_init_101 ?_
  refine i_sipush dX12_init_102 (by decide) ?_
  refine i_newaI (n := 13) (cl := 12) (sl := 634) (N := 260) dX12_init_105 (by decide) (by decide) (Nat.le_of_ble_eq_true rfl) ⟨Nat.le_of_ble_eq_true rfl, Nat.le_of_ble_eq_true rfl⟩ ?_
  refine i_put (k := 23) dX12_init_107 g_X12_47 (fun q => ⟨rfl, rfl⟩) (Nat.le_of_ble_eq_true rfl) ?_
  refine i_aload0 dX12_init_110 ?_
  refine i_sipush dX12_init_111 (by decide) ?_
  refine i_newaI (n := 14) (cl := 13) (sl := 894) (N := 260) dX12_init_114 (by decide) (by decide) (Nat.le_of_ble_eq_true rfl) ⟨Nat.le_of_ble_eq_true rfl, Nat.le_of_ble_eq_true rfl⟩ ?_
  refine i_put (k := 24) dX12_init_116 g_X12_50 (fun q => ⟨rfl, rfl⟩) (Nat.le_of_ble_eq_true rfl) ?_
  refine i_aload0 dX12_init_119 ?_
  refine i_bipush dX12_init_120 (by decide) ?_
  refine i_newaI (n := 15) (cl := 14) (sl := 1154) (N := 16) dX12_init_122 (by decide) (by decide) (Nat.le_of_ble_eq_true rfl) ⟨Nat.le_of_ble_eq_true rfl, Nat.le_of_ble_eq_true rfl⟩ ?_
  refine i_put (k := 25) dX12_init_124 g_X12_53 (fun q => ⟨rfl, rfl⟩) (Nat.le_of_ble_eq_true rfl) ?_
  refine i_norm (fs2 := fun q => [.ref (q 1), .ref (q 2), .ref (q 3), .ref (q 4), .ref (q 5), .ref (q 6), .ref (q 7), .ref (q 8), .ref (q 9), .ref (q 10), .ref (q 11), .int (Int32.ofInt 0), .ref (q 12), .int (Int32.ofInt 0), .int (Int32.ofInt 0), .int (Int32.ofInt 0), .int (Int32.ofInt 0), .int (Int32.ofInt 0), .int (Int32.ofInt 0), .int (Int32.ofInt 0), .int (Int32.ofInt 0), .int (Int32.ofInt 0), .int (Int32.ofInt 0), .ref (q 13), .ref (q 14), .ref (q 15), .null, .null, .null, .null, .null, .null, .null, .null, .null, .null, .null, .null, .null, .null, .null, .null, .null, .int (Int32.ofInt 0), .int (Int32.ofInt 0), .null, .null, .int (Int32.ofInt 0), .int (Int32.ofInt 0), .null, .null, .null, .int (Int32.ofInt 0), .null, .null, .int (Int32.ofInt 0), .null, .null, .null, .null, .null, .null, .null, .null, .int (Int32.ofInt 0), .int (Int32.ofInt 0)]) (rest2 := fun q => [.inl (cI, 82, .inl (fun _ => Int32.ofInt 0)), .inl (cI, 82, .inl (fun _ => Int32.ofInt 0)), .inl (cI, 82, .inl (fun _ => Int32.ofInt 0)), .inl (cI, 16, .inl (fun _ => Int32.ofInt 0)), .inl (cI, 16, .inl (fun _ => Int32.ofInt 0)), .inl (cI, 16, .inl (fun _ => Int32.ofInt 0)), .inl (cI, 16, .inl (fun _ => Int32.ofInt 0)), .inl (cI, 16, .inl (fun _ => Int32.ofInt 0)), .inl (cI, 16, .inl (fun _ => Int32.ofInt 0)), .inl (cI, 16, .inl (fun _ => Int32.ofInt 0)), .inl (cI, 16, .inl (fun _ => Int32.ofInt 0)), .inl (cB, 260, .inl (fun _ => Int32.ofInt 0)), .inl (cI, 260, .inl (fun _ => Int32.ofInt 0)), .inl (cI, 260, .inl (fun _ => Int32.ofInt 0)), .inl (cI, 16, .inl (fun _ => Int32.ofInt 0))]) (fun q => rfl) (fun q => rfl) ?_
  refine i_aload0 dX12_init_127 ?_
  refine i_bipush dX12_init_128 (by decide) ?_
  refine i_newaI (n := 16) (cl := 15) (sl := 1170) (N := 16) dX12_init_130 (by decide) (by decide) (Nat.le_of_ble_eq_true rfl) ⟨Nat.le_of_ble_eq_true rfl, Nat.le_of_ble_eq_true rfl⟩ ?_
  refine i_put (k := 26) dX12_init_132 g_X12_56 (fun q => ⟨rfl, rfl⟩) (Nat.le_of_ble_eq_true rfl) ?_
  refine i_aload0 dX12_init_135 ?_
  refine i_bipush dX12_init_136 (by decide) ?_
  refine i_newaI (n := 17) (cl := 16) (sl := 1186) (N := 16) dX12_init_138 (by decide) (by decide) (Nat.le_of_ble_eq_true rfl) ⟨Nat.le_of_ble_eq_true rfl, Nat.le_of_ble_eq_true rfl⟩ ?_
  refine i_put (k := 27) dX12_init_140 g_X12_59 (fun q => ⟨rfl, rfl⟩) (Nat.le_of_ble_eq_true rfl) ?_
  refine i_aload0 dX12_init_143 ?_
  refine i_bipush dX12_init_144 (by decide) ?_
  refine i_newaI (n := 18) (cl := 17) (sl := 1202) (N := 16) dX12_init_146 (by decide) (by decide) (Nat.le_of_ble_eq_true rfl) ⟨Nat.le_of_ble_eq_true rfl, Nat.le_of_ble_eq_true rfl⟩ ?_
  refine i_put (k := 28) dX12_init_148 g_X12_62 (fun q => ⟨rfl, rfl⟩) (Nat.le_of_ble_eq_true rfl) ?_
  refine i_aload0 dX12_init_151 ?_
  refine i_sipush dX12_init_152 (by decide) ?_
  refine i_newaI (n := 19) (cl := 18) (sl := 1218) (N := 260) dX12_init_155 (by decide) (by decide) (Nat.le_of_ble_eq_true rfl) ⟨Nat.le_of_ble_eq_true rfl, Nat.le_of_ble_eq_true rfl⟩ ?_
  refine i_put (k := 29) dX12_init_157 g_X12_65 (fun q => ⟨rfl, rfl⟩) (Nat.le_of_ble_eq_true rfl) ?_
  refine i_aload0 dX12_init_160 ?_
  refine i_bipush dX12_init_161 (by decide) ?_
  refine i_newaI (n := 20) (cl := 19) (sl := 1478) (N := 16) dX12_init_163 (by decide) (by decide) (Nat.le_of_ble_eq_true rfl) ⟨Nat.le_of_ble_eq_true rfl, Nat.le_of_ble_eq_true rfl⟩ ?_
  refine i_put (k := 30) dX12_init_165 g_X12_68 (fun q => ⟨rfl, rfl⟩) (Nat.le_of_ble_eq_true rfl) ?_
  refine i_norm (fs2 := fun q => [.ref (q 1), .ref (q 2), .ref (q 3), .ref (q 4), .ref (q 5), .ref (q 6), .ref (q 7), .ref (q 8), .ref (q 9), .ref (q 10), .ref (q 11), .int (Int32.ofInt 0), .ref (q 12), .int (Int32.ofInt 0), .int (Int32.ofInt 0), .int (Int32.ofInt 0), .int (Int32.ofInt 0), .int (Int32.ofInt 0), .int (Int32.ofInt 0), .int (Int32.ofInt 0), .int (Int32.ofInt 0), .int (Int32.ofInt 0), .int (Int32.ofInt 0), .ref (q 13), .ref (q 14), .ref (q 15), .ref (q 16), .ref (q 17), .ref (q 18), .ref (q 19), .ref (q 20), .null, .null, .null, .null, .null, .null, .null, .null, .null, .null, .null, .null, .int (Int32.ofInt 0), .int (Int32.ofInt 0), .null, .null, .int (Int32.ofInt 0), .int (Int32.ofInt 0), .null, .null, .null, .int (Int32.ofInt 0), .null, .null, .int (Int32.ofInt 0), .null, .null, .null, .null, .null, .null, .null, .null, .int (Int32.ofInt 0), .int (Int32.ofInt 0)]) (rest2 := fun q => [.inl (cI, 82, .inl (fun _ => Int32.ofInt 0)), .inl (cI, 82, .inl (fun _ => Int32.ofInt 0)), .inl (cI, 82, .inl (fun _ => Int32.ofInt 0)), .inl (cI, 16, .inl (fun _ => Int32.ofInt 0)), .inl (cI, 16, .inl (fun _ => Int32.ofInt 0)), .inl (cI, 16, .inl (fun _ => Int32.ofInt 0)), .inl (cI, 16, .inl (fun _ => Int32.ofInt 0)), .inl (cI, 16, .inl (fun _ => Int32.ofInt 0)), .inl (cI, 16, .inl (fun _ => Int32.ofInt 0)), .inl (cI, 16, .inl (fun _ => Int32.ofInt 0)), .inl (cI, 16, .inl (fun _ => Int32.ofInt 0)), .inl (cB, 260, .inl (fun _ => Int32.ofInt 0)), .inl (cI, 260, .inl (fun _ => Int32.ofInt 0)), .inl (cI, 260, .inl (fun _ => Int32.ofInt 0)), .inl (cI, 16, .inl (fun _ => Int32.ofInt 0)), .inl (cI, 16, .inl (fun _ => Int32.ofInt 0)), .inl (cI, 16, .inl (fun _ => Int32.ofInt 0)), .inl (cI, 16, .inl (fun _ => Int32.ofInt 0)), .inl (cI, 260, .inl (fun _ => Int32.ofInt 0)), .inl (cI, 16, .inl (fun _ => Int32.ofInt 0))]) (fun q => rfl) (fun q => rfl) ?_
  refine i_aload0 dX12_init_168 ?_
  refine i_bipush dX12_init_169 (by decide) ?_
  refine i_newaI (n := 21) (cl := 20) (sl := 1494) (N := 16) dX12_init_171 (by decide) (by decide) (Nat.le_of_ble_eq_true rfl) ⟨Nat.le_of_ble_eq_true rfl, Nat.le_of_ble_eq_true rfl⟩ ?_
  refine i_put (k := 31) dX12_init_173 g_X12_71 (fun q => ⟨rfl, rfl⟩) (Nat.le_of_ble_eq_true rfl) ?_
  refine i_aload0 dX12_init_176 ?_
  refine i_bipush dX12_init_177 (by decide) ?_
  refine i_newaI (n := 22) (cl := 21) (sl := 1510) (N := 16) dX12_init_179 (by decide) (by decide) (Nat.le_of_ble_eq_true rfl) ⟨Nat.le_of_ble_eq_true rfl, Nat.le_of_ble_eq_true rfl⟩ ?_
  refine i_put (k := 32) dX12_init_181 g_X12_74 (fun q => ⟨rfl, rfl⟩) (Nat.le_of_ble_eq_true rfl) ?_
  refine i_aload0 dX12_init_184 ?_
  refine i_bipush dX12_init_185 (by decide) ?_
  refine i_newaI (n := 23) (cl := 22) (sl := 1526) (N := 16) dX12_init_187 (by decide) (by decide) (Nat.le_of_ble_eq_true rfl) ⟨Nat.le_of_ble_eq_true rfl, Nat.le_of_ble_eq_true rfl⟩ ?_
  refine i_put (k := 33) dX12_init_189 g_X12_77 (fun q => ⟨rfl, rfl⟩) (Nat.le_of_ble_eq_true rfl) ?_
  refine i_aload0 dX12_init_192 ?_
  refine i_sipush dX12_init_193 (by decide) ?_
  refine i_newaI (n := 24) (cl := 23) (sl := 1542) (N := 260) dX12_init_196 (by decide) (by decide) (Nat.le_of_ble_eq_true rfl) ⟨Nat.le_of_ble_eq_true rfl, Nat.le_of_ble_eq_true rfl⟩ ?_
  refine i_put (k := 34) dX12_init_198 g_X12_80 (fun q => ⟨rfl, rfl⟩) (Nat.le_of_ble_eq_true rfl) ?_
  refine i_aload0 dX12_init_201 ?_
  refine i_bipush dX12_init_202 (by decide) ?_
  refine i_newaI (n := 25) (cl := 24) (sl := 1802) (N := 11) dX12_init_204 (by decide) (by decide) (Nat.le_of_ble_eq_true rfl) ⟨Nat.le_of_ble_eq_true rfl, Nat.le_of_ble_eq_true rfl⟩ ?_
  refine i_put (k := 35) dX12_init_206 g_X12_83 (fun q => ⟨rfl, rfl⟩) (Nat.le_of_ble_eq_true rfl) ?_
  refine i_norm (fs2 := fun q => [.ref (q 1), .ref (q 2), .ref (q 3), .ref (q 4), .ref (q 5), .ref (q 6), .ref (q 7), .ref (q 8), .ref (q 9), .ref (q 10), .ref (q 11), .int (Int32.ofInt 0), .ref (q 12), .int (Int32.ofInt 0), .int (Int32.ofInt 0), .int (Int32.ofInt 0), .int (Int32.ofInt 0), .int (Int32.ofInt 0), .int (Int32.ofInt 0), .int (Int32.ofInt 0), .int (Int32.ofInt 0), .int (Int32.ofInt 0), .int (Int32.ofInt 0), .ref (q 13), .ref (q 14), .ref (q 15), .ref (q 16), .ref (q 17), .ref (q 18), .ref (q 19), .ref (q 20), .ref (q 21), .ref (q 22), .ref (q 23), .ref (q 24), .ref (q 25), .null, .null, .null, .null, .null, .null, .null, .int (Int32.ofInt 0), .int (Int32.ofInt 0), .null, .null, .int (Int32.ofInt 0), .int (Int32.ofInt 0), .null, .null, .null, .int (Int32.ofInt 0), .null, .null, .int (Int32.ofInt 0), .null, .null, .null, .null, .null, .null, .null, .null, .int (Int32.ofInt 0), .int (Int32.ofInt 0)]) (rest2 := fun q => [.inl (cI, 82, .inl (fun _ => Int32.ofInt 0)), .inl (cI, 82, .inl (fun _ => Int32.ofInt 0)), .inl (cI, 82, .inl (fun _ => Int32.ofInt 0)), .inl (cI, 16, .inl (fun _ => Int32.ofInt 0)), .inl (cI, 16, .inl (fun _ => Int32.ofInt 0)), .inl (cI, 16, .inl (fun _ => Int32.ofInt 0)), .inl (cI, 16, .inl (fun _ => Int32.ofInt 0)), .inl (cI, 16, .inl (fun _ => Int32.ofInt 0)), .inl (cI, 16, .inl (fun _ => Int32.ofInt 0)), .inl (cI, 16, .inl (fun _ => Int32.ofInt 0)), .inl (cI, 16, .inl (fun _ => Int32.ofInt 0)), .inl (cB, 260, .inl (fun _ => Int32.ofInt 0)), .inl (cI, 260, .inl (fun _ => Int32.ofInt 0)), .inl (cI, 260, .inl (fun _ => Int32.ofInt 0)), .inl (cI, 16, .inl (fun _ => Int32.ofInt 0)), .inl (cI, 16, .inl (fun _ => Int32.ofInt 0)), .inl (cI, 16, .inl (fun _ => Int32.ofInt 0)), .inl (cI, 16, .inl (fun _ => Int32.ofInt 0)), .inl (cI, 260, .inl (fun _ => Int32.ofInt 0)), .inl (cI, 16, .inl (fun _ => Int32.ofInt 0)), .inl (cI, 16, .inl (fun _ => Int32.ofInt 0)), .inl (cI, 16, .inl (fun _ => Int32.ofInt 0)), .inl (cI, 16, .inl (fun _ => Int32.ofInt 0)), .inl (cI, 260, .inl (fun _ => Int32.ofInt 0)), .inl (cI, 11, .inl (fun _ => Int32.ofInt 0))]) (fun q => rfl) (fun q => rfl) ?_
  refine i_aload0 dX12_init_209 ?_
  refine i_bipush dX12_init_210 (by decide) ?_
  refine i_newaI (n := 26) (cl := 25) (sl := 1813) (N := 16) dX12_init_212 (by decide) (by decide) (Nat.le_of_ble_eq_true rfl) ⟨Nat.le_of_ble_eq_true rfl, Nat.le_of_ble_eq_true rfl⟩ ?_
  refine i_put (k := 36) dX12_init_214 g_X12_86 (fun q => ⟨rfl, rfl⟩) (Nat.le_of_ble_eq_true rfl) ?_
  refine i_aload0 dX12_init_217 ?_
  refine i_bipush dX12_init_218 (by decide) ?_
  refine i_newaI (n := 27) (cl := 26) (sl := 1829) (N := 16) dX12_init_220 (by decide) (by decide) (Nat.le_of_ble_eq_true rfl) ⟨Nat.le_of_ble_eq_true rfl, Nat.le_of_ble_eq_true rfl⟩ ?_
  refine i_put (k := 37) dX12_init_222 g_X12_89 (fun q => ⟨rfl, rfl⟩) (Nat.le_of_ble_eq_true rfl) ?_
  refine i_aload0 dX12_init_225 ?_
  refine i_bipush dX12_init_226 (by decide) ?_
  refine i_newaI (n := 28) (cl := 27) (sl := 1845) (N := 16) dX12_init_228 (by decide) (by decide) (Nat.le_of_ble_eq_true rfl) ⟨Nat.le_of_ble_eq_true rfl, Nat.le_of_ble_eq_true rfl⟩ ?_
  refine i_put (k := 38) dX12_init_230 g_X12_92 (fun q => ⟨rfl, rfl⟩) (Nat.le_of_ble_eq_true rfl) ?_
  refine i_aload0 dX12_init_233 ?_
  refine i_bipush dX12_init_234 (by decide) ?_
  refine i_newaI (n := 29) (cl := 28) (sl := 1861) (N := 16) dX12_init_236 (by decide) (by decide) (Nat.le_of_ble_eq_true rfl) ⟨Nat.le_of_ble_eq_true rfl, Nat.le_of_ble_eq_true rfl⟩ ?_
  refine i_put (k := 39) dX12_init_238 g_X12_95 (fun q => ⟨rfl, rfl⟩) (Nat.le_of_ble_eq_true rfl) ?_
  refine i_aload0 dX12_init_241 ?_
  refine i_bipush dX12_init_242 (by decide) ?_
  refine i_newaI (n := 30) (cl := 29) (sl := 1877) (N := 16) dX12_init_244 (by decide) (by decide) (Nat.le_of_ble_eq_true rfl) ⟨Nat.le_of_ble_eq_true rfl, Nat.le_of_ble_eq_true rfl⟩ ?_
  refine i_put (k := 40) dX12_init_246 g_X12_98 (fun q => ⟨rfl, rfl⟩) (Nat.le_of_ble_eq_true rfl) ?_
  refine i_norm (fs2 := fun q => [.ref (q 1), .ref (q 2), .ref (q 3), .ref (q 4), .ref (q 5), .ref (q 6), .ref (q 7), .ref (q 8), .ref (q 9), .ref (q 10), .ref (q 11), .int (Int32.ofInt 0), .ref (q 12), .int (Int32.ofInt 0), .int (Int32.ofInt 0), .int (Int32.ofInt 0), .int (Int32.ofInt 0), .int (Int32.ofInt 0), .int (Int32.ofInt 0), .int (Int32.ofInt 0), .int (Int32.ofInt 0), .int (Int32.ofInt 0), .int (Int32.ofInt 0), .ref (q 13), .ref (q 14), .ref (q 15), .ref (q 16), .ref (q 17), .ref (q 18), .ref (q 19), .ref (q 20), .ref (q 21), .ref (q 22), .ref (q 23), .ref (q 24), .ref (q 25), .ref (q 26), .ref (q 27), .ref (q 28), .ref (q 29), .ref (q 30), .null, .null, .int (Int32.ofInt 0), .int (Int32.ofInt 0), .null, .null, .int (Int32.ofInt 0), .int (Int32.ofInt 0), .null, .null, .null, .int (Int32.ofInt 0), .null, .null, .int (Int32.ofInt 0), .null, .null, .null, .null, .null, .null, .null, .null, .int (Int32.ofInt 0), .int (Int32.ofInt 0)]) (rest2 := fun q => [.inl (cI, 82, .inl (fun _ => Int32.ofInt 0)), .inl (cI, 82, .inl (fun _ => Int32.ofInt 0)), .inl (cI, 82, .inl (fun _ => Int32.ofInt 0)), .inl (cI, 16, .inl (fun _ => Int32.ofInt 0)), .inl (cI, 16, .inl (fun _ => Int32.ofInt 0)), .inl (cI, 16, .inl (fun _ => Int32.ofInt 0)), .inl (cI, 16, .inl (fun _ => Int32.ofInt 0)), .inl (cI, 16, .inl (fun _ => Int32.ofInt 0)), .inl (cI, 16, .inl (fun _ => Int32.ofInt 0)), .inl (cI, 16, .inl (fun _ => Int32.ofInt 0)), .inl (cI, 16, .inl (fun _ => Int32.ofInt 0)), .inl (cB, 260, .inl (fun _ => Int32.ofInt 0)), .inl (cI, 260, .inl (fun _ => Int32.ofInt 0)), .inl (cI, 260, .inl (fun _ => Int32.ofInt 0)), .inl (cI, 16, .inl (fun _ => Int32.ofInt 0)), .inl (cI, 16, .inl (fun _ => Int32.ofInt 0)), .inl (cI, 16, .inl (fun _ => Int32.ofInt 0)), .inl (cI, 16, .inl (fun _ => Int32.ofInt 0)), .inl (cI, 260, .inl (fun _ => Int32.ofInt 0)), .inl (cI, 16, .inl (fun _ => Int32.ofInt 0)), .inl (cI, 16, .inl (fun _ => Int32.ofInt 0)), .inl (cI, 16, .inl (fun _ => Int32.ofInt 0)), .inl (cI, 16, .inl (fun _ => Int32.ofInt 0)), .inl (cI, 260, .inl (fun _ => Int32.ofInt 0)), .inl (cI, 11, .inl (fun _ => Int32.ofInt 0)), .inl (cI, 16, .inl (fun _ => Int32.ofInt 0)), .inl (cI, 16, .inl (fun _ => Int32.ofInt 0)), .inl (cI, 16, .inl (fun _ => Int32.ofInt 0)), .inl (cI, 16, .inl (fun _ => Int32.ofInt 0)), .inl (cI, 16, .inl (fun _ => Int32.ofInt 0))]) (fun q => rfl) (fun q => rfl) ?_
  refine i_aload0 dX12_init_249 ?_
  refine i_bipush dX12_init_250 (by decide) ?_
  refine i_newaI (n := 31) (cl := 30) (sl := 1893) (N := 16) dX12_init_252 (by decide) (by decide) (Nat.le_of_ble_eq_true rfl) ⟨Nat.le_of_ble_eq_true rfl, Nat.le_of_ble_eq_true rfl⟩ ?_
  refine i_put (k := 41) dX12_init_254 g_X12_101 (fun q => ⟨rfl, rfl⟩) (Nat.le_of_ble_eq_true rfl) ?_
  refine i_aload0 dX12_init_257 ?_
  refine i_bipush dX12_init_258 (by decide) ?_
  refine i_newaI (n := 32) (cl := 31) (sl := 1909) (N := 16) dX12_init_260 (by decide) (by decide) (Nat.le_of_ble_eq_true rfl) ⟨Nat.le_of_ble_eq_true rfl, Nat.le_of_ble_eq_true rfl⟩ ?_
  refine i_put (k := 42) dX12_init_262 g_X12_104 (fun q => ⟨rfl, rfl⟩) (Nat.le_of_ble_eq_true rfl) ?_
  refine i_aload0 dX12_init_265 ?_
  refine i_bipush dX12_init_266 (by decide) ?_
  refine i_newaI (n := 33) (cl := 32) (sl := 1925) (N := 32) dX12_init_268 (by decide) (by decide) (Nat.le_of_ble_eq_true rfl) ⟨Nat.le_of_ble_eq_true rfl, Nat.le_of_ble_eq_true rfl⟩ ?_
  refine i_put (k := 45) dX12_init_270 g_X12_107 (fun q => ⟨rfl, rfl⟩) (Nat.le_of_ble_eq_true rfl) ?_
  refine i_aload0 dX12_init_273 ?_
  refine i_bipush dX12_init_274 (by decide) ?_
  refine i_newaI (n := 34) (cl := 33) (sl := 1957) (N := 34) dX12_init_276 (by decide) (by decide) (Nat.le_of_ble_eq_true rfl) ⟨Nat.le_of_ble_eq_true rfl, Nat.le_of_ble_eq_true rfl⟩ ?_
  refine i_put (k := 46) dX12_init_278 g_X12_110 (fun q => ⟨rfl, rfl⟩) (Nat.le_of_ble_eq_true rfl) ?_
  refine i_aload0 dX12_init_281 ?_
  refine i_bipush dX12_init_282 (by decide) ?_
  refine i_newaI (n := 35) (cl := 34) (sl := 1991) (N := 32) dX12_init_284 (by decide) (by decide) (Nat.le_of_ble_eq_true rfl) ⟨Nat.le_of_ble_eq_true rfl, Nat.le_of_ble_eq_true rfl⟩ ?_
  refine i_put (k := 49) dX12_init_286 g_X12_113 (fun q => ⟨rfl, rfl⟩) (Nat.le_of_ble_eq_true rfl) ?_
  refine i_norm (fs2 := fun q => [.ref (q 1), .ref (q 2), .ref (q 3), .ref (q 4), .ref (q 5), .ref (q 6), .ref (q 7), .ref (q 8), .ref (q 9), .ref (q 10), .ref (q 11), .int (Int32.ofInt 0), .ref (q 12), .int (Int32.ofInt 0), .int (Int32.ofInt 0), .int (Int32.ofInt 0), .int (Int32.ofInt 0), .int (Int32.ofInt 0), .int (Int32.ofInt 0), .int (Int32.ofInt 0), .int (Int32.ofInt 0), .int (Int32.ofInt 0), .int (Int32.ofInt 0), .ref (q 13), .ref (q 14), .ref (q 15), .ref (q 16), .ref (q 17), .ref (q 18), .ref (q 19), .ref (q 20), .ref (q 21), .ref (q 22), .ref (q 23), .ref (q 24), .ref (q 25), .ref (q 26), .ref (q 27), .ref (q 28), .ref (q 29), .ref (q 30), .ref (q 31), .ref (q 32), .int (Int32.ofInt 0), .int (Int32.ofInt 0), .ref (q 33), .ref (q 34), .int (Int32.ofInt 0), .int (Int32.ofInt 0), .ref (q 35), .null, .null, .int (Int32.ofInt 0), .null, .null, .int (Int32.ofInt 0), .null, .null, .null, .null, .null, .null, .null, .null, .int (Int32.ofInt 0), .int (Int32.ofInt 0)]) (rest2 := fun q => [.inl (cI, 82, .inl (fun _ => Int32.ofInt 0)), .inl (cI, 82, .inl (fun _ => Int32.ofInt 0)), .inl (cI, 82, .inl (fun _ => Int32.ofInt 0)), .inl (cI, 16, .inl (fun _ => Int32.ofInt 0)), .inl (cI, 16, .inl (fun _ => Int32.ofInt 0)), .inl (cI, 16, .inl (fun _ => Int32.ofInt 0)), .inl (cI, 16, .inl (fun _ => Int32.ofInt 0)), .inl (cI, 16, .inl (fun _ => Int32.ofInt 0)), .inl (cI, 16, .inl (fun _ => Int32.ofInt 0)), .inl (cI, 16, .inl (fun _ => Int32.ofInt 0)), .inl (cI, 16, .inl (fun _ => Int32.ofInt 0)), .inl (cB, 260, .inl (fun _ => Int32.ofInt 0)), .inl (cI, 260, .inl (fun _ => Int32.ofInt 0)), .inl (cI, 260, .inl (fun _ => Int32.ofInt 0)), .inl (cI, 16, .inl (fun _ => Int32.ofInt 0)), .inl (cI, 16, .inl (fun _ => Int32.ofInt 0)), .inl (cI, 16, .inl (fun _ => Int32.ofInt 0)), .inl (cI, 16, .inl (fun _ => Int32.ofInt 0)), .inl (cI, 260, .inl (fun _ => Int32.ofInt 0)), .inl (cI, 16, .inl (fun _ => Int32.ofInt 0)), .inl (cI, 16, .inl (fun _ => Int32.ofInt 0)), .inl (cI, 16, .inl (fun _ => Int32.ofInt 0)), .inl (cI, 16, .inl (fun _ => Int32.ofInt 0)), .inl (cI, 260, .inl (fun _ => Int32.ofInt 0)), .inl (cI, 11, .inl (fun _ => Int32.ofInt 0)), .inl (cI, 16, .inl (fun _ => Int32.ofInt 0)), .inl (cI, 16, .inl (fun _ => Int32.ofInt 0)), .inl (cI, 16, .inl (fun _ => Int32.ofInt 0)), .inl (cI, 16, .inl (fun _ => Int32.ofInt 0)), .inl (cI, 16, .inl (fun _ => Int32.ofInt 0)), .inl (cI, 16, .inl (fun _ => Int32.ofInt 0)), .inl (cI, 16, .inl (fun _ => Int32.ofInt 0)), .inl (cI, 32, .inl (fun _ => Int32.ofInt 0)), .inl (cI, 34, .inl (fun _ => Int32.ofInt 0)), .inl (cI, 32, .inl (fun _ => Int32.ofInt 0))]) (fun q => rfl) (fun q => rfl) ?_
  refine i_aload0 dX12_init_289 ?_
  refine i_sipush dX12_init_290 (by decide) ?_
  refine i_newaI (n := 36) (cl := 35) (sl := 2023) (N := 4608) dX12_init_293 (by decide) (by decide) (Nat.le_of_ble_eq_true rfl) ⟨Nat.le_of_ble_eq_true rfl, Nat.le_of_ble_eq_true rfl⟩ ?_
  refine i_put (k := 50) dX12_init_295 g_X12_116 (fun q => ⟨rfl, rfl⟩) (Nat.le_of_ble_eq_true rfl) ?_
  refine i_aload0 dX12_init_298 ?_
  refine i_bipush dX12_init_299 (by decide) ?_
  refine i_newaI (n := 37) (cl := 36) (sl := 6631) (N := 9) dX12_init_301 (by decide) (by decide) (Nat.le_of_ble_eq_true rfl) ⟨Nat.le_of_ble_eq_true rfl, Nat.le_of_ble_eq_true rfl⟩ ?_
  refine i_put (k := 51) dX12_init_303 g_X12_119 (fun q => ⟨rfl, rfl⟩) (Nat.le_of_ble_eq_true rfl) ?_
  refine i_aload0 dX12_init_306 ?_
  refine i_bipush dX12_init_307 (by decide) ?_
  refine i_newaI (n := 38) (cl := 37) (sl := 6640) (N := 16) dX12_init_309 (by decide) (by decide) (Nat.le_of_ble_eq_true rfl) ⟨Nat.le_of_ble_eq_true rfl, Nat.le_of_ble_eq_true rfl⟩ ?_
  refine i_put (k := 53) dX12_init_311 g_X12_122 (fun q => ⟨rfl, rfl⟩) (Nat.le_of_ble_eq_true rfl) ?_
  refine i_aload0 dX12_init_314 ?_
  refine i_sipush dX12_init_315 (by decide) ?_
  refine i_newaI (n := 39) (cl := 38) (sl := 6656) (N := 128) dX12_init_318 (by decide) (by decide) (Nat.le_of_ble_eq_true rfl) ⟨Nat.le_of_ble_eq_true rfl, Nat.le_of_ble_eq_true rfl⟩ ?_
  refine i_put (k := 54) dX12_init_320 g_X12_125 (fun q => ⟨rfl, rfl⟩) (Nat.le_of_ble_eq_true rfl) ?_
  refine i_aload0 dX12_init_323 ?_
  refine i_bipush dX12_init_324 (by decide) ?_
  refine i_newaI (n := 40) (cl := 39) (sl := 6784) (N := 72) dX12_init_326 (by decide) (by decide) (Nat.le_of_ble_eq_true rfl) ⟨Nat.le_of_ble_eq_true rfl, Nat.le_of_ble_eq_true rfl⟩ ?_
  refine i_put (k := 56) dX12_init_328 g_X12_128 (fun q => ⟨rfl, rfl⟩) (Nat.le_of_ble_eq_true rfl) ?_
  refine i_norm (fs2 := fun q => [.ref (q 1), .ref (q 2), .ref (q 3), .ref (q 4), .ref (q 5), .ref (q 6), .ref (q 7), .ref (q 8), .ref (q 9), .ref (q 10), .ref (q 11), .int (Int32.ofInt 0), .ref (q 12), .int (Int32.ofInt 0), .int (Int32.ofInt 0), .int (Int32.ofInt 0), .int (Int32.ofInt 0), .int (Int32.ofInt 0), .int (Int32.ofInt 0), .int (Int32.ofInt 0), .int (Int32.ofInt 0), .int (Int32.ofInt 0), .int (Int32.ofInt 0), .ref (q 13), .ref (q 14), .ref (q 15), .ref (q 16), .ref (q 17), .ref (q 18), .ref (q 19), .ref (q 20), .ref (q 21), .ref (q 22), .ref (q 23), .ref (q 24), .ref (q 25), .ref (q 26), .ref (q 27), .ref (q 28), .ref (q 29), .ref (q 30), .ref (q 31), .ref (q 32), .int (Int32.ofInt 0), .int (Int32.ofInt 0), .ref (q 33), .ref (q 34), .int (Int32.ofInt 0), .int (Int32.ofInt 0), .ref (q 35), .ref (q 36), .ref (q 37), .int (Int32.ofInt 0), .ref (q 38), .ref (q 39), .int (Int32.ofInt 0), .ref (q 40), .null, .null, .null, .null, .null, .null, .null, .int (Int32.ofInt 0), .int (Int32.ofInt 0)]) (rest2 := fun q => [.inl (cI, 82, .inl (fun _ => Int32.ofInt 0)), .inl (cI, 82, .inl (fun _ => Int32.ofInt 0)), .inl (cI, 82, .inl (fun _ => Int32.ofInt 0)), .inl (cI, 16, .inl (fun _ => Int32.ofInt 0)), .inl (cI, 16, .inl (fun _ => Int32.ofInt 0)), .inl (cI, 16, .inl (fun _ => Int32.ofInt 0)), .inl (cI, 16, .inl (fun _ => Int32.ofInt 0)), .inl (cI, 16, .inl (fun _ => Int32.ofInt 0)), .inl (cI, 16, .inl (fun _ => Int32.ofInt 0)), .inl (cI, 16, .inl (fun _ => Int32.ofInt 0)), .inl (cI, 16, .inl (fun _ => Int32.ofInt 0)), .inl (cB, 260, .inl (fun _ => Int32.ofInt 0)), .inl (cI, 260, .inl (fun _ => Int32.ofInt 0)), .inl (cI, 260, .inl (fun _ => Int32.ofInt 0)), .inl (cI, 16, .inl (fun _ => Int32.ofInt 0)), .inl (cI, 16, .inl (fun _ => Int32.ofInt 0)), .inl (cI, 16, .inl (fun _ => Int32.ofInt 0)), .inl (cI, 16, .inl (fun _ => Int32.ofInt 0)), .inl (cI, 260, .inl (fun _ => Int32.ofInt 0)), .inl (cI, 16, .inl (fun _ => Int32.ofInt 0)), .inl (cI, 16, .inl (fun _ => Int32.ofInt 0)), .inl (cI, 16, .inl (fun _ => Int32.ofInt 0)), .inl (cI, 16, .inl (fun _ => Int32.ofInt 0)), .inl (cI, 260, .inl (fun _ => Int32.ofInt 0)), .inl (cI, 11, .inl (fun _ => Int32.ofInt 0)), .inl (cI, 16, .inl (fun _ => Int32.ofInt 0)), .inl (cI, 16, .inl (fun _ => Int32.ofInt 0)), .inl (cI, 16, .inl (fun _ => Int32.ofInt 0)), .inl (cI, 16, .inl (fun _ => Int32.ofInt 0)), .inl (cI, 16, .inl (fun _ => Int32.ofInt 0)), .inl (cI, 16, .inl (fun _ => Int32.ofInt 0)), .inl (cI, 16, .inl (fun _ => Int32.ofInt 0)), .inl (cI, 32, .inl (fun _ => Int32.ofInt 0)), .inl (cI, 34, .inl (fun _ => Int32.ofInt 0)), .inl (cI, 32, .inl (fun _ => Int32.ofInt 0)), .inl (cI, 4608, .inl (fun _ => Int32.ofInt 0)), .inl (cI, 9, .inl (fun _ => Int32.ofInt 0)), .inl (cI, 16, .inl (fun _ => Int32.ofInt 0)), .inl (cI, 128, .inl (fun _ => Int32.ofInt 0)), .inl (cI, 72, .inl (fun _ => Int32.ofInt 0))]) (fun q => rfl) (fun q => rfl) ?_
  refine i_aload0 dX12_init_331 ?_
  refine i_bipush dX12_init_332 (by decide) ?_
  refine i_newaI (n := 41) (cl := 40) (sl := 6856) (N := 72) dX12_init_334 (by decide) (by decide) (Nat.le_of_ble_eq_true rfl) ⟨Nat.le_of_ble_eq_true rfl, Nat.le_of_ble_eq_true rfl⟩ ?_
  refine i_put (k := 57) dX12_init_336 g_X12_131 (fun q => ⟨rfl, rfl⟩) (Nat.le_of_ble_eq_true rfl) ?_
  refine i_aload0 dX12_init_339 ?_
  refine i_bipush dX12_init_340 (by decide) ?_
  refine i_newaI (n := 42) (cl := 41) (sl := 6928) (N := 6) dX12_init_342 (by decide) (by decide) (Nat.le_of_ble_eq_true rfl) ⟨Nat.le_of_ble_eq_true rfl, Nat.le_of_ble_eq_true rfl⟩ ?_
  refine i_put (k := 58) dX12_init_344 g_X12_134 (fun q => ⟨rfl, rfl⟩) (Nat.le_of_ble_eq_true rfl) ?_
  refine i_aload0 dX12_init_347 ?_
  refine i_bipush dX12_init_348 (by decide) ?_
  refine i_newaI (n := 43) (cl := 42) (sl := 6934) (N := 6) dX12_init_350 (by decide) (by decide) (Nat.le_of_ble_eq_true rfl) ⟨Nat.le_of_ble_eq_true rfl, Nat.le_of_ble_eq_true rfl⟩ ?_
  refine i_put (k := 59) dX12_init_352 g_X12_137 (fun q => ⟨rfl, rfl⟩) (Nat.le_of_ble_eq_true rfl) ?_
  refine i_aload0 dX12_init_355 ?_
  refine i_bipush dX12_init_356 (by decide) ?_
  refine i_newaI (n := 44) (cl := 43) (sl := 6940) (N := 6) dX12_init_358 (by decide) (by decide) (Nat.le_of_ble_eq_true rfl) ⟨Nat.le_of_ble_eq_true rfl, Nat.le_of_ble_eq_true rfl⟩ ?_
  refine i_put (k := 60) dX12_init_360 g_X12_140 (fun q => ⟨rfl, rfl⟩) (Nat.le_of_ble_eq_true rfl) ?_
  refine i_aload0 dX12_init_363 ?_
  refine i_bipush dX12_init_364 (by decide) ?_
  refine i_newaI (n := 45) (cl := 44) (sl := 6946) (N := 6) dX12_init_366 (by decide) (by decide) (Nat.le_of_ble_eq_true rfl) ⟨Nat.le_of_ble_eq_true rfl, Nat.le_of_ble_eq_true rfl⟩ ?_
  refine i_put (k := 61) dX12_init_368 g_X12_143 (fun q => ⟨rfl, rfl⟩) (Nat.le_of_ble_eq_true rfl) ?_
  refine i_norm (fs2 := fun q => [.ref (q 1), .ref (q 2), .ref (q 3), .ref (q 4), .ref (q 5), .ref (q 6), .ref (q 7), .ref (q 8), .ref (q 9), .ref (q 10), .ref (q 11), .int (Int32.ofInt 0), .ref (q 12), .int (Int32.ofInt 0), .int (Int32.ofInt 0), .int (Int32.ofInt 0), .int (Int32.ofInt 0), .int (Int32.ofInt 0), .int (Int32.ofInt 0), .int (Int32.ofInt 0), .int (Int32.ofInt 0), .int (Int32.ofInt 0), .int (Int32.ofInt 0), .ref (q 13), .ref (q 14), .ref (q 15), .ref (q 16), .ref (q 17), .ref (q 18), .ref (q 19), .ref (q 20), .ref (q 21), .ref (q 22), .ref (q 23), .ref (q 24), .ref (q 25), .ref (q 26), .ref (q 27), .ref (q 28), .ref (q 29), .ref (q 30), .ref (q 31), .ref (q 32), .int (Int32.ofInt 0), .int (Int32.ofInt 0), .ref (q 33), .ref (q 34), .int (Int32.ofInt 0), .int (Int32.ofInt 0), .ref (q 35), .ref (q 36), .ref (q 37), .int (Int32.ofInt 0), .ref (q 38), .ref (q 39), .int (Int32.ofInt 0), .ref (q 40), .ref (q 41), .ref (q 42), .ref (q 43), .ref (q 44), .ref (q 45), .null, .null, .int (Int32.ofInt 0), .int (Int32.ofInt 0)]) (rest2 := fun q => [.inl (cI, 82, .inl (fun _ => Int32.ofInt 0)), .inl (cI, 82, .inl (fun _ => Int32.ofInt 0)), .inl (cI, 82, .inl (fun _ => Int32.ofInt 0)), .inl (cI, 16, .inl (fun _ => Int32.ofInt 0)), .inl (cI, 16, .inl (fun _ => Int32.ofInt 0)), .inl (cI, 16, .inl (fun _ => Int32.ofInt 0)), .inl (cI, 16, .inl (fun _ => Int32.ofInt 0)), .inl (cI, 16, .inl (fun _ => Int32.ofInt 0)), .inl (cI, 16, .inl (fun _ => Int32.ofInt 0)), .inl (cI, 16, .inl (fun _ => Int32.ofInt 0)), .inl (cI, 16, .inl (fun _ => Int32.ofInt 0)), .inl (cB, 260, .inl (fun _ => Int32.ofInt 0)), .inl (cI, 260, .inl (fun _ => Int32.ofInt 0)), .inl (cI, 260, .inl (fun _ => Int32.ofInt 0)), .inl (cI, 16, .inl (fun _ => Int32.ofInt 0)), .inl (cI, 16, .inl (fun _ => Int32.ofInt 0)), .inl (cI, 16, .inl (fun _ => Int32.ofInt 0)), .inl (cI, 16, .inl (fun _ => Int32.ofInt 0)), .inl (cI, 260, .inl (fun _ => Int32.ofInt 0)), .inl (cI, 16, .inl (fun _ => Int32.ofInt 0)), .inl (cI, 16, .inl (fun _ => Int32.ofInt 0)), .inl (cI, 16, .inl (fun _ => Int32.ofInt 0)), .inl (cI, 16, .inl (fun _ => Int32.ofInt 0)), .inl (cI, 260, .inl (fun _ => Int32.ofInt 0)), .inl (cI, 11, .inl (fun _ => Int32.ofInt 0)), .inl (cI, 16, .inl (fun _ => Int32.ofInt 0)), .inl (cI, 16, .inl (fun _ => Int32.ofInt 0)), .inl (cI, 16, .inl (fun _ => Int32.ofInt 0)), .inl (cI, 16, .inl (fun _ => Int32.ofInt 0)), .inl (cI, 16, .inl (fun _ => Int32.ofInt 0)), .inl (cI, 16, .inl (fun _ => Int32.ofInt 0)), .inl (cI, 16, .inl (fun _ => Int32.ofInt 0)), .inl (cI, 32, .inl (fun _ => Int32.ofInt 0)), .inl (cI, 34, .inl (fun _ => Int32.ofInt 0)), .inl (cI, 32, .inl (fun _ => Int32.ofInt 0)), .inl (cI, 4608, .inl (fun _ => Int32.ofInt 0)), .inl (cI, 9, .inl (fun _ => Int32.ofInt 0)), .inl (cI, 16, .inl (fun _ => Int32.ofInt 0)), .inl (cI, 128, .inl (fun _ => Int32.ofInt 0)), .inl (cI, 72, .inl (fun _ => Int32.ofInt 0)), .inl (cI, 72, .inl (fun _ => Int32.ofInt 0)), .inl (cI, 6, .inl (fun _ => Int32.ofInt 0)), .inl (cI, 6, .inl (fun _ => Int32.ofInt 0)), .inl (cI, 6, .inl (fun _ => Int32.ofInt 0)), .inl (cI, 6, .inl (fun _ => Int32.ofInt 0))]) (fun q => rfl) (fun q => rfl) ?_
  refine i_aload0 dX12_init_371 ?_
  refine i_bipush dX12_init_372 (by decide) ?_
  refine i_newaI (n := 46) (cl := 45) (sl := 6952) (N := 10) dX12_init_374 (by decide) (by decide) (Nat.le_of_ble_eq_true rfl) ⟨Nat.le_of_ble_eq_true rfl, Nat.le_of_ble_eq_true rfl⟩ ?_
  refine i_put (k := 62) dX12_init_376 g_X12_146 (fun q => ⟨rfl, rfl⟩) (Nat.le_of_ble_eq_true rfl) ?_
  refine i_aload0 dX12_init_379 ?_
  refine i_sipush dX12_init_380 (by decide) ?_
  refine i_newaI (n := 47) (cl := 46) (sl := 6962) (N := 1024) dX12_init_383 (by decide) (by decide) (Nat.le_of_ble_eq_true rfl) ⟨Nat.le_of_ble_eq_true rfl, Nat.le_of_ble_eq_true rfl⟩ ?_
  refine i_put (k := 63) dX12_init_385 g_X12_149 (fun q => ⟨rfl, rfl⟩) (Nat.le_of_ble_eq_true rfl) ?_
  refine i_aload0 dX12_init_388 ?_
  refine i_get (k := 0) (j := 1) dX12_init_389 g_X12_7 (fun q => rfl) (Nat.le_of_ble_eq_true rfl) ?_
  refine i_bipush dX12_init_392 (by decide) ?_
  refine i_iconst dX12_init_394 ?_
  refine i_iast (N := 82) dX12_init_395 (fun q => rfl) (cn_in (x := 81) (by unfold cn; omega) (by omega) (by omega)) f77 ?_
  exact i_ret dX12_init_396 (fun q => rfl)
