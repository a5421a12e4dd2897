theorem mem_places {ws big : List Cond} (ps : List Nat) (h : ws = ps.filterMap (fun i => big[i]?)) : ∀ w ∈ ws, w ∈ big := by
  intro w hw
  rw [h] at hw
  obtain ⟨i, -, hi⟩ := List.mem_filterMap.mp hw
  exact List.mem_of_getElem? hi
theorem memG_places {ws : List Cond} (ps : List Nat) (h : ws = ps.filterMap (fun i => lw_tbl[i]?)) (hg : ws.all goodWord = true) : ∀ w ∈ ws, w ∈ lwg := fun w hw => lwg_of (mem_places ps h w hw) (List.all_eq_true.mp hg w hw)
theorem inGX0 : ∀ w ∈ u_ws RX0 TX0 2, w ∈ lwg := memG_places [228, 230] (by decide +kernel) (by decide +kernel)
theorem inGX1 : ∀ w ∈ u_ws RX1 TX1 9, w ∈ lwg := memG_places [198, 200, 202, 204, 206, 208, 210, 212, 214] (by decide +kernel) (by decide +kernel)
theorem inGX2 : ∀ w ∈ u_ws RX2 TX2 5, w ∈ lwg := memG_places [363, 365, 367, 369, 371] (by decide +kernel) (by decide +kernel)
theorem inGX3 : ∀ w ∈ u_ws RX3 TX3 9, w ∈ lwg := memG_places [255, 257, 259, 261, 263, 265, 267, 269, 271] (by decide +kernel) (by decide +kernel)
theorem inGX4 : ∀ w ∈ u_ws RX4 TX4 2, w ∈ lwg := memG_places [285, 287] (by decide +kernel) (by decide +kernel)
theorem inGX5 : ∀ w ∈ u_ws RX5 TX5 7, w ∈ lwg := memG_places [430, 432, 434, 436, 438, 440, 442] (by decide +kernel) (by decide +kernel)
theorem inGX6 : ∀ w ∈ u_ws RX6 TX6 6, w ∈ lwg := memG_places [388, 390, 392, 394, 396, 398] (by decide +kernel) (by decide +kernel)
theorem inGX7 : ∀ w ∈ u_ws RX7 TX7 3, w ∈ lwg := memG_places [410, 412, 414] (by decide +kernel) (by decide +kernel)
theorem inGX8 : ∀ w ∈ u_ws RX8 TX8 7, w ∈ lwg := memG_places [319, 321, 323, 325, 327, 329, 331] (by decide +kernel) (by decide +kernel)
theorem inGX9 : ∀ w ∈ u_ws RX9 TX9 5, w ∈ lwg := memG_places [140, 142, 144, 146, 148] (by decide +kernel) (by decide +kernel)
theorem inGX10 : ∀ w ∈ u_ws RX10 TX10 3, w ∈ lwg := memG_places [343, 345, 347] (by decide +kernel) (by decide +kernel)
theorem inGX11 : ∀ w ∈ u_ws RX11 TX11 15, w ∈ lwg := memG_places [460, 462, 464, 466, 468, 470, 472, 474, 476, 478, 480, 482, 484, 486, 488] (by decide +kernel) (by decide +kernel)
theorem inGX12 : ∀ w ∈ u_ws RX12 TX12 66, w ∈ lwg := memG_places [1185, 1187, 1189, 1191, 1193, 1195, 1197, 1199, 1201, 1203, 1205, 1207, 1209, 1211, 1213, 1215, 1217, 1219, 1221, 1223, 1225, 1227, 1229, 1231, 1233, 1235, 1237, 1239, 1241, 1243, 1245, 1247, 1249, 1251, 1253, 1255, 1257, 1259, 1261, 1263, 1265, 1267, 1269, 1271, 1273, 1275, 1277, 1279, 1281, 1283, 1285, 1287, 1289, 1291, 1293, 1295, 1297, 1299, 1301, 1303, 1305, 1307, 1309, 1311, 1313, 1315] (by decide +kernel) (by decide +kernel)
theorem f_X11_10 : FOK RX11 10 11 0 true (.object "GrownInitials$Tape") := ⟨RX11, TX11, 15, tyX11, rfl, by decide, inGX11, tyX11_ok, nmX11, Or.inl (lwg_of (List.mem_of_getElem? (i := 445) (by decide +kernel)) (by decide +kernel)), rfl, rfl⟩
theorem f_X11_19 : FOK RX11 19 11 1 true (.object "GrownInitials$Cuts") := ⟨RX11, TX11, 15, tyX11, rfl, by decide, inGX11, tyX11_ok, nmX11, Or.inl (lwg_of (List.mem_of_getElem? (i := 446) (by decide +kernel)) (by decide +kernel)), rfl, rfl⟩
theorem f_X11_28 : FOK RX11 28 11 2 true (.object "GrownInitials$BarkReader") := ⟨RX11, TX11, 15, tyX11, rfl, by decide, inGX11, tyX11_ok, nmX11, Or.inl (lwg_of (List.mem_of_getElem? (i := 447) (by decide +kernel)) (by decide +kernel)), rfl, rfl⟩
theorem f_X11_35 : FOK RX11 35 11 3 true (.object "GrownInitials$Law") := ⟨RX11, TX11, 15, tyX11, rfl, by decide, inGX11, tyX11_ok, nmX11, Or.inl (lwg_of (List.mem_of_getElem? (i := 448) (by decide +kernel)) (by decide +kernel)), rfl, rfl⟩
theorem f_X11_42 : FOK RX11 42 11 4 true (.object "GrownInitials$LawReader") := ⟨RX11, TX11, 15, tyX11, rfl, by decide, inGX11, tyX11_ok, nmX11, Or.inl (lwg_of (List.mem_of_getElem? (i := 449) (by decide +kernel)) (by decide +kernel)), rfl, rfl⟩
theorem f_X11_49 : FOK RX11 49 11 5 true (.object "GrownInitials$Standing") := ⟨RX11, TX11, 15, tyX11, rfl, by decide, inGX11, tyX11_ok, nmX11, Or.inl (lwg_of (List.mem_of_getElem? (i := 450) (by decide +kernel)) (by decide +kernel)), rfl, rfl⟩
theorem f_X11_53 : FOK RX11 53 11 6 true (.object "GrownInitials$Standing") := ⟨RX11, TX11, 15, tyX11, rfl, by decide, inGX11, tyX11_ok, nmX11, Or.inl (lwg_of (List.mem_of_getElem? (i := 451) (by decide +kernel)) (by decide +kernel)), rfl, rfl⟩
theorem f_X11_56 : FOK RX11 56 11 7 true (.object "GrownInitials$Standing") := ⟨RX11, TX11, 15, tyX11, rfl, by decide, inGX11, tyX11_ok, nmX11, Or.inl (lwg_of (List.mem_of_getElem? (i := 452) (by decide +kernel)) (by decide +kernel)), rfl, rfl⟩
theorem f_X11_64 : FOK RX11 64 11 8 true (.object "GrownInitials$Walk") := ⟨RX11, TX11, 15, tyX11, rfl, by decide, inGX11, tyX11_ok, nmX11, Or.inl (lwg_of (List.mem_of_getElem? (i := 453) (by decide +kernel)) (by decide +kernel)), rfl, rfl⟩
theorem f_X11_71 : FOK RX11 71 11 9 true (.object "GrownInitials$Grove") := ⟨RX11, TX11, 15, tyX11, rfl, by decide, inGX11, tyX11_ok, nmX11, Or.inl (lwg_of (List.mem_of_getElem? (i := 454) (by decide +kernel)) (by decide +kernel)), rfl, rfl⟩
theorem f_X11_78 : FOK RX11 78 11 10 true (.object "GrownInitials$Rows") := ⟨RX11, TX11, 15, tyX11, rfl, by decide, inGX11, tyX11_ok, nmX11, Or.inl (lwg_of (List.mem_of_getElem? (i := 455) (by decide +kernel)) (by decide +kernel)), rfl, rfl⟩
theorem f_X11_85 : FOK RX11 85 11 11 true (.object "GrownInitials$Spelling") := ⟨RX11, TX11, 15, tyX11, rfl, by decide, inGX11, tyX11_ok, nmX11, Or.inl (lwg_of (List.mem_of_getElem? (i := 456) (by decide +kernel)) (by decide +kernel)), rfl, rfl⟩
theorem f_X11_92 : FOK RX11 92 11 12 true (.object "GrownInitials$Matches") := ⟨RX11, TX11, 15, tyX11, rfl, by decide, inGX11, tyX11_ok, nmX11, Or.inl (lwg_of (List.mem_of_getElem? (i := 457) (by decide +kernel)) (by decide +kernel)), rfl, rfl⟩
theorem f_X11_96 : FOK RX11 96 11 13 false (.boolean) := ⟨RX11, TX11, 15, tyX11, rfl, by decide, inGX11, tyX11_ok, nmX11, Or.inl (lwg_of (List.mem_of_getElem? (i := 458) (by decide +kernel)) (by decide +kernel)), rfl, rfl⟩
theorem f_X11_100 : FOK RX11 100 11 14 false (.int) := ⟨RX11, TX11, 15, tyX11, rfl, by decide, inGX11, tyX11_ok, nmX11, Or.inl (lwg_of (List.mem_of_getElem? (i := 459) (by decide +kernel)) (by decide +kernel)), rfl, rfl⟩
theorem f_X11_114 : FOK RX11 114 1 7 true (.array .int) := ⟨RX1, TX1, 9, tyX1, rfl, by decide, inGX1, tyX1_ok, nmX1, Or.inr ⟨"GrownInitials", List.mem_of_getElem? (i := 187) (by decide +kernel)⟩, rfl, rfl⟩
theorem f_X11_118 : FOK RX11 118 9 1 false (.int) := ⟨RX9, TX9, 5, tyX9, rfl, by decide, inGX9, tyX9_ok, nmX9, Or.inr ⟨"GrownInitials", List.mem_of_getElem? (i := 134) (by decide +kernel)⟩, rfl, rfl⟩
theorem f_X11_132 : FOK RX11 132 4 1 true (.object "GrownInitials$Law") := ⟨RX4, TX4, 2, tyX4, rfl, by decide, inGX4, tyX4_ok, nmX4, Or.inr ⟨"GrownInitials", List.mem_of_getElem? (i := 284) (by decide +kernel)⟩, rfl, rfl⟩
theorem f_X11_140 : FOK RX11 140 0 1 true (.object "GrownInitials$Cuts") := ⟨RX0, TX0, 2, tyX0, rfl, by decide, inGX0, tyX0_ok, nmX0, Or.inr ⟨"GrownInitials", List.mem_of_getElem? (i := 227) (by decide +kernel)⟩, rfl, rfl⟩
theorem f_X11_155 : FOK RX11 155 1 8 false (.int) := ⟨RX1, TX1, 9, tyX1, rfl, by decide, inGX1, tyX1_ok, nmX1, Or.inr ⟨"GrownInitials", List.mem_of_getElem? (i := 197) (by decide +kernel)⟩, rfl, rfl⟩
theorem f_X11_163 : FOK RX11 163 8 1 true (.array .int) := ⟨RX8, TX8, 7, tyX8, rfl, by decide, inGX8, tyX8_ok, nmX8, Or.inr ⟨"GrownInitials", List.mem_of_getElem? (i := 304) (by decide +kernel)⟩, rfl, rfl⟩
theorem f_X11_166 : FOK RX11 166 8 2 true (.array .int) := ⟨RX8, TX8, 7, tyX8, rfl, by decide, inGX8, tyX8_ok, nmX8, Or.inr ⟨"GrownInitials", List.mem_of_getElem? (i := 307) (by decide +kernel)⟩, rfl, rfl⟩
theorem f_X11_169 : FOK RX11 169 8 0 true (.array .int) := ⟨RX8, TX8, 7, tyX8, rfl, by decide, inGX8, tyX8_ok, nmX8, Or.inr ⟨"GrownInitials", List.mem_of_getElem? (i := 300) (by decide +kernel)⟩, rfl, rfl⟩
theorem f_X11_172 : FOK RX11 172 1 0 true (.array .int) := ⟨RX1, TX1, 9, tyX1, rfl, by decide, inGX1, tyX1_ok, nmX1, Or.inr ⟨"GrownInitials", List.mem_of_getElem? (i := 164) (by decide +kernel)⟩, rfl, rfl⟩
theorem f_X11_175 : FOK RX11 175 1 1 true (.array .int) := ⟨RX1, TX1, 9, tyX1, rfl, by decide, inGX1, tyX1_ok, nmX1, Or.inr ⟨"GrownInitials", List.mem_of_getElem? (i := 167) (by decide +kernel)⟩, rfl, rfl⟩
theorem f_X11_178 : FOK RX11 178 1 2 true (.array .int) := ⟨RX1, TX1, 9, tyX1, rfl, by decide, inGX1, tyX1_ok, nmX1, Or.inr ⟨"GrownInitials", List.mem_of_getElem? (i := 170) (by decide +kernel)⟩, rfl, rfl⟩
theorem f_X11_181 : FOK RX11 181 1 3 true (.array .int) := ⟨RX1, TX1, 9, tyX1, rfl, by decide, inGX1, tyX1_ok, nmX1, Or.inr ⟨"GrownInitials", List.mem_of_getElem? (i := 174) (by decide +kernel)⟩, rfl, rfl⟩
theorem f_X11_184 : FOK RX11 184 1 4 true (.array .int) := ⟨RX1, TX1, 9, tyX1, rfl, by decide, inGX1, tyX1_ok, nmX1, Or.inr ⟨"GrownInitials", List.mem_of_getElem? (i := 178) (by decide +kernel)⟩, rfl, rfl⟩
theorem f_X11_187 : FOK RX11 187 1 5 true (.array .int) := ⟨RX1, TX1, 9, tyX1, rfl, by decide, inGX1, tyX1_ok, nmX1, Or.inr ⟨"GrownInitials", List.mem_of_getElem? (i := 182) (by decide +kernel)⟩, rfl, rfl⟩
theorem f_X11_190 : FOK RX11 190 1 6 true (.array .int) := ⟨RX1, TX1, 9, tyX1, rfl, by decide, inGX1, tyX1_ok, nmX1, Or.inr ⟨"GrownInitials", List.mem_of_getElem? (i := 185) (by decide +kernel)⟩, rfl, rfl⟩
theorem f_X11_193 : FOK RX11 193 8 3 true (.array .int) := ⟨RX8, TX8, 7, tyX8, rfl, by decide, inGX8, tyX8_ok, nmX8, Or.inr ⟨"GrownInitials", List.mem_of_getElem? (i := 310) (by decide +kernel)⟩, rfl, rfl⟩
theorem f_X11_196 : FOK RX11 196 8 4 true (.array .int) := ⟨RX8, TX8, 7, tyX8, rfl, by decide, inGX8, tyX8_ok, nmX8, Or.inr ⟨"GrownInitials", List.mem_of_getElem? (i := 313) (by decide +kernel)⟩, rfl, rfl⟩
theorem f_X11_213 : FOK RX11 213 8 5 false (.int) := ⟨RX8, TX8, 7, tyX8, rfl, by decide, inGX8, tyX8_ok, nmX8, Or.inr ⟨"GrownInitials", List.mem_of_getElem? (i := 316) (by decide +kernel)⟩, rfl, rfl⟩
theorem f_X11_240 : FOK RX11 240 2 4 false (.int) := ⟨RX2, TX2, 5, tyX2, rfl, by decide, inGX2, tyX2_ok, nmX2, Or.inr ⟨"GrownInitials", List.mem_of_getElem? (i := 362) (by decide +kernel)⟩, rfl, rfl⟩
theorem f_X11_254 : FOK RX11 254 2 3 false (.int) := ⟨RX2, TX2, 5, tyX2, rfl, by decide, inGX2, tyX2_ok, nmX2, Or.inr ⟨"GrownInitials", List.mem_of_getElem? (i := 360) (by decide +kernel)⟩, rfl, rfl⟩
theorem f_X11_264 : FOK RX11 264 6 4 false (.int) := ⟨RX6, TX6, 6, tyX6, rfl, by decide, inGX6, tyX6_ok, nmX6, Or.inr ⟨"GrownInitials", List.mem_of_getElem? (i := 385) (by decide +kernel)⟩, rfl, rfl⟩
theorem f_X11_267 : FOK RX11 267 6 5 false (.int) := ⟨RX6, TX6, 6, tyX6, rfl, by decide, inGX6, tyX6_ok, nmX6, Or.inr ⟨"GrownInitials", List.mem_of_getElem? (i := 387) (by decide +kernel)⟩, rfl, rfl⟩
theorem f_X11_297 : FOK RX11 297 8 6 false (.int) := ⟨RX8, TX8, 7, tyX8, rfl, by decide, inGX8, tyX8_ok, nmX8, Or.inr ⟨"GrownInitials", List.mem_of_getElem? (i := 318) (by decide +kernel)⟩, rfl, rfl⟩
theorem f_X11_306 : FOK RX11 306 3 6 false (.int) := ⟨RX3, TX3, 9, tyX3, rfl, by decide, inGX3, tyX3_ok, nmX3, Or.inr ⟨"GrownInitials", List.mem_of_getElem? (i := 251) (by decide +kernel)⟩, rfl, rfl⟩
theorem f_X0_9 : FOK RX0 9 0 0 true (.object "GrownInitials$Tape") := ⟨RX0, TX0, 2, tyX0, rfl, by decide, inGX0, tyX0_ok, nmX0, Or.inl (lwg_of (List.mem_of_getElem? (i := 225) (by decide +kernel)) (by decide +kernel)), rfl, rfl⟩
theorem f_X0_18 : FOK RX0 18 0 1 true (.object "GrownInitials$Cuts") := ⟨RX0, TX0, 2, tyX0, rfl, by decide, inGX0, tyX0_ok, nmX0, Or.inl (lwg_of (List.mem_of_getElem? (i := 226) (by decide +kernel)) (by decide +kernel)), rfl, rfl⟩
theorem f_X0_28 : FOK RX0 28 1 8 false (.int) := ⟨RX1, TX1, 9, tyX1, rfl, by decide, inGX1, tyX1_ok, nmX1, Or.inr ⟨"GrownInitials", List.mem_of_getElem? (i := 194) (by decide +kernel)⟩, rfl, rfl⟩
theorem f_X0_51 : FOK RX0 51 9 3 false (.int) := ⟨RX9, TX9, 5, tyX9, rfl, by decide, inGX9, tyX9_ok, nmX9, Or.inr ⟨"GrownInitials", List.mem_of_getElem? (i := 137) (by decide +kernel)⟩, rfl, rfl⟩
theorem f_X0_65 : FOK RX0 65 1 0 true (.array .int) := ⟨RX1, TX1, 9, tyX1, rfl, by decide, inGX1, tyX1_ok, nmX1, Or.inr ⟨"GrownInitials", List.mem_of_getElem? (i := 162) (by decide +kernel)⟩, rfl, rfl⟩
theorem f_X0_69 : FOK RX0 69 1 7 true (.array .int) := ⟨RX1, TX1, 9, tyX1, rfl, by decide, inGX1, tyX1_ok, nmX1, Or.inr ⟨"GrownInitials", List.mem_of_getElem? (i := 188) (by decide +kernel)⟩, rfl, rfl⟩
theorem f_X0_72 : FOK RX0 72 1 4 true (.array .int) := ⟨RX1, TX1, 9, tyX1, rfl, by decide, inGX1, tyX1_ok, nmX1, Or.inr ⟨"GrownInitials", List.mem_of_getElem? (i := 176) (by decide +kernel)⟩, rfl, rfl⟩
theorem f_X0_75 : FOK RX0 75 1 3 true (.array .int) := ⟨RX1, TX1, 9, tyX1, rfl, by decide, inGX1, tyX1_ok, nmX1, Or.inr ⟨"GrownInitials", List.mem_of_getElem? (i := 172) (by decide +kernel)⟩, rfl, rfl⟩
theorem f_X0_78 : FOK RX0 78 1 1 true (.array .int) := ⟨RX1, TX1, 9, tyX1, rfl, by decide, inGX1, tyX1_ok, nmX1, Or.inr ⟨"GrownInitials", List.mem_of_getElem? (i := 166) (by decide +kernel)⟩, rfl, rfl⟩
theorem f_X0_84 : FOK RX0 84 1 2 true (.array .int) := ⟨RX1, TX1, 9, tyX1, rfl, by decide, inGX1, tyX1_ok, nmX1, Or.inr ⟨"GrownInitials", List.mem_of_getElem? (i := 169) (by decide +kernel)⟩, rfl, rfl⟩
theorem f_X0_90 : FOK RX0 90 1 6 true (.array .int) := ⟨RX1, TX1, 9, tyX1, rfl, by decide, inGX1, tyX1_ok, nmX1, Or.inr ⟨"GrownInitials", List.mem_of_getElem? (i := 184) (by decide +kernel)⟩, rfl, rfl⟩
theorem f_X0_96 : FOK RX0 96 1 5 true (.array .int) := ⟨RX1, TX1, 9, tyX1, rfl, by decide, inGX1, tyX1_ok, nmX1, Or.inr ⟨"GrownInitials", List.mem_of_getElem? (i := 180) (by decide +kernel)⟩, rfl, rfl⟩
theorem f_X1_9 : FOK RX1 9 1 0 true (.array .int) := ⟨RX1, TX1, 9, tyX1, rfl, by decide, inGX1, tyX1_ok, nmX1, Or.inl (lwg_of (List.mem_of_getElem? (i := 158) (by decide +kernel)) (by decide +kernel)), rfl, rfl⟩
theorem f_X1_15 : FOK RX1 15 1 1 true (.array .int) := ⟨RX1, TX1, 9, tyX1, rfl, by decide, inGX1, tyX1_ok, nmX1, Or.inl (lwg_of (List.mem_of_getElem? (i := 165) (by decide +kernel)) (by decide +kernel)), rfl, rfl⟩
theorem f_X1_18 : FOK RX1 18 1 2 true (.array .int) := ⟨RX1, TX1, 9, tyX1, rfl, by decide, inGX1, tyX1_ok, nmX1, Or.inl (lwg_of (List.mem_of_getElem? (i := 168) (by decide +kernel)) (by decide +kernel)), rfl, rfl⟩
theorem f_X1_21 : FOK RX1 21 1 3 true (.array .int) := ⟨RX1, TX1, 9, tyX1, rfl, by decide, inGX1, tyX1_ok, nmX1, Or.inl (lwg_of (List.mem_of_getElem? (i := 171) (by decide +kernel)) (by decide +kernel)), rfl, rfl⟩
theorem f_X1_24 : FOK RX1 24 1 4 true (.array .int) := ⟨RX1, TX1, 9, tyX1, rfl, by decide, inGX1, tyX1_ok, nmX1, Or.inl (lwg_of (List.mem_of_getElem? (i := 175) (by decide +kernel)) (by decide +kernel)), rfl, rfl⟩
theorem f_X1_27 : FOK RX1 27 1 5 true (.array .int) := ⟨RX1, TX1, 9, tyX1, rfl, by decide, inGX1, tyX1_ok, nmX1, Or.inl (lwg_of (List.mem_of_getElem? (i := 179) (by decide +kernel)) (by decide +kernel)), rfl, rfl⟩
theorem f_X1_30 : FOK RX1 30 1 6 true (.array .int) := ⟨RX1, TX1, 9, tyX1, rfl, by decide, inGX1, tyX1_ok, nmX1, Or.inl (lwg_of (List.mem_of_getElem? (i := 183) (by decide +kernel)) (by decide +kernel)), rfl, rfl⟩
theorem f_X1_33 : FOK RX1 33 1 7 true (.array .int) := ⟨RX1, TX1, 9, tyX1, rfl, by decide, inGX1, tyX1_ok, nmX1, Or.inl (lwg_of (List.mem_of_getElem? (i := 186) (by decide +kernel)) (by decide +kernel)), rfl, rfl⟩
theorem f_X1_36 : FOK RX1 36 1 8 false (.int) := ⟨RX1, TX1, 9, tyX1, rfl, by decide, inGX1, tyX1_ok, nmX1, Or.inl (lwg_of (List.mem_of_getElem? (i := 190) (by decide +kernel)) (by decide +kernel)), rfl, rfl⟩
theorem f_X2_11 : FOK RX2 11 2 0 true (.array .int) := ⟨RX2, TX2, 5, tyX2, rfl, by decide, inGX2, tyX2_ok, nmX2, Or.inl (lwg_of (List.mem_of_getElem? (i := 356) (by decide +kernel)) (by decide +kernel)), rfl, rfl⟩
theorem f_X2_15 : FOK RX2 15 2 1 true (.array .int) := ⟨RX2, TX2, 5, tyX2, rfl, by decide, inGX2, tyX2_ok, nmX2, Or.inl (lwg_of (List.mem_of_getElem? (i := 357) (by decide +kernel)) (by decide +kernel)), rfl, rfl⟩
theorem f_X2_18 : FOK RX2 18 2 2 true (.array .int) := ⟨RX2, TX2, 5, tyX2, rfl, by decide, inGX2, tyX2_ok, nmX2, Or.inl (lwg_of (List.mem_of_getElem? (i := 358) (by decide +kernel)) (by decide +kernel)), rfl, rfl⟩
theorem f_X2_21 : FOK RX2 21 2 3 false (.int) := ⟨RX2, TX2, 5, tyX2, rfl, by decide, inGX2, tyX2_ok, nmX2, Or.inl (lwg_of (List.mem_of_getElem? (i := 359) (by decide +kernel)) (by decide +kernel)), rfl, rfl⟩
theorem f_X2_25 : FOK RX2 25 2 4 false (.int) := ⟨RX2, TX2, 5, tyX2, rfl, by decide, inGX2, tyX2_ok, nmX2, Or.inl (lwg_of (List.mem_of_getElem? (i := 361) (by decide +kernel)) (by decide +kernel)), rfl, rfl⟩
theorem f_X2_28 : FOK RX2 28 1 8 false (.int) := ⟨RX1, TX1, 9, tyX1, rfl, by decide, inGX1, tyX1_ok, nmX1, Or.inr ⟨"GrownInitials", List.mem_of_getElem? (i := 193) (by decide +kernel)⟩, rfl, rfl⟩
theorem f_X2_31 : FOK RX2 31 1 0 true (.array .int) := ⟨RX1, TX1, 9, tyX1, rfl, by decide, inGX1, tyX1_ok, nmX1, Or.inr ⟨"GrownInitials", List.mem_of_getElem? (i := 159) (by decide +kernel)⟩, rfl, rfl⟩
theorem f_X2_38 : FOK RX2 38 8 0 true (.array .int) := ⟨RX8, TX8, 7, tyX8, rfl, by decide, inGX8, tyX8_ok, nmX8, Or.inr ⟨"GrownInitials", List.mem_of_getElem? (i := 297) (by decide +kernel)⟩, rfl, rfl⟩
theorem f_X2_43 : FOK RX2 43 8 1 true (.array .int) := ⟨RX8, TX8, 7, tyX8, rfl, by decide, inGX8, tyX8_ok, nmX8, Or.inr ⟨"GrownInitials", List.mem_of_getElem? (i := 302) (by decide +kernel)⟩, rfl, rfl⟩
theorem f_X3_9 : FOK RX3 9 3 0 true (.array .int) := ⟨RX3, TX3, 9, tyX3, rfl, by decide, inGX3, tyX3_ok, nmX3, Or.inl (lwg_of (List.mem_of_getElem? (i := 239) (by decide +kernel)) (by decide +kernel)), rfl, rfl⟩
theorem f_X3_13 : FOK RX3 13 3 1 true (.array .int) := ⟨RX3, TX3, 9, tyX3, rfl, by decide, inGX3, tyX3_ok, nmX3, Or.inl (lwg_of (List.mem_of_getElem? (i := 241) (by decide +kernel)) (by decide +kernel)), rfl, rfl⟩
theorem f_X3_16 : FOK RX3 16 3 2 true (.array .int) := ⟨RX3, TX3, 9, tyX3, rfl, by decide, inGX3, tyX3_ok, nmX3, Or.inl (lwg_of (List.mem_of_getElem? (i := 243) (by decide +kernel)) (by decide +kernel)), rfl, rfl⟩
theorem f_X3_19 : FOK RX3 19 3 3 true (.array .int) := ⟨RX3, TX3, 9, tyX3, rfl, by decide, inGX3, tyX3_ok, nmX3, Or.inl (lwg_of (List.mem_of_getElem? (i := 245) (by decide +kernel)) (by decide +kernel)), rfl, rfl⟩
theorem f_X3_22 : FOK RX3 22 3 4 true (.array .int) := ⟨RX3, TX3, 9, tyX3, rfl, by decide, inGX3, tyX3_ok, nmX3, Or.inl (lwg_of (List.mem_of_getElem? (i := 247) (by decide +kernel)) (by decide +kernel)), rfl, rfl⟩
theorem f_X3_25 : FOK RX3 25 3 5 true (.array .int) := ⟨RX3, TX3, 9, tyX3, rfl, by decide, inGX3, tyX3_ok, nmX3, Or.inl (lwg_of (List.mem_of_getElem? (i := 248) (by decide +kernel)) (by decide +kernel)), rfl, rfl⟩
theorem f_X3_28 : FOK RX3 28 3 6 false (.int) := ⟨RX3, TX3, 9, tyX3, rfl, by decide, inGX3, tyX3_ok, nmX3, Or.inl (lwg_of (List.mem_of_getElem? (i := 249) (by decide +kernel)) (by decide +kernel)), rfl, rfl⟩
theorem f_X3_32 : FOK RX3 32 3 7 false (.int) := ⟨RX3, TX3, 9, tyX3, rfl, by decide, inGX3, tyX3_ok, nmX3, Or.inl (lwg_of (List.mem_of_getElem? (i := 252) (by decide +kernel)) (by decide +kernel)), rfl, rfl⟩
theorem f_X3_35 : FOK RX3 35 3 8 false (.boolean) := ⟨RX3, TX3, 9, tyX3, rfl, by decide, inGX3, tyX3_ok, nmX3, Or.inl (lwg_of (List.mem_of_getElem? (i := 254) (by decide +kernel)) (by decide +kernel)), rfl, rfl⟩
theorem f_X4_7 : FOK RX4 7 4 0 true (.object "GrownInitials$Tape") := ⟨RX4, TX4, 2, tyX4, rfl, by decide, inGX4, tyX4_ok, nmX4, Or.inl (lwg_of (List.mem_of_getElem? (i := 282) (by decide +kernel)) (by decide +kernel)), rfl, rfl⟩
theorem f_X4_16 : FOK RX4 16 4 1 true (.object "GrownInitials$Law") := ⟨RX4, TX4, 2, tyX4, rfl, by decide, inGX4, tyX4_ok, nmX4, Or.inl (lwg_of (List.mem_of_getElem? (i := 283) (by decide +kernel)) (by decide +kernel)), rfl, rfl⟩
theorem f_X4_26 : FOK RX4 26 3 6 false (.int) := ⟨RX3, TX3, 9, tyX3, rfl, by decide, inGX3, tyX3_ok, nmX3, Or.inr ⟨"GrownInitials", List.mem_of_getElem? (i := 250) (by decide +kernel)⟩, rfl, rfl⟩
theorem f_X4_30 : FOK RX4 30 3 7 false (.int) := ⟨RX3, TX3, 9, tyX3, rfl, by decide, inGX3, tyX3_ok, nmX3, Or.inr ⟨"GrownInitials", List.mem_of_getElem? (i := 253) (by decide +kernel)⟩, rfl, rfl⟩
theorem f_X4_48 : FOK RX4 48 9 3 false (.int) := ⟨RX9, TX9, 5, tyX9, rfl, by decide, inGX9, tyX9_ok, nmX9, Or.inr ⟨"GrownInitials", List.mem_of_getElem? (i := 138) (by decide +kernel)⟩, rfl, rfl⟩
theorem f_X4_55 : FOK RX4 55 3 0 true (.array .int) := ⟨RX3, TX3, 9, tyX3, rfl, by decide, inGX3, tyX3_ok, nmX3, Or.inr ⟨"GrownInitials", List.mem_of_getElem? (i := 240) (by decide +kernel)⟩, rfl, rfl⟩
theorem f_X4_59 : FOK RX4 59 3 1 true (.array .int) := ⟨RX3, TX3, 9, tyX3, rfl, by decide, inGX3, tyX3_ok, nmX3, Or.inr ⟨"GrownInitials", List.mem_of_getElem? (i := 242) (by decide +kernel)⟩, rfl, rfl⟩
theorem f_X4_65 : FOK RX4 65 3 2 true (.array .int) := ⟨RX3, TX3, 9, tyX3, rfl, by decide, inGX3, tyX3_ok, nmX3, Or.inr ⟨"GrownInitials", List.mem_of_getElem? (i := 244) (by decide +kernel)⟩, rfl, rfl⟩
theorem f_X4_75 : FOK RX4 75 3 3 true (.array .int) := ⟨RX3, TX3, 9, tyX3, rfl, by decide, inGX3, tyX3_ok, nmX3, Or.inr ⟨"GrownInitials", List.mem_of_getElem? (i := 246) (by decide +kernel)⟩, rfl, rfl⟩
theorem f_X5_9 : FOK RX5 9 5 0 true (.array .int) := ⟨RX5, TX5, 7, tyX5, rfl, by decide, inGX5, tyX5_ok, nmX5, Or.inl (lwg_of (List.mem_of_getElem? (i := 423) (by decide +kernel)) (by decide +kernel)), rfl, rfl⟩
theorem f_X5_13 : FOK RX5 13 5 1 true (.array .int) := ⟨RX5, TX5, 7, tyX5, rfl, by decide, inGX5, tyX5_ok, nmX5, Or.inl (lwg_of (List.mem_of_getElem? (i := 424) (by decide +kernel)) (by decide +kernel)), rfl, rfl⟩
theorem f_X5_16 : FOK RX5 16 5 2 true (.array .int) := ⟨RX5, TX5, 7, tyX5, rfl, by decide, inGX5, tyX5_ok, nmX5, Or.inl (lwg_of (List.mem_of_getElem? (i := 425) (by decide +kernel)) (by decide +kernel)), rfl, rfl⟩
theorem f_X5_19 : FOK RX5 19 5 3 true (.array .int) := ⟨RX5, TX5, 7, tyX5, rfl, by decide, inGX5, tyX5_ok, nmX5, Or.inl (lwg_of (List.mem_of_getElem? (i := 426) (by decide +kernel)) (by decide +kernel)), rfl, rfl⟩
theorem f_X5_22 : FOK RX5 22 5 4 true (.array .int) := ⟨RX5, TX5, 7, tyX5, rfl, by decide, inGX5, tyX5_ok, nmX5, Or.inl (lwg_of (List.mem_of_getElem? (i := 427) (by decide +kernel)) (by decide +kernel)), rfl, rfl⟩
theorem f_X5_25 : FOK RX5 25 5 5 true (.array .int) := ⟨RX5, TX5, 7, tyX5, rfl, by decide, inGX5, tyX5_ok, nmX5, Or.inl (lwg_of (List.mem_of_getElem? (i := 428) (by decide +kernel)) (by decide +kernel)), rfl, rfl⟩
theorem f_X5_28 : FOK RX5 28 5 6 false (.int) := ⟨RX5, TX5, 7, tyX5, rfl, by decide, inGX5, tyX5_ok, nmX5, Or.inl (lwg_of (List.mem_of_getElem? (i := 429) (by decide +kernel)) (by decide +kernel)), rfl, rfl⟩
theorem f_X6_11 : FOK RX6 11 6 0 true (.array .int) := ⟨RX6, TX6, 6, tyX6, rfl, by decide, inGX6, tyX6_ok, nmX6, Or.inl (lwg_of (List.mem_of_getElem? (i := 380) (by decide +kernel)) (by decide +kernel)), rfl, rfl⟩
theorem f_X6_15 : FOK RX6 15 6 1 true (.array .int) := ⟨RX6, TX6, 6, tyX6, rfl, by decide, inGX6, tyX6_ok, nmX6, Or.inl (lwg_of (List.mem_of_getElem? (i := 381) (by decide +kernel)) (by decide +kernel)), rfl, rfl⟩
theorem f_X6_18 : FOK RX6 18 6 2 true (.array .int) := ⟨RX6, TX6, 6, tyX6, rfl, by decide, inGX6, tyX6_ok, nmX6, Or.inl (lwg_of (List.mem_of_getElem? (i := 382) (by decide +kernel)) (by decide +kernel)), rfl, rfl⟩
theorem f_X6_21 : FOK RX6 21 6 3 true (.array .int) := ⟨RX6, TX6, 6, tyX6, rfl, by decide, inGX6, tyX6_ok, nmX6, Or.inl (lwg_of (List.mem_of_getElem? (i := 383) (by decide +kernel)) (by decide +kernel)), rfl, rfl⟩
theorem f_X6_24 : FOK RX6 24 6 4 false (.int) := ⟨RX6, TX6, 6, tyX6, rfl, by decide, inGX6, tyX6_ok, nmX6, Or.inl (lwg_of (List.mem_of_getElem? (i := 384) (by decide +kernel)) (by decide +kernel)), rfl, rfl⟩
theorem f_X6_28 : FOK RX6 28 6 5 false (.int) := ⟨RX6, TX6, 6, tyX6, rfl, by decide, inGX6, tyX6_ok, nmX6, Or.inl (lwg_of (List.mem_of_getElem? (i := 386) (by decide +kernel)) (by decide +kernel)), rfl, rfl⟩
theorem f_X6_31 : FOK RX6 31 1 8 false (.int) := ⟨RX1, TX1, 9, tyX1, rfl, by decide, inGX1, tyX1_ok, nmX1, Or.inr ⟨"GrownInitials", List.mem_of_getElem? (i := 192) (by decide +kernel)⟩, rfl, rfl⟩
theorem f_X6_36 : FOK RX6 36 1 0 true (.array .int) := ⟨RX1, TX1, 9, tyX1, rfl, by decide, inGX1, tyX1_ok, nmX1, Or.inr ⟨"GrownInitials", List.mem_of_getElem? (i := 161) (by decide +kernel)⟩, rfl, rfl⟩
theorem f_X7_9 : FOK RX7 9 7 0 true (.array .int) := ⟨RX7, TX7, 3, tyX7, rfl, by decide, inGX7, tyX7_ok, nmX7, Or.inl (lwg_of (List.mem_of_getElem? (i := 407) (by decide +kernel)) (by decide +kernel)), rfl, rfl⟩
theorem f_X7_15 : FOK RX7 15 7 1 true (.array .int) := ⟨RX7, TX7, 3, tyX7, rfl, by decide, inGX7, tyX7_ok, nmX7, Or.inl (lwg_of (List.mem_of_getElem? (i := 408) (by decide +kernel)) (by decide +kernel)), rfl, rfl⟩
theorem f_X7_18 : FOK RX7 18 7 2 false (.int) := ⟨RX7, TX7, 3, tyX7, rfl, by decide, inGX7, tyX7_ok, nmX7, Or.inl (lwg_of (List.mem_of_getElem? (i := 409) (by decide +kernel)) (by decide +kernel)), rfl, rfl⟩
theorem f_X7_28 : FOK RX7 28 1 8 false (.int) := ⟨RX1, TX1, 9, tyX1, rfl, by decide, inGX1, tyX1_ok, nmX1, Or.inr ⟨"GrownInitials", List.mem_of_getElem? (i := 196) (by decide +kernel)⟩, rfl, rfl⟩
theorem f_X7_31 : FOK RX7 31 8 0 true (.array .int) := ⟨RX8, TX8, 7, tyX8, rfl, by decide, inGX8, tyX8_ok, nmX8, Or.inr ⟨"GrownInitials", List.mem_of_getElem? (i := 299) (by decide +kernel)⟩, rfl, rfl⟩
theorem f_X8_9 : FOK RX8 9 8 0 true (.array .int) := ⟨RX8, TX8, 7, tyX8, rfl, by decide, inGX8, tyX8_ok, nmX8, Or.inl (lwg_of (List.mem_of_getElem? (i := 296) (by decide +kernel)) (by decide +kernel)), rfl, rfl⟩
theorem f_X8_15 : FOK RX8 15 8 1 true (.array .int) := ⟨RX8, TX8, 7, tyX8, rfl, by decide, inGX8, tyX8_ok, nmX8, Or.inl (lwg_of (List.mem_of_getElem? (i := 301) (by decide +kernel)) (by decide +kernel)), rfl, rfl⟩
theorem f_X8_18 : FOK RX8 18 8 2 true (.array .int) := ⟨RX8, TX8, 7, tyX8, rfl, by decide, inGX8, tyX8_ok, nmX8, Or.inl (lwg_of (List.mem_of_getElem? (i := 305) (by decide +kernel)) (by decide +kernel)), rfl, rfl⟩
theorem f_X8_21 : FOK RX8 21 8 3 true (.array .int) := ⟨RX8, TX8, 7, tyX8, rfl, by decide, inGX8, tyX8_ok, nmX8, Or.inl (lwg_of (List.mem_of_getElem? (i := 308) (by decide +kernel)) (by decide +kernel)), rfl, rfl⟩
theorem f_X8_24 : FOK RX8 24 8 4 true (.array .int) := ⟨RX8, TX8, 7, tyX8, rfl, by decide, inGX8, tyX8_ok, nmX8, Or.inl (lwg_of (List.mem_of_getElem? (i := 311) (by decide +kernel)) (by decide +kernel)), rfl, rfl⟩
theorem f_X8_27 : FOK RX8 27 8 5 false (.int) := ⟨RX8, TX8, 7, tyX8, rfl, by decide, inGX8, tyX8_ok, nmX8, Or.inl (lwg_of (List.mem_of_getElem? (i := 314) (by decide +kernel)) (by decide +kernel)), rfl, rfl⟩
theorem f_X8_31 : FOK RX8 31 8 6 false (.int) := ⟨RX8, TX8, 7, tyX8, rfl, by decide, inGX8, tyX8_ok, nmX8, Or.inl (lwg_of (List.mem_of_getElem? (i := 317) (by decide +kernel)) (by decide +kernel)), rfl, rfl⟩
theorem f_X8_34 : FOK RX8 34 1 8 false (.int) := ⟨RX1, TX1, 9, tyX1, rfl, by decide, inGX1, tyX1_ok, nmX1, Or.inr ⟨"GrownInitials", List.mem_of_getElem? (i := 191) (by decide +kernel)⟩, rfl, rfl⟩
theorem f_X8_39 : FOK RX8 39 1 0 true (.array .int) := ⟨RX1, TX1, 9, tyX1, rfl, by decide, inGX1, tyX1_ok, nmX1, Or.inr ⟨"GrownInitials", List.mem_of_getElem? (i := 160) (by decide +kernel)⟩, rfl, rfl⟩
theorem f_X9_11 : FOK RX9 11 9 0 true (.array .int) := ⟨RX9, TX9, 5, tyX9, rfl, by decide, inGX9, tyX9_ok, nmX9, Or.inl (lwg_of (List.mem_of_getElem? (i := 132) (by decide +kernel)) (by decide +kernel)), rfl, rfl⟩
theorem f_X9_15 : FOK RX9 15 9 1 false (.int) := ⟨RX9, TX9, 5, tyX9, rfl, by decide, inGX9, tyX9_ok, nmX9, Or.inl (lwg_of (List.mem_of_getElem? (i := 133) (by decide +kernel)) (by decide +kernel)), rfl, rfl⟩
theorem f_X9_19 : FOK RX9 19 9 2 false (.int) := ⟨RX9, TX9, 5, tyX9, rfl, by decide, inGX9, tyX9_ok, nmX9, Or.inl (lwg_of (List.mem_of_getElem? (i := 135) (by decide +kernel)) (by decide +kernel)), rfl, rfl⟩
theorem f_X9_22 : FOK RX9 22 9 3 false (.int) := ⟨RX9, TX9, 5, tyX9, rfl, by decide, inGX9, tyX9_ok, nmX9, Or.inl (lwg_of (List.mem_of_getElem? (i := 136) (by decide +kernel)) (by decide +kernel)), rfl, rfl⟩
theorem f_X9_25 : FOK RX9 25 9 4 false (.int) := ⟨RX9, TX9, 5, tyX9, rfl, by decide, inGX9, tyX9_ok, nmX9, Or.inl (lwg_of (List.mem_of_getElem? (i := 139) (by decide +kernel)) (by decide +kernel)), rfl, rfl⟩
theorem f_X10_9 : FOK RX10 9 10 0 true (.object "GrownInitials$Cuts") := ⟨RX10, TX10, 3, tyX10, rfl, by decide, inGX10, tyX10_ok, nmX10, Or.inl (lwg_of (List.mem_of_getElem? (i := 340) (by decide +kernel)) (by decide +kernel)), rfl, rfl⟩
theorem f_X10_15 : FOK RX10 15 10 1 true (.object "GrownInitials$Law") := ⟨RX10, TX10, 3, tyX10, rfl, by decide, inGX10, tyX10_ok, nmX10, Or.inl (lwg_of (List.mem_of_getElem? (i := 341) (by decide +kernel)) (by decide +kernel)), rfl, rfl⟩
theorem f_X10_19 : FOK RX10 19 10 2 true (.array .int) := ⟨RX10, TX10, 3, tyX10, rfl, by decide, inGX10, tyX10_ok, nmX10, Or.inl (lwg_of (List.mem_of_getElem? (i := 342) (by decide +kernel)) (by decide +kernel)), rfl, rfl⟩
theorem f_X10_27 : FOK RX10 27 8 5 false (.int) := ⟨RX8, TX8, 7, tyX8, rfl, by decide, inGX8, tyX8_ok, nmX8, Or.inr ⟨"GrownInitials", List.mem_of_getElem? (i := 315) (by decide +kernel)⟩, rfl, rfl⟩
theorem f_X10_32 : FOK RX10 32 1 8 false (.int) := ⟨RX1, TX1, 9, tyX1, rfl, by decide, inGX1, tyX1_ok, nmX1, Or.inr ⟨"GrownInitials", List.mem_of_getElem? (i := 195) (by decide +kernel)⟩, rfl, rfl⟩
theorem f_X10_37 : FOK RX10 37 8 0 true (.array .int) := ⟨RX8, TX8, 7, tyX8, rfl, by decide, inGX8, tyX8_ok, nmX8, Or.inr ⟨"GrownInitials", List.mem_of_getElem? (i := 298) (by decide +kernel)⟩, rfl, rfl⟩
theorem f_X10_66 : FOK RX10 66 8 2 true (.array .int) := ⟨RX8, TX8, 7, tyX8, rfl, by decide, inGX8, tyX8_ok, nmX8, Or.inr ⟨"GrownInitials", List.mem_of_getElem? (i := 306) (by decide +kernel)⟩, rfl, rfl⟩
theorem f_X10_69 : FOK RX10 69 1 3 true (.array .int) := ⟨RX1, TX1, 9, tyX1, rfl, by decide, inGX1, tyX1_ok, nmX1, Or.inr ⟨"GrownInitials", List.mem_of_getElem? (i := 173) (by decide +kernel)⟩, rfl, rfl⟩
theorem f_X10_72 : FOK RX10 72 1 4 true (.array .int) := ⟨RX1, TX1, 9, tyX1, rfl, by decide, inGX1, tyX1_ok, nmX1, Or.inr ⟨"GrownInitials", List.mem_of_getElem? (i := 177) (by decide +kernel)⟩, rfl, rfl⟩
theorem f_X10_75 : FOK RX10 75 1 5 true (.array .int) := ⟨RX1, TX1, 9, tyX1, rfl, by decide, inGX1, tyX1_ok, nmX1, Or.inr ⟨"GrownInitials", List.mem_of_getElem? (i := 181) (by decide +kernel)⟩, rfl, rfl⟩
theorem f_X10_78 : FOK RX10 78 8 3 true (.array .int) := ⟨RX8, TX8, 7, tyX8, rfl, by decide, inGX8, tyX8_ok, nmX8, Or.inr ⟨"GrownInitials", List.mem_of_getElem? (i := 309) (by decide +kernel)⟩, rfl, rfl⟩
theorem f_X10_81 : FOK RX10 81 8 1 true (.array .int) := ⟨RX8, TX8, 7, tyX8, rfl, by decide, inGX8, tyX8_ok, nmX8, Or.inr ⟨"GrownInitials", List.mem_of_getElem? (i := 303) (by decide +kernel)⟩, rfl, rfl⟩
theorem f_X10_98 : FOK RX10 98 8 4 true (.array .int) := ⟨RX8, TX8, 7, tyX8, rfl, by decide, inGX8, tyX8_ok, nmX8, Or.inr ⟨"GrownInitials", List.mem_of_getElem? (i := 312) (by decide +kernel)⟩, rfl, rfl⟩
theorem f_X10_101 : FOK RX10 101 1 0 true (.array .int) := ⟨RX1, TX1, 9, tyX1, rfl, by decide, inGX1, tyX1_ok, nmX1, Or.inr ⟨"GrownInitials", List.mem_of_getElem? (i := 163) (by decide +kernel)⟩, rfl, rfl⟩
theorem f_X10_104 : FOK RX10 104 1 7 true (.array .int) := ⟨RX1, TX1, 9, tyX1, rfl, by decide, inGX1, tyX1_ok, nmX1, Or.inr ⟨"GrownInitials", List.mem_of_getElem? (i := 189) (by decide +kernel)⟩, rfl, rfl⟩
theorem f_X12_7 : FOK RX12 7 12 0 true (.array .int) := ⟨RX12, TX12, 66, tyX12, rfl, by decide, inGX12, tyX12_ok, nmX12, Or.inl (lwg_of (List.mem_of_getElem? (i := 1119) (by decide +kernel)) (by decide +kernel)), rfl, rfl⟩
theorem f_X12_13 : FOK RX12 13 12 1 true (.array .int) := ⟨RX12, TX12, 66, tyX12, rfl, by decide, inGX12, tyX12_ok, nmX12, Or.inl (lwg_of (List.mem_of_getElem? (i := 1120) (by decide +kernel)) (by decide +kernel)), rfl, rfl⟩
theorem f_X12_16 : FOK RX12 16 12 2 true (.array .int) := ⟨RX12, TX12, 66, tyX12, rfl, by decide, inGX12, tyX12_ok, nmX12, Or.inl (lwg_of (List.mem_of_getElem? (i := 1121) (by decide +kernel)) (by decide +kernel)), rfl, rfl⟩
theorem f_X12_19 : FOK RX12 19 12 3 true (.array .int) := ⟨RX12, TX12, 66, tyX12, rfl, by decide, inGX12, tyX12_ok, nmX12, Or.inl (lwg_of (List.mem_of_getElem? (i := 1122) (by decide +kernel)) (by decide +kernel)), rfl, rfl⟩
theorem f_X12_22 : FOK RX12 22 12 4 true (.array .int) := ⟨RX12, TX12, 66, tyX12, rfl, by decide, inGX12, tyX12_ok, nmX12, Or.inl (lwg_of (List.mem_of_getElem? (i := 1123) (by decide +kernel)) (by decide +kernel)), rfl, rfl⟩
theorem f_X12_25 : FOK RX12 25 12 5 true (.array .int) := ⟨RX12, TX12, 66, tyX12, rfl, by decide, inGX12, tyX12_ok, nmX12, Or.inl (lwg_of (List.mem_of_getElem? (i := 1124) (by decide +kernel)) (by decide +kernel)), rfl, rfl⟩
theorem f_X12_28 : FOK RX12 28 12 6 true (.array .int) := ⟨RX12, TX12, 66, tyX12, rfl, by decide, inGX12, tyX12_ok, nmX12, Or.inl (lwg_of (List.mem_of_getElem? (i := 1125) (by decide +kernel)) (by decide +kernel)), rfl, rfl⟩
theorem f_X12_31 : FOK RX12 31 12 7 true (.array .int) := ⟨RX12, TX12, 66, tyX12, rfl, by decide, inGX12, tyX12_ok, nmX12, Or.inl (lwg_of (List.mem_of_getElem? (i := 1126) (by decide +kernel)) (by decide +kernel)), rfl, rfl⟩
theorem f_X12_34 : FOK RX12 34 12 8 true (.array .int) := ⟨RX12, TX12, 66, tyX12, rfl, by decide, inGX12, tyX12_ok, nmX12, Or.inl (lwg_of (List.mem_of_getElem? (i := 1127) (by decide +kernel)) (by decide +kernel)), rfl, rfl⟩
theorem f_X12_37 : FOK RX12 37 12 9 true (.array .int) := ⟨RX12, TX12, 66, tyX12, rfl, by decide, inGX12, tyX12_ok, nmX12, Or.inl (lwg_of (List.mem_of_getElem? (i := 1128) (by decide +kernel)) (by decide +kernel)), rfl, rfl⟩
theorem f_X12_40 : FOK RX12 40 12 10 true (.array .int) := ⟨RX12, TX12, 66, tyX12, rfl, by decide, inGX12, tyX12_ok, nmX12, Or.inl (lwg_of (List.mem_of_getElem? (i := 1129) (by decide +kernel)) (by decide +kernel)), rfl, rfl⟩
theorem f_X12_43 : FOK RX12 43 12 12 true (.array .byte) := ⟨RX12, TX12, 66, tyX12, rfl, by decide, inGX12, tyX12_ok, nmX12, Or.inl (lwg_of (List.mem_of_getElem? (i := 1131) (by decide +kernel)) (by decide +kernel)), rfl, rfl⟩
theorem f_X12_47 : FOK RX12 47 12 23 true (.array .int) := ⟨RX12, TX12, 66, tyX12, rfl, by decide, inGX12, tyX12_ok, nmX12, Or.inl (lwg_of (List.mem_of_getElem? (i := 1142) (by decide +kernel)) (by decide +kernel)), rfl, rfl⟩
theorem f_X12_50 : FOK RX12 50 12 24 true (.array .int) := ⟨RX12, TX12, 66, tyX12, rfl, by decide, inGX12, tyX12_ok, nmX12, Or.inl (lwg_of (List.mem_of_getElem? (i := 1143) (by decide +kernel)) (by decide +kernel)), rfl, rfl⟩
theorem f_X12_53 : FOK RX12 53 12 25 true (.array .int) := ⟨RX12, TX12, 66, tyX12, rfl, by decide, inGX12, tyX12_ok, nmX12, Or.inl (lwg_of (List.mem_of_getElem? (i := 1144) (by decide +kernel)) (by decide +kernel)), rfl, rfl⟩
theorem f_X12_56 : FOK RX12 56 12 26 true (.array .int) := ⟨RX12, TX12, 66, tyX12, rfl, by decide, inGX12, tyX12_ok, nmX12, Or.inl (lwg_of (List.mem_of_getElem? (i := 1145) (by decide +kernel)) (by decide +kernel)), rfl, rfl⟩
theorem f_X12_59 : FOK RX12 59 12 27 true (.array .int) := ⟨RX12, TX12, 66, tyX12, rfl, by decide, inGX12, tyX12_ok, nmX12, Or.inl (lwg_of (List.mem_of_getElem? (i := 1146) (by decide +kernel)) (by decide +kernel)), rfl, rfl⟩
theorem f_X12_62 : FOK RX12 62 12 28 true (.array .int) := ⟨RX12, TX12, 66, tyX12, rfl, by decide, inGX12, tyX12_ok, nmX12, Or.inl (lwg_of (List.mem_of_getElem? (i := 1147) (by decide +kernel)) (by decide +kernel)), rfl, rfl⟩
theorem f_X12_65 : FOK RX12 65 12 29 true (.array .int) := ⟨RX12, TX12, 66, tyX12, rfl, by decide, inGX12, tyX12_ok, nmX12, Or.inl (lwg_of (List.mem_of_getElem? (i := 1148) (by decide +kernel)) (by decide +kernel)), rfl, rfl⟩
theorem f_X12_68 : FOK RX12 68 12 30 true (.array .int) := ⟨RX12, TX12, 66, tyX12, rfl, by decide, inGX12, tyX12_ok, nmX12, Or.inl (lwg_of (List.mem_of_getElem? (i := 1149) (by decide +kernel)) (by decide +kernel)), rfl, rfl⟩
theorem f_X12_71 : FOK RX12 71 12 31 true (.array .int) := ⟨RX12, TX12, 66, tyX12, rfl, by decide, inGX12, tyX12_ok, nmX12, Or.inl (lwg_of (List.mem_of_getElem? (i := 1150) (by decide +kernel)) (by decide +kernel)), rfl, rfl⟩
theorem f_X12_74 : FOK RX12 74 12 32 true (.array .int) := ⟨RX12, TX12, 66, tyX12, rfl, by decide, inGX12, tyX12_ok, nmX12, Or.inl (lwg_of (List.mem_of_getElem? (i := 1151) (by decide +kernel)) (by decide +kernel)), rfl, rfl⟩
theorem f_X12_77 : FOK RX12 77 12 33 true (.array .int) := ⟨RX12, TX12, 66, tyX12, rfl, by decide, inGX12, tyX12_ok, nmX12, Or.inl (lwg_of (List.mem_of_getElem? (i := 1152) (by decide +kernel)) (by decide +kernel)), rfl, rfl⟩
theorem f_X12_80 : FOK RX12 80 12 34 true (.array .int) := ⟨RX12, TX12, 66, tyX12, rfl, by decide, inGX12, tyX12_ok, nmX12, Or.inl (lwg_of (List.mem_of_getElem? (i := 1153) (by decide +kernel)) (by decide +kernel)), rfl, rfl⟩
theorem f_X12_83 : FOK RX12 83 12 35 true (.array .int) := ⟨RX12, TX12, 66, tyX12, rfl, by decide, inGX12, tyX12_ok, nmX12, Or.inl (lwg_of (List.mem_of_getElem? (i := 1154) (by decide +kernel)) (by decide +kernel)), rfl, rfl⟩
theorem f_X12_86 : FOK RX12 86 12 36 true (.array .int) := ⟨RX12, TX12, 66, tyX12, rfl, by decide, inGX12, tyX12_ok, nmX12, Or.inl (lwg_of (List.mem_of_getElem? (i := 1155) (by decide +kernel)) (by decide +kernel)), rfl, rfl⟩
theorem f_X12_89 : FOK RX12 89 12 37 true (.array .int) := ⟨RX12, TX12, 66, tyX12, rfl, by decide, inGX12, tyX12_ok, nmX12, Or.inl (lwg_of (List.mem_of_getElem? (i := 1156) (by decide +kernel)) (by decide +kernel)), rfl, rfl⟩
theorem f_X12_92 : FOK RX12 92 12 38 true (.array .int) := ⟨RX12, TX12, 66, tyX12, rfl, by decide, inGX12, tyX12_ok, nmX12, Or.inl (lwg_of (List.mem_of_getElem? (i := 1157) (by decide +kernel)) (by decide +kernel)), rfl, rfl⟩
theorem f_X12_95 : FOK RX12 95 12 39 true (.array .int) := ⟨RX12, TX12, 66, tyX12, rfl, by decide, inGX12, tyX12_ok, nmX12, Or.inl (lwg_of (List.mem_of_getElem? (i := 1158) (by decide +kernel)) (by decide +kernel)), rfl, rfl⟩
theorem f_X12_98 : FOK RX12 98 12 40 true (.array .int) := ⟨RX12, TX12, 66, tyX12, rfl, by decide, inGX12, tyX12_ok, nmX12, Or.inl (lwg_of (List.mem_of_getElem? (i := 1159) (by decide +kernel)) (by decide +kernel)), rfl, rfl⟩
theorem f_X12_101 : FOK RX12 101 12 41 true (.array .int) := ⟨RX12, TX12, 66, tyX12, rfl, by decide, inGX12, tyX12_ok, nmX12, Or.inl (lwg_of (List.mem_of_getElem? (i := 1160) (by decide +kernel)) (by decide +kernel)), rfl, rfl⟩
theorem f_X12_104 : FOK RX12 104 12 42 true (.array .int) := ⟨RX12, TX12, 66, tyX12, rfl, by decide, inGX12, tyX12_ok, nmX12, Or.inl (lwg_of (List.mem_of_getElem? (i := 1161) (by decide +kernel)) (by decide +kernel)), rfl, rfl⟩
theorem f_X12_107 : FOK RX12 107 12 45 true (.array .int) := ⟨RX12, TX12, 66, tyX12, rfl, by decide, inGX12, tyX12_ok, nmX12, Or.inl (lwg_of (List.mem_of_getElem? (i := 1164) (by decide +kernel)) (by decide +kernel)), rfl, rfl⟩
theorem f_X12_110 : FOK RX12 110 12 46 true (.array .int) := ⟨RX12, TX12, 66, tyX12, rfl, by decide, inGX12, tyX12_ok, nmX12, Or.inl (lwg_of (List.mem_of_getElem? (i := 1165) (by decide +kernel)) (by decide +kernel)), rfl, rfl⟩
theorem f_X12_113 : FOK RX12 113 12 49 true (.array .int) := ⟨RX12, TX12, 66, tyX12, rfl, by decide, inGX12, tyX12_ok, nmX12, Or.inl (lwg_of (List.mem_of_getElem? (i := 1168) (by decide +kernel)) (by decide +kernel)), rfl, rfl⟩
theorem f_X12_116 : FOK RX12 116 12 50 true (.array .int) := ⟨RX12, TX12, 66, tyX12, rfl, by decide, inGX12, tyX12_ok, nmX12, Or.inl (lwg_of (List.mem_of_getElem? (i := 1169) (by decide +kernel)) (by decide +kernel)), rfl, rfl⟩
theorem f_X12_119 : FOK RX12 119 12 51 true (.array .int) := ⟨RX12, TX12, 66, tyX12, rfl, by decide, inGX12, tyX12_ok, nmX12, Or.inl (lwg_of (List.mem_of_getElem? (i := 1170) (by decide +kernel)) (by decide +kernel)), rfl, rfl⟩
theorem f_X12_122 : FOK RX12 122 12 53 true (.array .int) := ⟨RX12, TX12, 66, tyX12, rfl, by decide, inGX12, tyX12_ok, nmX12, Or.inl (lwg_of (List.mem_of_getElem? (i := 1172) (by decide +kernel)) (by decide +kernel)), rfl, rfl⟩
theorem f_X12_125 : FOK RX12 125 12 54 true (.array .int) := ⟨RX12, TX12, 66, tyX12, rfl, by decide, inGX12, tyX12_ok, nmX12, Or.inl (lwg_of (List.mem_of_getElem? (i := 1173) (by decide +kernel)) (by decide +kernel)), rfl, rfl⟩
theorem f_X12_128 : FOK RX12 128 12 56 true (.array .int) := ⟨RX12, TX12, 66, tyX12, rfl, by decide, inGX12, tyX12_ok, nmX12, Or.inl (lwg_of (List.mem_of_getElem? (i := 1175) (by decide +kernel)) (by decide +kernel)), rfl, rfl⟩
theorem f_X12_131 : FOK RX12 131 12 57 true (.array .int) := ⟨RX12, TX12, 66, tyX12, rfl, by decide, inGX12, tyX12_ok, nmX12, Or.inl (lwg_of (List.mem_of_getElem? (i := 1176) (by decide +kernel)) (by decide +kernel)), rfl, rfl⟩
theorem f_X12_134 : FOK RX12 134 12 58 true (.array .int) := ⟨RX12, TX12, 66, tyX12, rfl, by decide, inGX12, tyX12_ok, nmX12, Or.inl (lwg_of (List.mem_of_getElem? (i := 1177) (by decide +kernel)) (by decide +kernel)), rfl, rfl⟩
theorem f_X12_137 : FOK RX12 137 12 59 true (.array .int) := ⟨RX12, TX12, 66, tyX12, rfl, by decide, inGX12, tyX12_ok, nmX12, Or.inl (lwg_of (List.mem_of_getElem? (i := 1178) (by decide +kernel)) (by decide +kernel)), rfl, rfl⟩
theorem f_X12_140 : FOK RX12 140 12 60 true (.array .int) := ⟨RX12, TX12, 66, tyX12, rfl, by decide, inGX12, tyX12_ok, nmX12, Or.inl (lwg_of (List.mem_of_getElem? (i := 1179) (by decide +kernel)) (by decide +kernel)), rfl, rfl⟩
theorem f_X12_143 : FOK RX12 143 12 61 true (.array .int) := ⟨RX12, TX12, 66, tyX12, rfl, by decide, inGX12, tyX12_ok, nmX12, Or.inl (lwg_of (List.mem_of_getElem? (i := 1180) (by decide +kernel)) (by decide +kernel)), rfl, rfl⟩
theorem f_X12_146 : FOK RX12 146 12 62 true (.array .int) := ⟨RX12, TX12, 66, tyX12, rfl, by decide, inGX12, tyX12_ok, nmX12, Or.inl (lwg_of (List.mem_of_getElem? (i := 1181) (by decide +kernel)) (by decide +kernel)), rfl, rfl⟩
theorem f_X12_149 : FOK RX12 149 12 63 true (.array .int) := ⟨RX12, TX12, 66, tyX12, rfl, by decide, inGX12, tyX12_ok, nmX12, Or.inl (lwg_of (List.mem_of_getElem? (i := 1182) (by decide +kernel)) (by decide +kernel)), rfl, rfl⟩
theorem f_X12_152 : FOK RX12 152 12 11 false (.int) := ⟨RX12, TX12, 66, tyX12, rfl, by decide, inGX12, tyX12_ok, nmX12, Or.inl (lwg_of (List.mem_of_getElem? (i := 1130) (by decide +kernel)) (by decide +kernel)), rfl, rfl⟩
theorem f_X12_168 : FOK RX12 168 12 13 false (.int) := ⟨RX12, TX12, 66, tyX12, rfl, by decide, inGX12, tyX12_ok, nmX12, Or.inl (lwg_of (List.mem_of_getElem? (i := 1132) (by decide +kernel)) (by decide +kernel)), rfl, rfl⟩
theorem f_X12_175 : FOK RX12 175 12 14 false (.int) := ⟨RX12, TX12, 66, tyX12, rfl, by decide, inGX12, tyX12_ok, nmX12, Or.inl (lwg_of (List.mem_of_getElem? (i := 1133) (by decide +kernel)) (by decide +kernel)), rfl, rfl⟩
theorem f_X12_178 : FOK RX12 178 12 15 false (.int) := ⟨RX12, TX12, 66, tyX12, rfl, by decide, inGX12, tyX12_ok, nmX12, Or.inl (lwg_of (List.mem_of_getElem? (i := 1134) (by decide +kernel)) (by decide +kernel)), rfl, rfl⟩
theorem f_X12_185 : FOK RX12 185 12 16 false (.int) := ⟨RX12, TX12, 66, tyX12, rfl, by decide, inGX12, tyX12_ok, nmX12, Or.inl (lwg_of (List.mem_of_getElem? (i := 1135) (by decide +kernel)) (by decide +kernel)), rfl, rfl⟩
theorem f_X12_192 : FOK RX12 192 12 17 false (.int) := ⟨RX12, TX12, 66, tyX12, rfl, by decide, inGX12, tyX12_ok, nmX12, Or.inl (lwg_of (List.mem_of_getElem? (i := 1136) (by decide +kernel)) (by decide +kernel)), rfl, rfl⟩
theorem f_X12_199 : FOK RX12 199 12 19 false (.int) := ⟨RX12, TX12, 66, tyX12, rfl, by decide, inGX12, tyX12_ok, nmX12, Or.inl (lwg_of (List.mem_of_getElem? (i := 1138) (by decide +kernel)) (by decide +kernel)), rfl, rfl⟩
theorem f_X12_203 : FOK RX12 203 12 18 false (.int) := ⟨RX12, TX12, 66, tyX12, rfl, by decide, inGX12, tyX12_ok, nmX12, Or.inl (lwg_of (List.mem_of_getElem? (i := 1137) (by decide +kernel)) (by decide +kernel)), rfl, rfl⟩
theorem f_X12_206 : FOK RX12 206 12 20 false (.int) := ⟨RX12, TX12, 66, tyX12, rfl, by decide, inGX12, tyX12_ok, nmX12, Or.inl (lwg_of (List.mem_of_getElem? (i := 1139) (by decide +kernel)) (by decide +kernel)), rfl, rfl⟩
theorem f_X12_253 : FOK RX12 253 12 21 false (.int) := ⟨RX12, TX12, 66, tyX12, rfl, by decide, inGX12, tyX12_ok, nmX12, Or.inl (lwg_of (List.mem_of_getElem? (i := 1140) (by decide +kernel)) (by decide +kernel)), rfl, rfl⟩
theorem f_X12_268 : FOK RX12 268 12 22 false (.int) := ⟨RX12, TX12, 66, tyX12, rfl, by decide, inGX12, tyX12_ok, nmX12, Or.inl (lwg_of (List.mem_of_getElem? (i := 1141) (by decide +kernel)) (by decide +kernel)), rfl, rfl⟩
theorem f_X12_285 : FOK RX12 285 12 43 false (.int) := ⟨RX12, TX12, 66, tyX12, rfl, by decide, inGX12, tyX12_ok, nmX12, Or.inl (lwg_of (List.mem_of_getElem? (i := 1162) (by decide +kernel)) (by decide +kernel)), rfl, rfl⟩
theorem f_X12_312 : FOK RX12 312 12 44 false (.int) := ⟨RX12, TX12, 66, tyX12, rfl, by decide, inGX12, tyX12_ok, nmX12, Or.inl (lwg_of (List.mem_of_getElem? (i := 1163) (by decide +kernel)) (by decide +kernel)), rfl, rfl⟩
theorem f_X12_365 : FOK RX12 365 12 47 false (.int) := ⟨RX12, TX12, 66, tyX12, rfl, by decide, inGX12, tyX12_ok, nmX12, Or.inl (lwg_of (List.mem_of_getElem? (i := 1166) (by decide +kernel)) (by decide +kernel)), rfl, rfl⟩
theorem f_X12_374 : FOK RX12 374 12 48 false (.int) := ⟨RX12, TX12, 66, tyX12, rfl, by decide, inGX12, tyX12_ok, nmX12, Or.inl (lwg_of (List.mem_of_getElem? (i := 1167) (by decide +kernel)) (by decide +kernel)), rfl, rfl⟩
theorem f_X12_393 : FOK RX12 393 12 52 false (.int) := ⟨RX12, TX12, 66, tyX12, rfl, by decide, inGX12, tyX12_ok, nmX12, Or.inl (lwg_of (List.mem_of_getElem? (i := 1171) (by decide +kernel)) (by decide +kernel)), rfl, rfl⟩
theorem f_X12_404 : FOK RX12 404 12 55 false (.int) := ⟨RX12, TX12, 66, tyX12, rfl, by decide, inGX12, tyX12_ok, nmX12, Or.inl (lwg_of (List.mem_of_getElem? (i := 1174) (by decide +kernel)) (by decide +kernel)), rfl, rfl⟩
theorem f_X12_440 : FOK RX12 440 12 64 false (.boolean) := ⟨RX12, TX12, 66, tyX12, rfl, by decide, inGX12, tyX12_ok, nmX12, Or.inl (lwg_of (List.mem_of_getElem? (i := 1183) (by decide +kernel)) (by decide +kernel)), rfl, rfl⟩
theorem f_X12_444 : FOK RX12 444 12 65 false (.int) := ⟨RX12, TX12, 66, tyX12, rfl, by decide, inGX12, tyX12_ok, nmX12, Or.inl (lwg_of (List.mem_of_getElem? (i := 1184) (by decide +kernel)) (by decide +kernel)), rfl, rfl⟩
theorem k_X11_296 : Cond.constant RX11 296 65535 ∈ lwg := lwg_of (List.mem_of_getElem? (i := 1091) (by decide +kernel)) (by decide +kernel)
theorem k_X6_51 : Cond.constant RX6 51 1000000 ∈ lwg := lwg_of (List.mem_of_getElem? (i := 996) (by decide +kernel)) (by decide +kernel)
theorem k_X8_57 : Cond.constant RX8 57 65536 ∈ lwg := lwg_of (List.mem_of_getElem? (i := 775) (by decide +kernel)) (by decide +kernel)
theorem k_X12_202 : Cond.constant RX12 202 1048576 ∈ lwg := lwg_of (List.mem_of_getElem? (i := 1369) (by decide +kernel)) (by decide +kernel)
theorem k_X12_321 : Cond.constant RX12 321 65536 ∈ lwg := lwg_of (List.mem_of_getElem? (i := 1468) (by decide +kernel)) (by decide +kernel)
theorem k_X12_396 : Cond.constant RX12 396 1000000 ∈ lwg := lwg_of (List.mem_of_getElem? (i := 1647) (by decide +kernel)) (by decide +kernel)
theorem k_X12_397 : Cond.constant RX12 397 65535 ∈ lwg := lwg_of (List.mem_of_getElem? (i := 1639) (by decide +kernel)) (by decide +kernel)
theorem k_J11_76 : Cond.constant RJ11 76 56320 ∈ lwg := lwg_of (List.mem_of_getElem? (i := 632) (by decide +kernel)) (by decide +kernel)
theorem k_J11_110 : Cond.constant RJ11 110 55232 ∈ lwg := lwg_of (List.mem_of_getElem? (i := 628) (by decide +kernel)) (by decide +kernel)
theorem k_J6_264 : Cond.constant RJ6 264 65536 ∈ lwg := lwg_of (List.mem_of_getElem? (i := 919) (by decide +kernel)) (by decide +kernel)
theorem k_J6_265 : Cond.constant RJ6 265 1431655765 ∈ lwg := lwg_of (List.mem_of_getElem? (i := 984) (by decide +kernel)) (by decide +kernel)
theorem k_J6_266 : Cond.constant RJ6 266 858993459 ∈ lwg := lwg_of (List.mem_of_getElem? (i := 985) (by decide +kernel)) (by decide +kernel)
theorem k_J6_267 : Cond.constant RJ6 267 252645135 ∈ lwg := lwg_of (List.mem_of_getElem? (i := 986) (by decide +kernel)) (by decide +kernel)
theorem k_J2_227 : Cond.constant RJ2 227 65536 ∈ lwg := lwg_of (List.mem_of_getElem? (i := 589) (by decide +kernel)) (by decide +kernel)
theorem ini_L : Cond.initialized RL ∈ lwg := lwg_of (List.mem_of_getElem? (i := 96) (by decide +kernel)) (by decide +kernel)
theorem ini_X11 : Cond.initialized RX11 ∈ lwg := lwg_of (List.mem_of_getElem? (i := 97) (by decide +kernel)) (by decide +kernel)
theorem ini_X9 : Cond.initialized RX9 ∈ lwg := lwg_of (List.mem_of_getElem? (i := 98) (by decide +kernel)) (by decide +kernel)
theorem ini_X1 : Cond.initialized RX1 ∈ lwg := lwg_of (List.mem_of_getElem? (i := 99) (by decide +kernel)) (by decide +kernel)
theorem ini_X0 : Cond.initialized RX0 ∈ lwg := lwg_of (List.mem_of_getElem? (i := 100) (by decide +kernel)) (by decide +kernel)
theorem ini_X3 : Cond.initialized RX3 ∈ lwg := lwg_of (List.mem_of_getElem? (i := 101) (by decide +kernel)) (by decide +kernel)
theorem ini_X4 : Cond.initialized RX4 ∈ lwg := lwg_of (List.mem_of_getElem? (i := 102) (by decide +kernel)) (by decide +kernel)
theorem ini_X8 : Cond.initialized RX8 ∈ lwg := lwg_of (List.mem_of_getElem? (i := 103) (by decide +kernel)) (by decide +kernel)
theorem ini_X10 : Cond.initialized RX10 ∈ lwg := lwg_of (List.mem_of_getElem? (i := 104) (by decide +kernel)) (by decide +kernel)
theorem ini_X2 : Cond.initialized RX2 ∈ lwg := lwg_of (List.mem_of_getElem? (i := 105) (by decide +kernel)) (by decide +kernel)
theorem ini_X6 : Cond.initialized RX6 ∈ lwg := lwg_of (List.mem_of_getElem? (i := 106) (by decide +kernel)) (by decide +kernel)
theorem ini_X7 : Cond.initialized RX7 ∈ lwg := lwg_of (List.mem_of_getElem? (i := 107) (by decide +kernel)) (by decide +kernel)
theorem ini_X5 : Cond.initialized RX5 ∈ lwg := lwg_of (List.mem_of_getElem? (i := 108) (by decide +kernel)) (by decide +kernel)
theorem ini_X12 : Cond.initialized RX12 ∈ lwg := lwg_of (List.mem_of_getElem? (i := 109) (by decide +kernel)) (by decide +kernel)
theorem ini_J9 : Cond.initialized RJ9 ∈ lwg := lwg_of (List.mem_of_getElem? (i := 110) (by decide +kernel)) (by decide +kernel)
theorem ini_J0 : Cond.initialized RJ0 ∈ lwg := lwg_of (List.mem_of_getElem? (i := 111) (by decide +kernel)) (by decide +kernel)
theorem ini_J1 : Cond.initialized RJ1 ∈ lwg := lwg_of (List.mem_of_getElem? (i := 112) (by decide +kernel)) (by decide +kernel)
theorem ini_J2 : Cond.initialized RJ2 ∈ lwg := lwg_of (List.mem_of_getElem? (i := 113) (by decide +kernel)) (by decide +kernel)
theorem ini_J3 : Cond.initialized RJ3 ∈ lwg := lwg_of (List.mem_of_getElem? (i := 114) (by decide +kernel)) (by decide +kernel)
theorem ini_J11 : Cond.initialized RJ11 ∈ lwg := lwg_of (List.mem_of_getElem? (i := 115) (by decide +kernel)) (by decide +kernel)
theorem ini_J10 : Cond.initialized RJ10 ∈ lwg := lwg_of (List.mem_of_getElem? (i := 116) (by decide +kernel)) (by decide +kernel)
theorem ini_J6 : Cond.initialized RJ6 ∈ lwg := lwg_of (List.mem_of_getElem? (i := 117) (by decide +kernel)) (by decide +kernel)
