/-! the words of our classes, by their places -/
theorem mTp {i : Nat} {q : MethodName × Nat} (h : lw_privs[i]? = some q) : Cond.selects q.1.cls q.1 q.1 ∈ ALL := List.mem_filter.mpr ⟨List.mem_append_left _ (List.mem_map.mpr ⟨q, List.mem_of_getElem? h, rfl⟩), rfl⟩
theorem mTt {w : Cond} (h : w ∈ tables_1) (g : goodWord w = true) : w ∈ ALL := List.mem_filter.mpr ⟨List.mem_append_right _ h, g⟩
theorem mT1 {i : Nat} {w : Cond} (h : tables_1_1[i]? = some w) (g : goodWord w = true) : w ∈ ALL := mTt (show w ∈ tables_1 from List.mem_append_left _ (List.mem_of_getElem? h)) g
theorem mT2 {i : Nat} {w : Cond} (h : tables_1_2[i]? = some w) (g : goodWord w = true) : w ∈ ALL := mTt (show w ∈ tables_1 from List.mem_append_right _ (List.mem_append_left _ (List.mem_of_getElem? h))) g
theorem mT3 {i : Nat} {w : Cond} (h : tables_1_3[i]? = some w) (g : goodWord w = true) : w ∈ ALL := mTt (show w ∈ tables_1 from List.mem_append_right _ (List.mem_append_right _ (List.mem_append_left _ (List.mem_of_getElem? h)))) g
theorem mT4 {i : Nat} {w : Cond} (h : tables_1_4[i]? = some w) (g : goodWord w = true) : w ∈ ALL := mTt (show w ∈ tables_1 from List.mem_append_right _ (List.mem_append_right _ (List.mem_append_right _ (List.mem_append_left _ (List.mem_of_getElem? h))))) g
theorem mT5 {i : Nat} {w : Cond} (h : tables_1_5[i]? = some w) (g : goodWord w = true) : w ∈ ALL := mTt (show w ∈ tables_1 from List.mem_append_right _ (List.mem_append_right _ (List.mem_append_right _ (List.mem_append_right _ (List.mem_append_left _ (List.mem_of_getElem? h)))))) g
theorem mT6 {i : Nat} {w : Cond} (h : tables_1_6[i]? = some w) (g : goodWord w = true) : w ∈ ALL := mTt (show w ∈ tables_1 from List.mem_append_right _ (List.mem_append_right _ (List.mem_append_right _ (List.mem_append_right _ (List.mem_append_right _ (List.mem_append_left _ (List.mem_of_getElem? h))))))) g
theorem mT7 {i : Nat} {w : Cond} (h : tables_1_7[i]? = some w) (g : goodWord w = true) : w ∈ ALL := mTt (show w ∈ tables_1 from List.mem_append_right _ (List.mem_append_right _ (List.mem_append_right _ (List.mem_append_right _ (List.mem_append_right _ (List.mem_append_right _ (List.mem_of_getElem? h))))))) g
theorem CF0 : CF 0 RX0 TX0 10 := by
  refine ⟨rfl, rfl, by decide, ?_, tyX0_ok, nmX0⟩
  intro w hw
  obtain ⟨k, hk, rfl⟩ := List.mem_map.mp hw
  have hk := List.mem_range.mp hk
  have key : ∀ k, k < 10 → lw_tbl[([246, 248, 250, 252, 254, 256, 258, 260, 262, 264] : List Nat).getD k 0]? = some (u_lay RX0 TX0 k) ∧ goodWord (u_lay RX0 TX0 k) = true := by decide +kernel
  exact mALL _ (key k hk).1 (key k hk).2
theorem CF1 : CF 1 RX1 TX1 5 := by
  refine ⟨rfl, rfl, by decide, ?_, tyX1_ok, nmX1⟩
  intro w hw
  obtain ⟨k, hk, rfl⟩ := List.mem_map.mp hw
  have hk := List.mem_range.mp hk
  have key : ∀ k, k < 5 → lw_tbl[([384, 386, 388, 390, 392] : List Nat).getD k 0]? = some (u_lay RX1 TX1 k) ∧ goodWord (u_lay RX1 TX1 k) = true := by decide +kernel
  exact mALL _ (key k hk).1 (key k hk).2
theorem CF2 : CF 2 RX2 TX2 8 := by
  refine ⟨rfl, rfl, by decide, ?_, tyX2_ok, nmX2⟩
  intro w hw
  obtain ⟨k, hk, rfl⟩ := List.mem_map.mp hw
  have hk := List.mem_range.mp hk
  have key : ∀ k, k < 8 → lw_tbl[([133, 135, 137, 139, 141, 143, 145, 147] : List Nat).getD k 0]? = some (u_lay RX2 TX2 k) ∧ goodWord (u_lay RX2 TX2 k) = true := by decide +kernel
  exact mALL _ (key k hk).1 (key k hk).2
theorem CF3 : CF 3 RX3 TX3 13 := by
  refine ⟨rfl, rfl, by decide, ?_, tyX3_ok, nmX3⟩
  intro w hw
  obtain ⟨k, hk, rfl⟩ := List.mem_map.mp hw
  have hk := List.mem_range.mp hk
  have key : ∀ k, k < 13 → lw_tbl[([307, 309, 311, 313, 315, 317, 319, 321, 323, 325, 327, 329, 331] : List Nat).getD k 0]? = some (u_lay RX3 TX3 k) ∧ goodWord (u_lay RX3 TX3 k) = true := by decide +kernel
  exact mALL _ (key k hk).1 (key k hk).2
theorem CF4 : CF 4 RX4 TX4 2 := by
  refine ⟨rfl, rfl, by decide, ?_, tyX4_ok, nmX4⟩
  intro w hw
  obtain ⟨k, hk, rfl⟩ := List.mem_map.mp hw
  have hk := List.mem_range.mp hk
  have key : ∀ k, k < 2 → lw_tbl[([415, 417] : List Nat).getD k 0]? = some (u_lay RX4 TX4 k) ∧ goodWord (u_lay RX4 TX4 k) = true := by decide +kernel
  exact mALL _ (key k hk).1 (key k hk).2
theorem CF5 : CF 5 RX5 TX5 9 := by
  refine ⟨rfl, rfl, by decide, ?_, tyX5_ok, nmX5⟩
  intro w hw
  obtain ⟨k, hk, rfl⟩ := List.mem_map.mp hw
  have hk := List.mem_range.mp hk
  have key : ∀ k, k < 9 → lw_tbl[([210, 212, 214, 216, 218, 220, 222, 224, 226] : List Nat).getD k 0]? = some (u_lay RX5 TX5 k) ∧ goodWord (u_lay RX5 TX5 k) = true := by decide +kernel
  exact mALL _ (key k hk).1 (key k hk).2
theorem CF6 : CF 6 RX6 TX6 7 := by
  refine ⟨rfl, rfl, by decide, ?_, tyX6_ok, nmX6⟩
  intro w hw
  obtain ⟨k, hk, rfl⟩ := List.mem_map.mp hw
  have hk := List.mem_range.mp hk
  have key : ∀ k, k < 7 → lw_tbl[([164, 166, 168, 170, 172, 174, 176] : List Nat).getD k 0]? = some (u_lay RX6 TX6 k) ∧ goodWord (u_lay RX6 TX6 k) = true := by decide +kernel
  exact mALL _ (key k hk).1 (key k hk).2
theorem CF7 : CF 7 RX7 TX7 3 := by
  refine ⟨rfl, rfl, by decide, ?_, tyX7_ok, nmX7⟩
  intro w hw
  obtain ⟨k, hk, rfl⟩ := List.mem_map.mp hw
  have hk := List.mem_range.mp hk
  have key : ∀ k, k < 3 → lw_tbl[([430, 432, 434] : List Nat).getD k 0]? = some (u_lay RX7 TX7 k) ∧ goodWord (u_lay RX7 TX7 k) = true := by decide +kernel
  exact mALL _ (key k hk).1 (key k hk).2
theorem CF8 : CF 8 RX8 TX8 6 := by
  refine ⟨rfl, rfl, by decide, ?_, tyX8_ok, nmX8⟩
  intro w hw
  obtain ⟨k, hk, rfl⟩ := List.mem_map.mp hw
  have hk := List.mem_range.mp hk
  have key : ∀ k, k < 6 → lw_tbl[([353, 355, 357, 359, 361, 363] : List Nat).getD k 0]? = some (u_lay RX8 TX8 k) ∧ goodWord (u_lay RX8 TX8 k) = true := by decide +kernel
  exact mALL _ (key k hk).1 (key k hk).2
theorem CF9 : CF 9 RX9 TX9 15 := by
  refine ⟨rfl, rfl, by decide, ?_, tyX9_ok, nmX9⟩
  intro w hw
  obtain ⟨k, hk, rfl⟩ := List.mem_map.mp hw
  have hk := List.mem_range.mp hk
  have key : ∀ k, k < 15 → lw_tbl[([452, 454, 456, 458, 460, 462, 464, 466, 468, 470, 472, 474, 476, 478, 480] : List Nat).getD k 0]? = some (u_lay RX9 TX9 k) ∧ goodWord (u_lay RX9 TX9 k) = true := by decide +kernel
  exact mALL _ (key k hk).1 (key k hk).2
theorem CF10 : CF 10 RX10 TX10 81 := by
  refine ⟨rfl, rfl, by decide, ?_, tyX10_ok, nmX10⟩
  intro w hw
  obtain ⟨k, hk, rfl⟩ := List.mem_map.mp hw
  have hk := List.mem_range.mp hk
  have key : ∀ k, k < 81 → lw_tbl[([1189, 1191, 1193, 1195, 1197, 1199, 1201, 1203, 1205, 1207, 1209, 1211, 1213, 1215, 1217, 1219, 1221, 1223, 1225, 1227, 1229, 1231, 1233, 1235, 1237, 1239, 1241, 1243, 1245, 1247, 1249, 1251, 1253, 1255, 1257, 1259, 1261, 1263, 1265, 1267, 1269, 1271, 1273, 1275, 1277, 1279, 1281, 1283, 1285, 1287, 1289, 1291, 1293, 1295, 1297, 1299, 1301, 1303, 1305, 1307, 1309, 1311, 1313, 1315, 1317, 1319, 1321, 1323, 1325, 1327, 1329, 1331, 1333, 1335, 1337, 1339, 1341, 1343, 1345, 1347, 1349] : List Nat).getD k 0]? = some (u_lay RX10 TX10 k) ∧ goodWord (u_lay RX10 TX10 k) = true := by decide +kernel
  exact mALL _ (key k hk).1 (key k hk).2
theorem fX0_11 : FW RX0 11 0 0 (.array (.object "LayerBook$Paper")) true := ⟨RX0, TX0, 10, CF0, (mT1 (i := 159) rfl rfl), by decide, rfl, rfl⟩
theorem fX0_17 : FW RX0 17 0 2 .int false := ⟨RX0, TX0, 10, CF0, (mT1 (i := 163) rfl rfl), by decide, rfl, rfl⟩
theorem fX0_21 : FW RX0 21 0 3 .int false := ⟨RX0, TX0, 10, CF0, (mT1 (i := 165) rfl rfl), by decide, rfl, rfl⟩
theorem fX0_28 : FW RX0 28 0 4 .long false := ⟨RX0, TX0, 10, CF0, (mT1 (i := 167) rfl rfl), by decide, rfl, rfl⟩
theorem fX0_32 : FW RX0 32 0 5 .boolean false := ⟨RX0, TX0, 10, CF0, (mT1 (i := 169) rfl rfl), by decide, rfl, rfl⟩
theorem fX0_36 : FW RX0 36 0 6 .int false := ⟨RX0, TX0, 10, CF0, (mT1 (i := 171) rfl rfl), by decide, rfl, rfl⟩
theorem fX0_39 : FW RX0 39 0 7 .long false := ⟨RX0, TX0, 10, CF0, (mT1 (i := 172) rfl rfl), by decide, rfl, rfl⟩
theorem fX0_42 : FW RX0 42 0 8 .long false := ⟨RX0, TX0, 10, CF0, (mT1 (i := 173) rfl rfl), by decide, rfl, rfl⟩
theorem fX0_45 : FW RX0 45 0 9 .long false := ⟨RX0, TX0, 10, CF0, (mT1 (i := 174) rfl rfl), by decide, rfl, rfl⟩
theorem fX0_52 : FW RX0 52 0 1 .int false := ⟨RX0, TX0, 10, CF0, (mT1 (i := 161) rfl rfl), by decide, rfl, rfl⟩
theorem fX0_55 : FW RX0 55 3 6 .long false := ⟨RX3, TX3, 13, CF3, (mT1 (i := 218) rfl rfl), by decide, rfl, rfl⟩
theorem fX0_60 : FW RX0 60 3 8 .long false := ⟨RX3, TX3, 13, CF3, (mT1 (i := 224) rfl rfl), by decide, rfl, rfl⟩
theorem fX0_75 : FW RX0 75 3 5 .long false := ⟨RX3, TX3, 13, CF3, (mT1 (i := 216) rfl rfl), by decide, rfl, rfl⟩
theorem fX0_85 : FW RX0 85 3 7 .long false := ⟨RX3, TX3, 13, CF3, (mT1 (i := 221) rfl rfl), by decide, rfl, rfl⟩
theorem fX0_97 : FW RX0 97 3 12 (.array .long) true := ⟨RX3, TX3, 13, CF3, (mT1 (i := 235) rfl rfl), by decide, rfl, rfl⟩
theorem fX0_101 : FW RX0 101 4 1 .int false := ⟨RX4, TX4, 2, CF4, (mT2 (i := 103) rfl rfl), by decide, rfl, rfl⟩
theorem fX0_104 : FW RX0 104 4 0 (.array (.array .int)) true := ⟨RX4, TX4, 2, CF4, (mT2 (i := 100) rfl rfl), by decide, rfl, rfl⟩
theorem fX0_130 : FW RX0 130 3 9 .int false := ⟨RX3, TX3, 13, CF3, (mT1 (i := 229) rfl rfl), by decide, rfl, rfl⟩
theorem fX0_137 : FW RX0 137 5 2 .long false := ⟨RX5, TX5, 9, CF5, (mT1 (i := 127) rfl rfl), by decide, rfl, rfl⟩
theorem fX0_150 : FW RX0 150 5 8 .long false := ⟨RX5, TX5, 9, CF5, (mT1 (i := 139) rfl rfl), by decide, rfl, rfl⟩
theorem fX0_153 : FW RX0 153 3 1 .long false := ⟨RX3, TX3, 13, CF3, (mT1 (i := 208) rfl rfl), by decide, rfl, rfl⟩
theorem fX1_9 : FW RX1 9 1 0 (.array .int) true := ⟨RX1, TX1, 5, CF1, (mT2 (i := 69) rfl rfl), by decide, rfl, rfl⟩
theorem fX1_15 : FW RX1 15 1 1 (.array .int) true := ⟨RX1, TX1, 5, CF1, (mT2 (i := 70) rfl rfl), by decide, rfl, rfl⟩
theorem fX1_18 : FW RX1 18 1 2 (.array .int) true := ⟨RX1, TX1, 5, CF1, (mT2 (i := 71) rfl rfl), by decide, rfl, rfl⟩
theorem fX1_21 : FW RX1 21 1 3 .int false := ⟨RX1, TX1, 5, CF1, (mT2 (i := 72) rfl rfl), by decide, rfl, rfl⟩
theorem fX1_25 : FW RX1 25 1 4 .int false := ⟨RX1, TX1, 5, CF1, (mT2 (i := 73) rfl rfl), by decide, rfl, rfl⟩
theorem fX1_39 : FW RX1 39 8 2 .int false := ⟨RX8, TX8, 6, CF8, (mT2 (i := 36) rfl rfl), by decide, rfl, rfl⟩
theorem fX1_92 : FW RX1 92 8 3 .int false := ⟨RX8, TX8, 6, CF8, (mT2 (i := 39) rfl rfl), by decide, rfl, rfl⟩
theorem fX1_107 : FW RX1 107 2 2 .int false := ⟨RX2, TX2, 8, CF2, (mT1 (i := 48) rfl rfl), by decide, rfl, rfl⟩
theorem fX1_116 : FW RX1 116 2 4 .long false := ⟨RX2, TX2, 8, CF2, (mT1 (i := 55) rfl rfl), by decide, rfl, rfl⟩
theorem fX1_120 : FW RX1 120 2 1 .long false := ⟨RX2, TX2, 8, CF2, (mT1 (i := 45) rfl rfl), by decide, rfl, rfl⟩
theorem fX1_123 : FW RX1 123 2 0 .int false := ⟨RX2, TX2, 8, CF2, (mT1 (i := 41) rfl rfl), by decide, rfl, rfl⟩
theorem fX10_13 : FW RX10 13 10 3 (.array .int) true := ⟨RX10, TX10, 81, CF10, (mT5 (i := 81) rfl rfl), by decide, rfl, rfl⟩
theorem fX10_17 : FW RX10 17 10 4 (.array .int) true := ⟨RX10, TX10, 81, CF10, (mT5 (i := 82) rfl rfl), by decide, rfl, rfl⟩
theorem fX10_20 : FW RX10 20 10 5 (.array .int) true := ⟨RX10, TX10, 81, CF10, (mT5 (i := 83) rfl rfl), by decide, rfl, rfl⟩
theorem fX10_23 : FW RX10 23 10 6 (.array .int) true := ⟨RX10, TX10, 81, CF10, (mT5 (i := 84) rfl rfl), by decide, rfl, rfl⟩
theorem fX10_26 : FW RX10 26 10 7 (.array .int) true := ⟨RX10, TX10, 81, CF10, (mT5 (i := 85) rfl rfl), by decide, rfl, rfl⟩
theorem fX10_29 : FW RX10 29 10 8 (.array .int) true := ⟨RX10, TX10, 81, CF10, (mT5 (i := 86) rfl rfl), by decide, rfl, rfl⟩
theorem fX10_32 : FW RX10 32 10 9 (.array .int) true := ⟨RX10, TX10, 81, CF10, (mT5 (i := 87) rfl rfl), by decide, rfl, rfl⟩
theorem fX10_35 : FW RX10 35 10 10 (.array .int) true := ⟨RX10, TX10, 81, CF10, (mT5 (i := 88) rfl rfl), by decide, rfl, rfl⟩
theorem fX10_38 : FW RX10 38 10 12 .int false := ⟨RX10, TX10, 81, CF10, (mT5 (i := 90) rfl rfl), by decide, rfl, rfl⟩
theorem fX10_41 : FW RX10 41 10 15 (.array .long) true := ⟨RX10, TX10, 81, CF10, (mT5 (i := 93) rfl rfl), by decide, rfl, rfl⟩
theorem fX10_45 : FW RX10 45 10 16 (.array .long) true := ⟨RX10, TX10, 81, CF10, (mT5 (i := 94) rfl rfl), by decide, rfl, rfl⟩
theorem fX10_48 : FW RX10 48 10 17 (.array .long) true := ⟨RX10, TX10, 81, CF10, (mT5 (i := 95) rfl rfl), by decide, rfl, rfl⟩
theorem fX10_51 : FW RX10 51 10 18 (.array .long) true := ⟨RX10, TX10, 81, CF10, (mT5 (i := 96) rfl rfl), by decide, rfl, rfl⟩
theorem fX10_54 : FW RX10 54 10 19 (.array .long) true := ⟨RX10, TX10, 81, CF10, (mT5 (i := 97) rfl rfl), by decide, rfl, rfl⟩
theorem fX10_57 : FW RX10 57 10 20 (.array .long) true := ⟨RX10, TX10, 81, CF10, (mT5 (i := 98) rfl rfl), by decide, rfl, rfl⟩
theorem fX10_60 : FW RX10 60 10 21 (.array .long) true := ⟨RX10, TX10, 81, CF10, (mT5 (i := 99) rfl rfl), by decide, rfl, rfl⟩
theorem fX10_63 : FW RX10 63 10 22 (.array .long) true := ⟨RX10, TX10, 81, CF10, (mT5 (i := 100) rfl rfl), by decide, rfl, rfl⟩
theorem fX10_66 : FW RX10 66 10 23 (.array .int) true := ⟨RX10, TX10, 81, CF10, (mT5 (i := 101) rfl rfl), by decide, rfl, rfl⟩
theorem fX10_69 : FW RX10 69 10 24 (.array .int) true := ⟨RX10, TX10, 81, CF10, (mT5 (i := 102) rfl rfl), by decide, rfl, rfl⟩
theorem fX10_72 : FW RX10 72 10 25 (.array .int) true := ⟨RX10, TX10, 81, CF10, (mT5 (i := 103) rfl rfl), by decide, rfl, rfl⟩
theorem fX10_75 : FW RX10 75 10 28 (.array .int) true := ⟨RX10, TX10, 81, CF10, (mT5 (i := 106) rfl rfl), by decide, rfl, rfl⟩
theorem fX10_78 : FW RX10 78 10 46 (.array .int) true := ⟨RX10, TX10, 81, CF10, (mT5 (i := 124) rfl rfl), by decide, rfl, rfl⟩
theorem fX10_81 : FW RX10 81 10 47 (.array .int) true := ⟨RX10, TX10, 81, CF10, (mT5 (i := 125) rfl rfl), by decide, rfl, rfl⟩
theorem fX10_84 : FW RX10 84 10 48 (.array .int) true := ⟨RX10, TX10, 81, CF10, (mT5 (i := 126) rfl rfl), by decide, rfl, rfl⟩
theorem fX10_87 : FW RX10 87 10 49 (.array .int) true := ⟨RX10, TX10, 81, CF10, (mT5 (i := 127) rfl rfl), by decide, rfl, rfl⟩
theorem fX10_90 : FW RX10 90 10 50 (.array .int) true := ⟨RX10, TX10, 81, CF10, (mT5 (i := 128) rfl rfl), by decide, rfl, rfl⟩
theorem fX10_93 : FW RX10 93 10 51 (.array .int) true := ⟨RX10, TX10, 81, CF10, (mT5 (i := 129) rfl rfl), by decide, rfl, rfl⟩
theorem fX10_96 : FW RX10 96 10 52 (.array .int) true := ⟨RX10, TX10, 81, CF10, (mT5 (i := 130) rfl rfl), by decide, rfl, rfl⟩
theorem fX10_99 : FW RX10 99 10 54 (.array .long) true := ⟨RX10, TX10, 81, CF10, (mT5 (i := 132) rfl rfl), by decide, rfl, rfl⟩
theorem fX10_102 : FW RX10 102 10 55 (.array .int) true := ⟨RX10, TX10, 81, CF10, (mT5 (i := 133) rfl rfl), by decide, rfl, rfl⟩
theorem fX10_105 : FW RX10 105 10 56 (.array .long) true := ⟨RX10, TX10, 81, CF10, (mT5 (i := 134) rfl rfl), by decide, rfl, rfl⟩
theorem fX10_108 : FW RX10 108 10 57 (.array .long) true := ⟨RX10, TX10, 81, CF10, (mT5 (i := 135) rfl rfl), by decide, rfl, rfl⟩
theorem fX10_111 : FW RX10 111 10 58 (.array .long) true := ⟨RX10, TX10, 81, CF10, (mT5 (i := 136) rfl rfl), by decide, rfl, rfl⟩
theorem fX10_114 : FW RX10 114 10 59 (.array .long) true := ⟨RX10, TX10, 81, CF10, (mT5 (i := 137) rfl rfl), by decide, rfl, rfl⟩
theorem fX10_117 : FW RX10 117 10 60 (.array .long) true := ⟨RX10, TX10, 81, CF10, (mT5 (i := 138) rfl rfl), by decide, rfl, rfl⟩
theorem fX10_120 : FW RX10 120 10 61 (.array .long) true := ⟨RX10, TX10, 81, CF10, (mT5 (i := 139) rfl rfl), by decide, rfl, rfl⟩
theorem fX10_123 : FW RX10 123 10 62 (.array .long) true := ⟨RX10, TX10, 81, CF10, (mT5 (i := 140) rfl rfl), by decide, rfl, rfl⟩
theorem fX10_126 : FW RX10 126 10 63 (.array .int) true := ⟨RX10, TX10, 81, CF10, (mT5 (i := 141) rfl rfl), by decide, rfl, rfl⟩
theorem fX10_129 : FW RX10 129 10 69 .int false := ⟨RX10, TX10, 81, CF10, (mT5 (i := 147) rfl rfl), by decide, rfl, rfl⟩
theorem fX10_132 : FW RX10 132 10 70 .int false := ⟨RX10, TX10, 81, CF10, (mT5 (i := 148) rfl rfl), by decide, rfl, rfl⟩
theorem fX10_135 : FW RX10 135 10 71 (.array .long) true := ⟨RX10, TX10, 81, CF10, (mT5 (i := 149) rfl rfl), by decide, rfl, rfl⟩
theorem fX10_138 : FW RX10 138 10 72 (.array .long) true := ⟨RX10, TX10, 81, CF10, (mT5 (i := 150) rfl rfl), by decide, rfl, rfl⟩
theorem fX10_141 : FW RX10 141 10 73 (.array .boolean) true := ⟨RX10, TX10, 81, CF10, (mT5 (i := 151) rfl rfl), by decide, rfl, rfl⟩
theorem fX10_145 : FW RX10 145 10 74 (.array .long) true := ⟨RX10, TX10, 81, CF10, (mT5 (i := 152) rfl rfl), by decide, rfl, rfl⟩
theorem fX10_148 : FW RX10 148 10 75 (.array .long) true := ⟨RX10, TX10, 81, CF10, (mT5 (i := 153) rfl rfl), by decide, rfl, rfl⟩
theorem fX10_151 : FW RX10 151 10 77 (.array .boolean) true := ⟨RX10, TX10, 81, CF10, (mT5 (i := 155) rfl rfl), by decide, rfl, rfl⟩
theorem fX10_154 : FW RX10 154 10 78 (.array .int) true := ⟨RX10, TX10, 81, CF10, (mT5 (i := 156) rfl rfl), by decide, rfl, rfl⟩
theorem fX10_157 : FW RX10 157 10 79 (.array .int) true := ⟨RX10, TX10, 81, CF10, (mT5 (i := 157) rfl rfl), by decide, rfl, rfl⟩
theorem fX10_160 : FW RX10 160 10 80 (.array .int) true := ⟨RX10, TX10, 81, CF10, (mT5 (i := 158) rfl rfl), by decide, rfl, rfl⟩
theorem fX10_175 : FW RX10 175 10 26 .int false := ⟨RX10, TX10, 81, CF10, (mT5 (i := 104) rfl rfl), by decide, rfl, rfl⟩
theorem fX10_178 : FW RX10 178 10 45 .int false := ⟨RX10, TX10, 81, CF10, (mT5 (i := 123) rfl rfl), by decide, rfl, rfl⟩
theorem fX10_183 : FW RX10 183 10 2 .int false := ⟨RX10, TX10, 81, CF10, (mT5 (i := 80) rfl rfl), by decide, rfl, rfl⟩
theorem fX10_195 : FW RX10 195 10 1 .int false := ⟨RX10, TX10, 81, CF10, (mT5 (i := 79) rfl rfl), by decide, rfl, rfl⟩
theorem fX10_214 : FW RX10 214 10 11 .int false := ⟨RX10, TX10, 81, CF10, (mT5 (i := 89) rfl rfl), by decide, rfl, rfl⟩
theorem fX10_217 : FW RX10 217 10 13 .int false := ⟨RX10, TX10, 81, CF10, (mT5 (i := 91) rfl rfl), by decide, rfl, rfl⟩
theorem fX10_264 : FW RX10 264 10 14 .int false := ⟨RX10, TX10, 81, CF10, (mT5 (i := 92) rfl rfl), by decide, rfl, rfl⟩
theorem fX10_267 : FW RX10 267 10 29 .int false := ⟨RX10, TX10, 81, CF10, (mT5 (i := 107) rfl rfl), by decide, rfl, rfl⟩
theorem fX10_270 : FW RX10 270 10 31 .int false := ⟨RX10, TX10, 81, CF10, (mT5 (i := 109) rfl rfl), by decide, rfl, rfl⟩
theorem fX10_273 : FW RX10 273 10 30 .int false := ⟨RX10, TX10, 81, CF10, (mT5 (i := 108) rfl rfl), by decide, rfl, rfl⟩
theorem fX10_276 : FW RX10 276 10 35 .int false := ⟨RX10, TX10, 81, CF10, (mT5 (i := 113) rfl rfl), by decide, rfl, rfl⟩
theorem fX10_282 : FW RX10 282 10 33 .int false := ⟨RX10, TX10, 81, CF10, (mT5 (i := 111) rfl rfl), by decide, rfl, rfl⟩
theorem fX10_285 : FW RX10 285 10 32 .int false := ⟨RX10, TX10, 81, CF10, (mT5 (i := 110) rfl rfl), by decide, rfl, rfl⟩
theorem fX10_288 : FW RX10 288 10 34 .long false := ⟨RX10, TX10, 81, CF10, (mT5 (i := 112) rfl rfl), by decide, rfl, rfl⟩
theorem fX10_302 : FW RX10 302 10 37 .boolean false := ⟨RX10, TX10, 81, CF10, (mT5 (i := 115) rfl rfl), by decide, rfl, rfl⟩
theorem fX10_306 : FW RX10 306 10 38 .int false := ⟨RX10, TX10, 81, CF10, (mT5 (i := 116) rfl rfl), by decide, rfl, rfl⟩
theorem fX10_309 : FW RX10 309 10 36 .int false := ⟨RX10, TX10, 81, CF10, (mT5 (i := 114) rfl rfl), by decide, rfl, rfl⟩
theorem fX10_324 : FW RX10 324 10 39 .int false := ⟨RX10, TX10, 81, CF10, (mT5 (i := 117) rfl rfl), by decide, rfl, rfl⟩
theorem fX10_329 : FW RX10 329 10 40 .int false := ⟨RX10, TX10, 81, CF10, (mT5 (i := 118) rfl rfl), by decide, rfl, rfl⟩
theorem fX10_334 : FW RX10 334 10 41 .int false := ⟨RX10, TX10, 81, CF10, (mT5 (i := 119) rfl rfl), by decide, rfl, rfl⟩
theorem fX10_339 : FW RX10 339 10 42 .int false := ⟨RX10, TX10, 81, CF10, (mT5 (i := 120) rfl rfl), by decide, rfl, rfl⟩
theorem fX10_344 : FW RX10 344 10 43 .int false := ⟨RX10, TX10, 81, CF10, (mT5 (i := 121) rfl rfl), by decide, rfl, rfl⟩
theorem fX10_349 : FW RX10 349 10 44 .int false := ⟨RX10, TX10, 81, CF10, (mT5 (i := 122) rfl rfl), by decide, rfl, rfl⟩
theorem fX10_400 : FW RX10 400 10 27 .int false := ⟨RX10, TX10, 81, CF10, (mT5 (i := 105) rfl rfl), by decide, rfl, rfl⟩
theorem fX10_444 : FW RX10 444 10 53 .int false := ⟨RX10, TX10, 81, CF10, (mT5 (i := 131) rfl rfl), by decide, rfl, rfl⟩
theorem fX10_454 : FW RX10 454 10 65 .long false := ⟨RX10, TX10, 81, CF10, (mT5 (i := 143) rfl rfl), by decide, rfl, rfl⟩
theorem fX10_463 : FW RX10 463 10 67 .boolean false := ⟨RX10, TX10, 81, CF10, (mT5 (i := 145) rfl rfl), by decide, rfl, rfl⟩
theorem fX10_472 : FW RX10 472 10 64 .long false := ⟨RX10, TX10, 81, CF10, (mT5 (i := 142) rfl rfl), by decide, rfl, rfl⟩
theorem fX10_475 : FW RX10 475 10 68 .int false := ⟨RX10, TX10, 81, CF10, (mT5 (i := 146) rfl rfl), by decide, rfl, rfl⟩
theorem fX10_486 : FW RX10 486 10 66 .long false := ⟨RX10, TX10, 81, CF10, (mT5 (i := 144) rfl rfl), by decide, rfl, rfl⟩
theorem fX10_501 : FW RX10 501 10 76 .int false := ⟨RX10, TX10, 81, CF10, (mT5 (i := 154) rfl rfl), by decide, rfl, rfl⟩
theorem fX2_9 : FW RX2 9 2 0 .int false := ⟨RX2, TX2, 8, CF2, (mT1 (i := 39) rfl rfl), by decide, rfl, rfl⟩
theorem fX2_15 : FW RX2 15 2 1 .long false := ⟨RX2, TX2, 8, CF2, (mT1 (i := 42) rfl rfl), by decide, rfl, rfl⟩
theorem fX2_19 : FW RX2 19 2 2 .int false := ⟨RX2, TX2, 8, CF2, (mT1 (i := 46) rfl rfl), by decide, rfl, rfl⟩
theorem fX2_22 : FW RX2 22 2 3 .int false := ⟨RX2, TX2, 8, CF2, (mT1 (i := 49) rfl rfl), by decide, rfl, rfl⟩
theorem fX2_25 : FW RX2 25 2 4 .long false := ⟨RX2, TX2, 8, CF2, (mT1 (i := 52) rfl rfl), by decide, rfl, rfl⟩
theorem fX2_28 : FW RX2 28 2 5 .int false := ⟨RX2, TX2, 8, CF2, (mT1 (i := 56) rfl rfl), by decide, rfl, rfl⟩
theorem fX2_31 : FW RX2 31 2 6 .long false := ⟨RX2, TX2, 8, CF2, (mT1 (i := 59) rfl rfl), by decide, rfl, rfl⟩
theorem fX2_34 : FW RX2 34 2 7 .int false := ⟨RX2, TX2, 8, CF2, (mT1 (i := 61) rfl rfl), by decide, rfl, rfl⟩
theorem fX3_15 : FW RX3 15 3 0 .long false := ⟨RX3, TX3, 13, CF3, (mT1 (i := 203) rfl rfl), by decide, rfl, rfl⟩
theorem fX3_19 : FW RX3 19 3 1 .long false := ⟨RX3, TX3, 13, CF3, (mT1 (i := 206) rfl rfl), by decide, rfl, rfl⟩
theorem fX3_22 : FW RX3 22 3 2 .long false := ⟨RX3, TX3, 13, CF3, (mT1 (i := 210) rfl rfl), by decide, rfl, rfl⟩
theorem fX3_25 : FW RX3 25 3 3 .long false := ⟨RX3, TX3, 13, CF3, (mT1 (i := 212) rfl rfl), by decide, rfl, rfl⟩
theorem fX3_28 : FW RX3 28 3 4 .long false := ⟨RX3, TX3, 13, CF3, (mT1 (i := 214) rfl rfl), by decide, rfl, rfl⟩
theorem fX3_31 : FW RX3 31 3 8 .long false := ⟨RX3, TX3, 13, CF3, (mT1 (i := 223) rfl rfl), by decide, rfl, rfl⟩
theorem fX3_34 : FW RX3 34 3 5 .long false := ⟨RX3, TX3, 13, CF3, (mT1 (i := 217) rfl rfl), by decide, rfl, rfl⟩
theorem fX3_37 : FW RX3 37 3 7 .long false := ⟨RX3, TX3, 13, CF3, (mT1 (i := 220) rfl rfl), by decide, rfl, rfl⟩
theorem fX3_40 : FW RX3 40 3 9 .int false := ⟨RX3, TX3, 13, CF3, (mT1 (i := 227) rfl rfl), by decide, rfl, rfl⟩
theorem fX3_44 : FW RX3 44 3 10 .long false := ⟨RX3, TX3, 13, CF3, (mT1 (i := 230) rfl rfl), by decide, rfl, rfl⟩
theorem fX3_47 : FW RX3 47 3 11 .boolean false := ⟨RX3, TX3, 13, CF3, (mT1 (i := 233) rfl rfl), by decide, rfl, rfl⟩
theorem fX4_13 : FW RX4 13 4 0 (.array (.array .int)) true := ⟨RX4, TX4, 2, CF4, (mT2 (i := 99) rfl rfl), by decide, rfl, rfl⟩
theorem fX4_35 : FW RX4 35 8 2 .int false := ⟨RX8, TX8, 6, CF8, (mT2 (i := 35) rfl rfl), by decide, rfl, rfl⟩
theorem fX4_85 : FW RX4 85 8 3 .int false := ⟨RX8, TX8, 6, CF8, (mT2 (i := 40) rfl rfl), by decide, rfl, rfl⟩
theorem fX5_7 : FW RX5 7 5 0 .int false := ⟨RX5, TX5, 9, CF5, (mT1 (i := 122) rfl rfl), by decide, rfl, rfl⟩
theorem fX5_13 : FW RX5 13 5 1 .long false := ⟨RX5, TX5, 9, CF5, (mT1 (i := 124) rfl rfl), by decide, rfl, rfl⟩
theorem fX5_20 : FW RX5 20 5 2 .long false := ⟨RX5, TX5, 9, CF5, (mT1 (i := 125) rfl rfl), by decide, rfl, rfl⟩
theorem fX5_23 : FW RX5 23 5 3 .long false := ⟨RX5, TX5, 9, CF5, (mT1 (i := 128) rfl rfl), by decide, rfl, rfl⟩
theorem fX5_26 : FW RX5 26 5 4 .long false := ⟨RX5, TX5, 9, CF5, (mT1 (i := 130) rfl rfl), by decide, rfl, rfl⟩
theorem fX5_29 : FW RX5 29 5 5 .long false := ⟨RX5, TX5, 9, CF5, (mT1 (i := 132) rfl rfl), by decide, rfl, rfl⟩
theorem fX5_32 : FW RX5 32 5 6 .long false := ⟨RX5, TX5, 9, CF5, (mT1 (i := 134) rfl rfl), by decide, rfl, rfl⟩
theorem fX5_35 : FW RX5 35 5 7 .long false := ⟨RX5, TX5, 9, CF5, (mT1 (i := 136) rfl rfl), by decide, rfl, rfl⟩
theorem fX5_38 : FW RX5 38 5 8 .long false := ⟨RX5, TX5, 9, CF5, (mT1 (i := 138) rfl rfl), by decide, rfl, rfl⟩
theorem fX6_11 : FW RX6 11 6 0 (.array (.object "LayerBook$Loan")) true := ⟨RX6, TX6, 7, CF6, (mT1 (i := 80) rfl rfl), by decide, rfl, rfl⟩
theorem fX6_17 : FW RX6 17 6 3 .int false := ⟨RX6, TX6, 7, CF6, (mT1 (i := 86) rfl rfl), by decide, rfl, rfl⟩
theorem fX6_26 : FW RX6 26 6 1 .int false := ⟨RX6, TX6, 7, CF6, (mT1 (i := 82) rfl rfl), by decide, rfl, rfl⟩
theorem fX6_29 : FW RX6 29 6 2 .int false := ⟨RX6, TX6, 7, CF6, (mT1 (i := 84) rfl rfl), by decide, rfl, rfl⟩
theorem fX6_32 : FW RX6 32 6 4 .boolean false := ⟨RX6, TX6, 7, CF6, (mT1 (i := 88) rfl rfl), by decide, rfl, rfl⟩
theorem fX6_36 : FW RX6 36 6 5 .long false := ⟨RX6, TX6, 7, CF6, (mT1 (i := 90) rfl rfl), by decide, rfl, rfl⟩
theorem fX6_40 : FW RX6 40 6 6 (.object "LayerBook$Law") false := ⟨RX6, TX6, 7, CF6, (mT1 (i := 93) rfl rfl), by decide, rfl, rfl⟩
theorem fX6_48 : FW RX6 48 2 1 .long false := ⟨RX2, TX2, 8, CF2, (mT1 (i := 43) rfl rfl), by decide, rfl, rfl⟩
theorem fX6_51 : FW RX6 51 2 5 .int false := ⟨RX2, TX2, 8, CF2, (mT1 (i := 58) rfl rfl), by decide, rfl, rfl⟩
theorem fX6_89 : FW RX6 89 3 3 .long false := ⟨RX3, TX3, 13, CF3, (mT1 (i := 213) rfl rfl), by decide, rfl, rfl⟩
theorem fX6_90 : FW RX6 90 3 0 .long false := ⟨RX3, TX3, 13, CF3, (mT1 (i := 204) rfl rfl), by decide, rfl, rfl⟩
theorem fX6_99 : FW RX6 99 3 4 .long false := ⟨RX3, TX3, 13, CF3, (mT1 (i := 215) rfl rfl), by decide, rfl, rfl⟩
theorem fX6_122 : FW RX6 122 2 4 .long false := ⟨RX2, TX2, 8, CF2, (mT1 (i := 54) rfl rfl), by decide, rfl, rfl⟩
theorem fX6_161 : FW RX6 161 2 3 .int false := ⟨RX2, TX2, 8, CF2, (mT1 (i := 51) rfl rfl), by decide, rfl, rfl⟩
theorem fX6_168 : FW RX6 168 3 1 .long false := ⟨RX3, TX3, 13, CF3, (mT1 (i := 207) rfl rfl), by decide, rfl, rfl⟩
theorem fX6_173 : FW RX6 173 3 2 .long false := ⟨RX3, TX3, 13, CF3, (mT1 (i := 211) rfl rfl), by decide, rfl, rfl⟩
theorem fX6_176 : FW RX6 176 3 8 .long false := ⟨RX3, TX3, 13, CF3, (mT1 (i := 225) rfl rfl), by decide, rfl, rfl⟩
theorem fX7_9 : FW RX7 9 7 0 (.array .int) true := ⟨RX7, TX7, 3, CF7, (mT2 (i := 115) rfl rfl), by decide, rfl, rfl⟩
theorem fX7_19 : FW RX7 19 7 2 .int false := ⟨RX7, TX7, 3, CF7, (mT2 (i := 119) rfl rfl), by decide, rfl, rfl⟩
theorem fX8_9 : FW RX8 9 8 0 (.array .byte) true := ⟨RX8, TX8, 6, CF8, (mT2 (i := 32) rfl rfl), by decide, rfl, rfl⟩
theorem fX8_15 : FW RX8 15 8 1 .int false := ⟨RX8, TX8, 6, CF8, (mT2 (i := 33) rfl rfl), by decide, rfl, rfl⟩
theorem fX8_19 : FW RX8 19 8 4 .int false := ⟨RX8, TX8, 6, CF8, (mT2 (i := 41) rfl rfl), by decide, rfl, rfl⟩
theorem fX8_25 : FW RX8 25 8 2 .int false := ⟨RX8, TX8, 6, CF8, (mT2 (i := 37) rfl rfl), by decide, rfl, rfl⟩
theorem fX8_36 : FW RX8 36 8 5 .int false := ⟨RX8, TX8, 6, CF8, (mT2 (i := 42) rfl rfl), by decide, rfl, rfl⟩
theorem fX8_55 : FW RX8 55 8 3 .int false := ⟨RX8, TX8, 6, CF8, (mT2 (i := 38) rfl rfl), by decide, rfl, rfl⟩
theorem fX9_10 : FW RX9 10 9 0 (.object "LayerBook$Pool") true := ⟨RX9, TX9, 15, CF9, (mT2 (i := 127) rfl rfl), by decide, rfl, rfl⟩
theorem fX9_19 : FW RX9 19 9 1 (.object "LayerBook$Fall") true := ⟨RX9, TX9, 15, CF9, (mT2 (i := 128) rfl rfl), by decide, rfl, rfl⟩
theorem fX9_23 : FW RX9 23 9 2 (.object "LayerBook$Pool") true := ⟨RX9, TX9, 15, CF9, (mT2 (i := 129) rfl rfl), by decide, rfl, rfl⟩
theorem fX9_26 : FW RX9 26 9 3 (.object "LayerBook$Fall") true := ⟨RX9, TX9, 15, CF9, (mT2 (i := 130) rfl rfl), by decide, rfl, rfl⟩
theorem fX9_32 : FW RX9 32 9 4 (.object "LayerBook$Month") true := ⟨RX9, TX9, 15, CF9, (mT2 (i := 131) rfl rfl), by decide, rfl, rfl⟩
theorem fX9_36 : FW RX9 36 9 5 (.array (.object "LayerBook$Month")) true := ⟨RX9, TX9, 15, CF9, (mT2 (i := 132) rfl rfl), by decide, rfl, rfl⟩
theorem fX9_40 : FW RX9 40 9 6 (.array .int) true := ⟨RX9, TX9, 15, CF9, (mT2 (i := 133) rfl rfl), by decide, rfl, rfl⟩
theorem fX9_47 : FW RX9 47 9 7 (.object "LayerBook$Tape") true := ⟨RX9, TX9, 15, CF9, (mT2 (i := 134) rfl rfl), by decide, rfl, rfl⟩
theorem fX9_53 : FW RX9 53 9 8 (.array (.object "LayerBook$Law")) true := ⟨RX9, TX9, 15, CF9, (mT2 (i := 135) rfl rfl), by decide, rfl, rfl⟩
theorem fX9_59 : FW RX9 59 9 9 (.array (.object "LayerBook$Order")) true := ⟨RX9, TX9, 15, CF9, (mT2 (i := 136) rfl rfl), by decide, rfl, rfl⟩
theorem fX9_65 : FW RX9 65 9 10 (.array (.object "LayerBook$Sheet")) true := ⟨RX9, TX9, 15, CF9, (mT2 (i := 137) rfl rfl), by decide, rfl, rfl⟩
theorem fX9_69 : FW RX9 69 9 12 .int false := ⟨RX9, TX9, 15, CF9, (mT2 (i := 139) rfl rfl), by decide, rfl, rfl⟩
theorem fX9_73 : FW RX9 73 9 13 .int false := ⟨RX9, TX9, 15, CF9, (mT2 (i := 140) rfl rfl), by decide, rfl, rfl⟩
theorem fX9_79 : FW RX9 79 6 6 (.object "LayerBook$Law") false := ⟨RX6, TX6, 7, CF6, (mT1 (i := 92) rfl rfl), by decide, rfl, rfl⟩
theorem fX9_88 : FW RX9 88 9 11 .int false := ⟨RX9, TX9, 15, CF9, (mT2 (i := 138) rfl rfl), by decide, rfl, rfl⟩
theorem fX9_91 : FW RX9 91 6 1 .int false := ⟨RX6, TX6, 7, CF6, (mT1 (i := 83) rfl rfl), by decide, rfl, rfl⟩
theorem fX9_94 : FW RX9 94 6 0 (.array (.object "LayerBook$Loan")) true := ⟨RX6, TX6, 7, CF6, (mT1 (i := 81) rfl rfl), by decide, rfl, rfl⟩
theorem fX9_104 : FW RX9 104 2 0 .int false := ⟨RX2, TX2, 8, CF2, (mT1 (i := 40) rfl rfl), by decide, rfl, rfl⟩
theorem fX9_107 : FW RX9 107 2 1 .long false := ⟨RX2, TX2, 8, CF2, (mT1 (i := 44) rfl rfl), by decide, rfl, rfl⟩
theorem fX9_111 : FW RX9 111 2 2 .int false := ⟨RX2, TX2, 8, CF2, (mT1 (i := 47) rfl rfl), by decide, rfl, rfl⟩
theorem fX9_114 : FW RX9 114 2 3 .int false := ⟨RX2, TX2, 8, CF2, (mT1 (i := 50) rfl rfl), by decide, rfl, rfl⟩
theorem fX9_116 : FW RX9 116 2 4 .long false := ⟨RX2, TX2, 8, CF2, (mT1 (i := 53) rfl rfl), by decide, rfl, rfl⟩
theorem fX9_119 : FW RX9 119 2 5 .int false := ⟨RX2, TX2, 8, CF2, (mT1 (i := 57) rfl rfl), by decide, rfl, rfl⟩
theorem fX9_122 : FW RX9 122 2 6 .long false := ⟨RX2, TX2, 8, CF2, (mT1 (i := 60) rfl rfl), by decide, rfl, rfl⟩
theorem fX9_126 : FW RX9 126 0 1 .int false := ⟨RX0, TX0, 10, CF0, (mT1 (i := 162) rfl rfl), by decide, rfl, rfl⟩
theorem fX9_127 : FW RX9 127 0 0 (.array (.object "LayerBook$Paper")) true := ⟨RX0, TX0, 10, CF0, (mT1 (i := 160) rfl rfl), by decide, rfl, rfl⟩
theorem fX9_136 : FW RX9 136 5 2 .long false := ⟨RX5, TX5, 9, CF5, (mT1 (i := 126) rfl rfl), by decide, rfl, rfl⟩
theorem fX9_137 : FW RX9 137 5 0 .int false := ⟨RX5, TX5, 9, CF5, (mT1 (i := 123) rfl rfl), by decide, rfl, rfl⟩
theorem fX9_140 : FW RX9 140 5 3 .long false := ⟨RX5, TX5, 9, CF5, (mT1 (i := 129) rfl rfl), by decide, rfl, rfl⟩
theorem fX9_143 : FW RX9 143 5 4 .long false := ⟨RX5, TX5, 9, CF5, (mT1 (i := 131) rfl rfl), by decide, rfl, rfl⟩
theorem fX9_146 : FW RX9 146 5 5 .long false := ⟨RX5, TX5, 9, CF5, (mT1 (i := 133) rfl rfl), by decide, rfl, rfl⟩
theorem fX9_149 : FW RX9 149 5 6 .long false := ⟨RX5, TX5, 9, CF5, (mT1 (i := 135) rfl rfl), by decide, rfl, rfl⟩
theorem fX9_154 : FW RX9 154 5 7 .long false := ⟨RX5, TX5, 9, CF5, (mT1 (i := 137) rfl rfl), by decide, rfl, rfl⟩
theorem fX9_162 : FW RX9 162 6 2 .int false := ⟨RX6, TX6, 7, CF6, (mT1 (i := 85) rfl rfl), by decide, rfl, rfl⟩
theorem fX9_165 : FW RX9 165 6 3 .int false := ⟨RX6, TX6, 7, CF6, (mT1 (i := 87) rfl rfl), by decide, rfl, rfl⟩
theorem fX9_168 : FW RX9 168 6 4 .boolean false := ⟨RX6, TX6, 7, CF6, (mT1 (i := 89) rfl rfl), by decide, rfl, rfl⟩
theorem fX9_178 : FW RX9 178 8 1 .int false := ⟨RX8, TX8, 6, CF8, (mT2 (i := 34) rfl rfl), by decide, rfl, rfl⟩
theorem fX9_189 : FW RX9 189 9 14 .int false := ⟨RX9, TX9, 15, CF9, (mT2 (i := 141) rfl rfl), by decide, rfl, rfl⟩
theorem fX9_197 : FW RX9 197 4 1 .int false := ⟨RX4, TX4, 2, CF4, (mT2 (i := 104) rfl rfl), by decide, rfl, rfl⟩
theorem fX9_198 : FW RX9 198 4 0 (.array (.array .int)) true := ⟨RX4, TX4, 2, CF4, (mT2 (i := 101) rfl rfl), by decide, rfl, rfl⟩
theorem fX9_221 : FW RX9 221 3 12 (.array .long) true := ⟨RX3, TX3, 13, CF3, (mT1 (i := 236) rfl rfl), by decide, rfl, rfl⟩
theorem fX9_237 : FW RX9 237 7 0 (.array .int) true := ⟨RX7, TX7, 3, CF7, (mT2 (i := 116) rfl rfl), by decide, rfl, rfl⟩
theorem fX9_251 : FW RX9 251 3 8 .long false := ⟨RX3, TX3, 13, CF3, (mT1 (i := 226) rfl rfl), by decide, rfl, rfl⟩
theorem fX9_254 : FW RX9 254 3 1 .long false := ⟨RX3, TX3, 13, CF3, (mT1 (i := 209) rfl rfl), by decide, rfl, rfl⟩
theorem fX9_257 : FW RX9 257 3 0 .long false := ⟨RX3, TX3, 13, CF3, (mT1 (i := 205) rfl rfl), by decide, rfl, rfl⟩
theorem fX9_267 : FW RX9 267 0 4 .long false := ⟨RX0, TX0, 10, CF0, (mT1 (i := 168) rfl rfl), by decide, rfl, rfl⟩
theorem fX9_270 : FW RX9 270 6 5 .long false := ⟨RX6, TX6, 7, CF6, (mT1 (i := 91) rfl rfl), by decide, rfl, rfl⟩
theorem fX9_273 : FW RX9 273 0 5 .boolean false := ⟨RX0, TX0, 10, CF0, (mT1 (i := 170) rfl rfl), by decide, rfl, rfl⟩
theorem fX9_276 : FW RX9 276 0 9 .long false := ⟨RX0, TX0, 10, CF0, (mT1 (i := 175) rfl rfl), by decide, rfl, rfl⟩
theorem fX9_279 : FW RX9 279 7 1 .int false := ⟨RX7, TX7, 3, CF7, (mT2 (i := 118) rfl rfl), by decide, rfl, rfl⟩
theorem vL_9 : MWI RL 9 yX9_init := ⟨(mT1 (i := 20) rfl rfl), (mT1 (i := 21) rfl rfl), rfl⟩
theorem vL_12 : MWI RL 12 yX10_init := ⟨(mT5 (i := 66) rfl rfl), (mT5 (i := 67) rfl rfl), rfl⟩
theorem vX0_24 : MWN RX0 24 yX5_init := ⟨by decide +kernel, (mT1 (i := 119) rfl rfl), rfl⟩
theorem vX6_21 : MWN RX6 21 yX2_init := ⟨by decide +kernel, (mT1 (i := 36) rfl rfl), rfl⟩
theorem vX9_9 : MWI RX9 9 yX6_init := ⟨(mT1 (i := 28) rfl rfl), (mT1 (i := 29) rfl rfl), rfl⟩
theorem vX9_18 : MWI RX9 18 yX0_init := ⟨(mT1 (i := 111) rfl rfl), (mT1 (i := 112) rfl rfl), rfl⟩
theorem vX9_31 : MWN RX9 31 yX3_init := ⟨by decide +kernel, (mT1 (i := 200) rfl rfl), rfl⟩
theorem vX9_46 : MWN RX9 46 yX8_init := ⟨by decide +kernel, (mT2 (i := 29) rfl rfl), rfl⟩
theorem vX9_76 : MWN RX9 76 yX1_init := ⟨by decide +kernel, (mT2 (i := 66) rfl rfl), rfl⟩
theorem vX9_77 : MWI RX9 77 yX4_init := ⟨(mT2 (i := 86) rfl rfl), (mT2 (i := 87) rfl rfl), rfl⟩
theorem vX9_78 : MWN RX9 78 yX7_init := ⟨by decide +kernel, (mT2 (i := 112) rfl rfl), rfl⟩
theorem vX1_64 : MWS RX1 64 yX1_signOf := ⟨(mT3 (i := 163) rfl rfl), (mT3 (i := 164) rfl rfl)⟩
theorem vX1_95 : MWS RX1 95 yX1_truth := ⟨(mT3 (i := 202) rfl rfl), (mT3 (i := 203) rfl rfl)⟩
theorem vX1_99 : MWS RX1 99 yX1_joined := ⟨(mT3 (i := 205) rfl rfl), (mT3 (i := 206) rfl rfl)⟩
theorem vX1_103 : MWS RX1 103 yX1_named := ⟨(mT3 (i := 208) rfl rfl), (mT3 (i := 209) rfl rfl)⟩
theorem vX10_186 : MWS RX10 186 yX10_in := ⟨(mT6 (i := 90) rfl rfl), (mT6 (i := 91) rfl rfl)⟩
theorem vX10_191 : MWS RX10 191 yX10_isTold := ⟨(mT6 (i := 87) rfl rfl), (mT6 (i := 88) rfl rfl)⟩
theorem vX10_202 : MWS RX10 202 yX10_interest := ⟨(mT7 (i := 87) rfl rfl), (mT7 (i := 88) rfl rfl)⟩
theorem vX10_206 : MWS RX10 206 yX10_leftBy := ⟨(mT7 (i := 90) rfl rfl), (mT7 (i := 91) rfl rfl)⟩
theorem vX10_210 : MWS RX10 210 yX10_isFixed := ⟨(mT7 (i := 81) rfl rfl), (mT7 (i := 82) rfl rfl)⟩
theorem vX10_234 : MWS RX10 234 yX10_within := ⟨(mT7 (i := 97) rfl rfl), (mT7 (i := 98) rfl rfl)⟩
theorem vX10_252 : MWS RX10 252 yX10_isReset := ⟨(mT7 (i := 78) rfl rfl), (mT7 (i := 79) rfl rfl)⟩
theorem vX10_255 : MWS RX10 255 yX10_payFor := ⟨(mT7 (i := 84) rfl rfl), (mT7 (i := 85) rfl rfl)⟩
theorem vX10_450 : MWS RX10 450 yX10_divisor := ⟨(mT7 (i := 23) rfl rfl), (mT7 (i := 24) rfl rfl)⟩
theorem vX10_512 : MWS RX10 512 yX10_isSheet := ⟨(mT7 (i := 144) rfl rfl), (mT7 (i := 145) rfl rfl)⟩
theorem vX10_521 : MWS RX10 521 yX10_over := ⟨(mT7 (i := 168) rfl rfl), (mT7 (i := 169) rfl rfl)⟩
theorem vX4_39 : MWS RX4 39 yX4_readStep := ⟨(mT3 (i := 231) rfl rfl), (mT3 (i := 232) rfl rfl)⟩
theorem vX4_47 : MWS RX4 47 yX4_clear := ⟨(mT2 (i := 96) rfl rfl), (mT2 (i := 97) rfl rfl)⟩
theorem vX4_65 : MWS RX4 65 yX4_readWord := ⟨(mT3 (i := 238) rfl rfl), (mT3 (i := 239) rfl rfl)⟩
theorem vX4_69 : MWS RX4 69 yX4_readNumber := ⟨(mT4 (i := 1) rfl rfl), (mT4 (i := 2) rfl rfl)⟩
theorem vX4_75 : MWS RX4 75 yX4_readTest := ⟨(mT4 (i := 6) rfl rfl), (mT4 (i := 7) rfl rfl)⟩
theorem vX6_77 : MWS RX6 77 yX6_payAll := ⟨(mT4 (i := 195) rfl rfl), (mT4 (i := 196) rfl rfl)⟩
theorem vX6_138 : MWS RX6 138 yX6_payMonth := ⟨(mT4 (i := 198) rfl rfl), (mT4 (i := 199) rfl rfl)⟩
theorem vX8_32 : MWS RX8 32 yX8_isBlank := ⟨(mT3 (i := 11) rfl rfl), (mT3 (i := 12) rfl rfl)⟩
theorem vX8_39 : MWS RX8 39 yX8_isLetter := ⟨(mT3 (i := 14) rfl rfl), (mT3 (i := 15) rfl rfl)⟩
theorem vX8_42 : MWS RX8 42 yX8_isDigit := ⟨(mT3 (i := 17) rfl rfl), (mT3 (i := 18) rfl rfl)⟩
theorem vX9_83 : MWS RX9 83 yX9_within := ⟨(mT2 (i := 177) rfl rfl), (mT2 (i := 178) rfl rfl)⟩
theorem vX9_157 : MWS RX9 157 yX9_commonDivisor := ⟨(mT2 (i := 211) rfl rfl), (mT2 (i := 212) rfl rfl)⟩
theorem vL_13 : MWV RL 13 yX9_loan := ⟨(mT2 (i := 173) rfl rfl), (mT2 (i := 174) rfl rfl), (mT2 (i := 175) rfl rfl)⟩
theorem vL_17 : MWV RL 17 yX10_loan := ⟨(mT6 (i := 83) rfl rfl), (mT6 (i := 84) rfl rfl), (mT6 (i := 85) rfl rfl)⟩
theorem vL_18 : MWV RL 18 yX9_loanTold := ⟨(mT2 (i := 185) rfl rfl), (mT2 (i := 186) rfl rfl), (mT2 (i := 187) rfl rfl)⟩
theorem vL_22 : MWV RL 22 yX10_loanTold := ⟨(mT6 (i := 94) rfl rfl), (mT6 (i := 95) rfl rfl), (mT6 (i := 96) rfl rfl)⟩
theorem vL_23 : MWV RL 23 yX9_paper := ⟨(mT2 (i := 189) rfl rfl), (mT2 (i := 190) rfl rfl), (mT2 (i := 191) rfl rfl)⟩
theorem vL_26 : MWV RL 26 yX10_paper := ⟨(mT7 (i := 6) rfl rfl), (mT7 (i := 7) rfl rfl), (mT7 (i := 8) rfl rfl)⟩
theorem vL_27 : MWV RL 27 yX9_paperTold := ⟨(mT2 (i := 202) rfl rfl), (mT2 (i := 203) rfl rfl), (mT2 (i := 204) rfl rfl)⟩
theorem vL_30 : MWV RL 30 yX10_paperTold := ⟨(mT7 (i := 11) rfl rfl), (mT7 (i := 12) rfl rfl), (mT7 (i := 13) rfl rfl)⟩
theorem vL_31 : MWV RL 31 yX9_life := ⟨(mT2 (i := 206) rfl rfl), (mT2 (i := 207) rfl rfl), (mT2 (i := 208) rfl rfl)⟩
theorem vL_35 : MWV RL 35 yX10_life := ⟨(mT7 (i := 19) rfl rfl), (mT7 (i := 20) rfl rfl), (mT7 (i := 21) rfl rfl)⟩
theorem vL_36 : MWV RL 36 yX9_tell := ⟨(mT2 (i := 214) rfl rfl), (mT2 (i := 215) rfl rfl), (mT2 (i := 216) rfl rfl)⟩
theorem vL_39 : MWV RL 39 yX10_tell := ⟨(mT6 (i := 102) rfl rfl), (mT6 (i := 103) rfl rfl), (mT6 (i := 104) rfl rfl)⟩
theorem vL_40 : MWV RL 40 yX9_trip := ⟨(mT2 (i := 219) rfl rfl), (mT2 (i := 220) rfl rfl), (mT2 (i := 221) rfl rfl)⟩
theorem vL_43 : MWV RL 43 yX10_trip := ⟨(mT7 (i := 26) rfl rfl), (mT7 (i := 27) rfl rfl), (mT7 (i := 28) rfl rfl)⟩
theorem vL_46 : MWV RL 46 yX9_feed := ⟨(mT2 (i := 223) rfl rfl), (mT2 (i := 224) rfl rfl), (mT2 (i := 225) rfl rfl)⟩
theorem vL_50 : MWV RL 50 yX10_feed := ⟨(mT6 (i := 111) rfl rfl), (mT6 (i := 112) rfl rfl), (mT6 (i := 113) rfl rfl)⟩
theorem vL_51 : MWV RL 51 yX9_text := ⟨(mT2 (i := 231) rfl rfl), (mT2 (i := 232) rfl rfl), (mT2 (i := 233) rfl rfl)⟩
theorem vL_55 : MWV RL 55 yX10_text := ⟨(mT6 (i := 115) rfl rfl), (mT6 (i := 116) rfl rfl), (mT6 (i := 117) rfl rfl)⟩
theorem vL_56 : MWV RL 56 yX9_force := ⟨(mT3 (i := 190) rfl rfl), (mT3 (i := 191) rfl rfl), (mT3 (i := 192) rfl rfl)⟩
theorem vL_60 : MWV RL 60 yX10_force := ⟨(mT6 (i := 198) rfl rfl), (mT6 (i := 199) rfl rfl), (mT6 (i := 200) rfl rfl)⟩
theorem vL_61 : MWV RL 61 yX9_says := ⟨(mT3 (i := 194) rfl rfl), (mT3 (i := 195) rfl rfl), (mT3 (i := 196) rfl rfl)⟩
theorem vL_64 : MWV RL 64 yX10_says := ⟨(mT6 (i := 202) rfl rfl), (mT6 (i := 203) rfl rfl), (mT6 (i := 204) rfl rfl)⟩
theorem vL_65 : MWV RL 65 yX9_order := ⟨(mT3 (i := 215) rfl rfl), (mT3 (i := 216) rfl rfl), (mT3 (i := 217) rfl rfl)⟩
theorem vL_68 : MWV RL 68 yX10_order := ⟨(mT6 (i := 211) rfl rfl), (mT6 (i := 212) rfl rfl), (mT6 (i := 213) rfl rfl)⟩
theorem vL_69 : MWV RL 69 yX9_step := ⟨(mT4 (i := 12) rfl rfl), (mT4 (i := 13) rfl rfl), (mT4 (i := 14) rfl rfl)⟩
theorem vL_73 : MWV RL 73 yX10_step := ⟨(mT7 (i := 2) rfl rfl), (mT7 (i := 3) rfl rfl), (mT7 (i := 4) rfl rfl)⟩
theorem vL_74 : MWV RL 74 yX9_amend := ⟨(mT4 (i := 16) rfl rfl), (mT4 (i := 17) rfl rfl), (mT4 (i := 18) rfl rfl)⟩
theorem vL_77 : MWV RL 77 yX10_amend := ⟨(mT7 (i := 30) rfl rfl), (mT7 (i := 31) rfl rfl), (mT7 (i := 32) rfl rfl)⟩
theorem vL_78 : MWV RL 78 yX9_run := ⟨(mT4 (i := 108) rfl rfl), (mT4 (i := 109) rfl rfl), (mT4 (i := 110) rfl rfl)⟩
theorem vL_81 : MWV RL 81 yX10_run := ⟨(mT7 (i := 62) rfl rfl), (mT7 (i := 63) rfl rfl), (mT7 (i := 64) rfl rfl)⟩
theorem vL_82 : MWV RL 82 yX9_month := ⟨(mT4 (i := 219) rfl rfl), (mT4 (i := 220) rfl rfl), (mT4 (i := 221) rfl rfl)⟩
theorem vL_85 : MWV RL 85 yX10_month := ⟨(mT7 (i := 116) rfl rfl), (mT7 (i := 117) rfl rfl), (mT7 (i := 118) rfl rfl)⟩
theorem vL_86 : MWV RL 86 yX9_paid := ⟨(mT4 (i := 227) rfl rfl), (mT4 (i := 228) rfl rfl), (mT4 (i := 229) rfl rfl)⟩
theorem vL_89 : MWV RL 89 yX10_paid := ⟨(mT7 (i := 120) rfl rfl), (mT7 (i := 121) rfl rfl), (mT7 (i := 122) rfl rfl)⟩
theorem vL_90 : MWV RL 90 yX9_buy := ⟨(mT4 (i := 231) rfl rfl), (mT4 (i := 232) rfl rfl), (mT4 (i := 233) rfl rfl)⟩
theorem vL_93 : MWV RL 93 yX10_buy := ⟨(mT6 (i := 107) rfl rfl), (mT6 (i := 108) rfl rfl), (mT6 (i := 109) rfl rfl)⟩
theorem vL_94 : MWV RL 94 yX9_report := ⟨(mT4 (i := 236) rfl rfl), (mT4 (i := 237) rfl rfl), (mT4 (i := 238) rfl rfl)⟩
theorem vL_98 : MWV RL 98 yX10_report := ⟨(mT7 (i := 151) rfl rfl), (mT7 (i := 152) rfl rfl), (mT7 (i := 153) rfl rfl)⟩
theorem vL_99 : MWV RL 99 yX9_beside := ⟨(mT5 (i := 12) rfl rfl), (mT5 (i := 13) rfl rfl), (mT5 (i := 14) rfl rfl)⟩
theorem vL_103 : MWV RL 103 yX10_beside := ⟨(mT7 (i := 124) rfl rfl), (mT7 (i := 125) rfl rfl), (mT7 (i := 126) rfl rfl)⟩
theorem vL_104 : MWV RL 104 yX9_count := ⟨(mT5 (i := 36) rfl rfl), (mT5 (i := 37) rfl rfl), (mT5 (i := 38) rfl rfl)⟩
theorem vL_107 : MWV RL 107 yX10_count := ⟨(mT7 (i := 136) rfl rfl), (mT7 (i := 137) rfl rfl), (mT7 (i := 138) rfl rfl)⟩
theorem vL_108 : MWV RL 108 yX9_sheet := ⟨(mT5 (i := 41) rfl rfl), (mT5 (i := 42) rfl rfl), (mT5 (i := 43) rfl rfl)⟩
theorem vL_111 : MWV RL 111 yX10_sheet := ⟨(mT7 (i := 140) rfl rfl), (mT7 (i := 141) rfl rfl), (mT7 (i := 142) rfl rfl)⟩
theorem vL_112 : MWV RL 112 yX9_cell := ⟨(mT5 (i := 49) rfl rfl), (mT5 (i := 50) rfl rfl), (mT5 (i := 51) rfl rfl)⟩
theorem vL_115 : MWV RL 115 yX10_cell := ⟨(mT7 (i := 147) rfl rfl), (mT7 (i := 148) rfl rfl), (mT7 (i := 149) rfl rfl)⟩
theorem vL_116 : MWV RL 116 yX9_loans := ⟨(mT5 (i := 53) rfl rfl), (mT5 (i := 54) rfl rfl), (mT5 (i := 55) rfl rfl)⟩
theorem vL_119 : MWV RL 119 yX10_loans := ⟨(mT7 (i := 159) rfl rfl), (mT7 (i := 160) rfl rfl), (mT7 (i := 161) rfl rfl)⟩
theorem vL_120 : MWV RL 120 yX9_taken := ⟨(mT5 (i := 59) rfl rfl), (mT5 (i := 60) rfl rfl), (mT5 (i := 61) rfl rfl)⟩
theorem vL_123 : MWV RL 123 yX10_taken := ⟨(mT7 (i := 164) rfl rfl), (mT7 (i := 165) rfl rfl), (mT7 (i := 166) rfl rfl)⟩
theorem vX0_25 : MWV RX0 25 yX5_restart := ⟨(mT4 (i := 24) rfl rfl), (mT2 (i := 199) rfl rfl), (mT2 (i := 200) rfl rfl)⟩
theorem vX0_48 : MWV RX0 48 yX5_copy := ⟨(mT5 (i := 28) rfl rfl), (mT5 (i := 29) rfl rfl), (mT5 (i := 30) rfl rfl)⟩
theorem vX0_63 : MWV RX0 63 yX0_turnTrip := ⟨(mT4 (i := 33) rfl rfl), (mT4 (i := 35) rfl rfl), (mTp (i := 11) (q := (⟨"LayerBook$Fall", "turnTrip", "(J)V"⟩, 10)) rfl)⟩
theorem vX0_68 : MWV RX0 68 yX5_begin := ⟨(mT4 (i := 42) rfl rfl), (mT4 (i := 43) rfl rfl), (mT4 (i := 44) rfl rfl)⟩
theorem vX0_71 : MWV RX0 71 yX3_collected := ⟨(mT4 (i := 47) rfl rfl), (mT4 (i := 48) rfl rfl), (mT4 (i := 49) rfl rfl)⟩
theorem vX0_78 : MWV RX0 78 yX0_takeSteps := ⟨(mT4 (i := 51) rfl rfl), (mT4 (i := 53) rfl rfl), (mTp (i := 13) (q := (⟨"LayerBook$Fall", "takeSteps", "(ILLayerBook$Month;LLayerBook$Order;)V"⟩, 10)) rfl)⟩
theorem vX0_82 : MWV RX0 82 yX5_end := ⟨(mT4 (i := 96) rfl rfl), (mT4 (i := 97) rfl rfl), (mT4 (i := 98) rfl rfl)⟩
theorem vX0_88 : MWV RX0 88 yX0_writeDown := ⟨(mT4 (i := 100) rfl rfl), (mT4 (i := 102) rfl rfl), (mTp (i := 20) (q := (⟨"LayerBook$Fall", "writeDown", "(J)V"⟩, 10)) rfl)⟩
theorem vX0_92 : MWV RX0 92 yX0_lostShare := ⟨(mT4 (i := 37) rfl rfl), (mT4 (i := 39) rfl rfl), (mTp (i := 12) (q := (⟨"LayerBook$Fall", "lostShare", "()J"⟩, 10)) rfl)⟩
theorem vX0_108 : MWV RX0 108 yX0_passes := ⟨(mT4 (i := 55) rfl rfl), (mT4 (i := 57) rfl rfl), (mTp (i := 14) (q := (⟨"LayerBook$Fall", "passes", "([IILLayerBook$Month;)Z"⟩, 10)) rfl)⟩
theorem vX0_112 : MWV RX0 112 yX0_wish := ⟨(mT4 (i := 72) rfl rfl), (mT4 (i := 74) rfl rfl), (mTp (i := 17) (q := (⟨"LayerBook$Fall", "wish", "([ILLayerBook$Month;J)J"⟩, 10)) rfl)⟩
theorem vX0_122 : MWV RX0 122 yX0_give := ⟨(mT4 (i := 84) rfl rfl), (mT4 (i := 86) rfl rfl), (mTp (i := 19) (q := (⟨"LayerBook$Fall", "give", "([IJI)V"⟩, 10)) rfl)⟩
theorem vX0_126 : MWV RX0 126 yX0_field := ⟨(mT4 (i := 59) rfl rfl), (mT4 (i := 61) rfl rfl), (mTp (i := 15) (q := (⟨"LayerBook$Fall", "field", "(IILLayerBook$Month;)J"⟩, 10)) rfl)⟩
theorem vX0_133 : MWV RX0 133 yX0_cover := ⟨(mT4 (i := 63) rfl rfl), (mT4 (i := 65) rfl rfl), (mTp (i := 16) (q := (⟨"LayerBook$Fall", "cover", "(J)J"⟩, 10)) rfl)⟩
theorem vX0_144 : MWV RX0 144 yX0_paperOf := ⟨(mT4 (i := 76) rfl rfl), (mT4 (i := 78) rfl rfl), (mTp (i := 18) (q := (⟨"LayerBook$Fall", "paperOf", "([I)LLayerBook$Paper;"⟩, 10)) rfl)⟩
theorem vX0_159 : MWV RX0 159 yX5_payInterest := ⟨(mT4 (i := 88) rfl rfl), (mT4 (i := 89) rfl rfl), (mT4 (i := 90) rfl rfl)⟩
theorem vX0_162 : MWV RX0 162 yX5_payPrincipal := ⟨(mT4 (i := 92) rfl rfl), (mT4 (i := 93) rfl rfl), (mT4 (i := 94) rfl rfl)⟩
theorem vX0_166 : MWV RX0 166 yX5_writeDown := ⟨(mT4 (i := 104) rfl rfl), (mT4 (i := 105) rfl rfl), (mT4 (i := 106) rfl rfl)⟩
theorem vX1_28 : MWV RX1 28 yX8_begin := ⟨(mT2 (i := 239) rfl rfl), (mT3 (i := 0) rfl rfl), (mT3 (i := 1) rfl rfl)⟩
theorem vX1_35 : MWV RX1 35 yX8_which := ⟨(mT3 (i := 112) rfl rfl), (mT3 (i := 113) rfl rfl), (mT3 (i := 114) rfl rfl)⟩
theorem vX1_42 : MWV RX1 42 yX8_next := ⟨(mT3 (i := 141) rfl rfl), (mT3 (i := 4) rfl rfl), (mT3 (i := 5) rfl rfl)⟩
theorem vX1_45 : MWV RX1 45 yX1_readChain := ⟨(mT3 (i := 142) rfl rfl), (mT3 (i := 144) rfl rfl), (mTp (i := 4) (q := (⟨"LayerBook$Law", "readChain", "(LLayerBook$Tape;I)Z"⟩, 5)) rfl)⟩
theorem vX1_49 : MWV RX1 49 yX8_takesSign := ⟨(mT3 (i := 176) rfl rfl), (mT3 (i := 177) rfl rfl), (mT3 (i := 178) rfl rfl)⟩
theorem vX1_53 : MWV RX1 53 yX8_isEnd := ⟨(mT3 (i := 186) rfl rfl), (mT3 (i := 187) rfl rfl), (mT3 (i := 188) rfl rfl)⟩
theorem vX1_57 : MWV RX1 57 yX1_readCompared := ⟨(mT3 (i := 146) rfl rfl), (mT3 (i := 148) rfl rfl), (mTp (i := 5) (q := (⟨"LayerBook$Law", "readCompared", "(LLayerBook$Tape;)Z"⟩, 5)) rfl)⟩
theorem vX1_61 : MWV RX1 61 yX1_readOne := ⟨(mT3 (i := 172) rfl rfl), (mT3 (i := 174) rfl rfl), (mTp (i := 9) (q := (⟨"LayerBook$Law", "readOne", "(LLayerBook$Tape;)Z"⟩, 5)) rfl)⟩
theorem vX1_68 : MWV RX1 68 yX1_write := ⟨(mT3 (i := 159) rfl rfl), (mT3 (i := 161) rfl rfl), (mTp (i := 8) (q := (⟨"LayerBook$Law", "write", "(I)Z"⟩, 5)) rfl)⟩
theorem vX1_76 : MWV RX1 76 yX8_isSign := ⟨(mT3 (i := 168) rfl rfl), (mT3 (i := 169) rfl rfl), (mT3 (i := 170) rfl rfl)⟩
theorem vX1_81 : MWV RX1 81 yX1_opens := ⟨(mT3 (i := 151) rfl rfl), (mT3 (i := 153) rfl rfl), (mTp (i := 6) (q := (⟨"LayerBook$Law", "opens", "(LLayerBook$Tape;)Z"⟩, 5)) rfl)⟩
theorem vX1_84 : MWV RX1 84 yX1_closes := ⟨(mT3 (i := 155) rfl rfl), (mT3 (i := 157) rfl rfl), (mTp (i := 7) (q := (⟨"LayerBook$Law", "closes", "()Z"⟩, 5)) rfl)⟩
theorem vX1_89 : MWV RX1 89 yX8_isNumber := ⟨(mT3 (i := 182) rfl rfl), (mT3 (i := 183) rfl rfl), (mT3 (i := 184) rfl rfl)⟩
theorem vX1_112 : MWV RX1 112 yX2_left := ⟨(mT3 (i := 211) rfl rfl), (mT3 (i := 212) rfl rfl), (mT3 (i := 213) rfl rfl)⟩
theorem vX10_165 : MWV RX10 165 yX10_spell := ⟨(mT5 (i := 71) rfl rfl), (mT5 (i := 73) rfl rfl), (mTp (i := 31) (q := (⟨"LayerBookModel", "spell", "(IJ)V"⟩, 81)) rfl)⟩
theorem vX10_198 : MWV RX10 198 yX10_isLoan := ⟨(mT6 (i := 98) rfl rfl), (mT6 (i := 100) rfl rfl), (mTp (i := 32) (q := (⟨"LayerBookModel", "isLoan", "(I)Z"⟩, 81)) rfl)⟩
theorem vX10_230 : MWV RX10 230 yX10_saysOf := ⟨(mT6 (i := 206) rfl rfl), (mT6 (i := 208) rfl rfl), (mTp (i := 48) (q := (⟨"LayerBookModel", "saysOf", "(III)I"⟩, 81)) rfl)⟩
theorem vX10_238 : MWV RX10 238 yX10_lot := ⟨(mT7 (i := 100) rfl rfl), (mT7 (i := 102) rfl rfl), (mTp (i := 64) (q := (⟨"LayerBookModel", "lot", "(II)I"⟩, 81)) rfl)⟩
theorem vX10_241 : MWV RX10 241 yX10_paysOff := ⟨(mT7 (i := 108) rfl rfl), (mT7 (i := 110) rfl rfl), (mTp (i := 65) (q := (⟨"LayerBookModel", "paysOff", "(IIII)V"⟩, 81)) rfl)⟩
theorem vX10_245 : MWV RX10 245 yX10_principal := ⟨(mT7 (i := 112) rfl rfl), (mT7 (i := 114) rfl rfl), (mTp (i := 66) (q := (⟨"LayerBookModel", "principal", "(III)I"⟩, 81)) rfl)⟩
theorem vX10_248 : MWV RX10 248 yX10_pool := ⟨(mT7 (i := 74) rfl rfl), (mT7 (i := 76) rfl rfl), (mTp (i := 62) (q := (⟨"LayerBookModel", "pool", "()I"⟩, 81)) rfl)⟩
theorem vX10_258 : MWV RX10 258 yX10_goes := ⟨(mT7 (i := 93) rfl rfl), (mT7 (i := 95) rfl rfl), (mTp (i := 63) (q := (⟨"LayerBookModel", "goes", "(II)V"⟩, 81)) rfl)⟩
theorem vX10_279 : MWV RX10 279 yX10_byteAt := ⟨(mT6 (i := 127) rfl rfl), (mT6 (i := 129) rfl rfl), (mTp (i := 35) (q := (⟨"LayerBookModel", "byteAt", "(I)I"⟩, 81)) rfl)⟩
theorem vX10_312 : MWV RX10 312 yX10_fail := ⟨(mT6 (i := 145) rfl rfl), (mT6 (i := 147) rfl rfl), (mTp (i := 38) (q := (⟨"LayerBookModel", "fail", "()V"⟩, 81)) rfl)⟩
theorem vX10_315 : MWV RX10 315 yX10_next := ⟨(mT6 (i := 123) rfl rfl), (mT6 (i := 125) rfl rfl), (mTp (i := 34) (q := (⟨"LayerBookModel", "next", "()V"⟩, 81)) rfl)⟩
theorem vX10_320 : MWV RX10 320 yX10_isWord := ⟨(mT6 (i := 141) rfl rfl), (mT6 (i := 143) rfl rfl), (mTp (i := 37) (q := (⟨"LayerBookModel", "isWord", "(J)Z"⟩, 81)) rfl)⟩
theorem vX10_352 : MWV RX10 352 yX10_isSign := ⟨(mT6 (i := 178) rfl rfl), (mT6 (i := 180) rfl rfl), (mTp (i := 46) (q := (⟨"LayerBookModel", "isSign", "(I)Z"⟩, 81)) rfl)⟩
theorem vX10_355 : MWV RX10 355 yX10_opens := ⟨(mT6 (i := 162) rfl rfl), (mT6 (i := 164) rfl rfl), (mTp (i := 42) (q := (⟨"LayerBookModel", "opens", "()Z"⟩, 81)) rfl)⟩
theorem vX10_359 : MWV RX10 359 yX10_one := ⟨(mT6 (i := 174) rfl rfl), (mT6 (i := 176) rfl rfl), (mTp (i := 45) (q := (⟨"LayerBookModel", "one", "()I"⟩, 81)) rfl)⟩
theorem vX10_362 : MWV RX10 362 yX10_either := ⟨(mT6 (i := 149) rfl rfl), (mT6 (i := 151) rfl rfl), (mTp (i := 39) (q := (⟨"LayerBookModel", "either", "()I"⟩, 81)) rfl)⟩
theorem vX10_365 : MWV RX10 365 yX10_name := ⟨(mT6 (i := 182) rfl rfl), (mT6 (i := 184) rfl rfl), (mTp (i := 47) (q := (⟨"LayerBookModel", "name", "()I"⟩, 81)) rfl)⟩
theorem vX10_368 : MWV RX10 368 yX10_term := ⟨(mT6 (i := 170) rfl rfl), (mT6 (i := 172) rfl rfl), (mTp (i := 44) (q := (⟨"LayerBookModel", "term", "()I"⟩, 81)) rfl)⟩
theorem vX10_375 : MWV RX10 375 yX10_not := ⟨(mT6 (i := 157) rfl rfl), (mT6 (i := 159) rfl rfl), (mTp (i := 41) (q := (⟨"LayerBookModel", "not", "()I"⟩, 81)) rfl)⟩
theorem vX10_378 : MWV RX10 378 yX10_added := ⟨(mT6 (i := 166) rfl rfl), (mT6 (i := 168) rfl rfl), (mTp (i := 43) (q := (⟨"LayerBookModel", "added", "()I"⟩, 81)) rfl)⟩
theorem vX10_385 : MWV RX10 385 yX10_both := ⟨(mT6 (i := 153) rfl rfl), (mT6 (i := 155) rfl rfl), (mTp (i := 40) (q := (⟨"LayerBookModel", "both", "()I"⟩, 81)) rfl)⟩
theorem vX10_392 : MWV RX10 392 yX10_part := ⟨(mT6 (i := 137) rfl rfl), (mT6 (i := 139) rfl rfl), (mTp (i := 36) (q := (⟨"LayerBookModel", "part", "(J)I"⟩, 81)) rfl)⟩
theorem vX10_403 : MWV RX10 403 yX10_read := ⟨(mT6 (i := 119) rfl rfl), (mT6 (i := 121) rfl rfl), (mTp (i := 33) (q := (⟨"LayerBookModel", "read", "(II)I"⟩, 81)) rfl)⟩
theorem vX10_426 : MWV RX10 426 yX10_paperHere := ⟨(mT6 (i := 225) rfl rfl), (mT6 (i := 227) rfl rfl), (mTp (i := 50) (q := (⟨"LayerBookModel", "paperHere", "()I"⟩, 81)) rfl)⟩
theorem vX10_429 : MWV RX10 429 yX10_numberHere := ⟨(mT6 (i := 230) rfl rfl), (mT6 (i := 232) rfl rfl), (mTp (i := 51) (q := (⟨"LayerBookModel", "numberHere", "()I"⟩, 81)) rfl)⟩
theorem vX10_434 : MWV RX10 434 yX10_fieldHere := ⟨(mT6 (i := 235) rfl rfl), (mT6 (i := 237) rfl rfl), (mTp (i := 52) (q := (⟨"LayerBookModel", "fieldHere", "()I"⟩, 81)) rfl)⟩
theorem vX10_439 : MWV RX10 439 yX10_readStep := ⟨(mT6 (i := 216) rfl rfl), (mT6 (i := 218) rfl rfl), (mTp (i := 49) (q := (⟨"LayerBookModel", "readStep", "(I)V"⟩, 81)) rfl)⟩
theorem vX10_447 : MWV RX10 447 yX10_isPaper := ⟨(mT7 (i := 15) rfl rfl), (mT7 (i := 17) rfl rfl), (mTp (i := 53) (q := (⟨"LayerBookModel", "isPaper", "(I)Z"⟩, 81)) rfl)⟩
theorem vX10_457 : MWV RX10 457 yX10_lostNow := ⟨(mT7 (i := 42) rfl rfl), (mT7 (i := 44) rfl rfl), (mTp (i := 56) (q := (⟨"LayerBookModel", "lostNow", "()J"⟩, 81)) rfl)⟩
theorem vX10_466 : MWV RX10 466 yX10_field := ⟨(mT7 (i := 52) rfl rfl), (mT7 (i := 54) rfl rfl), (mTp (i := 58) (q := (⟨"LayerBookModel", "field", "(II)J"⟩, 81)) rfl)⟩
theorem vX10_478 : MWV RX10 478 yX10_isSo := ⟨(mT7 (i := 48) rfl rfl), (mT7 (i := 50) rfl rfl), (mTp (i := 57) (q := (⟨"LayerBookModel", "isSo", "(II)Z"⟩, 81)) rfl)⟩
theorem vX10_482 : MWV RX10 482 yX10_wish := ⟨(mT7 (i := 58) rfl rfl), (mT7 (i := 60) rfl rfl), (mTp (i := 59) (q := (⟨"LayerBookModel", "wish", "(IIJ)J"⟩, 81)) rfl)⟩
theorem vX10_489 : MWV RX10 489 yX10_anew := ⟨(mT7 (i := 34) rfl rfl), (mT7 (i := 36) rfl rfl), (mTp (i := 54) (q := (⟨"LayerBookModel", "anew", "()V"⟩, 81)) rfl)⟩
theorem vX10_492 : MWV RX10 492 yX10_pay := ⟨(mT7 (i := 38) rfl rfl), (mT7 (i := 40) rfl rfl), (mTp (i := 55) (q := (⟨"LayerBookModel", "pay", "(I)V"⟩, 81)) rfl)⟩
theorem vX10_495 : MWV RX10 495 yX10_collect := ⟨(mT7 (i := 70) rfl rfl), (mT7 (i := 72) rfl rfl), (mTp (i := 61) (q := (⟨"LayerBookModel", "collect", "(I)V"⟩, 81)) rfl)⟩
theorem vX10_498 : MWV RX10 498 yX10_goOn := ⟨(mT7 (i := 66) rfl rfl), (mT7 (i := 68) rfl rfl), (mTp (i := 60) (q := (⟨"LayerBookModel", "goOn", "()V"⟩, 81)) rfl)⟩
theorem vX10_504 : MWV RX10 504 yX10_pass := ⟨(mT7 (i := 132) rfl rfl), (mT7 (i := 134) rfl rfl), (mTp (i := 68) (q := (⟨"LayerBookModel", "pass", "(ZJ)J"⟩, 81)) rfl)⟩
theorem vX10_508 : MWV RX10 508 yX10_turn := ⟨(mT7 (i := 128) rfl rfl), (mT7 (i := 130) rfl rfl), (mTp (i := 67) (q := (⟨"LayerBookModel", "turn", "(Z)V"⟩, 81)) rfl)⟩
theorem vX10_515 : MWV RX10 515 yX10_noRow := ⟨(mT7 (i := 155) rfl rfl), (mT7 (i := 157) rfl rfl), (mTp (i := 69) (q := (⟨"LayerBookModel", "noRow", "(IIII)I"⟩, 81)) rfl)⟩
theorem vX10_518 : MWV RX10 518 yX10_loan := ⟨(mT7 (i := 163) rfl rfl), (mT6 (i := 84) rfl rfl), (mT6 (i := 85) rfl rfl)⟩
theorem vX2_41 : MWV RX2 41 yX2_goesOn := ⟨(mT4 (i := 128) rfl rfl), (mT4 (i := 129) rfl rfl), (mT4 (i := 130) rfl rfl)⟩
theorem vX2_45 : MWV RX2 45 yX2_isLast := ⟨(mT4 (i := 185) rfl rfl), (mT4 (i := 186) rfl rfl), (mT4 (i := 187) rfl rfl)⟩
theorem vX2_51 : MWV RX2 51 yX2_isKind := ⟨(mT4 (i := 136) rfl rfl), (mT4 (i := 137) rfl rfl), (mT4 (i := 138) rfl rfl)⟩
theorem vX2_54 : MWV RX2 54 yX2_interest := ⟨(mT4 (i := 146) rfl rfl), (mT4 (i := 147) rfl rfl), (mT4 (i := 148) rfl rfl)⟩
theorem vX2_67 : MWV RX2 67 yX2_left := ⟨(mT4 (i := 152) rfl rfl), (mT3 (i := 212) rfl rfl), (mT3 (i := 213) rfl rfl)⟩
theorem vX2_71 : MWV RX2 71 yX2_findPay := ⟨(mT4 (i := 142) rfl rfl), (mT4 (i := 144) rfl rfl), (mTp (i := 21) (q := (⟨"LayerBook$Loan", "findPay", "(I)V"⟩, 8)) rfl)⟩
theorem vX2_80 : MWV RX2 80 yX2_wouldEnd := ⟨(mT4 (i := 153) rfl rfl), (mT4 (i := 155) rfl rfl), (mTp (i := 22) (q := (⟨"LayerBook$Loan", "wouldEnd", "(JI)Z"⟩, 8)) rfl)⟩
theorem vX4_16 : MWV RX4 16 yX4_writeRest := ⟨(mT2 (i := 92) rfl rfl), (mT2 (i := 94) rfl rfl), (mTp (i := 0) (q := (⟨"LayerBook$Order", "writeRest", "(I)V"⟩, 2)) rfl)⟩
theorem vX4_20 : MWV RX4 20 yX8_begin := ⟨(mT3 (i := 223) rfl rfl), (mT3 (i := 0) rfl rfl), (mT3 (i := 1) rfl rfl)⟩
theorem vX4_27 : MWV RX4 27 yX8_takesWord := ⟨(mT3 (i := 225) rfl rfl), (mT3 (i := 226) rfl rfl), (mT3 (i := 227) rfl rfl)⟩
theorem vX4_31 : MWV RX4 31 yX8_isEnd := ⟨(mT3 (i := 230) rfl rfl), (mT3 (i := 187) rfl rfl), (mT3 (i := 188) rfl rfl)⟩
theorem vX4_43 : MWV RX4 43 yX8_takesSign := ⟨(mT4 (i := 11) rfl rfl), (mT3 (i := 177) rfl rfl), (mT3 (i := 178) rfl rfl)⟩
theorem vX4_56 : MWV RX4 56 yX8_which := ⟨(mT3 (i := 235) rfl rfl), (mT3 (i := 113) rfl rfl), (mT3 (i := 114) rfl rfl)⟩
theorem vX4_60 : MWV RX4 60 yX8_next := ⟨(mT3 (i := 236) rfl rfl), (mT3 (i := 4) rfl rfl), (mT3 (i := 5) rfl rfl)⟩
theorem vX4_82 : MWV RX4 82 yX8_isNumber := ⟨(mT4 (i := 4) rfl rfl), (mT3 (i := 183) rfl rfl), (mT3 (i := 184) rfl rfl)⟩
theorem vX5_17 : MWV RX5 17 yX5_restart := ⟨(mT2 (i := 198) rfl rfl), (mT2 (i := 199) rfl rfl), (mT2 (i := 200) rfl rfl)⟩
theorem vX6_22 : MWV RX6 22 yX2_copy := ⟨(mT5 (i := 20) rfl rfl), (mT5 (i := 21) rfl rfl), (mT5 (i := 22) rfl rfl)⟩
theorem vX6_44 : MWV RX6 44 yX2_isPooled := ⟨(mT4 (i := 124) rfl rfl), (mT4 (i := 125) rfl rfl), (mT4 (i := 126) rfl rfl)⟩
theorem vX6_54 : MWV RX6 54 yX3_clear := ⟨(mT4 (i := 116) rfl rfl), (mT4 (i := 117) rfl rfl), (mT4 (i := 118) rfl rfl)⟩
theorem vX6_59 : MWV RX6 59 yX6_balances := ⟨(mT4 (i := 120) rfl rfl), (mT4 (i := 121) rfl rfl), (mT4 (i := 122) rfl rfl)⟩
theorem vX6_66 : MWV RX6 66 yX2_begin := ⟨(mT4 (i := 132) rfl rfl), (mT4 (i := 133) rfl rfl), (mT4 (i := 134) rfl rfl)⟩
theorem vX6_70 : MWV RX6 70 yX2_goesOn := ⟨(mT4 (i := 160) rfl rfl), (mT4 (i := 129) rfl rfl), (mT4 (i := 130) rfl rfl)⟩
theorem vX6_73 : MWV RX6 73 yX6_draw := ⟨(mT4 (i := 161) rfl rfl), (mT4 (i := 163) rfl rfl), (mTp (i := 23) (q := (⟨"LayerBook$Pool", "draw", "(ILLayerBook$Loan;ILLayerBook$Month;)V"⟩, 7)) rfl)⟩
theorem vX6_81 : MWV RX6 81 yX2_isSoldIn := ⟨(mT4 (i := 205) rfl rfl), (mT4 (i := 206) rfl rfl), (mT4 (i := 207) rfl rfl)⟩
theorem vX6_85 : MWV RX6 85 yX6_sell := ⟨(mT4 (i := 209) rfl rfl), (mT4 (i := 211) rfl rfl), (mTp (i := 27) (q := (⟨"LayerBook$Pool", "sell", "(LLayerBook$Loan;LLayerBook$Month;)V"⟩, 7)) rfl)⟩
theorem vX6_105 : MWV RX6 105 yX6_late := ⟨(mT4 (i := 215) rfl rfl), (mT4 (i := 217) rfl rfl), (mTp (i := 28) (q := (⟨"LayerBook$Pool", "late", "()I"⟩, 7)) rfl)⟩
theorem vX6_111 : MWV RX6 111 yX6_chance := ⟨(mT4 (i := 165) rfl rfl), (mT4 (i := 167) rfl rfl), (mTp (i := 24) (q := (⟨"LayerBook$Pool", "chance", "(ILLayerBook$Loan;I)I"⟩, 7)) rfl)⟩
theorem vX6_115 : MWV RX6 115 yX6_lot := ⟨(mT4 (i := 172) rfl rfl), (mT4 (i := 174) rfl rfl), (mTp (i := 25) (q := (⟨"LayerBook$Pool", "lot", "(II)I"⟩, 7)) rfl)⟩
theorem vX6_125 : MWV RX6 125 yX2_rests := ⟨(mT4 (i := 181) rfl rfl), (mT4 (i := 182) rfl rfl), (mT4 (i := 183) rfl rfl)⟩
theorem vX6_128 : MWV RX6 128 yX6_fallLate := ⟨(mT4 (i := 189) rfl rfl), (mT4 (i := 191) rfl rfl), (mTp (i := 26) (q := (⟨"LayerBook$Pool", "fallLate", "(LLayerBook$Loan;ILLayerBook$Month;)V"⟩, 7)) rfl)⟩
theorem vX6_132 : MWV RX6 132 yX2_interest := ⟨(mT4 (i := 193) rfl rfl), (mT4 (i := 147) rfl rfl), (mT4 (i := 148) rfl rfl)⟩
theorem vX6_135 : MWV RX6 135 yX2_isLast := ⟨(mT4 (i := 194) rfl rfl), (mT4 (i := 186) rfl rfl), (mT4 (i := 187) rfl rfl)⟩
theorem vX6_141 : MWV RX6 141 yX1_value := ⟨(mT4 (i := 169) rfl rfl), (mT3 (i := 199) rfl rfl), (mT3 (i := 200) rfl rfl)⟩
theorem vX6_164 : MWV RX6 164 yX2_principal := ⟨(mT4 (i := 201) rfl rfl), (mT4 (i := 202) rfl rfl), (mT4 (i := 203) rfl rfl)⟩
theorem vX8_22 : MWV RX8 22 yX8_next := ⟨(mT3 (i := 3) rfl rfl), (mT3 (i := 4) rfl rfl), (mT3 (i := 5) rfl rfl)⟩
theorem vX8_28 : MWV RX8 28 yX8_at := ⟨(mT3 (i := 7) rfl rfl), (mT3 (i := 9) rfl rfl), (mTp (i := 1) (q := (⟨"LayerBook$Tape", "at", "(I)I"⟩, 6)) rfl)⟩
theorem vX8_45 : MWV RX8 45 yX8_readNumber := ⟨(mT3 (i := 20) rfl rfl), (mT3 (i := 22) rfl rfl), (mTp (i := 2) (q := (⟨"LayerBook$Tape", "readNumber", "()V"⟩, 6)) rfl)⟩
theorem vX8_58 : MWV RX8 58 yX8_isSign := ⟨(mT3 (i := 180) rfl rfl), (mT3 (i := 169) rfl rfl), (mT3 (i := 170) rfl rfl)⟩
theorem vX8_62 : MWV RX8 62 yX8_which := ⟨(mT3 (i := 229) rfl rfl), (mT3 (i := 113) rfl rfl), (mT3 (i := 114) rfl rfl)⟩
theorem vX8_74 : MWV RX8 74 yX8_isSame := ⟨(mT3 (i := 137) rfl rfl), (mT3 (i := 139) rfl rfl), (mTp (i := 3) (q := (⟨"LayerBook$Tape", "isSame", "(Ljava/lang/String;II)Z"⟩, 6)) rfl)⟩
theorem vX9_98 : MWV RX9 98 yX2_open := ⟨(mT2 (i := 181) rfl rfl), (mT2 (i := 182) rfl rfl), (mT2 (i := 183) rfl rfl)⟩
theorem vX9_131 : MWV RX9 131 yX5_open := ⟨(mT2 (i := 194) rfl rfl), (mT2 (i := 195) rfl rfl), (mT2 (i := 196) rfl rfl)⟩
theorem vX9_181 : MWV RX9 181 yX8_append := ⟨(mT2 (i := 227) rfl rfl), (mT2 (i := 228) rfl rfl), (mT2 (i := 229) rfl rfl)⟩
theorem vX9_185 : MWV RX9 185 yX1_read := ⟨(mT2 (i := 235) rfl rfl), (mT2 (i := 236) rfl rfl), (mT2 (i := 237) rfl rfl)⟩
theorem vX9_192 : MWV RX9 192 yX1_value := ⟨(mT3 (i := 198) rfl rfl), (mT3 (i := 199) rfl rfl), (mT3 (i := 200) rfl rfl)⟩
theorem vX9_196 : MWV RX9 196 yX4_read := ⟨(mT3 (i := 219) rfl rfl), (mT3 (i := 220) rfl rfl), (mT3 (i := 221) rfl rfl)⟩
theorem vX9_202 : MWV RX9 202 yX0_restart := ⟨(mT4 (i := 20) rfl rfl), (mT4 (i := 21) rfl rfl), (mT4 (i := 22) rfl rfl)⟩
theorem vX9_205 : MWV RX9 205 yX9_orderIn := ⟨(mT4 (i := 25) rfl rfl), (mT4 (i := 27) rfl rfl), (mTp (i := 10) (q := (⟨"LayerBook", "orderIn", "(I)LLayerBook$Order;"⟩, 15)) rfl)⟩
theorem vX9_209 : MWV RX9 209 yX0_pour := ⟨(mT4 (i := 29) rfl rfl), (mT4 (i := 30) rfl rfl), (mT4 (i := 31) rfl rfl)⟩
theorem vX9_213 : MWV RX9 213 yX6_collect := ⟨(mT4 (i := 112) rfl rfl), (mT4 (i := 113) rfl rfl), (mT4 (i := 114) rfl rfl)⟩
theorem vX9_217 : MWV RX9 217 yX3_fact := ⟨(mT4 (i := 223) rfl rfl), (mT4 (i := 224) rfl rfl), (mT4 (i := 225) rfl rfl)⟩
theorem vX9_225 : MWV RX9 225 yX2_goesOn := ⟨(mT4 (i := 235) rfl rfl), (mT4 (i := 129) rfl rfl), (mT4 (i := 130) rfl rfl)⟩
theorem vX9_229 : MWV RX9 229 yX9_refusalOf := ⟨(mT5 (i := 0) rfl rfl), (mT5 (i := 2) rfl rfl), (mTp (i := 29) (q := (⟨"LayerBook", "refusalOf", "(III)I"⟩, 15)) rfl)⟩
theorem vX9_233 : MWV RX9 233 yX7_holds := ⟨(mT5 (i := 4) rfl rfl), (mT5 (i := 5) rfl rfl), (mT5 (i := 6) rfl rfl)⟩
theorem vX9_240 : MWV RX9 240 yX9_firstUnlike := ⟨(mT5 (i := 8) rfl rfl), (mT5 (i := 10) rfl rfl), (mTp (i := 30) (q := (⟨"LayerBook", "firstUnlike", "([IIII)I"⟩, 15)) rfl)⟩
theorem vX9_244 : MWV RX9 244 yX6_copy := ⟨(mT5 (i := 16) rfl rfl), (mT5 (i := 17) rfl rfl), (mT5 (i := 18) rfl rfl)⟩
theorem vX9_248 : MWV RX9 248 yX0_copy := ⟨(mT5 (i := 24) rfl rfl), (mT5 (i := 25) rfl rfl), (mT5 (i := 26) rfl rfl)⟩
theorem vX9_260 : MWV RX9 260 yX5_got := ⟨(mT5 (i := 32) rfl rfl), (mT5 (i := 33) rfl rfl), (mT5 (i := 34) rfl rfl)⟩
theorem vX9_264 : MWV RX9 264 yX6_balances := ⟨(mT5 (i := 40) rfl rfl), (mT4 (i := 121) rfl rfl), (mT4 (i := 122) rfl rfl)⟩
theorem vX9_282 : MWV RX9 282 yX7_lay := ⟨(mT5 (i := 45) rfl rfl), (mT5 (i := 46) rfl rfl), (mT5 (i := 47) rfl rfl)⟩
theorem vX9_287 : MWV RX9 287 yX9_loan := ⟨(mT5 (i := 58) rfl rfl), (mT2 (i := 174) rfl rfl), (mT2 (i := 175) rfl rfl)⟩
theorem vX9_291 : MWV RX9 291 yX2_isKind := ⟨(mT5 (i := 63) rfl rfl), (mT4 (i := 137) rfl rfl), (mT4 (i := 138) rfl rfl)⟩
theorem kX10_190 : Cond.constant RX10 190 (999999) ∈ ALL := (mT6 (i := 93) rfl rfl)
theorem kX10_213 : Cond.constant RX10 213 (99999) ∈ ALL := (mT6 (i := 106) rfl rfl)
theorem kX9_87 : Cond.constant RX9 87 (999999) ∈ ALL := (mT2 (i := 180) rfl rfl)
theorem kX9_125 : Cond.constant RX9 125 (9999999) ∈ ALL := (mT2 (i := 193) rfl rfl)
theorem kX9_161 : Cond.constant RX9 161 (99999) ∈ ALL := (mT2 (i := 218) rfl rfl)
theorem kL_44 : Cond.constantLong RL 44 (4294967295) ∈ ALL := (mT7 (i := 171) rfl rfl)
theorem kX0_95 : Cond.constantLong RX0 95 (1000) ∈ ALL := (mT4 (i := 41) rfl rfl)
theorem kX0_140 : Cond.constantLong RX0 140 (9999) ∈ ALL := (mT4 (i := 67) rfl rfl)
theorem kX0_142 : Cond.constantLong RX0 142 (100) ∈ ALL := (mT4 (i := 68) rfl rfl)
theorem kX0_148 : Cond.constantLong RX0 148 (10000) ∈ ALL := (mT4 (i := 80) rfl rfl)
theorem kX10_163 : Cond.constantLong RX10 163 (7377293577726992443) ∈ ALL := (mT5 (i := 70) rfl rfl)
theorem kX10_169 : Cond.constantLong RX10 169 (2336349459239153696) ∈ ALL := (mT5 (i := 76) rfl rfl)
theorem kX10_171 : Cond.constantLong RX10 171 (4260516716698433824) ∈ ALL := (mT5 (i := 77) rfl rfl)
theorem kX10_173 : Cond.constantLong RX10 173 (3467836722239250464) ∈ ALL := (mT5 (i := 78) rfl rfl)
theorem kX10_181 : Cond.constantLong RX10 181 (255) ∈ ALL := (mT5 (i := 75) rfl rfl)
theorem kX10_220 : Cond.constantLong RX10 220 (7919) ∈ ALL := (mT7 (i := 104) rfl rfl)
theorem kX10_222 : Cond.constantLong RX10 222 (104729) ∈ ALL := (mT7 (i := 105) rfl rfl)
theorem kX10_224 : Cond.constantLong RX10 224 (48271) ∈ ALL := (mT7 (i := 106) rfl rfl)
theorem kX10_226 : Cond.constantLong RX10 226 (2147483647) ∈ ALL := (mT7 (i := 107) rfl rfl)
theorem kX10_228 : Cond.constantLong RX10 228 (1000) ∈ ALL := (mT7 (i := 46) rfl rfl)
theorem kX10_262 : Cond.constantLong RX10 262 (100) ∈ ALL := (mT7 (i := 57) rfl rfl)
theorem kX10_292 : Cond.constantLong RX10 292 (27) ∈ ALL := (mT6 (i := 131) rfl rfl)
theorem kX10_294 : Cond.constantLong RX10 294 (96) ∈ ALL := (mT6 (i := 132) rfl rfl)
theorem kX10_296 : Cond.constantLong RX10 296 (-1) ∈ ALL := (mT6 (i := 133) rfl rfl)
theorem kX10_298 : Cond.constantLong RX10 298 (10) ∈ ALL := (mT6 (i := 134) rfl rfl)
theorem kX10_300 : Cond.constantLong RX10 300 (48) ∈ ALL := (mT6 (i := 135) rfl rfl)
theorem kX10_318 : Cond.constantLong RX10 318 (7214732) ∈ ALL := (mT6 (i := 186) rfl rfl)
theorem kX10_327 : Cond.constantLong RX10 327 (355568) ∈ ALL := (mT6 (i := 187) rfl rfl)
theorem kX10_332 : Cond.constantLong RX10 332 (240023) ∈ ALL := (mT6 (i := 188) rfl rfl)
theorem kX10_337 : Cond.constantLong RX10 337 (312151) ∈ ALL := (mT6 (i := 189) rfl rfl)
theorem kX10_342 : Cond.constantLong RX10 342 (795597152) ∈ ALL := (mT6 (i := 190) rfl rfl)
theorem kX10_347 : Cond.constantLong RX10 347 (223456) ∈ ALL := (mT6 (i := 191) rfl rfl)
theorem kX10_371 : Cond.constantLong RX10 371 (43) ∈ ALL := (mT6 (i := 192) rfl rfl)
theorem kX10_373 : Cond.constantLong RX10 373 (10631) ∈ ALL := (mT6 (i := 161) rfl rfl)
theorem kX10_381 : Cond.constantLong RX10 381 (60) ∈ ALL := (mT6 (i := 193) rfl rfl)
theorem kX10_383 : Cond.constantLong RX10 383 (1111) ∈ ALL := (mT6 (i := 194) rfl rfl)
theorem kX10_388 : Cond.constantLong RX10 388 (423) ∈ ALL := (mT6 (i := 195) rfl rfl)
theorem kX10_390 : Cond.constantLong RX10 390 (119082) ∈ ALL := (mT6 (i := 136) rfl rfl)
theorem kX10_396 : Cond.constantLong RX10 396 (237470) ∈ ALL := (mT6 (i := 196) rfl rfl)
theorem kX10_398 : Cond.constantLong RX10 398 (2690359) ∈ ALL := (mT6 (i := 197) rfl rfl)
theorem kX10_406 : Cond.constantLong RX10 406 (-4611686018427387904) ∈ ALL := (mT6 (i := 210) rfl rfl)
theorem kX10_408 : Cond.constantLong RX10 408 (5) ∈ ALL := (mT6 (i := 229) rfl rfl)
theorem kX10_410 : Cond.constantLong RX10 410 (247664) ∈ ALL := (mT6 (i := 239) rfl rfl)
theorem kX10_412 : Cond.constantLong RX10 412 (1905759) ∈ ALL := (mT7 (i := 0) rfl rfl)
theorem kX10_414 : Cond.constantLong RX10 414 (407041) ∈ ALL := (mT7 (i := 1) rfl rfl)
theorem kX10_416 : Cond.constantLong RX10 416 (4514) ∈ ALL := (mT6 (i := 220) rfl rfl)
theorem kX10_418 : Cond.constantLong RX10 418 (11716) ∈ ALL := (mT6 (i := 221) rfl rfl)
theorem kX10_420 : Cond.constantLong RX10 420 (11570) ∈ ALL := (mT6 (i := 222) rfl rfl)
theorem kX10_422 : Cond.constantLong RX10 422 (316163) ∈ ALL := (mT6 (i := 223) rfl rfl)
theorem kX10_424 : Cond.constantLong RX10 424 (220309) ∈ ALL := (mT6 (i := 224) rfl rfl)
theorem kX10_432 : Cond.constantLong RX10 432 (249) ∈ ALL := (mT6 (i := 234) rfl rfl)
theorem kX10_437 : Cond.constantLong RX10 437 (358472) ∈ ALL := (mT6 (i := 215) rfl rfl)
theorem kX10_461 : Cond.constantLong RX10 461 (9999) ∈ ALL := (mT7 (i := 56) rfl rfl)
theorem kX10_470 : Cond.constantLong RX10 470 (10000) ∈ ALL := (mT7 (i := 47) rfl rfl)
theorem kX2_49 : Cond.constantLong RX2 49 (10000) ∈ ALL := (mT4 (i := 150) rfl rfl)
theorem kX2_78 : Cond.constantLong RX2 78 (2) ∈ ALL := (mT4 (i := 151) rfl rfl)
theorem kX5_41 : Cond.constantLong RX5 41 (10000) ∈ ALL := (mT4 (i := 46) rfl rfl)
theorem kX6_151 : Cond.constantLong RX6 151 (7919) ∈ ALL := (mT4 (i := 176) rfl rfl)
theorem kX6_153 : Cond.constantLong RX6 153 (104729) ∈ ALL := (mT4 (i := 177) rfl rfl)
theorem kX6_155 : Cond.constantLong RX6 155 (48271) ∈ ALL := (mT4 (i := 178) rfl rfl)
theorem kX6_157 : Cond.constantLong RX6 157 (2147483647) ∈ ALL := (mT4 (i := 179) rfl rfl)
theorem kX6_159 : Cond.constantLong RX6 159 (1000) ∈ ALL := (mT4 (i := 180) rfl rfl)
theorem kX6_171 : Cond.constantLong RX6 171 (100) ∈ ALL := (mT4 (i := 213) rfl rfl)
theorem kX9_152 : Cond.constantLong RX9 152 (-4611686018427387904) ∈ ALL := (mT2 (i := 210) rfl rfl)
theorem kX9_285 : Cond.constantLong RX9 285 (3) ∈ ALL := (mT5 (i := 57) rfl rfl)
theorem kX10_443 : Cond.constant RX10 443 (9999999) ∈ ALL := (mT7 (i := 10) rfl rfl)
theorem fX0_67 : FW RX0 67 3 11 .boolean false := ⟨RX3, TX3, 13, CF3, (mT1 (i := 232) rfl rfl), by decide, rfl, rfl⟩
theorem fX0_91 : FW RX0 91 3 10 .long false := ⟨RX3, TX3, 13, CF3, (mT1 (i := 231) rfl rfl), by decide, rfl, rfl⟩
theorem fX3_9 : FW RX3 9 3 12 (.array .long) true := ⟨RX3, TX3, 13, CF3, (mT1 (i := 234) rfl rfl), by decide, rfl, rfl⟩
theorem fX4_51 : FW RX4 51 4 1 .int false := ⟨RX4, TX4, 2, CF4, (mT2 (i := 102) rfl rfl), by decide, rfl, rfl⟩
theorem fX6_63 : FW RX6 63 3 6 .long false := ⟨RX3, TX3, 13, CF3, (mT1 (i := 219) rfl rfl), by decide, rfl, rfl⟩
theorem fX6_102 : FW RX6 102 3 7 .long false := ⟨RX3, TX3, 13, CF3, (mT1 (i := 222) rfl rfl), by decide, rfl, rfl⟩
theorem fX6_109 : FW RX6 109 3 9 .int false := ⟨RX3, TX3, 13, CF3, (mT1 (i := 228) rfl rfl), by decide, rfl, rfl⟩
theorem fX6_119 : FW RX6 119 2 7 .int false := ⟨RX2, TX2, 8, CF2, (mT1 (i := 62) rfl rfl), by decide, rfl, rfl⟩
theorem fX7_15 : FW RX7 15 7 1 .int false := ⟨RX7, TX7, 3, CF7, (mT2 (i := 117) rfl rfl), by decide, rfl, rfl⟩
theorem fX9_172 : FW RX9 172 0 2 .int false := ⟨RX0, TX0, 10, CF0, (mT1 (i := 164) rfl rfl), by decide, rfl, rfl⟩
theorem fX9_175 : FW RX9 175 0 3 .int false := ⟨RX0, TX0, 10, CF0, (mT1 (i := 166) rfl rfl), by decide, rfl, rfl⟩
theorem mX9_init : MW yX9_init cX9_init 2 none 0 := ⟨(mT1 (i := 1) rfl rfl), (mT1 (i := 22) rfl rfl), by decide +kernel, by decide +kernel, by decide +kernel⟩
theorem mX9_amend : MW yX9_amend cX9_amend 4 (some .int) 2 := ⟨(mT1 (i := 1) rfl rfl), (mT4 (i := 19) rfl rfl), by decide +kernel, by decide +kernel, by decide +kernel⟩
theorem mX9_beside : MW yX9_beside cX9_beside 7 (some .long) 3 := ⟨(mT1 (i := 1) rfl rfl), (mT5 (i := 15) rfl rfl), by decide +kernel, by decide +kernel, by decide +kernel⟩
theorem mX9_buy : MW yX9_buy cX9_buy 3 (some .int) 1 := ⟨(mT1 (i := 1) rfl rfl), (mT4 (i := 234) rfl rfl), by decide +kernel, by decide +kernel, by decide +kernel⟩
theorem mX9_cell : MW yX9_cell cX9_cell 5 (some .int) 3 := ⟨(mT1 (i := 1) rfl rfl), (mT5 (i := 52) rfl rfl), by decide +kernel, by decide +kernel, by decide +kernel⟩
theorem mX9_commonDivisor : MW yX9_commonDivisor cX9_commonDivisor 7 (some .long) 2 := ⟨(mT1 (i := 1) rfl rfl), (mT2 (i := 213) rfl rfl), by decide +kernel, by decide +kernel, by decide +kernel⟩
theorem mX9_count : MW yX9_count cX9_count 2 (some .int) 1 := ⟨(mT1 (i := 1) rfl rfl), (mT5 (i := 39) rfl rfl), by decide +kernel, by decide +kernel, by decide +kernel⟩
theorem mX9_feed : MW yX9_feed cX9_feed 4 (some .int) 2 := ⟨(mT1 (i := 1) rfl rfl), (mT2 (i := 226) rfl rfl), by decide +kernel, by decide +kernel, by decide +kernel⟩
theorem mX9_firstUnlike : MW yX9_firstUnlike cX9_firstUnlike 9 (some .int) 4 := ⟨(mT1 (i := 1) rfl rfl), (mT5 (i := 11) rfl rfl), by decide +kernel, by decide +kernel, by decide +kernel⟩
theorem mX9_force : MW yX9_force cX9_force 3 (some .int) 1 := ⟨(mT1 (i := 1) rfl rfl), (mT3 (i := 193) rfl rfl), by decide +kernel, by decide +kernel, by decide +kernel⟩
theorem mX9_life : MW yX9_life cX9_life 6 (some .long) 2 := ⟨(mT1 (i := 1) rfl rfl), (mT2 (i := 209) rfl rfl), by decide +kernel, by decide +kernel, by decide +kernel⟩
theorem mX9_loan : MW yX9_loan cX9_loan 5 (some .int) 4 := ⟨(mT1 (i := 1) rfl rfl), (mT2 (i := 176) rfl rfl), by decide +kernel, by decide +kernel, by decide +kernel⟩
theorem mX9_loanTold : MW yX9_loanTold cX9_loanTold 4 (some .int) 2 := ⟨(mT1 (i := 1) rfl rfl), (mT2 (i := 188) rfl rfl), by decide +kernel, by decide +kernel, by decide +kernel⟩
theorem mX9_loans : MW yX9_loans cX9_loans 12 (some .int) 4 := ⟨(mT1 (i := 1) rfl rfl), (mT5 (i := 56) rfl rfl), by decide +kernel, by decide +kernel, by decide +kernel⟩
theorem mX9_month : MW yX9_month cX9_month 3 (some .int) 2 := ⟨(mT1 (i := 1) rfl rfl), (mT4 (i := 222) rfl rfl), by decide +kernel, by decide +kernel, by decide +kernel⟩
theorem mX9_order : MW yX9_order cX9_order 2 (some .int) 0 := ⟨(mT1 (i := 1) rfl rfl), (mT3 (i := 218) rfl rfl), by decide +kernel, by decide +kernel, by decide +kernel⟩
theorem mX9_orderIn : MW yX9_orderIn cX9_orderIn 3 (some (.object "LayerBook$Order")) 1 := ⟨(mT1 (i := 1) rfl rfl), (mT4 (i := 28) rfl rfl), by decide +kernel, by decide +kernel, by decide +kernel⟩
theorem mX9_paid : MW yX9_paid cX9_paid 3 (some .int) 2 := ⟨(mT1 (i := 1) rfl rfl), (mT4 (i := 230) rfl rfl), by decide +kernel, by decide +kernel, by decide +kernel⟩
theorem mX9_paper : MW yX9_paper cX9_paper 3 (some .int) 2 := ⟨(mT1 (i := 1) rfl rfl), (mT2 (i := 192) rfl rfl), by decide +kernel, by decide +kernel, by decide +kernel⟩
theorem mX9_paperTold : MW yX9_paperTold cX9_paperTold 4 (some .int) 2 := ⟨(mT1 (i := 1) rfl rfl), (mT2 (i := 205) rfl rfl), by decide +kernel, by decide +kernel, by decide +kernel⟩
theorem mX9_refusalOf : MW yX9_refusalOf cX9_refusalOf 4 (some .int) 3 := ⟨(mT1 (i := 1) rfl rfl), (mT5 (i := 3) rfl rfl), by decide +kernel, by decide +kernel, by decide +kernel⟩
theorem mX9_report : MW yX9_report cX9_report 7 (some .int) 5 := ⟨(mT1 (i := 1) rfl rfl), (mT4 (i := 239) rfl rfl), by decide +kernel, by decide +kernel, by decide +kernel⟩
theorem mX9_run : MW yX9_run cX9_run 3 (some .int) 1 := ⟨(mT1 (i := 1) rfl rfl), (mT4 (i := 111) rfl rfl), by decide +kernel, by decide +kernel, by decide +kernel⟩
theorem mX9_says : MW yX9_says cX9_says 3 (some .long) 2 := ⟨(mT1 (i := 1) rfl rfl), (mT3 (i := 197) rfl rfl), by decide +kernel, by decide +kernel, by decide +kernel⟩
theorem mX9_sheet : MW yX9_sheet cX9_sheet 4 (some .int) 3 := ⟨(mT1 (i := 1) rfl rfl), (mT5 (i := 44) rfl rfl), by decide +kernel, by decide +kernel, by decide +kernel⟩
theorem mX9_step : MW yX9_step cX9_step 5 (some .int) 3 := ⟨(mT1 (i := 1) rfl rfl), (mT4 (i := 15) rfl rfl), by decide +kernel, by decide +kernel, by decide +kernel⟩
theorem mX9_taken : MW yX9_taken cX9_taken 4 (some .int) 2 := ⟨(mT1 (i := 1) rfl rfl), (mT5 (i := 62) rfl rfl), by decide +kernel, by decide +kernel, by decide +kernel⟩
theorem mX9_tell : MW yX9_tell cX9_tell 4 (some .int) 2 := ⟨(mT1 (i := 1) rfl rfl), (mT2 (i := 217) rfl rfl), by decide +kernel, by decide +kernel, by decide +kernel⟩
theorem mX9_text : MW yX9_text cX9_text 2 (some .int) 0 := ⟨(mT1 (i := 1) rfl rfl), (mT2 (i := 234) rfl rfl), by decide +kernel, by decide +kernel, by decide +kernel⟩
theorem mX9_trip : MW yX9_trip cX9_trip 3 (some .int) 2 := ⟨(mT1 (i := 1) rfl rfl), (mT2 (i := 222) rfl rfl), by decide +kernel, by decide +kernel, by decide +kernel⟩
theorem mX9_within : MW yX9_within cX9_within 3 (some .boolean) 3 := ⟨(mT1 (i := 1) rfl rfl), (mT2 (i := 179) rfl rfl), by decide +kernel, by decide +kernel, by decide +kernel⟩
theorem mX0_init : MW yX0_init cX0_init 2 none 0 := ⟨(mT1 (i := 4) rfl rfl), (mT1 (i := 113) rfl rfl), by decide +kernel, by decide +kernel, by decide +kernel⟩
theorem mX0_copy : MW yX0_copy cX0_copy 3 none 1 := ⟨(mT1 (i := 4) rfl rfl), (mT5 (i := 27) rfl rfl), by decide +kernel, by decide +kernel, by decide +kernel⟩
theorem mX0_cover : MW yX0_cover cX0_cover 5 (some .long) 1 := ⟨(mT1 (i := 4) rfl rfl), (mT4 (i := 66) rfl rfl), by decide +kernel, by decide +kernel, by decide +kernel⟩
theorem mX0_field : MW yX0_field cX0_field 4 (some .long) 3 := ⟨(mT1 (i := 4) rfl rfl), (mT4 (i := 62) rfl rfl), by decide +kernel, by decide +kernel, by decide +kernel⟩
theorem mX0_give : MW yX0_give cX0_give 6 none 3 := ⟨(mT1 (i := 4) rfl rfl), (mT4 (i := 87) rfl rfl), by decide +kernel, by decide +kernel, by decide +kernel⟩
theorem mX0_lostShare : MW yX0_lostShare cX0_lostShare 1 (some .long) 0 := ⟨(mT1 (i := 4) rfl rfl), (mT4 (i := 40) rfl rfl), by decide +kernel, by decide +kernel, by decide +kernel⟩
theorem mX0_paperOf : MW yX0_paperOf cX0_paperOf 3 (some (.object "LayerBook$Paper")) 1 := ⟨(mT1 (i := 4) rfl rfl), (mT4 (i := 79) rfl rfl), by decide +kernel, by decide +kernel, by decide +kernel⟩
theorem mX0_passes : MW yX0_passes cX0_passes 8 (some .boolean) 3 := ⟨(mT1 (i := 4) rfl rfl), (mT4 (i := 58) rfl rfl), by decide +kernel, by decide +kernel, by decide +kernel⟩
theorem mX0_pour : MW yX0_pour cX0_pour 5 none 3 := ⟨(mT1 (i := 4) rfl rfl), (mT4 (i := 32) rfl rfl), by decide +kernel, by decide +kernel, by decide +kernel⟩
theorem mX0_restart : MW yX0_restart cX0_restart 2 none 0 := ⟨(mT1 (i := 4) rfl rfl), (mT4 (i := 23) rfl rfl), by decide +kernel, by decide +kernel, by decide +kernel⟩
theorem mX0_takeSteps : MW yX0_takeSteps cX0_takeSteps 9 none 3 := ⟨(mT1 (i := 4) rfl rfl), (mT4 (i := 54) rfl rfl), by decide +kernel, by decide +kernel, by decide +kernel⟩
theorem mX0_turnTrip : MW yX0_turnTrip cX0_turnTrip 3 none 1 := ⟨(mT1 (i := 4) rfl rfl), (mT4 (i := 36) rfl rfl), by decide +kernel, by decide +kernel, by decide +kernel⟩
theorem mX0_wish : MW yX0_wish cX0_wish 7 (some .long) 3 := ⟨(mT1 (i := 4) rfl rfl), (mT4 (i := 75) rfl rfl), by decide +kernel, by decide +kernel, by decide +kernel⟩
theorem mX0_writeDown : MW yX0_writeDown cX0_writeDown 8 none 1 := ⟨(mT1 (i := 4) rfl rfl), (mT4 (i := 103) rfl rfl), by decide +kernel, by decide +kernel, by decide +kernel⟩
theorem mX1_init : MW yX1_init cX1_init 1 none 0 := ⟨(mT1 (i := 8) rfl rfl), (mT2 (i := 67) rfl rfl), by decide +kernel, by decide +kernel, by decide +kernel⟩
theorem mX1_closes : MW yX1_closes cX1_closes 1 (some .boolean) 0 := ⟨(mT1 (i := 8) rfl rfl), (mT3 (i := 158) rfl rfl), by decide +kernel, by decide +kernel, by decide +kernel⟩
theorem mX1_joined : MW yX1_joined cX1_joined 3 (some .int) 3 := ⟨(mT1 (i := 8) rfl rfl), (mT3 (i := 207) rfl rfl), by decide +kernel, by decide +kernel, by decide +kernel⟩
theorem mX1_named : MW yX1_named cX1_named 3 (some .int) 3 := ⟨(mT1 (i := 8) rfl rfl), (mT3 (i := 210) rfl rfl), by decide +kernel, by decide +kernel, by decide +kernel⟩
theorem mX1_opens : MW yX1_opens cX1_opens 2 (some .boolean) 1 := ⟨(mT1 (i := 8) rfl rfl), (mT3 (i := 154) rfl rfl), by decide +kernel, by decide +kernel, by decide +kernel⟩
theorem mX1_read : MW yX1_read cX1_read 3 (some .int) 1 := ⟨(mT1 (i := 8) rfl rfl), (mT2 (i := 238) rfl rfl), by decide +kernel, by decide +kernel, by decide +kernel⟩
theorem mX1_readChain : MW yX1_readChain cX1_readChain 6 (some .boolean) 2 := ⟨(mT1 (i := 8) rfl rfl), (mT3 (i := 145) rfl rfl), by decide +kernel, by decide +kernel, by decide +kernel⟩
theorem mX1_readCompared : MW yX1_readCompared cX1_readCompared 3 (some .boolean) 1 := ⟨(mT1 (i := 8) rfl rfl), (mT3 (i := 149) rfl rfl), by decide +kernel, by decide +kernel, by decide +kernel⟩
theorem mX1_readOne : MW yX1_readOne cX1_readOne 4 (some .boolean) 1 := ⟨(mT1 (i := 8) rfl rfl), (mT3 (i := 175) rfl rfl), by decide +kernel, by decide +kernel, by decide +kernel⟩
theorem mX1_signOf : MW yX1_signOf cX1_signOf 2 (some .int) 2 := ⟨(mT1 (i := 8) rfl rfl), (mT3 (i := 165) rfl rfl), by decide +kernel, by decide +kernel, by decide +kernel⟩
theorem mX1_truth : MW yX1_truth cX1_truth 1 (some .int) 1 := ⟨(mT1 (i := 8) rfl rfl), (mT3 (i := 204) rfl rfl), by decide +kernel, by decide +kernel, by decide +kernel⟩
theorem mX1_value : MW yX1_value cX1_value 7 (some .int) 3 := ⟨(mT1 (i := 8) rfl rfl), (mT3 (i := 201) rfl rfl), by decide +kernel, by decide +kernel, by decide +kernel⟩
theorem mX1_write : MW yX1_write cX1_write 2 (some .boolean) 1 := ⟨(mT1 (i := 8) rfl rfl), (mT3 (i := 162) rfl rfl), by decide +kernel, by decide +kernel, by decide +kernel⟩
theorem mX2_init : MW yX2_init cX2_init 1 none 0 := ⟨(mT1 (i := 3) rfl rfl), (mT1 (i := 37) rfl rfl), by decide +kernel, by decide +kernel, by decide +kernel⟩
theorem mX2_begin : MW yX2_begin cX2_begin 2 none 1 := ⟨(mT1 (i := 3) rfl rfl), (mT4 (i := 135) rfl rfl), by decide +kernel, by decide +kernel, by decide +kernel⟩
theorem mX2_copy : MW yX2_copy cX2_copy 2 none 1 := ⟨(mT1 (i := 3) rfl rfl), (mT5 (i := 23) rfl rfl), by decide +kernel, by decide +kernel, by decide +kernel⟩
theorem mX2_findPay : MW yX2_findPay cX2_findPay 9 none 1 := ⟨(mT1 (i := 3) rfl rfl), (mT4 (i := 145) rfl rfl), by decide +kernel, by decide +kernel, by decide +kernel⟩
theorem mX2_goesOn : MW yX2_goesOn cX2_goesOn 1 (some .boolean) 0 := ⟨(mT1 (i := 3) rfl rfl), (mT4 (i := 131) rfl rfl), by decide +kernel, by decide +kernel, by decide +kernel⟩
theorem mX2_interest : MW yX2_interest cX2_interest 1 (some .long) 0 := ⟨(mT1 (i := 3) rfl rfl), (mT4 (i := 149) rfl rfl), by decide +kernel, by decide +kernel, by decide +kernel⟩
theorem mX2_isKind : MW yX2_isKind cX2_isKind 4 (some .boolean) 1 := ⟨(mT1 (i := 3) rfl rfl), (mT4 (i := 139) rfl rfl), by decide +kernel, by decide +kernel, by decide +kernel⟩
theorem mX2_isLast : MW yX2_isLast cX2_isLast 2 (some .boolean) 1 := ⟨(mT1 (i := 3) rfl rfl), (mT4 (i := 188) rfl rfl), by decide +kernel, by decide +kernel, by decide +kernel⟩
theorem mX2_isPooled : MW yX2_isPooled cX2_isPooled 1 (some .boolean) 0 := ⟨(mT1 (i := 3) rfl rfl), (mT4 (i := 127) rfl rfl), by decide +kernel, by decide +kernel, by decide +kernel⟩
theorem mX2_isSoldIn : MW yX2_isSoldIn cX2_isSoldIn 2 (some .boolean) 1 := ⟨(mT1 (i := 3) rfl rfl), (mT4 (i := 208) rfl rfl), by decide +kernel, by decide +kernel, by decide +kernel⟩
theorem mX2_left : MW yX2_left cX2_left 2 (some .int) 1 := ⟨(mT1 (i := 3) rfl rfl), (mT3 (i := 214) rfl rfl), by decide +kernel, by decide +kernel, by decide +kernel⟩
theorem mX2_open : MW yX2_open cX2_open 5 none 4 := ⟨(mT1 (i := 3) rfl rfl), (mT2 (i := 184) rfl rfl), by decide +kernel, by decide +kernel, by decide +kernel⟩
theorem mX2_principal : MW yX2_principal cX2_principal 4 (some .long) 1 := ⟨(mT1 (i := 3) rfl rfl), (mT4 (i := 204) rfl rfl), by decide +kernel, by decide +kernel, by decide +kernel⟩
theorem mX2_rests : MW yX2_rests cX2_rests 2 (some .boolean) 1 := ⟨(mT1 (i := 3) rfl rfl), (mT4 (i := 184) rfl rfl), by decide +kernel, by decide +kernel, by decide +kernel⟩
theorem mX2_wouldEnd : MW yX2_wouldEnd cX2_wouldEnd 7 (some .boolean) 2 := ⟨(mT1 (i := 3) rfl rfl), (mT4 (i := 156) rfl rfl), by decide +kernel, by decide +kernel, by decide +kernel⟩
theorem mX3_init : MW yX3_init cX3_init 1 none 0 := ⟨(mT1 (i := 6) rfl rfl), (mT1 (i := 201) rfl rfl), by decide +kernel, by decide +kernel, by decide +kernel⟩
theorem mX3_clear : MW yX3_clear cX3_clear 1 none 0 := ⟨(mT1 (i := 6) rfl rfl), (mT4 (i := 119) rfl rfl), by decide +kernel, by decide +kernel, by decide +kernel⟩
theorem mX3_collected : MW yX3_collected cX3_collected 1 (some .long) 0 := ⟨(mT1 (i := 6) rfl rfl), (mT4 (i := 50) rfl rfl), by decide +kernel, by decide +kernel, by decide +kernel⟩
theorem mX3_fact : MW yX3_fact cX3_fact 2 (some .int) 1 := ⟨(mT1 (i := 6) rfl rfl), (mT4 (i := 226) rfl rfl), by decide +kernel, by decide +kernel, by decide +kernel⟩
theorem mX4_init : MW yX4_init cX4_init 1 none 0 := ⟨(mT1 (i := 9) rfl rfl), (mT2 (i := 88) rfl rfl), by decide +kernel, by decide +kernel, by decide +kernel⟩
theorem mX4_clear : MW yX4_clear cX4_clear 1 none 1 := ⟨(mT1 (i := 9) rfl rfl), (mT2 (i := 98) rfl rfl), by decide +kernel, by decide +kernel, by decide +kernel⟩
theorem mX4_read : MW yX4_read cX4_read 4 (some .int) 1 := ⟨(mT1 (i := 9) rfl rfl), (mT3 (i := 222) rfl rfl), by decide +kernel, by decide +kernel, by decide +kernel⟩
theorem mX4_readNumber : MW yX4_readNumber cX4_readNumber 3 (some .boolean) 3 := ⟨(mT1 (i := 9) rfl rfl), (mT4 (i := 3) rfl rfl), by decide +kernel, by decide +kernel, by decide +kernel⟩
theorem mX4_readStep : MW yX4_readStep cX4_readStep 5 (some .boolean) 2 := ⟨(mT1 (i := 9) rfl rfl), (mT3 (i := 233) rfl rfl), by decide +kernel, by decide +kernel, by decide +kernel⟩
theorem mX4_readTest : MW yX4_readTest cX4_readTest 4 (some .boolean) 2 := ⟨(mT1 (i := 9) rfl rfl), (mT4 (i := 8) rfl rfl), by decide +kernel, by decide +kernel, by decide +kernel⟩
theorem mX4_readWord : MW yX4_readWord cX4_readWord 5 (some .boolean) 4 := ⟨(mT1 (i := 9) rfl rfl), (mT4 (i := 0) rfl rfl), by decide +kernel, by decide +kernel, by decide +kernel⟩
theorem mX4_writeRest : MW yX4_writeRest cX4_writeRest 2 none 1 := ⟨(mT1 (i := 9) rfl rfl), (mT2 (i := 95) rfl rfl), by decide +kernel, by decide +kernel, by decide +kernel⟩
theorem mX5_init : MW yX5_init cX5_init 1 none 0 := ⟨(mT1 (i := 5) rfl rfl), (mT1 (i := 120) rfl rfl), by decide +kernel, by decide +kernel, by decide +kernel⟩
theorem mX5_begin : MW yX5_begin cX5_begin 1 none 0 := ⟨(mT1 (i := 5) rfl rfl), (mT4 (i := 45) rfl rfl), by decide +kernel, by decide +kernel, by decide +kernel⟩
theorem mX5_copy : MW yX5_copy cX5_copy 2 none 1 := ⟨(mT1 (i := 5) rfl rfl), (mT5 (i := 31) rfl rfl), by decide +kernel, by decide +kernel, by decide +kernel⟩
theorem mX5_end : MW yX5_end cX5_end 1 none 0 := ⟨(mT1 (i := 5) rfl rfl), (mT4 (i := 99) rfl rfl), by decide +kernel, by decide +kernel, by decide +kernel⟩
theorem mX5_got : MW yX5_got cX5_got 1 (some .long) 0 := ⟨(mT1 (i := 5) rfl rfl), (mT5 (i := 35) rfl rfl), by decide +kernel, by decide +kernel, by decide +kernel⟩
theorem mX5_open : MW yX5_open cX5_open 3 none 2 := ⟨(mT1 (i := 5) rfl rfl), (mT2 (i := 197) rfl rfl), by decide +kernel, by decide +kernel, by decide +kernel⟩
theorem mX5_payInterest : MW yX5_payInterest cX5_payInterest 3 none 1 := ⟨(mT1 (i := 5) rfl rfl), (mT4 (i := 91) rfl rfl), by decide +kernel, by decide +kernel, by decide +kernel⟩
theorem mX5_payPrincipal : MW yX5_payPrincipal cX5_payPrincipal 4 none 2 := ⟨(mT1 (i := 5) rfl rfl), (mT4 (i := 95) rfl rfl), by decide +kernel, by decide +kernel, by decide +kernel⟩
theorem mX5_restart : MW yX5_restart cX5_restart 1 none 0 := ⟨(mT1 (i := 5) rfl rfl), (mT2 (i := 201) rfl rfl), by decide +kernel, by decide +kernel, by decide +kernel⟩
theorem mX5_writeDown : MW yX5_writeDown cX5_writeDown 3 none 1 := ⟨(mT1 (i := 5) rfl rfl), (mT4 (i := 107) rfl rfl), by decide +kernel, by decide +kernel, by decide +kernel⟩
theorem mX6_init : MW yX6_init cX6_init 2 none 0 := ⟨(mT1 (i := 2) rfl rfl), (mT1 (i := 30) rfl rfl), by decide +kernel, by decide +kernel, by decide +kernel⟩
theorem mX6_balances : MW yX6_balances cX6_balances 4 (some .long) 0 := ⟨(mT1 (i := 2) rfl rfl), (mT4 (i := 123) rfl rfl), by decide +kernel, by decide +kernel, by decide +kernel⟩
theorem mX6_chance : MW yX6_chance cX6_chance 4 (some .int) 3 := ⟨(mT1 (i := 2) rfl rfl), (mT4 (i := 168) rfl rfl), by decide +kernel, by decide +kernel, by decide +kernel⟩
theorem mX6_collect : MW yX6_collect cX6_collect 5 none 2 := ⟨(mT1 (i := 2) rfl rfl), (mT4 (i := 115) rfl rfl), by decide +kernel, by decide +kernel, by decide +kernel⟩
theorem mX6_copy : MW yX6_copy cX6_copy 3 none 1 := ⟨(mT1 (i := 2) rfl rfl), (mT5 (i := 19) rfl rfl), by decide +kernel, by decide +kernel, by decide +kernel⟩
theorem mX6_draw : MW yX6_draw cX6_draw 9 none 4 := ⟨(mT1 (i := 2) rfl rfl), (mT4 (i := 164) rfl rfl), by decide +kernel, by decide +kernel, by decide +kernel⟩
theorem mX6_fallLate : MW yX6_fallLate cX6_fallLate 6 none 3 := ⟨(mT1 (i := 2) rfl rfl), (mT4 (i := 192) rfl rfl), by decide +kernel, by decide +kernel, by decide +kernel⟩
theorem mX6_late : MW yX6_late cX6_late 3 (some .int) 0 := ⟨(mT1 (i := 2) rfl rfl), (mT4 (i := 218) rfl rfl), by decide +kernel, by decide +kernel, by decide +kernel⟩
theorem mX6_lot : MW yX6_lot cX6_lot 5 (some .int) 2 := ⟨(mT1 (i := 2) rfl rfl), (mT4 (i := 175) rfl rfl), by decide +kernel, by decide +kernel, by decide +kernel⟩
theorem mX6_payAll : MW yX6_payAll cX6_payAll 5 none 4 := ⟨(mT1 (i := 2) rfl rfl), (mT4 (i := 197) rfl rfl), by decide +kernel, by decide +kernel, by decide +kernel⟩
theorem mX6_payMonth : MW yX6_payMonth cX6_payMonth 7 none 3 := ⟨(mT1 (i := 2) rfl rfl), (mT4 (i := 200) rfl rfl), by decide +kernel, by decide +kernel, by decide +kernel⟩
theorem mX6_sell : MW yX6_sell cX6_sell 5 none 2 := ⟨(mT1 (i := 2) rfl rfl), (mT4 (i := 212) rfl rfl), by decide +kernel, by decide +kernel, by decide +kernel⟩
theorem mX7_init : MW yX7_init cX7_init 1 none 0 := ⟨(mT1 (i := 10) rfl rfl), (mT2 (i := 113) rfl rfl), by decide +kernel, by decide +kernel, by decide +kernel⟩
theorem mX7_holds : MW yX7_holds cX7_holds 3 (some .boolean) 1 := ⟨(mT1 (i := 10) rfl rfl), (mT5 (i := 7) rfl rfl), by decide +kernel, by decide +kernel, by decide +kernel⟩
theorem mX7_lay : MW yX7_lay cX7_lay 4 none 2 := ⟨(mT1 (i := 10) rfl rfl), (mT5 (i := 48) rfl rfl), by decide +kernel, by decide +kernel, by decide +kernel⟩
theorem mX8_init : MW yX8_init cX8_init 1 none 0 := ⟨(mT1 (i := 7) rfl rfl), (mT2 (i := 30) rfl rfl), by decide +kernel, by decide +kernel, by decide +kernel⟩
theorem mX8_append : MW yX8_append cX8_append 5 none 2 := ⟨(mT1 (i := 7) rfl rfl), (mT2 (i := 230) rfl rfl), by decide +kernel, by decide +kernel, by decide +kernel⟩
theorem mX8_at : MW yX8_at cX8_at 2 (some .int) 1 := ⟨(mT1 (i := 7) rfl rfl), (mT3 (i := 10) rfl rfl), by decide +kernel, by decide +kernel, by decide +kernel⟩
theorem mX8_begin : MW yX8_begin cX8_begin 1 none 0 := ⟨(mT1 (i := 7) rfl rfl), (mT3 (i := 2) rfl rfl), by decide +kernel, by decide +kernel, by decide +kernel⟩
theorem mX8_isBlank : MW yX8_isBlank cX8_isBlank 1 (some .boolean) 1 := ⟨(mT1 (i := 7) rfl rfl), (mT3 (i := 13) rfl rfl), by decide +kernel, by decide +kernel, by decide +kernel⟩
theorem mX8_isDigit : MW yX8_isDigit cX8_isDigit 1 (some .boolean) 1 := ⟨(mT1 (i := 7) rfl rfl), (mT3 (i := 19) rfl rfl), by decide +kernel, by decide +kernel, by decide +kernel⟩
theorem mX8_isEnd : MW yX8_isEnd cX8_isEnd 1 (some .boolean) 0 := ⟨(mT1 (i := 7) rfl rfl), (mT3 (i := 189) rfl rfl), by decide +kernel, by decide +kernel, by decide +kernel⟩
theorem mX8_isLetter : MW yX8_isLetter cX8_isLetter 1 (some .boolean) 1 := ⟨(mT1 (i := 7) rfl rfl), (mT3 (i := 16) rfl rfl), by decide +kernel, by decide +kernel, by decide +kernel⟩
theorem mX8_isNumber : MW yX8_isNumber cX8_isNumber 1 (some .boolean) 0 := ⟨(mT1 (i := 7) rfl rfl), (mT3 (i := 185) rfl rfl), by decide +kernel, by decide +kernel, by decide +kernel⟩
theorem mX8_isSame : MW yX8_isSame cX8_isSame 5 (some .boolean) 3 := ⟨(mT1 (i := 7) rfl rfl), (mT3 (i := 140) rfl rfl), by decide +kernel, by decide +kernel, by decide +kernel⟩
theorem mX8_isSign : MW yX8_isSign cX8_isSign 2 (some .boolean) 1 := ⟨(mT1 (i := 7) rfl rfl), (mT3 (i := 171) rfl rfl), by decide +kernel, by decide +kernel, by decide +kernel⟩
theorem mX8_next : MW yX8_next cX8_next 2 none 0 := ⟨(mT1 (i := 7) rfl rfl), (mT3 (i := 6) rfl rfl), by decide +kernel, by decide +kernel, by decide +kernel⟩
theorem mX8_readNumber : MW yX8_readNumber cX8_readNumber 1 none 0 := ⟨(mT1 (i := 7) rfl rfl), (mT3 (i := 23) rfl rfl), by decide +kernel, by decide +kernel, by decide +kernel⟩
theorem mX8_takesSign : MW yX8_takesSign cX8_takesSign 3 (some .boolean) 1 := ⟨(mT1 (i := 7) rfl rfl), (mT3 (i := 179) rfl rfl), by decide +kernel, by decide +kernel, by decide +kernel⟩
theorem mX8_takesWord : MW yX8_takesWord cX8_takesWord 3 (some .boolean) 1 := ⟨(mT1 (i := 7) rfl rfl), (mT3 (i := 228) rfl rfl), by decide +kernel, by decide +kernel, by decide +kernel⟩
theorem mX8_which : MW yX8_which cX8_which 5 (some .int) 1 := ⟨(mT1 (i := 7) rfl rfl), (mT3 (i := 115) rfl rfl), by decide +kernel, by decide +kernel, by decide +kernel⟩
theorem mX10_init : MW yX10_init cX10_init 1 none 0 := ⟨(mT1 (i := 11) rfl rfl), (mT5 (i := 68) rfl rfl), by decide +kernel, by decide +kernel, by decide +kernel⟩
theorem mX10_added : MW yX10_added cX10_added 4 (some .int) 0 := ⟨(mT1 (i := 11) rfl rfl), (mT6 (i := 169) rfl rfl), by decide +kernel, by decide +kernel, by decide +kernel⟩
theorem mX10_amend : MW yX10_amend cX10_amend 4 (some .int) 2 := ⟨(mT1 (i := 11) rfl rfl), (mT7 (i := 33) rfl rfl), by decide +kernel, by decide +kernel, by decide +kernel⟩
theorem mX10_anew : MW yX10_anew cX10_anew 2 none 0 := ⟨(mT1 (i := 11) rfl rfl), (mT7 (i := 37) rfl rfl), by decide +kernel, by decide +kernel, by decide +kernel⟩
theorem mX10_beside : MW yX10_beside cX10_beside 10 (some .long) 3 := ⟨(mT1 (i := 11) rfl rfl), (mT7 (i := 127) rfl rfl), by decide +kernel, by decide +kernel, by decide +kernel⟩
theorem mX10_both : MW yX10_both cX10_both 3 (some .int) 0 := ⟨(mT1 (i := 11) rfl rfl), (mT6 (i := 156) rfl rfl), by decide +kernel, by decide +kernel, by decide +kernel⟩
theorem mX10_buy : MW yX10_buy cX10_buy 2 (some .int) 1 := ⟨(mT1 (i := 11) rfl rfl), (mT6 (i := 110) rfl rfl), by decide +kernel, by decide +kernel, by decide +kernel⟩
theorem mX10_byteAt : MW yX10_byteAt cX10_byteAt 2 (some .int) 1 := ⟨(mT1 (i := 11) rfl rfl), (mT6 (i := 130) rfl rfl), by decide +kernel, by decide +kernel, by decide +kernel⟩
theorem mX10_cell : MW yX10_cell cX10_cell 4 (some .int) 3 := ⟨(mT1 (i := 11) rfl rfl), (mT7 (i := 150) rfl rfl), by decide +kernel, by decide +kernel, by decide +kernel⟩
theorem mX10_collect : MW yX10_collect cX10_collect 4 none 1 := ⟨(mT1 (i := 11) rfl rfl), (mT7 (i := 73) rfl rfl), by decide +kernel, by decide +kernel, by decide +kernel⟩
theorem mX10_count : MW yX10_count cX10_count 2 (some .int) 1 := ⟨(mT1 (i := 11) rfl rfl), (mT7 (i := 139) rfl rfl), by decide +kernel, by decide +kernel, by decide +kernel⟩
theorem mX10_divisor : MW yX10_divisor cX10_divisor 10 (some .long) 2 := ⟨(mT1 (i := 11) rfl rfl), (mT7 (i := 25) rfl rfl), by decide +kernel, by decide +kernel, by decide +kernel⟩
theorem mX10_either : MW yX10_either cX10_either 3 (some .int) 0 := ⟨(mT1 (i := 11) rfl rfl), (mT6 (i := 152) rfl rfl), by decide +kernel, by decide +kernel, by decide +kernel⟩
theorem mX10_fail : MW yX10_fail cX10_fail 1 none 0 := ⟨(mT1 (i := 11) rfl rfl), (mT6 (i := 148) rfl rfl), by decide +kernel, by decide +kernel, by decide +kernel⟩
theorem mX10_feed : MW yX10_feed cX10_feed 5 (some .int) 2 := ⟨(mT1 (i := 11) rfl rfl), (mT6 (i := 114) rfl rfl), by decide +kernel, by decide +kernel, by decide +kernel⟩
theorem mX10_field : MW yX10_field cX10_field 5 (some .long) 2 := ⟨(mT1 (i := 11) rfl rfl), (mT7 (i := 55) rfl rfl), by decide +kernel, by decide +kernel, by decide +kernel⟩
theorem mX10_fieldHere : MW yX10_fieldHere cX10_fieldHere 2 (some .int) 0 := ⟨(mT1 (i := 11) rfl rfl), (mT6 (i := 238) rfl rfl), by decide +kernel, by decide +kernel, by decide +kernel⟩
theorem mX10_force : MW yX10_force cX10_force 3 (some .int) 1 := ⟨(mT1 (i := 11) rfl rfl), (mT6 (i := 201) rfl rfl), by decide +kernel, by decide +kernel, by decide +kernel⟩
theorem mX10_goOn : MW yX10_goOn cX10_goOn 1 none 0 := ⟨(mT1 (i := 11) rfl rfl), (mT7 (i := 69) rfl rfl), by decide +kernel, by decide +kernel, by decide +kernel⟩
theorem mX10_goes : MW yX10_goes cX10_goes 11 none 2 := ⟨(mT1 (i := 11) rfl rfl), (mT7 (i := 96) rfl rfl), by decide +kernel, by decide +kernel, by decide +kernel⟩
theorem mX10_in : MW yX10_in cX10_in 3 (some .boolean) 3 := ⟨(mT1 (i := 11) rfl rfl), (mT6 (i := 92) rfl rfl), by decide +kernel, by decide +kernel, by decide +kernel⟩
theorem mX10_interest : MW yX10_interest cX10_interest 2 (some .int) 2 := ⟨(mT1 (i := 11) rfl rfl), (mT7 (i := 89) rfl rfl), by decide +kernel, by decide +kernel, by decide +kernel⟩
theorem mX10_isFixed : MW yX10_isFixed cX10_isFixed 1 (some .boolean) 1 := ⟨(mT1 (i := 11) rfl rfl), (mT7 (i := 83) rfl rfl), by decide +kernel, by decide +kernel, by decide +kernel⟩
theorem mX10_isLoan : MW yX10_isLoan cX10_isLoan 2 (some .boolean) 1 := ⟨(mT1 (i := 11) rfl rfl), (mT6 (i := 101) rfl rfl), by decide +kernel, by decide +kernel, by decide +kernel⟩
theorem mX10_isPaper : MW yX10_isPaper cX10_isPaper 2 (some .boolean) 1 := ⟨(mT1 (i := 11) rfl rfl), (mT7 (i := 18) rfl rfl), by decide +kernel, by decide +kernel, by decide +kernel⟩
theorem mX10_isReset : MW yX10_isReset cX10_isReset 1 (some .boolean) 1 := ⟨(mT1 (i := 11) rfl rfl), (mT7 (i := 80) rfl rfl), by decide +kernel, by decide +kernel, by decide +kernel⟩
theorem mX10_isSheet : MW yX10_isSheet cX10_isSheet 1 (some .boolean) 1 := ⟨(mT1 (i := 11) rfl rfl), (mT7 (i := 146) rfl rfl), by decide +kernel, by decide +kernel, by decide +kernel⟩
theorem mX10_isSign : MW yX10_isSign cX10_isSign 2 (some .boolean) 1 := ⟨(mT1 (i := 11) rfl rfl), (mT6 (i := 181) rfl rfl), by decide +kernel, by decide +kernel, by decide +kernel⟩
theorem mX10_isSo : MW yX10_isSo cX10_isSo 7 (some .boolean) 2 := ⟨(mT1 (i := 11) rfl rfl), (mT7 (i := 51) rfl rfl), by decide +kernel, by decide +kernel, by decide +kernel⟩
theorem mX10_isTold : MW yX10_isTold cX10_isTold 4 (some .boolean) 4 := ⟨(mT1 (i := 11) rfl rfl), (mT6 (i := 89) rfl rfl), by decide +kernel, by decide +kernel, by decide +kernel⟩
theorem mX10_isWord : MW yX10_isWord cX10_isWord 3 (some .boolean) 1 := ⟨(mT1 (i := 11) rfl rfl), (mT6 (i := 144) rfl rfl), by decide +kernel, by decide +kernel, by decide +kernel⟩
theorem mX10_leftBy : MW yX10_leftBy cX10_leftBy 7 (some .int) 4 := ⟨(mT1 (i := 11) rfl rfl), (mT7 (i := 92) rfl rfl), by decide +kernel, by decide +kernel, by decide +kernel⟩
theorem mX10_life : MW yX10_life cX10_life 5 (some .long) 2 := ⟨(mT1 (i := 11) rfl rfl), (mT7 (i := 22) rfl rfl), by decide +kernel, by decide +kernel, by decide +kernel⟩
theorem mX10_loan : MW yX10_loan cX10_loan 5 (some .int) 4 := ⟨(mT1 (i := 11) rfl rfl), (mT6 (i := 86) rfl rfl), by decide +kernel, by decide +kernel, by decide +kernel⟩
theorem mX10_loanTold : MW yX10_loanTold cX10_loanTold 3 (some .int) 2 := ⟨(mT1 (i := 11) rfl rfl), (mT6 (i := 97) rfl rfl), by decide +kernel, by decide +kernel, by decide +kernel⟩
theorem mX10_loans : MW yX10_loans cX10_loans 9 (some .int) 4 := ⟨(mT1 (i := 11) rfl rfl), (mT7 (i := 162) rfl rfl), by decide +kernel, by decide +kernel, by decide +kernel⟩
theorem mX10_lostNow : MW yX10_lostNow cX10_lostNow 1 (some .long) 0 := ⟨(mT1 (i := 11) rfl rfl), (mT7 (i := 45) rfl rfl), by decide +kernel, by decide +kernel, by decide +kernel⟩
theorem mX10_lot : MW yX10_lot cX10_lot 3 (some .int) 2 := ⟨(mT1 (i := 11) rfl rfl), (mT7 (i := 103) rfl rfl), by decide +kernel, by decide +kernel, by decide +kernel⟩
theorem mX10_month : MW yX10_month cX10_month 3 (some .int) 2 := ⟨(mT1 (i := 11) rfl rfl), (mT7 (i := 119) rfl rfl), by decide +kernel, by decide +kernel, by decide +kernel⟩
theorem mX10_name : MW yX10_name cX10_name 1 (some .int) 0 := ⟨(mT1 (i := 11) rfl rfl), (mT6 (i := 185) rfl rfl), by decide +kernel, by decide +kernel, by decide +kernel⟩
theorem mX10_next : MW yX10_next cX10_next 3 none 0 := ⟨(mT1 (i := 11) rfl rfl), (mT6 (i := 126) rfl rfl), by decide +kernel, by decide +kernel, by decide +kernel⟩
theorem mX10_noRow : MW yX10_noRow cX10_noRow 5 (some .int) 4 := ⟨(mT1 (i := 11) rfl rfl), (mT7 (i := 158) rfl rfl), by decide +kernel, by decide +kernel, by decide +kernel⟩
theorem mX10_not : MW yX10_not cX10_not 4 (some .int) 0 := ⟨(mT1 (i := 11) rfl rfl), (mT6 (i := 160) rfl rfl), by decide +kernel, by decide +kernel, by decide +kernel⟩
theorem mX10_numberHere : MW yX10_numberHere cX10_numberHere 2 (some .int) 0 := ⟨(mT1 (i := 11) rfl rfl), (mT6 (i := 233) rfl rfl), by decide +kernel, by decide +kernel, by decide +kernel⟩
theorem mX10_one : MW yX10_one cX10_one 2 (some .int) 0 := ⟨(mT1 (i := 11) rfl rfl), (mT6 (i := 177) rfl rfl), by decide +kernel, by decide +kernel, by decide +kernel⟩
theorem mX10_opens : MW yX10_opens cX10_opens 1 (some .boolean) 0 := ⟨(mT1 (i := 11) rfl rfl), (mT6 (i := 165) rfl rfl), by decide +kernel, by decide +kernel, by decide +kernel⟩
theorem mX10_order : MW yX10_order cX10_order 3 (some .int) 0 := ⟨(mT1 (i := 11) rfl rfl), (mT6 (i := 214) rfl rfl), by decide +kernel, by decide +kernel, by decide +kernel⟩
theorem mX10_over : MW yX10_over cX10_over 1 (some .int) 1 := ⟨(mT1 (i := 11) rfl rfl), (mT7 (i := 170) rfl rfl), by decide +kernel, by decide +kernel, by decide +kernel⟩
theorem mX10_paid : MW yX10_paid cX10_paid 3 (some .int) 2 := ⟨(mT1 (i := 11) rfl rfl), (mT7 (i := 123) rfl rfl), by decide +kernel, by decide +kernel, by decide +kernel⟩
theorem mX10_paper : MW yX10_paper cX10_paper 3 (some .int) 2 := ⟨(mT1 (i := 11) rfl rfl), (mT7 (i := 9) rfl rfl), by decide +kernel, by decide +kernel, by decide +kernel⟩
theorem mX10_paperHere : MW yX10_paperHere cX10_paperHere 2 (some .int) 0 := ⟨(mT1 (i := 11) rfl rfl), (mT6 (i := 228) rfl rfl), by decide +kernel, by decide +kernel, by decide +kernel⟩
theorem mX10_paperTold : MW yX10_paperTold cX10_paperTold 3 (some .int) 2 := ⟨(mT1 (i := 11) rfl rfl), (mT7 (i := 14) rfl rfl), by decide +kernel, by decide +kernel, by decide +kernel⟩
theorem mX10_part : MW yX10_part cX10_part 4 (some .int) 1 := ⟨(mT1 (i := 11) rfl rfl), (mT6 (i := 140) rfl rfl), by decide +kernel, by decide +kernel, by decide +kernel⟩
theorem mX10_pass : MW yX10_pass cX10_pass 4 (some .long) 2 := ⟨(mT1 (i := 11) rfl rfl), (mT7 (i := 135) rfl rfl), by decide +kernel, by decide +kernel, by decide +kernel⟩
theorem mX10_pay : MW yX10_pay cX10_pay 10 none 1 := ⟨(mT1 (i := 11) rfl rfl), (mT7 (i := 41) rfl rfl), by decide +kernel, by decide +kernel, by decide +kernel⟩
theorem mX10_payFor : MW yX10_payFor cX10_payFor 6 (some .int) 3 := ⟨(mT1 (i := 11) rfl rfl), (mT7 (i := 86) rfl rfl), by decide +kernel, by decide +kernel, by decide +kernel⟩
theorem mX10_paysOff : MW yX10_paysOff cX10_paysOff 5 none 4 := ⟨(mT1 (i := 11) rfl rfl), (mT7 (i := 111) rfl rfl), by decide +kernel, by decide +kernel, by decide +kernel⟩
theorem mX10_pool : MW yX10_pool cX10_pool 3 (some .int) 0 := ⟨(mT1 (i := 11) rfl rfl), (mT7 (i := 77) rfl rfl), by decide +kernel, by decide +kernel, by decide +kernel⟩
theorem mX10_principal : MW yX10_principal cX10_principal 7 (some .int) 3 := ⟨(mT1 (i := 11) rfl rfl), (mT7 (i := 115) rfl rfl), by decide +kernel, by decide +kernel, by decide +kernel⟩
theorem mX10_read : MW yX10_read cX10_read 6 (some .int) 2 := ⟨(mT1 (i := 11) rfl rfl), (mT6 (i := 122) rfl rfl), by decide +kernel, by decide +kernel, by decide +kernel⟩
theorem mX10_readStep : MW yX10_readStep cX10_readStep 5 none 1 := ⟨(mT1 (i := 11) rfl rfl), (mT6 (i := 219) rfl rfl), by decide +kernel, by decide +kernel, by decide +kernel⟩
theorem mX10_report : MW yX10_report cX10_report 8 (some .int) 5 := ⟨(mT1 (i := 11) rfl rfl), (mT7 (i := 154) rfl rfl), by decide +kernel, by decide +kernel, by decide +kernel⟩
theorem mX10_run : MW yX10_run cX10_run 3 (some .int) 1 := ⟨(mT1 (i := 11) rfl rfl), (mT7 (i := 65) rfl rfl), by decide +kernel, by decide +kernel, by decide +kernel⟩
theorem mX10_says : MW yX10_says cX10_says 3 (some .long) 2 := ⟨(mT1 (i := 11) rfl rfl), (mT6 (i := 205) rfl rfl), by decide +kernel, by decide +kernel, by decide +kernel⟩
theorem mX10_saysOf : MW yX10_saysOf cX10_saysOf 4 (some .int) 3 := ⟨(mT1 (i := 11) rfl rfl), (mT6 (i := 209) rfl rfl), by decide +kernel, by decide +kernel, by decide +kernel⟩
theorem mX10_sheet : MW yX10_sheet cX10_sheet 5 (some .int) 3 := ⟨(mT1 (i := 11) rfl rfl), (mT7 (i := 143) rfl rfl), by decide +kernel, by decide +kernel, by decide +kernel⟩
theorem mX10_spell : MW yX10_spell cX10_spell 5 none 2 := ⟨(mT1 (i := 11) rfl rfl), (mT5 (i := 74) rfl rfl), by decide +kernel, by decide +kernel, by decide +kernel⟩
theorem mX10_step : MW yX10_step cX10_step 5 (some .int) 3 := ⟨(mT1 (i := 11) rfl rfl), (mT7 (i := 5) rfl rfl), by decide +kernel, by decide +kernel, by decide +kernel⟩
theorem mX10_taken : MW yX10_taken cX10_taken 4 (some .int) 2 := ⟨(mT1 (i := 11) rfl rfl), (mT7 (i := 167) rfl rfl), by decide +kernel, by decide +kernel, by decide +kernel⟩
theorem mX10_tell : MW yX10_tell cX10_tell 4 (some .int) 2 := ⟨(mT1 (i := 11) rfl rfl), (mT6 (i := 105) rfl rfl), by decide +kernel, by decide +kernel, by decide +kernel⟩
theorem mX10_term : MW yX10_term cX10_term 2 (some .int) 0 := ⟨(mT1 (i := 11) rfl rfl), (mT6 (i := 173) rfl rfl), by decide +kernel, by decide +kernel, by decide +kernel⟩
theorem mX10_text : MW yX10_text cX10_text 2 (some .int) 0 := ⟨(mT1 (i := 11) rfl rfl), (mT6 (i := 118) rfl rfl), by decide +kernel, by decide +kernel, by decide +kernel⟩
theorem mX10_trip : MW yX10_trip cX10_trip 3 (some .int) 2 := ⟨(mT1 (i := 11) rfl rfl), (mT7 (i := 29) rfl rfl), by decide +kernel, by decide +kernel, by decide +kernel⟩
theorem mX10_turn : MW yX10_turn cX10_turn 3 none 1 := ⟨(mT1 (i := 11) rfl rfl), (mT7 (i := 131) rfl rfl), by decide +kernel, by decide +kernel, by decide +kernel⟩
theorem mX10_wish : MW yX10_wish cX10_wish 9 (some .long) 3 := ⟨(mT1 (i := 11) rfl rfl), (mT7 (i := 61) rfl rfl), by decide +kernel, by decide +kernel, by decide +kernel⟩
theorem mX10_within : MW yX10_within cX10_within 1 (some .int) 1 := ⟨(mT1 (i := 11) rfl rfl), (mT7 (i := 99) rfl rfl), by decide +kernel, by decide +kernel, by decide +kernel⟩
