theorem z_c1 {w : Cond} (i : Nat) (hi : tables_1_1[i]? = some w) (hg : goodWord w = true) : w ∈ z_tb := by
  have h : w ∈ tables_1_1 := List.mem_of_getElem? hi
  exact List.mem_filter.mpr ⟨List.mem_append_right _ (List.mem_append_left _ h), hg⟩
theorem z_c2 {w : Cond} (i : Nat) (hi : tables_1_2[i]? = some w) (hg : goodWord w = true) : w ∈ z_tb := by
  have h : w ∈ tables_1_2 := List.mem_of_getElem? hi
  exact List.mem_filter.mpr ⟨List.mem_append_right _ (List.mem_append_right _ (List.mem_append_left _ h)), hg⟩
theorem z_c3 {w : Cond} (i : Nat) (hi : tables_1_3[i]? = some w) (hg : goodWord w = true) : w ∈ z_tb := by
  have h : w ∈ tables_1_3 := List.mem_of_getElem? hi
  exact List.mem_filter.mpr ⟨List.mem_append_right _ (List.mem_append_right _ (List.mem_append_right _ (List.mem_append_left _ h))), hg⟩
theorem z_c4 {w : Cond} (i : Nat) (hi : tables_1_4[i]? = some w) (hg : goodWord w = true) : w ∈ z_tb := by
  have h : w ∈ tables_1_4 := List.mem_of_getElem? hi
  exact List.mem_filter.mpr ⟨List.mem_append_right _ (List.mem_append_right _ (List.mem_append_right _ (List.mem_append_right _ (List.mem_append_left _ h)))), hg⟩
theorem z_c5 {w : Cond} (i : Nat) (hi : tables_1_5[i]? = some w) (hg : goodWord w = true) : w ∈ z_tb := by
  have h : w ∈ tables_1_5 := List.mem_of_getElem? hi
  exact List.mem_filter.mpr ⟨List.mem_append_right _ (List.mem_append_right _ (List.mem_append_right _ (List.mem_append_right _ (List.mem_append_right _ (List.mem_append_left _ h))))), hg⟩
theorem z_c6 {w : Cond} (i : Nat) (hi : tables_1_6[i]? = some w) (hg : goodWord w = true) : w ∈ z_tb := by
  have h : w ∈ tables_1_6 := List.mem_of_getElem? hi
  exact List.mem_filter.mpr ⟨List.mem_append_right _ (List.mem_append_right _ (List.mem_append_right _ (List.mem_append_right _ (List.mem_append_right _ (List.mem_append_right _ (List.mem_append_left _ h)))))), hg⟩
theorem z_c7 {w : Cond} (i : Nat) (hi : tables_1_7[i]? = some w) (hg : goodWord w = true) : w ∈ z_tb := by
  have h : w ∈ tables_1_7 := List.mem_of_getElem? hi
  exact List.mem_filter.mpr ⟨List.mem_append_right _ (List.mem_append_right _ (List.mem_append_right _ (List.mem_append_right _ (List.mem_append_right _ (List.mem_append_right _ (List.mem_append_right _ (h))))))), hg⟩
theorem z_ins {ws : List Cond} (is : List Nat) (h : ws.map some = is.map (fun i => lw_tbl[i]?)) (hg : ws.all goodWord = true) : ∀ w ∈ ws, w ∈ z_tb := by
  intro w hw
  refine List.mem_filter.mpr ⟨?_, List.all_eq_true.mp hg w hw⟩
  have h1 : some w ∈ ws.map some := List.mem_map.mpr ⟨w, hw, rfl⟩
  rw [h] at h1
  obtain ⟨i, -, hi⟩ := List.mem_map.mp h1
  exact List.mem_of_getElem? hi
theorem kX0 : z_Kok 0 := ⟨RX0, TX0, 6, tyX0, rfl, rfl, z_ins [424, 426, 428, 430, 432, 434] (by decide +kernel) (by decide +kernel), tyX0_ok, nmX0, z_c2 86 (by decide +kernel) rfl, z_c1 13 (by decide +kernel) rfl⟩
theorem kX1 : z_Kok 1 := ⟨RX1, TX1, 2, tyX1, rfl, rfl, z_ins [372, 374] (by decide +kernel) (by decide +kernel), tyX1_ok, nmX1, z_c2 38 (by decide +kernel) rfl, z_c1 11 (by decide +kernel) rfl⟩
theorem kX2 : z_Kok 2 := ⟨RX2, TX2, 6, tyX2, rfl, rfl, z_ins [271, 273, 275, 277, 279, 281] (by decide +kernel) (by decide +kernel), tyX2_ok, nmX2, z_c1 170 (by decide +kernel) rfl, z_c1 8 (by decide +kernel) rfl⟩
theorem kX3 : z_Kok 3 := ⟨RX3, TX3, 11, tyX3, rfl, rfl, z_ins [178, 180, 182, 184, 186, 188, 190, 192, 194, 196, 198] (by decide +kernel) (by decide +kernel), tyX3_ok, nmX3, z_c1 75 (by decide +kernel) rfl, z_c1 5 (by decide +kernel) rfl⟩
theorem kX4 : z_Kok 4 := ⟨RX4, TX4, 2, tyX4, rfl, rfl, z_ins [251, 253] (by decide +kernel) (by decide +kernel), tyX4_ok, nmX4, z_c1 157 (by decide +kernel) rfl, z_c1 7 (by decide +kernel) rfl⟩
theorem kX5 : z_Kok 5 := ⟨RX5, TX5, 4, tyX5, rfl, rfl, z_ins [152, 154, 156, 158] (by decide +kernel) (by decide +kernel), tyX5_ok, nmX5, z_c1 56 (by decide +kernel) rfl, z_c1 4 (by decide +kernel) rfl⟩
theorem kX6 : z_Kok 6 := ⟨RX6, TX6, 2, tyX6, rfl, rfl, z_ins [238, 240] (by decide +kernel) (by decide +kernel), tyX6_ok, nmX6, z_c1 144 (by decide +kernel) rfl, z_c1 6 (by decide +kernel) rfl⟩
theorem kX7 : z_Kok 7 := ⟨RX7, TX7, 6, tyX7, rfl, rfl, z_ins [217, 219, 221, 223, 225, 227] (by decide +kernel) (by decide +kernel), tyX7_ok, nmX7, z_c1 49 (by decide +kernel) rfl, z_c1 3 (by decide +kernel) rfl⟩
theorem kX8 : z_Kok 8 := ⟨RX8, TX8, 10, tyX8, rfl, rfl, z_ins [328, 330, 332, 334, 336, 338, 340, 342, 344, 346] (by decide +kernel) (by decide +kernel), tyX8_ok, nmX8, z_c1 205 (by decide +kernel) rfl, z_c1 10 (by decide +kernel) rfl⟩
theorem kX9 : z_Kok 9 := ⟨RX9, TX9, 3, tyX9, rfl, rfl, z_ins [357, 359, 361] (by decide +kernel) (by decide +kernel), tyX9_ok, nmX9, z_c1 198 (by decide +kernel) rfl, z_c1 9 (by decide +kernel) rfl⟩
theorem kX10 : z_Kok 10 := ⟨RX10, TX10, 5, tyX10, rfl, rfl, z_ins [123, 125, 127, 129, 131] (by decide +kernel) (by decide +kernel), tyX10_ok, nmX10, z_c1 26 (by decide +kernel) rfl, z_c1 2 (by decide +kernel) rfl⟩
theorem kX11 : z_Kok 11 := ⟨RX11, TX11, 8, tyX11, rfl, rfl, z_ins [395, 397, 399, 401, 403, 405, 407, 409] (by decide +kernel) (by decide +kernel), tyX11_ok, nmX11, z_c2 51 (by decide +kernel) rfl, z_c1 12 (by decide +kernel) rfl⟩
theorem kX12 : z_Kok 12 := ⟨RX12, TX12, 12, tyX12, rfl, rfl, z_ins [449, 451, 453, 455, 457, 459, 461, 463, 465, 467, 469, 471] (by decide +kernel) (by decide +kernel), tyX12_ok, nmX12, z_c1 18 (by decide +kernel) rfl, z_c1 1 (by decide +kernel) rfl⟩
theorem kX13 : z_Kok 13 := ⟨RX13, TX13, 58, tyX13, rfl, rfl, z_ins [1184, 1186, 1188, 1190, 1192, 1194, 1196, 1198, 1200, 1202, 1204, 1206, 1208, 1210, 1212, 1214, 1216, 1218, 1220, 1222, 1224, 1226, 1228, 1230, 1232, 1234, 1236, 1238, 1240, 1242, 1244, 1246, 1248, 1250, 1252, 1254, 1256, 1258, 1260, 1262, 1264, 1266, 1268, 1270, 1272, 1274, 1276, 1278, 1280, 1282, 1284, 1286, 1288, 1290, 1292, 1294, 1296, 1298] (by decide +kernel) (by decide +kernel), tyX13_ok, nmX13, z_c5 74 (by decide +kernel) rfl, z_c1 14 (by decide +kernel) rfl⟩
