/-! ===== the tables' rows: classes, fields, methods, links, decode rows: written by wip/whole/gen.py ===== -/
theorem mm_gAll (l : List Cond) (ps : List Nat) (h : l = ps.filterMap (fun i => lw_tbl[i]?)) (hg : l.all goodWord = true) : ∀ w ∈ l, w ∈ mm_GW := by
  intro w hw
  have h1 := List.all_eq_true.mp hg w hw
  rw [h] at hw
  obtain ⟨i, -, hi⟩ := List.mem_filterMap.mp hw
  exact mm_g i hi h1
theorem mm_m0 {w : Cond} (h : w ∈ k2_sels lw_privs) : w ∈ lw_tbl := List.mem_append_left _ h
theorem mm_g0 {w : Cond} (i : Nat) (h : (k2_sels lw_privs)[i]? = some w) (hg : goodWord w = true) : w ∈ mm_GW := List.mem_filter.mpr ⟨mm_m0 (List.mem_of_getElem? h), hg⟩
theorem mm_n0 {w : Cond} (i : Nat) (h : (k2_sels lw_privs)[i]? = some w) (hg : mm_isN w = true) : w ∈ mm_NW := List.mem_filter.mpr ⟨mm_m0 (List.mem_of_getElem? h), hg⟩
theorem mm_m1 {w : Cond} (h : w ∈ tables_1_1) : w ∈ lw_tbl := List.mem_append_right _ (show _ ∈ tables_1 from List.mem_append_left _ h)
theorem mm_g1 {w : Cond} (i : Nat) (h : (tables_1_1)[i]? = some w) (hg : goodWord w = true) : w ∈ mm_GW := List.mem_filter.mpr ⟨mm_m1 (List.mem_of_getElem? h), hg⟩
theorem mm_n1 {w : Cond} (i : Nat) (h : (tables_1_1)[i]? = some w) (hg : mm_isN w = true) : w ∈ mm_NW := List.mem_filter.mpr ⟨mm_m1 (List.mem_of_getElem? h), hg⟩
theorem mm_m2 {w : Cond} (h : w ∈ tables_1_2) : w ∈ lw_tbl := List.mem_append_right _ (show _ ∈ tables_1 from List.mem_append_right _ (List.mem_append_left _ h))
theorem mm_g2 {w : Cond} (i : Nat) (h : (tables_1_2)[i]? = some w) (hg : goodWord w = true) : w ∈ mm_GW := List.mem_filter.mpr ⟨mm_m2 (List.mem_of_getElem? h), hg⟩
theorem mm_n2 {w : Cond} (i : Nat) (h : (tables_1_2)[i]? = some w) (hg : mm_isN w = true) : w ∈ mm_NW := List.mem_filter.mpr ⟨mm_m2 (List.mem_of_getElem? h), hg⟩
theorem mm_m3 {w : Cond} (h : w ∈ tables_1_3) : w ∈ lw_tbl := List.mem_append_right _ (show _ ∈ tables_1 from List.mem_append_right _ (List.mem_append_right _ (List.mem_append_left _ h)))
theorem mm_g3 {w : Cond} (i : Nat) (h : (tables_1_3)[i]? = some w) (hg : goodWord w = true) : w ∈ mm_GW := List.mem_filter.mpr ⟨mm_m3 (List.mem_of_getElem? h), hg⟩
theorem mm_n3 {w : Cond} (i : Nat) (h : (tables_1_3)[i]? = some w) (hg : mm_isN w = true) : w ∈ mm_NW := List.mem_filter.mpr ⟨mm_m3 (List.mem_of_getElem? h), hg⟩
theorem mm_m4 {w : Cond} (h : w ∈ tables_1_4) : w ∈ lw_tbl := List.mem_append_right _ (show _ ∈ tables_1 from List.mem_append_right _ (List.mem_append_right _ (List.mem_append_right _ (List.mem_append_left _ h))))
theorem mm_g4 {w : Cond} (i : Nat) (h : (tables_1_4)[i]? = some w) (hg : goodWord w = true) : w ∈ mm_GW := List.mem_filter.mpr ⟨mm_m4 (List.mem_of_getElem? h), hg⟩
theorem mm_n4 {w : Cond} (i : Nat) (h : (tables_1_4)[i]? = some w) (hg : mm_isN w = true) : w ∈ mm_NW := List.mem_filter.mpr ⟨mm_m4 (List.mem_of_getElem? h), hg⟩
theorem mm_m5 {w : Cond} (h : w ∈ tables_1_5) : w ∈ lw_tbl := List.mem_append_right _ (show _ ∈ tables_1 from List.mem_append_right _ (List.mem_append_right _ (List.mem_append_right _ (List.mem_append_right _ (List.mem_append_left _ h)))))
theorem mm_g5 {w : Cond} (i : Nat) (h : (tables_1_5)[i]? = some w) (hg : goodWord w = true) : w ∈ mm_GW := List.mem_filter.mpr ⟨mm_m5 (List.mem_of_getElem? h), hg⟩
theorem mm_n5 {w : Cond} (i : Nat) (h : (tables_1_5)[i]? = some w) (hg : mm_isN w = true) : w ∈ mm_NW := List.mem_filter.mpr ⟨mm_m5 (List.mem_of_getElem? h), hg⟩
theorem mm_m6 {w : Cond} (h : w ∈ tables_1_6) : w ∈ lw_tbl := List.mem_append_right _ (show _ ∈ tables_1 from List.mem_append_right _ (List.mem_append_right _ (List.mem_append_right _ (List.mem_append_right _ (List.mem_append_right _ (List.mem_append_left _ h))))))
theorem mm_g6 {w : Cond} (i : Nat) (h : (tables_1_6)[i]? = some w) (hg : goodWord w = true) : w ∈ mm_GW := List.mem_filter.mpr ⟨mm_m6 (List.mem_of_getElem? h), hg⟩
theorem mm_n6 {w : Cond} (i : Nat) (h : (tables_1_6)[i]? = some w) (hg : mm_isN w = true) : w ∈ mm_NW := List.mem_filter.mpr ⟨mm_m6 (List.mem_of_getElem? h), hg⟩
theorem mm_m7 {w : Cond} (h : w ∈ tables_1_7) : w ∈ lw_tbl := List.mem_append_right _ (show _ ∈ tables_1 from List.mem_append_right _ (List.mem_append_right _ (List.mem_append_right _ (List.mem_append_right _ (List.mem_append_right _ (List.mem_append_right _ (h)))))))
theorem mm_g7 {w : Cond} (i : Nat) (h : (tables_1_7)[i]? = some w) (hg : goodWord w = true) : w ∈ mm_GW := List.mem_filter.mpr ⟨mm_m7 (List.mem_of_getElem? h), hg⟩
theorem mm_n7 {w : Cond} (i : Nat) (h : (tables_1_7)[i]? = some w) (hg : mm_isN w = true) : w ∈ mm_NW := List.mem_filter.mpr ⟨mm_m7 (List.mem_of_getElem? h), hg⟩
theorem mmu_X0 : ∀ w ∈ u_ws RX0 TX0 7, w ∈ mm_GW := mm_gAll _ [245, 247, 249, 251, 253, 255, 257] (by decide +kernel) (by decide +kernel)
theorem mmcl_X0 : mm_CL 0 RX0 TX0 7 := ⟨rfl, mmu_X0, tyX0, tyX0_ok, nmX0⟩
theorem mmu_X1 : ∀ w ∈ u_ws RX1 TX1 13, w ∈ mm_GW := mm_gAll _ [367, 369, 371, 373, 375, 377, 379, 381, 383, 385, 387, 389, 391] (by decide +kernel) (by decide +kernel)
theorem mmcl_X1 : mm_CL 1 RX1 TX1 13 := ⟨rfl, mmu_X1, tyX1, tyX1_ok, nmX1⟩
theorem mmu_X2 : ∀ w ∈ u_ws RX2 TX2 3, w ∈ mm_GW := mm_gAll _ [476, 478, 480] (by decide +kernel) (by decide +kernel)
theorem mmcl_X2 : mm_CL 2 RX2 TX2 3 := ⟨rfl, mmu_X2, tyX2, tyX2_ok, nmX2⟩
theorem mmu_X3 : ∀ w ∈ u_ws RX3 TX3 8, w ∈ mm_GW := mm_gAll _ [500, 502, 504, 506, 508, 510, 512, 514] (by decide +kernel) (by decide +kernel)
theorem mmcl_X3 : mm_CL 3 RX3 TX3 8 := ⟨rfl, mmu_X3, tyX3, tyX3_ok, nmX3⟩
theorem mmu_X4 : ∀ w ∈ u_ws RX4 TX4 7, w ∈ mm_GW := mm_gAll _ [191, 193, 195, 197, 199, 201, 203] (by decide +kernel) (by decide +kernel)
theorem mmcl_X4 : mm_CL 4 RX4 TX4 7 := ⟨rfl, mmu_X4, tyX4, tyX4_ok, nmX4⟩
theorem mmu_X5 : ∀ w ∈ u_ws RX5 TX5 7, w ∈ mm_GW := mm_gAll _ [535, 537, 539, 541, 543, 545, 547] (by decide +kernel) (by decide +kernel)
theorem mmcl_X5 : mm_CL 5 RX5 TX5 7 := ⟨rfl, mmu_X5, tyX5, tyX5_ok, nmX5⟩
theorem mmu_X6 : ∀ w ∈ u_ws RX6 TX6 1, w ∈ mm_GW := mm_gAll _ [173] (by decide +kernel) (by decide +kernel)
theorem mmcl_X6 : mm_CL 6 RX6 TX6 1 := ⟨rfl, mmu_X6, tyX6, tyX6_ok, nmX6⟩
theorem mmu_X7 : ∀ w ∈ u_ws RX7 TX7 7, w ∈ mm_GW := mm_gAll _ [289, 291, 293, 295, 297, 299, 301] (by decide +kernel) (by decide +kernel)
theorem mmcl_X7 : mm_CL 7 RX7 TX7 7 := ⟨rfl, mmu_X7, tyX7, tyX7_ok, nmX7⟩
theorem mmu_X8 : ∀ w ∈ u_ws RX8 TX8 11, w ∈ mm_GW := mm_gAll _ [420, 422, 424, 426, 428, 430, 432, 434, 436, 438, 440] (by decide +kernel) (by decide +kernel)
theorem mmcl_X8 : mm_CL 8 RX8 TX8 11 := ⟨rfl, mmu_X8, tyX8, tyX8_ok, nmX8⟩
theorem mmu_X9 : ∀ w ∈ u_ws RX9 TX9 5, w ∈ mm_GW := mm_gAll _ [454, 456, 458, 460, 462] (by decide +kernel) (by decide +kernel)
theorem mmcl_X9 : mm_CL 9 RX9 TX9 5 := ⟨rfl, mmu_X9, tyX9, tyX9_ok, nmX9⟩
theorem mmu_X10 : ∀ w ∈ u_ws RX10 TX10 20, w ∈ mm_GW := mm_gAll _ [570, 572, 574, 576, 578, 580, 582, 584, 586, 588, 590, 592, 594, 596, 598, 600, 602, 604, 606, 608] (by decide +kernel) (by decide +kernel)
theorem mmcl_X10 : mm_CL 10 RX10 TX10 20 := ⟨rfl, mmu_X10, tyX10, tyX10_ok, nmX10⟩
theorem mmu_X11 : ∀ w ∈ u_ws RX11 TX11 57, w ∈ mm_GW := mm_gAll _ [1311, 1313, 1315, 1317, 1319, 1321, 1323, 1325, 1327, 1329, 1331, 1333, 1335, 1337, 1339, 1341, 1343, 1345, 1347, 1349, 1351, 1353, 1355, 1357, 1359, 1361, 1363, 1365, 1367, 1369, 1371, 1373, 1375, 1377, 1379, 1381, 1383, 1385, 1387, 1389, 1391, 1393, 1395, 1397, 1399, 1401, 1403, 1405, 1407, 1409, 1411, 1413, 1415, 1417, 1419, 1421, 1423] (by decide +kernel) (by decide +kernel)
theorem mmcl_X11 : mm_CL 11 RX11 TX11 57 := ⟨rfl, mmu_X11, tyX11, tyX11_ok, nmX11⟩
theorem fl_X10_10 : mm_FL RX10 10 10 0 := ⟨_, _, _, mmcl_X10, by decide, Or.inl (mm_g2 180 (by decide +kernel) rfl)⟩
theorem fl_X10_19 : mm_FL RX10 19 10 1 := ⟨_, _, _, mmcl_X10, by decide, Or.inl (mm_g2 181 (by decide +kernel) rfl)⟩
theorem fl_X10_23 : mm_FL RX10 23 10 2 := ⟨_, _, _, mmcl_X10, by decide, Or.inl (mm_g2 182 (by decide +kernel) rfl)⟩
theorem fl_X10_29 : mm_FL RX10 29 10 3 := ⟨_, _, _, mmcl_X10, by decide, Or.inl (mm_g2 183 (by decide +kernel) rfl)⟩
theorem fl_X10_33 : mm_FL RX10 33 10 4 := ⟨_, _, _, mmcl_X10, by decide, Or.inl (mm_g2 184 (by decide +kernel) rfl)⟩
theorem fl_X10_36 : mm_FL RX10 36 10 5 := ⟨_, _, _, mmcl_X10, by decide, Or.inl (mm_g2 185 (by decide +kernel) rfl)⟩
theorem fl_X10_42 : mm_FL RX10 42 10 6 := ⟨_, _, _, mmcl_X10, by decide, Or.inl (mm_g2 186 (by decide +kernel) rfl)⟩
theorem fl_X10_46 : mm_FL RX10 46 10 7 := ⟨_, _, _, mmcl_X10, by decide, Or.inl (mm_g2 187 (by decide +kernel) rfl)⟩
theorem fl_X10_49 : mm_FL RX10 49 10 8 := ⟨_, _, _, mmcl_X10, by decide, Or.inl (mm_g2 188 (by decide +kernel) rfl)⟩
theorem fl_X10_52 : mm_FL RX10 52 10 9 := ⟨_, _, _, mmcl_X10, by decide, Or.inl (mm_g2 189 (by decide +kernel) rfl)⟩
theorem fl_X10_55 : mm_FL RX10 55 10 10 := ⟨_, _, _, mmcl_X10, by decide, Or.inl (mm_g2 190 (by decide +kernel) rfl)⟩
theorem fl_X10_58 : mm_FL RX10 58 10 11 := ⟨_, _, _, mmcl_X10, by decide, Or.inl (mm_g2 191 (by decide +kernel) rfl)⟩
theorem fl_X10_66 : mm_FL RX10 66 10 12 := ⟨_, _, _, mmcl_X10, by decide, Or.inl (mm_g2 192 (by decide +kernel) rfl)⟩
theorem fl_X10_73 : mm_FL RX10 73 10 13 := ⟨_, _, _, mmcl_X10, by decide, Or.inl (mm_g2 193 (by decide +kernel) rfl)⟩
theorem fl_X10_82 : mm_FL RX10 82 10 14 := ⟨_, _, _, mmcl_X10, by decide, Or.inl (mm_g2 194 (by decide +kernel) rfl)⟩
theorem fl_X10_91 : mm_FL RX10 91 10 15 := ⟨_, _, _, mmcl_X10, by decide, Or.inl (mm_g2 195 (by decide +kernel) rfl)⟩
theorem fl_X10_95 : mm_FL RX10 95 10 16 := ⟨_, _, _, mmcl_X10, by decide, Or.inl (mm_g2 196 (by decide +kernel) rfl)⟩
theorem fl_X10_103 : mm_FL RX10 103 10 17 := ⟨_, _, _, mmcl_X10, by decide, Or.inl (mm_g2 197 (by decide +kernel) rfl)⟩
theorem fl_X10_112 : mm_FL RX10 112 10 18 := ⟨_, _, _, mmcl_X10, by decide, Or.inl (mm_g2 198 (by decide +kernel) rfl)⟩
theorem fl_X10_116 : mm_FL RX10 116 10 19 := ⟨_, _, _, mmcl_X10, by decide, Or.inl (mm_g2 199 (by decide +kernel) rfl)⟩
theorem fl_X10_125 : mm_FL RX10 125 4 1 := ⟨_, _, _, mmcl_X4, by decide, Or.inr ⟨"ForgottenCrafts", mm_n1 49 (by decide +kernel) rfl⟩⟩
theorem fl_X10_147 : mm_FL RX10 147 4 5 := ⟨_, _, _, mmcl_X4, by decide, Or.inr ⟨"ForgottenCrafts", mm_n1 58 (by decide +kernel) rfl⟩⟩
theorem fl_X10_164 : mm_FL RX10 164 0 6 := ⟨_, _, _, mmcl_X0, by decide, Or.inr ⟨"ForgottenCrafts", mm_n1 112 (by decide +kernel) rfl⟩⟩
theorem fl_X10_175 : mm_FL RX10 175 4 6 := ⟨_, _, _, mmcl_X4, by decide, Or.inr ⟨"ForgottenCrafts", mm_n1 60 (by decide +kernel) rfl⟩⟩
theorem fl_X10_178 : mm_FL RX10 178 0 5 := ⟨_, _, _, mmcl_X0, by decide, Or.inr ⟨"ForgottenCrafts", mm_n1 108 (by decide +kernel) rfl⟩⟩
theorem fl_X10_181 : mm_FL RX10 181 1 8 := ⟨_, _, _, mmcl_X1, by decide, Or.inr ⟨"ForgottenCrafts", mm_n1 223 (by decide +kernel) rfl⟩⟩
theorem fl_X10_184 : mm_FL RX10 184 1 11 := ⟨_, _, _, mmcl_X1, by decide, Or.inr ⟨"ForgottenCrafts", mm_n1 233 (by decide +kernel) rfl⟩⟩
theorem fl_X10_187 : mm_FL RX10 187 7 0 := ⟨_, _, _, mmcl_X7, by decide, Or.inr ⟨"ForgottenCrafts", mm_n1 142 (by decide +kernel) rfl⟩⟩
theorem fl_X10_190 : mm_FL RX10 190 7 1 := ⟨_, _, _, mmcl_X7, by decide, Or.inr ⟨"ForgottenCrafts", mm_n1 144 (by decide +kernel) rfl⟩⟩
theorem fl_X10_193 : mm_FL RX10 193 7 2 := ⟨_, _, _, mmcl_X7, by decide, Or.inr ⟨"ForgottenCrafts", mm_n1 147 (by decide +kernel) rfl⟩⟩
theorem fl_X10_196 : mm_FL RX10 196 7 3 := ⟨_, _, _, mmcl_X7, by decide, Or.inr ⟨"ForgottenCrafts", mm_n1 150 (by decide +kernel) rfl⟩⟩
theorem fl_X10_199 : mm_FL RX10 199 7 4 := ⟨_, _, _, mmcl_X7, by decide, Or.inr ⟨"ForgottenCrafts", mm_n1 153 (by decide +kernel) rfl⟩⟩
theorem fl_X10_202 : mm_FL RX10 202 7 5 := ⟨_, _, _, mmcl_X7, by decide, Or.inr ⟨"ForgottenCrafts", mm_n1 156 (by decide +kernel) rfl⟩⟩
theorem fl_X10_206 : mm_FL RX10 206 8 6 := ⟨_, _, _, mmcl_X8, by decide, Or.inr ⟨"ForgottenCrafts", mm_n2 41 (by decide +kernel) rfl⟩⟩
theorem fl_X10_209 : mm_FL RX10 209 8 7 := ⟨_, _, _, mmcl_X8, by decide, Or.inr ⟨"ForgottenCrafts", mm_n2 43 (by decide +kernel) rfl⟩⟩
theorem fl_X10_221 : mm_FL RX10 221 0 0 := ⟨_, _, _, mmcl_X0, by decide, Or.inr ⟨"ForgottenCrafts", mm_n1 86 (by decide +kernel) rfl⟩⟩
theorem fl_X10_228 : mm_FL RX10 228 0 1 := ⟨_, _, _, mmcl_X0, by decide, Or.inr ⟨"ForgottenCrafts", mm_n1 91 (by decide +kernel) rfl⟩⟩
theorem fl_X10_231 : mm_FL RX10 231 0 2 := ⟨_, _, _, mmcl_X0, by decide, Or.inr ⟨"ForgottenCrafts", mm_n1 95 (by decide +kernel) rfl⟩⟩
theorem fl_X10_234 : mm_FL RX10 234 0 3 := ⟨_, _, _, mmcl_X0, by decide, Or.inr ⟨"ForgottenCrafts", mm_n1 101 (by decide +kernel) rfl⟩⟩
theorem fl_X10_244 : mm_FL RX10 244 1 0 := ⟨_, _, _, mmcl_X1, by decide, Or.inr ⟨"ForgottenCrafts", mm_n1 199 (by decide +kernel) rfl⟩⟩
theorem fl_X10_247 : mm_FL RX10 247 1 3 := ⟨_, _, _, mmcl_X1, by decide, Or.inr ⟨"ForgottenCrafts", mm_n1 206 (by decide +kernel) rfl⟩⟩
theorem fl_X10_250 : mm_FL RX10 250 1 4 := ⟨_, _, _, mmcl_X1, by decide, Or.inr ⟨"ForgottenCrafts", mm_n1 211 (by decide +kernel) rfl⟩⟩
theorem fl_X10_253 : mm_FL RX10 253 1 6 := ⟨_, _, _, mmcl_X1, by decide, Or.inr ⟨"ForgottenCrafts", mm_n1 216 (by decide +kernel) rfl⟩⟩
theorem fl_X10_259 : mm_FL RX10 259 1 7 := ⟨_, _, _, mmcl_X1, by decide, Or.inr ⟨"ForgottenCrafts", mm_n1 218 (by decide +kernel) rfl⟩⟩
theorem fl_X10_262 : mm_FL RX10 262 1 9 := ⟨_, _, _, mmcl_X1, by decide, Or.inr ⟨"ForgottenCrafts", mm_n1 228 (by decide +kernel) rfl⟩⟩
theorem fl_X10_267 : mm_FL RX10 267 1 10 := ⟨_, _, _, mmcl_X1, by decide, Or.inr ⟨"ForgottenCrafts", mm_n1 230 (by decide +kernel) rfl⟩⟩
theorem fl_X10_307 : mm_FL RX10 307 3 6 := ⟨_, _, _, mmcl_X3, by decide, Or.inr ⟨"ForgottenCrafts", mm_n2 128 (by decide +kernel) rfl⟩⟩
theorem fl_X10_313 : mm_FL RX10 313 5 5 := ⟨_, _, _, mmcl_X5, by decide, Or.inr ⟨"ForgottenCrafts", mm_n2 162 (by decide +kernel) rfl⟩⟩
theorem fl_X10_316 : mm_FL RX10 316 5 6 := ⟨_, _, _, mmcl_X5, by decide, Or.inr ⟨"ForgottenCrafts", mm_n2 164 (by decide +kernel) rfl⟩⟩
theorem fl_X10_319 : mm_FL RX10 319 5 4 := ⟨_, _, _, mmcl_X5, by decide, Or.inr ⟨"ForgottenCrafts", mm_n2 160 (by decide +kernel) rfl⟩⟩
theorem fl_X10_341 : mm_FL RX10 341 8 8 := ⟨_, _, _, mmcl_X8, by decide, Or.inr ⟨"ForgottenCrafts", mm_n2 45 (by decide +kernel) rfl⟩⟩
theorem fl_X10_344 : mm_FL RX10 344 8 10 := ⟨_, _, _, mmcl_X8, by decide, Or.inr ⟨"ForgottenCrafts", mm_n2 49 (by decide +kernel) rfl⟩⟩
theorem fl_X10_347 : mm_FL RX10 347 8 9 := ⟨_, _, _, mmcl_X8, by decide, Or.inr ⟨"ForgottenCrafts", mm_n2 47 (by decide +kernel) rfl⟩⟩
theorem fl_X10_359 : mm_FL RX10 359 1 12 := ⟨_, _, _, mmcl_X1, by decide, Or.inr ⟨"ForgottenCrafts", mm_n1 236 (by decide +kernel) rfl⟩⟩
theorem fl_X0_14 : mm_FL RX0 14 0 0 := ⟨_, _, _, mmcl_X0, by decide, Or.inl (mm_g1 84 (by decide +kernel) rfl)⟩
theorem fl_X0_20 : mm_FL RX0 20 0 1 := ⟨_, _, _, mmcl_X0, by decide, Or.inl (mm_g1 88 (by decide +kernel) rfl)⟩
theorem fl_X0_23 : mm_FL RX0 23 0 2 := ⟨_, _, _, mmcl_X0, by decide, Or.inl (mm_g1 93 (by decide +kernel) rfl)⟩
theorem fl_X0_26 : mm_FL RX0 26 0 3 := ⟨_, _, _, mmcl_X0, by decide, Or.inl (mm_g1 97 (by decide +kernel) rfl)⟩
theorem fl_X0_29 : mm_FL RX0 29 0 4 := ⟨_, _, _, mmcl_X0, by decide, Or.inl (mm_g1 102 (by decide +kernel) rfl)⟩
theorem fl_X0_32 : mm_FL RX0 32 0 5 := ⟨_, _, _, mmcl_X0, by decide, Or.inl (mm_g1 104 (by decide +kernel) rfl)⟩
theorem fl_X0_36 : mm_FL RX0 36 0 6 := ⟨_, _, _, mmcl_X0, by decide, Or.inl (mm_g1 109 (by decide +kernel) rfl)⟩
theorem fl_X1_14 : mm_FL RX1 14 1 0 := ⟨_, _, _, mmcl_X1, by decide, Or.inl (mm_g1 197 (by decide +kernel) rfl)⟩
theorem fl_X1_20 : mm_FL RX1 20 1 1 := ⟨_, _, _, mmcl_X1, by decide, Or.inl (mm_g1 201 (by decide +kernel) rfl)⟩
theorem fl_X1_23 : mm_FL RX1 23 1 2 := ⟨_, _, _, mmcl_X1, by decide, Or.inl (mm_g1 202 (by decide +kernel) rfl)⟩
theorem fl_X1_26 : mm_FL RX1 26 1 3 := ⟨_, _, _, mmcl_X1, by decide, Or.inl (mm_g1 204 (by decide +kernel) rfl)⟩
theorem fl_X1_29 : mm_FL RX1 29 1 4 := ⟨_, _, _, mmcl_X1, by decide, Or.inl (mm_g1 208 (by decide +kernel) rfl)⟩
theorem fl_X1_32 : mm_FL RX1 32 1 5 := ⟨_, _, _, mmcl_X1, by decide, Or.inl (mm_g1 212 (by decide +kernel) rfl)⟩
theorem fl_X1_35 : mm_FL RX1 35 1 6 := ⟨_, _, _, mmcl_X1, by decide, Or.inl (mm_g1 214 (by decide +kernel) rfl)⟩
theorem fl_X1_38 : mm_FL RX1 38 1 7 := ⟨_, _, _, mmcl_X1, by decide, Or.inl (mm_g1 217 (by decide +kernel) rfl)⟩
theorem fl_X1_44 : mm_FL RX1 44 1 8 := ⟨_, _, _, mmcl_X1, by decide, Or.inl (mm_g1 220 (by decide +kernel) rfl)⟩
theorem fl_X1_48 : mm_FL RX1 48 1 9 := ⟨_, _, _, mmcl_X1, by decide, Or.inl (mm_g1 226 (by decide +kernel) rfl)⟩
theorem fl_X1_51 : mm_FL RX1 51 1 10 := ⟨_, _, _, mmcl_X1, by decide, Or.inl (mm_g1 229 (by decide +kernel) rfl)⟩
theorem fl_X1_54 : mm_FL RX1 54 1 11 := ⟨_, _, _, mmcl_X1, by decide, Or.inl (mm_g1 232 (by decide +kernel) rfl)⟩
theorem fl_X1_57 : mm_FL RX1 57 1 12 := ⟨_, _, _, mmcl_X1, by decide, Or.inl (mm_g1 235 (by decide +kernel) rfl)⟩
theorem fl_X2_9 : mm_FL RX2 9 2 0 := ⟨_, _, _, mmcl_X2, by decide, Or.inl (mm_g2 101 (by decide +kernel) rfl)⟩
theorem fl_X2_15 : mm_FL RX2 15 2 1 := ⟨_, _, _, mmcl_X2, by decide, Or.inl (mm_g2 103 (by decide +kernel) rfl)⟩
theorem fl_X2_19 : mm_FL RX2 19 2 2 := ⟨_, _, _, mmcl_X2, by decide, Or.inl (mm_g2 104 (by decide +kernel) rfl)⟩
theorem fl_X2_23 : mm_FL RX2 23 0 5 := ⟨_, _, _, mmcl_X0, by decide, Or.inr ⟨"ForgottenCrafts", mm_n1 105 (by decide +kernel) rfl⟩⟩
theorem fl_X2_44 : mm_FL RX2 44 7 0 := ⟨_, _, _, mmcl_X7, by decide, Or.inr ⟨"ForgottenCrafts", mm_n1 141 (by decide +kernel) rfl⟩⟩
theorem fl_X2_78 : mm_FL RX2 78 1 9 := ⟨_, _, _, mmcl_X1, by decide, Or.inr ⟨"ForgottenCrafts", mm_n1 227 (by decide +kernel) rfl⟩⟩
theorem fl_X2_81 : mm_FL RX2 81 1 6 := ⟨_, _, _, mmcl_X1, by decide, Or.inr ⟨"ForgottenCrafts", mm_n1 215 (by decide +kernel) rfl⟩⟩
theorem fl_X2_93 : mm_FL RX2 93 1 4 := ⟨_, _, _, mmcl_X1, by decide, Or.inr ⟨"ForgottenCrafts", mm_n1 210 (by decide +kernel) rfl⟩⟩
theorem fl_X2_102 : mm_FL RX2 102 0 3 := ⟨_, _, _, mmcl_X0, by decide, Or.inr ⟨"ForgottenCrafts", mm_n1 100 (by decide +kernel) rfl⟩⟩
theorem fl_X2_105 : mm_FL RX2 105 7 5 := ⟨_, _, _, mmcl_X7, by decide, Or.inr ⟨"ForgottenCrafts", mm_n1 157 (by decide +kernel) rfl⟩⟩
theorem fl_X2_109 : mm_FL RX2 109 7 1 := ⟨_, _, _, mmcl_X7, by decide, Or.inr ⟨"ForgottenCrafts", mm_n1 145 (by decide +kernel) rfl⟩⟩
theorem fl_X2_110 : mm_FL RX2 110 0 6 := ⟨_, _, _, mmcl_X0, by decide, Or.inr ⟨"ForgottenCrafts", mm_n1 114 (by decide +kernel) rfl⟩⟩
theorem fl_X2_116 : mm_FL RX2 116 1 5 := ⟨_, _, _, mmcl_X1, by decide, Or.inr ⟨"ForgottenCrafts", mm_n1 213 (by decide +kernel) rfl⟩⟩
theorem fl_X2_131 : mm_FL RX2 131 1 10 := ⟨_, _, _, mmcl_X1, by decide, Or.inr ⟨"ForgottenCrafts", mm_n1 231 (by decide +kernel) rfl⟩⟩
theorem fl_X2_134 : mm_FL RX2 134 1 8 := ⟨_, _, _, mmcl_X1, by decide, Or.inr ⟨"ForgottenCrafts", mm_n1 225 (by decide +kernel) rfl⟩⟩
theorem fl_X2_144 : mm_FL RX2 144 1 11 := ⟨_, _, _, mmcl_X1, by decide, Or.inr ⟨"ForgottenCrafts", mm_n1 234 (by decide +kernel) rfl⟩⟩
theorem fl_X2_147 : mm_FL RX2 147 1 3 := ⟨_, _, _, mmcl_X1, by decide, Or.inr ⟨"ForgottenCrafts", mm_n1 207 (by decide +kernel) rfl⟩⟩
theorem fl_X2_150 : mm_FL RX2 150 0 2 := ⟨_, _, _, mmcl_X0, by decide, Or.inr ⟨"ForgottenCrafts", mm_n1 96 (by decide +kernel) rfl⟩⟩
theorem fl_X2_153 : mm_FL RX2 153 1 7 := ⟨_, _, _, mmcl_X1, by decide, Or.inr ⟨"ForgottenCrafts", mm_n1 219 (by decide +kernel) rfl⟩⟩
theorem fl_X2_165 : mm_FL RX2 165 1 0 := ⟨_, _, _, mmcl_X1, by decide, Or.inr ⟨"ForgottenCrafts", mm_n1 200 (by decide +kernel) rfl⟩⟩
theorem fl_X2_168 : mm_FL RX2 168 7 4 := ⟨_, _, _, mmcl_X7, by decide, Or.inr ⟨"ForgottenCrafts", mm_n1 154 (by decide +kernel) rfl⟩⟩
theorem fl_X2_177 : mm_FL RX2 177 7 2 := ⟨_, _, _, mmcl_X7, by decide, Or.inr ⟨"ForgottenCrafts", mm_n1 148 (by decide +kernel) rfl⟩⟩
theorem fl_X2_180 : mm_FL RX2 180 0 0 := ⟨_, _, _, mmcl_X0, by decide, Or.inr ⟨"ForgottenCrafts", mm_n1 87 (by decide +kernel) rfl⟩⟩
theorem fl_X2_186 : mm_FL RX2 186 1 2 := ⟨_, _, _, mmcl_X1, by decide, Or.inr ⟨"ForgottenCrafts", mm_n1 203 (by decide +kernel) rfl⟩⟩
theorem fl_X2_192 : mm_FL RX2 192 0 1 := ⟨_, _, _, mmcl_X0, by decide, Or.inr ⟨"ForgottenCrafts", mm_n1 92 (by decide +kernel) rfl⟩⟩
theorem fl_X2_198 : mm_FL RX2 198 7 3 := ⟨_, _, _, mmcl_X7, by decide, Or.inr ⟨"ForgottenCrafts", mm_n1 151 (by decide +kernel) rfl⟩⟩
theorem fl_X3_14 : mm_FL RX3 14 3 3 := ⟨_, _, _, mmcl_X3, by decide, Or.inl (mm_g2 124 (by decide +kernel) rfl)⟩
theorem fl_X3_20 : mm_FL RX3 20 3 4 := ⟨_, _, _, mmcl_X3, by decide, Or.inl (mm_g2 125 (by decide +kernel) rfl)⟩
theorem fl_X3_23 : mm_FL RX3 23 3 5 := ⟨_, _, _, mmcl_X3, by decide, Or.inl (mm_g2 126 (by decide +kernel) rfl)⟩
theorem fl_X3_26 : mm_FL RX3 26 3 6 := ⟨_, _, _, mmcl_X3, by decide, Or.inl (mm_g2 127 (by decide +kernel) rfl)⟩
theorem fl_X3_29 : mm_FL RX3 29 3 7 := ⟨_, _, _, mmcl_X3, by decide, Or.inl (mm_g2 129 (by decide +kernel) rfl)⟩
theorem fl_X3_33 : mm_FL RX3 33 3 0 := ⟨_, _, _, mmcl_X3, by decide, Or.inl (mm_g2 121 (by decide +kernel) rfl)⟩
theorem fl_X3_37 : mm_FL RX3 37 3 1 := ⟨_, _, _, mmcl_X3, by decide, Or.inl (mm_g2 122 (by decide +kernel) rfl)⟩
theorem fl_X3_41 : mm_FL RX3 41 3 2 := ⟨_, _, _, mmcl_X3, by decide, Or.inl (mm_g2 123 (by decide +kernel) rfl)⟩
theorem fl_X3_51 : mm_FL RX3 51 1 8 := ⟨_, _, _, mmcl_X1, by decide, Or.inr ⟨"ForgottenCrafts", mm_n1 221 (by decide +kernel) rfl⟩⟩
theorem fl_X3_78 : mm_FL RX3 78 0 5 := ⟨_, _, _, mmcl_X0, by decide, Or.inr ⟨"ForgottenCrafts", mm_n1 107 (by decide +kernel) rfl⟩⟩
theorem fl_X3_87 : mm_FL RX3 87 0 6 := ⟨_, _, _, mmcl_X0, by decide, Or.inr ⟨"ForgottenCrafts", mm_n1 113 (by decide +kernel) rfl⟩⟩
theorem fl_X3_100 : mm_FL RX3 100 0 1 := ⟨_, _, _, mmcl_X0, by decide, Or.inr ⟨"ForgottenCrafts", mm_n1 90 (by decide +kernel) rfl⟩⟩
theorem fl_X3_103 : mm_FL RX3 103 0 3 := ⟨_, _, _, mmcl_X0, by decide, Or.inr ⟨"ForgottenCrafts", mm_n1 99 (by decide +kernel) rfl⟩⟩
theorem fl_X4_14 : mm_FL RX4 14 4 0 := ⟨_, _, _, mmcl_X4, by decide, Or.inl (mm_g1 47 (by decide +kernel) rfl)⟩
theorem fl_X4_20 : mm_FL RX4 20 4 1 := ⟨_, _, _, mmcl_X4, by decide, Or.inl (mm_g1 48 (by decide +kernel) rfl)⟩
theorem fl_X4_24 : mm_FL RX4 24 4 2 := ⟨_, _, _, mmcl_X4, by decide, Or.inl (mm_g1 50 (by decide +kernel) rfl)⟩
theorem fl_X4_27 : mm_FL RX4 27 4 3 := ⟨_, _, _, mmcl_X4, by decide, Or.inl (mm_g1 53 (by decide +kernel) rfl)⟩
theorem fl_X4_30 : mm_FL RX4 30 4 4 := ⟨_, _, _, mmcl_X4, by decide, Or.inl (mm_g1 56 (by decide +kernel) rfl)⟩
theorem fl_X4_33 : mm_FL RX4 33 4 5 := ⟨_, _, _, mmcl_X4, by decide, Or.inl (mm_g1 57 (by decide +kernel) rfl)⟩
theorem fl_X5_14 : mm_FL RX5 14 5 1 := ⟨_, _, _, mmcl_X5, by decide, Or.inl (mm_g2 156 (by decide +kernel) rfl)⟩
theorem fl_X5_20 : mm_FL RX5 20 5 2 := ⟨_, _, _, mmcl_X5, by decide, Or.inl (mm_g2 157 (by decide +kernel) rfl)⟩
theorem fl_X5_23 : mm_FL RX5 23 5 3 := ⟨_, _, _, mmcl_X5, by decide, Or.inl (mm_g2 158 (by decide +kernel) rfl)⟩
theorem fl_X5_26 : mm_FL RX5 26 5 4 := ⟨_, _, _, mmcl_X5, by decide, Or.inl (mm_g2 159 (by decide +kernel) rfl)⟩
theorem fl_X5_29 : mm_FL RX5 29 5 5 := ⟨_, _, _, mmcl_X5, by decide, Or.inl (mm_g2 161 (by decide +kernel) rfl)⟩
theorem fl_X5_36 : mm_FL RX5 36 5 0 := ⟨_, _, _, mmcl_X5, by decide, Or.inl (mm_g2 155 (by decide +kernel) rfl)⟩
theorem fl_X5_43 : mm_FL RX5 43 2 0 := ⟨_, _, _, mmcl_X2, by decide, Or.inr ⟨"ForgottenCrafts", mm_n2 102 (by decide +kernel) rfl⟩⟩
theorem fl_X5_49 : mm_FL RX5 49 0 6 := ⟨_, _, _, mmcl_X0, by decide, Or.inr ⟨"ForgottenCrafts", mm_n1 110 (by decide +kernel) rfl⟩⟩
theorem fl_X5_62 : mm_FL RX5 62 2 2 := ⟨_, _, _, mmcl_X2, by decide, Or.inr ⟨"ForgottenCrafts", mm_n2 105 (by decide +kernel) rfl⟩⟩
theorem fl_X5_72 : mm_FL RX5 72 1 4 := ⟨_, _, _, mmcl_X1, by decide, Or.inr ⟨"ForgottenCrafts", mm_n1 209 (by decide +kernel) rfl⟩⟩
theorem fl_X6_13 : mm_FL RX6 13 6 0 := ⟨_, _, _, mmcl_X6, by decide, Or.inl (mm_g1 42 (by decide +kernel) rfl)⟩
theorem fl_X7_14 : mm_FL RX7 14 7 0 := ⟨_, _, _, mmcl_X7, by decide, Or.inl (mm_g1 140 (by decide +kernel) rfl)⟩
theorem fl_X7_18 : mm_FL RX7 18 7 1 := ⟨_, _, _, mmcl_X7, by decide, Or.inl (mm_g1 143 (by decide +kernel) rfl)⟩
theorem fl_X7_21 : mm_FL RX7 21 7 2 := ⟨_, _, _, mmcl_X7, by decide, Or.inl (mm_g1 146 (by decide +kernel) rfl)⟩
theorem fl_X7_24 : mm_FL RX7 24 7 3 := ⟨_, _, _, mmcl_X7, by decide, Or.inl (mm_g1 149 (by decide +kernel) rfl)⟩
theorem fl_X7_27 : mm_FL RX7 27 7 4 := ⟨_, _, _, mmcl_X7, by decide, Or.inl (mm_g1 152 (by decide +kernel) rfl)⟩
theorem fl_X7_30 : mm_FL RX7 30 7 5 := ⟨_, _, _, mmcl_X7, by decide, Or.inl (mm_g1 155 (by decide +kernel) rfl)⟩
theorem fl_X7_34 : mm_FL RX7 34 7 6 := ⟨_, _, _, mmcl_X7, by decide, Or.inl (mm_g1 158 (by decide +kernel) rfl)⟩
theorem fl_X7_43 : mm_FL RX7 43 4 2 := ⟨_, _, _, mmcl_X4, by decide, Or.inr ⟨"ForgottenCrafts", mm_n1 52 (by decide +kernel) rfl⟩⟩
theorem fl_X7_70 : mm_FL RX7 70 4 3 := ⟨_, _, _, mmcl_X4, by decide, Or.inr ⟨"ForgottenCrafts", mm_n1 55 (by decide +kernel) rfl⟩⟩
theorem fl_X8_14 : mm_FL RX8 14 8 0 := ⟨_, _, _, mmcl_X8, by decide, Or.inl (mm_g2 34 (by decide +kernel) rfl)⟩
theorem fl_X8_20 : mm_FL RX8 20 8 1 := ⟨_, _, _, mmcl_X8, by decide, Or.inl (mm_g2 35 (by decide +kernel) rfl)⟩
theorem fl_X8_23 : mm_FL RX8 23 8 2 := ⟨_, _, _, mmcl_X8, by decide, Or.inl (mm_g2 36 (by decide +kernel) rfl)⟩
theorem fl_X8_26 : mm_FL RX8 26 8 3 := ⟨_, _, _, mmcl_X8, by decide, Or.inl (mm_g2 37 (by decide +kernel) rfl)⟩
theorem fl_X8_29 : mm_FL RX8 29 8 4 := ⟨_, _, _, mmcl_X8, by decide, Or.inl (mm_g2 38 (by decide +kernel) rfl)⟩
theorem fl_X8_32 : mm_FL RX8 32 8 5 := ⟨_, _, _, mmcl_X8, by decide, Or.inl (mm_g2 39 (by decide +kernel) rfl)⟩
theorem fl_X8_35 : mm_FL RX8 35 8 6 := ⟨_, _, _, mmcl_X8, by decide, Or.inl (mm_g2 40 (by decide +kernel) rfl)⟩
theorem fl_X8_39 : mm_FL RX8 39 8 7 := ⟨_, _, _, mmcl_X8, by decide, Or.inl (mm_g2 42 (by decide +kernel) rfl)⟩
theorem fl_X8_42 : mm_FL RX8 42 8 8 := ⟨_, _, _, mmcl_X8, by decide, Or.inl (mm_g2 44 (by decide +kernel) rfl)⟩
theorem fl_X8_45 : mm_FL RX8 45 8 9 := ⟨_, _, _, mmcl_X8, by decide, Or.inl (mm_g2 46 (by decide +kernel) rfl)⟩
theorem fl_X8_48 : mm_FL RX8 48 8 10 := ⟨_, _, _, mmcl_X8, by decide, Or.inl (mm_g2 48 (by decide +kernel) rfl)⟩
theorem fl_X8_69 : mm_FL RX8 69 1 8 := ⟨_, _, _, mmcl_X1, by decide, Or.inr ⟨"ForgottenCrafts", mm_n1 222 (by decide +kernel) rfl⟩⟩
theorem fl_X9_9 : mm_FL RX9 9 9 3 := ⟨_, _, _, mmcl_X9, by decide, Or.inl (mm_g2 82 (by decide +kernel) rfl)⟩
theorem fl_X9_15 : mm_FL RX9 15 9 4 := ⟨_, _, _, mmcl_X9, by decide, Or.inl (mm_g2 83 (by decide +kernel) rfl)⟩
theorem fl_X9_19 : mm_FL RX9 19 9 0 := ⟨_, _, _, mmcl_X9, by decide, Or.inl (mm_g2 79 (by decide +kernel) rfl)⟩
theorem fl_X9_23 : mm_FL RX9 23 9 1 := ⟨_, _, _, mmcl_X9, by decide, Or.inl (mm_g2 80 (by decide +kernel) rfl)⟩
theorem fl_X9_27 : mm_FL RX9 27 9 2 := ⟨_, _, _, mmcl_X9, by decide, Or.inl (mm_g2 81 (by decide +kernel) rfl)⟩
theorem fl_X9_45 : mm_FL RX9 45 4 2 := ⟨_, _, _, mmcl_X4, by decide, Or.inr ⟨"ForgottenCrafts", mm_n1 51 (by decide +kernel) rfl⟩⟩
theorem fl_X9_54 : mm_FL RX9 54 0 6 := ⟨_, _, _, mmcl_X0, by decide, Or.inr ⟨"ForgottenCrafts", mm_n1 111 (by decide +kernel) rfl⟩⟩
theorem fl_X9_70 : mm_FL RX9 70 4 3 := ⟨_, _, _, mmcl_X4, by decide, Or.inr ⟨"ForgottenCrafts", mm_n1 54 (by decide +kernel) rfl⟩⟩
theorem fl_X9_80 : mm_FL RX9 80 0 5 := ⟨_, _, _, mmcl_X0, by decide, Or.inr ⟨"ForgottenCrafts", mm_n1 106 (by decide +kernel) rfl⟩⟩
theorem fl_X9_87 : mm_FL RX9 87 0 0 := ⟨_, _, _, mmcl_X0, by decide, Or.inr ⟨"ForgottenCrafts", mm_n1 85 (by decide +kernel) rfl⟩⟩
theorem fl_X9_103 : mm_FL RX9 103 0 1 := ⟨_, _, _, mmcl_X0, by decide, Or.inr ⟨"ForgottenCrafts", mm_n1 89 (by decide +kernel) rfl⟩⟩
theorem fl_X9_110 : mm_FL RX9 110 0 2 := ⟨_, _, _, mmcl_X0, by decide, Or.inr ⟨"ForgottenCrafts", mm_n1 94 (by decide +kernel) rfl⟩⟩
theorem fl_X9_113 : mm_FL RX9 113 0 3 := ⟨_, _, _, mmcl_X0, by decide, Or.inr ⟨"ForgottenCrafts", mm_n1 98 (by decide +kernel) rfl⟩⟩
theorem fl_X9_125 : mm_FL RX9 125 1 0 := ⟨_, _, _, mmcl_X1, by decide, Or.inr ⟨"ForgottenCrafts", mm_n1 198 (by decide +kernel) rfl⟩⟩
theorem fl_X9_132 : mm_FL RX9 132 1 8 := ⟨_, _, _, mmcl_X1, by decide, Or.inr ⟨"ForgottenCrafts", mm_n1 224 (by decide +kernel) rfl⟩⟩
theorem fl_X9_135 : mm_FL RX9 135 1 3 := ⟨_, _, _, mmcl_X1, by decide, Or.inr ⟨"ForgottenCrafts", mm_n1 205 (by decide +kernel) rfl⟩⟩
theorem fl_X9_158 : mm_FL RX9 158 0 4 := ⟨_, _, _, mmcl_X0, by decide, Or.inr ⟨"ForgottenCrafts", mm_n1 103 (by decide +kernel) rfl⟩⟩
theorem fl_X11_7 : mm_FL RX11 7 11 1 := ⟨_, _, _, mmcl_X11, by decide, Or.inl (mm_g5 165 (by decide +kernel) rfl)⟩
theorem fl_X11_13 : mm_FL RX11 13 11 3 := ⟨_, _, _, mmcl_X11, by decide, Or.inl (mm_g5 167 (by decide +kernel) rfl)⟩
theorem fl_X11_16 : mm_FL RX11 16 11 4 := ⟨_, _, _, mmcl_X11, by decide, Or.inl (mm_g5 168 (by decide +kernel) rfl)⟩
theorem fl_X11_19 : mm_FL RX11 19 11 5 := ⟨_, _, _, mmcl_X11, by decide, Or.inl (mm_g5 169 (by decide +kernel) rfl)⟩
theorem fl_X11_22 : mm_FL RX11 22 11 6 := ⟨_, _, _, mmcl_X11, by decide, Or.inl (mm_g5 170 (by decide +kernel) rfl)⟩
theorem fl_X11_26 : mm_FL RX11 26 11 7 := ⟨_, _, _, mmcl_X11, by decide, Or.inl (mm_g5 171 (by decide +kernel) rfl)⟩
theorem fl_X11_29 : mm_FL RX11 29 11 8 := ⟨_, _, _, mmcl_X11, by decide, Or.inl (mm_g5 172 (by decide +kernel) rfl)⟩
theorem fl_X11_32 : mm_FL RX11 32 11 9 := ⟨_, _, _, mmcl_X11, by decide, Or.inl (mm_g5 173 (by decide +kernel) rfl)⟩
theorem fl_X11_35 : mm_FL RX11 35 11 10 := ⟨_, _, _, mmcl_X11, by decide, Or.inl (mm_g5 174 (by decide +kernel) rfl)⟩
theorem fl_X11_38 : mm_FL RX11 38 11 12 := ⟨_, _, _, mmcl_X11, by decide, Or.inl (mm_g5 176 (by decide +kernel) rfl)⟩
theorem fl_X11_41 : mm_FL RX11 41 11 13 := ⟨_, _, _, mmcl_X11, by decide, Or.inl (mm_g5 177 (by decide +kernel) rfl)⟩
theorem fl_X11_45 : mm_FL RX11 45 11 14 := ⟨_, _, _, mmcl_X11, by decide, Or.inl (mm_g5 178 (by decide +kernel) rfl)⟩
theorem fl_X11_48 : mm_FL RX11 48 11 15 := ⟨_, _, _, mmcl_X11, by decide, Or.inl (mm_g5 179 (by decide +kernel) rfl)⟩
theorem fl_X11_51 : mm_FL RX11 51 11 16 := ⟨_, _, _, mmcl_X11, by decide, Or.inl (mm_g5 180 (by decide +kernel) rfl)⟩
theorem fl_X11_54 : mm_FL RX11 54 11 17 := ⟨_, _, _, mmcl_X11, by decide, Or.inl (mm_g5 181 (by decide +kernel) rfl)⟩
theorem fl_X11_57 : mm_FL RX11 57 11 18 := ⟨_, _, _, mmcl_X11, by decide, Or.inl (mm_g5 182 (by decide +kernel) rfl)⟩
theorem fl_X11_60 : mm_FL RX11 60 11 19 := ⟨_, _, _, mmcl_X11, by decide, Or.inl (mm_g5 183 (by decide +kernel) rfl)⟩
theorem fl_X11_63 : mm_FL RX11 63 11 20 := ⟨_, _, _, mmcl_X11, by decide, Or.inl (mm_g5 184 (by decide +kernel) rfl)⟩
theorem fl_X11_66 : mm_FL RX11 66 11 21 := ⟨_, _, _, mmcl_X11, by decide, Or.inl (mm_g5 185 (by decide +kernel) rfl)⟩
theorem fl_X11_69 : mm_FL RX11 69 11 22 := ⟨_, _, _, mmcl_X11, by decide, Or.inl (mm_g5 186 (by decide +kernel) rfl)⟩
theorem fl_X11_72 : mm_FL RX11 72 11 25 := ⟨_, _, _, mmcl_X11, by decide, Or.inl (mm_g5 189 (by decide +kernel) rfl)⟩
theorem fl_X11_75 : mm_FL RX11 75 11 26 := ⟨_, _, _, mmcl_X11, by decide, Or.inl (mm_g5 190 (by decide +kernel) rfl)⟩
theorem fl_X11_78 : mm_FL RX11 78 11 28 := ⟨_, _, _, mmcl_X11, by decide, Or.inl (mm_g5 192 (by decide +kernel) rfl)⟩
theorem fl_X11_81 : mm_FL RX11 81 11 35 := ⟨_, _, _, mmcl_X11, by decide, Or.inl (mm_g5 199 (by decide +kernel) rfl)⟩
theorem fl_X11_84 : mm_FL RX11 84 11 37 := ⟨_, _, _, mmcl_X11, by decide, Or.inl (mm_g5 201 (by decide +kernel) rfl)⟩
theorem fl_X11_87 : mm_FL RX11 87 11 38 := ⟨_, _, _, mmcl_X11, by decide, Or.inl (mm_g5 202 (by decide +kernel) rfl)⟩
theorem fl_X11_90 : mm_FL RX11 90 11 40 := ⟨_, _, _, mmcl_X11, by decide, Or.inl (mm_g5 204 (by decide +kernel) rfl)⟩
theorem fl_X11_93 : mm_FL RX11 93 11 41 := ⟨_, _, _, mmcl_X11, by decide, Or.inl (mm_g5 205 (by decide +kernel) rfl)⟩
theorem fl_X11_96 : mm_FL RX11 96 11 42 := ⟨_, _, _, mmcl_X11, by decide, Or.inl (mm_g5 206 (by decide +kernel) rfl)⟩
theorem fl_X11_99 : mm_FL RX11 99 11 43 := ⟨_, _, _, mmcl_X11, by decide, Or.inl (mm_g5 207 (by decide +kernel) rfl)⟩
theorem fl_X11_102 : mm_FL RX11 102 11 45 := ⟨_, _, _, mmcl_X11, by decide, Or.inl (mm_g5 209 (by decide +kernel) rfl)⟩
theorem fl_X11_105 : mm_FL RX11 105 11 46 := ⟨_, _, _, mmcl_X11, by decide, Or.inl (mm_g5 210 (by decide +kernel) rfl)⟩
theorem fl_X11_108 : mm_FL RX11 108 11 49 := ⟨_, _, _, mmcl_X11, by decide, Or.inl (mm_g5 213 (by decide +kernel) rfl)⟩
theorem fl_X11_111 : mm_FL RX11 111 11 50 := ⟨_, _, _, mmcl_X11, by decide, Or.inl (mm_g5 214 (by decide +kernel) rfl)⟩
theorem fl_X11_114 : mm_FL RX11 114 11 52 := ⟨_, _, _, mmcl_X11, by decide, Or.inl (mm_g5 216 (by decide +kernel) rfl)⟩
theorem fl_X11_117 : mm_FL RX11 117 11 53 := ⟨_, _, _, mmcl_X11, by decide, Or.inl (mm_g5 217 (by decide +kernel) rfl)⟩
theorem fl_X11_120 : mm_FL RX11 120 11 54 := ⟨_, _, _, mmcl_X11, by decide, Or.inl (mm_g5 218 (by decide +kernel) rfl)⟩
theorem fl_X11_123 : mm_FL RX11 123 11 55 := ⟨_, _, _, mmcl_X11, by decide, Or.inl (mm_g5 219 (by decide +kernel) rfl)⟩
theorem fl_X11_126 : mm_FL RX11 126 11 56 := ⟨_, _, _, mmcl_X11, by decide, Or.inl (mm_g5 220 (by decide +kernel) rfl)⟩
theorem fl_X11_133 : mm_FL RX11 133 11 0 := ⟨_, _, _, mmcl_X11, by decide, Or.inl (mm_g5 164 (by decide +kernel) rfl)⟩
theorem fl_X11_140 : mm_FL RX11 140 11 2 := ⟨_, _, _, mmcl_X11, by decide, Or.inl (mm_g5 166 (by decide +kernel) rfl)⟩
theorem fl_X11_147 : mm_FL RX11 147 11 23 := ⟨_, _, _, mmcl_X11, by decide, Or.inl (mm_g5 187 (by decide +kernel) rfl)⟩
theorem fl_X11_157 : mm_FL RX11 157 11 27 := ⟨_, _, _, mmcl_X11, by decide, Or.inl (mm_g5 191 (by decide +kernel) rfl)⟩
theorem fl_X11_163 : mm_FL RX11 163 11 29 := ⟨_, _, _, mmcl_X11, by decide, Or.inl (mm_g5 193 (by decide +kernel) rfl)⟩
theorem fl_X11_169 : mm_FL RX11 169 11 30 := ⟨_, _, _, mmcl_X11, by decide, Or.inl (mm_g5 194 (by decide +kernel) rfl)⟩
theorem fl_X11_173 : mm_FL RX11 173 11 31 := ⟨_, _, _, mmcl_X11, by decide, Or.inl (mm_g5 195 (by decide +kernel) rfl)⟩
theorem fl_X11_196 : mm_FL RX11 196 11 33 := ⟨_, _, _, mmcl_X11, by decide, Or.inl (mm_g5 197 (by decide +kernel) rfl)⟩
theorem fl_X11_199 : mm_FL RX11 199 11 32 := ⟨_, _, _, mmcl_X11, by decide, Or.inl (mm_g5 196 (by decide +kernel) rfl)⟩
theorem fl_X11_208 : mm_FL RX11 208 11 34 := ⟨_, _, _, mmcl_X11, by decide, Or.inl (mm_g5 198 (by decide +kernel) rfl)⟩
theorem fl_X11_223 : mm_FL RX11 223 11 36 := ⟨_, _, _, mmcl_X11, by decide, Or.inl (mm_g5 200 (by decide +kernel) rfl)⟩
theorem fl_X11_226 : mm_FL RX11 226 11 39 := ⟨_, _, _, mmcl_X11, by decide, Or.inl (mm_g5 203 (by decide +kernel) rfl)⟩
theorem fl_X11_244 : mm_FL RX11 244 11 48 := ⟨_, _, _, mmcl_X11, by decide, Or.inl (mm_g5 212 (by decide +kernel) rfl)⟩
theorem fl_X11_247 : mm_FL RX11 247 11 51 := ⟨_, _, _, mmcl_X11, by decide, Or.inl (mm_g5 215 (by decide +kernel) rfl)⟩
theorem fl_X11_254 : mm_FL RX11 254 11 11 := ⟨_, _, _, mmcl_X11, by decide, Or.inl (mm_g5 175 (by decide +kernel) rfl)⟩
theorem fl_X11_301 : mm_FL RX11 301 11 24 := ⟨_, _, _, mmcl_X11, by decide, Or.inl (mm_g5 188 (by decide +kernel) rfl)⟩
theorem fl_X11_355 : mm_FL RX11 355 11 44 := ⟨_, _, _, mmcl_X11, by decide, Or.inl (mm_g5 208 (by decide +kernel) rfl)⟩
theorem fl_X11_375 : mm_FL RX11 375 11 47 := ⟨_, _, _, mmcl_X11, by decide, Or.inl (mm_g5 211 (by decide +kernel) rfl)⟩
theorem fp_X10_116 : mm_FP RX10 116 10 19 .int := ⟨_, _, _, mmcl_X10, by decide, Or.inl (mm_g2 199 (by decide +kernel) rfl), by decide +kernel, by decide +kernel⟩
theorem fp_X10_187 : mm_FP RX10 187 7 0 .int := ⟨_, _, _, mmcl_X7, by decide, Or.inr ⟨"ForgottenCrafts", mm_n1 142 (by decide +kernel) rfl⟩, by decide +kernel, by decide +kernel⟩
theorem fp_X10_359 : mm_FP RX10 359 1 12 .int := ⟨_, _, _, mmcl_X1, by decide, Or.inr ⟨"ForgottenCrafts", mm_n1 236 (by decide +kernel) rfl⟩, by decide +kernel, by decide +kernel⟩
theorem fp_X0_32 : mm_FP RX0 32 0 5 .int := ⟨_, _, _, mmcl_X0, by decide, Or.inl (mm_g1 104 (by decide +kernel) rfl), by decide +kernel, by decide +kernel⟩
theorem fp_X0_36 : mm_FP RX0 36 0 6 .int := ⟨_, _, _, mmcl_X0, by decide, Or.inl (mm_g1 109 (by decide +kernel) rfl), by decide +kernel, by decide +kernel⟩
theorem fp_X1_44 : mm_FP RX1 44 1 8 .int := ⟨_, _, _, mmcl_X1, by decide, Or.inl (mm_g1 220 (by decide +kernel) rfl), by decide +kernel, by decide +kernel⟩
theorem fp_X1_48 : mm_FP RX1 48 1 9 .int := ⟨_, _, _, mmcl_X1, by decide, Or.inl (mm_g1 226 (by decide +kernel) rfl), by decide +kernel, by decide +kernel⟩
theorem fp_X1_51 : mm_FP RX1 51 1 10 .int := ⟨_, _, _, mmcl_X1, by decide, Or.inl (mm_g1 229 (by decide +kernel) rfl), by decide +kernel, by decide +kernel⟩
theorem fp_X1_54 : mm_FP RX1 54 1 11 .int := ⟨_, _, _, mmcl_X1, by decide, Or.inl (mm_g1 232 (by decide +kernel) rfl), by decide +kernel, by decide +kernel⟩
theorem fp_X1_57 : mm_FP RX1 57 1 12 .int := ⟨_, _, _, mmcl_X1, by decide, Or.inl (mm_g1 235 (by decide +kernel) rfl), by decide +kernel, by decide +kernel⟩
theorem fp_X2_78 : mm_FP RX2 78 1 9 .int := ⟨_, _, _, mmcl_X1, by decide, Or.inr ⟨"ForgottenCrafts", mm_n1 227 (by decide +kernel) rfl⟩, by decide +kernel, by decide +kernel⟩
theorem fp_X2_131 : mm_FP RX2 131 1 10 .int := ⟨_, _, _, mmcl_X1, by decide, Or.inr ⟨"ForgottenCrafts", mm_n1 231 (by decide +kernel) rfl⟩, by decide +kernel, by decide +kernel⟩
theorem fp_X2_134 : mm_FP RX2 134 1 8 .int := ⟨_, _, _, mmcl_X1, by decide, Or.inr ⟨"ForgottenCrafts", mm_n1 225 (by decide +kernel) rfl⟩, by decide +kernel, by decide +kernel⟩
theorem fp_X2_144 : mm_FP RX2 144 1 11 .int := ⟨_, _, _, mmcl_X1, by decide, Or.inr ⟨"ForgottenCrafts", mm_n1 234 (by decide +kernel) rfl⟩, by decide +kernel, by decide +kernel⟩
theorem fp_X3_29 : mm_FP RX3 29 3 7 .int := ⟨_, _, _, mmcl_X3, by decide, Or.inl (mm_g2 129 (by decide +kernel) rfl), by decide +kernel, by decide +kernel⟩
theorem fp_X4_20 : mm_FP RX4 20 4 1 .int := ⟨_, _, _, mmcl_X4, by decide, Or.inl (mm_g1 48 (by decide +kernel) rfl), by decide +kernel, by decide +kernel⟩
theorem fp_X4_24 : mm_FP RX4 24 4 2 .int := ⟨_, _, _, mmcl_X4, by decide, Or.inl (mm_g1 50 (by decide +kernel) rfl), by decide +kernel, by decide +kernel⟩
theorem fp_X4_27 : mm_FP RX4 27 4 3 .int := ⟨_, _, _, mmcl_X4, by decide, Or.inl (mm_g1 53 (by decide +kernel) rfl), by decide +kernel, by decide +kernel⟩
theorem fp_X4_30 : mm_FP RX4 30 4 4 .int := ⟨_, _, _, mmcl_X4, by decide, Or.inl (mm_g1 56 (by decide +kernel) rfl), by decide +kernel, by decide +kernel⟩
theorem fp_X4_33 : mm_FP RX4 33 4 5 .int := ⟨_, _, _, mmcl_X4, by decide, Or.inl (mm_g1 57 (by decide +kernel) rfl), by decide +kernel, by decide +kernel⟩
theorem fp_X4_36 : mm_FP RX4 36 4 6 .int := ⟨_, _, _, mmcl_X4, by decide, Or.inl (mm_g1 59 (by decide +kernel) rfl), by decide +kernel, by decide +kernel⟩
theorem fp_X5_29 : mm_FP RX5 29 5 5 .int := ⟨_, _, _, mmcl_X5, by decide, Or.inl (mm_g2 161 (by decide +kernel) rfl), by decide +kernel, by decide +kernel⟩
theorem fp_X5_33 : mm_FP RX5 33 5 6 .int := ⟨_, _, _, mmcl_X5, by decide, Or.inl (mm_g2 163 (by decide +kernel) rfl), by decide +kernel, by decide +kernel⟩
theorem fp_X7_14 : mm_FP RX7 14 7 0 .int := ⟨_, _, _, mmcl_X7, by decide, Or.inl (mm_g1 140 (by decide +kernel) rfl), by decide +kernel, by decide +kernel⟩
theorem fp_X7_18 : mm_FP RX7 18 7 1 .int := ⟨_, _, _, mmcl_X7, by decide, Or.inl (mm_g1 143 (by decide +kernel) rfl), by decide +kernel, by decide +kernel⟩
theorem fp_X7_21 : mm_FP RX7 21 7 2 .int := ⟨_, _, _, mmcl_X7, by decide, Or.inl (mm_g1 146 (by decide +kernel) rfl), by decide +kernel, by decide +kernel⟩
theorem fp_X7_24 : mm_FP RX7 24 7 3 .int := ⟨_, _, _, mmcl_X7, by decide, Or.inl (mm_g1 149 (by decide +kernel) rfl), by decide +kernel, by decide +kernel⟩
theorem fp_X7_27 : mm_FP RX7 27 7 4 .int := ⟨_, _, _, mmcl_X7, by decide, Or.inl (mm_g1 152 (by decide +kernel) rfl), by decide +kernel, by decide +kernel⟩
theorem fp_X7_30 : mm_FP RX7 30 7 5 .boolean := ⟨_, _, _, mmcl_X7, by decide, Or.inl (mm_g1 155 (by decide +kernel) rfl), by decide +kernel, by decide +kernel⟩
theorem fp_X7_34 : mm_FP RX7 34 7 6 .int := ⟨_, _, _, mmcl_X7, by decide, Or.inl (mm_g1 158 (by decide +kernel) rfl), by decide +kernel, by decide +kernel⟩
theorem fp_X8_35 : mm_FP RX8 35 8 6 .int := ⟨_, _, _, mmcl_X8, by decide, Or.inl (mm_g2 40 (by decide +kernel) rfl), by decide +kernel, by decide +kernel⟩
theorem fp_X8_39 : mm_FP RX8 39 8 7 .int := ⟨_, _, _, mmcl_X8, by decide, Or.inl (mm_g2 42 (by decide +kernel) rfl), by decide +kernel, by decide +kernel⟩
theorem fp_X8_42 : mm_FP RX8 42 8 8 .int := ⟨_, _, _, mmcl_X8, by decide, Or.inl (mm_g2 44 (by decide +kernel) rfl), by decide +kernel, by decide +kernel⟩
theorem fp_X8_45 : mm_FP RX8 45 8 9 .int := ⟨_, _, _, mmcl_X8, by decide, Or.inl (mm_g2 46 (by decide +kernel) rfl), by decide +kernel, by decide +kernel⟩
theorem fp_X8_48 : mm_FP RX8 48 8 10 .int := ⟨_, _, _, mmcl_X8, by decide, Or.inl (mm_g2 48 (by decide +kernel) rfl), by decide +kernel, by decide +kernel⟩
theorem fp_X9_9 : mm_FP RX9 9 9 3 .int := ⟨_, _, _, mmcl_X9, by decide, Or.inl (mm_g2 82 (by decide +kernel) rfl), by decide +kernel, by decide +kernel⟩
theorem fp_X9_15 : mm_FP RX9 15 9 4 .long := ⟨_, _, _, mmcl_X9, by decide, Or.inl (mm_g2 83 (by decide +kernel) rfl), by decide +kernel, by decide +kernel⟩
theorem fp_X9_54 : mm_FP RX9 54 0 6 .int := ⟨_, _, _, mmcl_X0, by decide, Or.inr ⟨"ForgottenCrafts", mm_n1 111 (by decide +kernel) rfl⟩, by decide +kernel, by decide +kernel⟩
theorem fp_X9_80 : mm_FP RX9 80 0 5 .int := ⟨_, _, _, mmcl_X0, by decide, Or.inr ⟨"ForgottenCrafts", mm_n1 106 (by decide +kernel) rfl⟩, by decide +kernel, by decide +kernel⟩
theorem fp_X9_132 : mm_FP RX9 132 1 8 .int := ⟨_, _, _, mmcl_X1, by decide, Or.inr ⟨"ForgottenCrafts", mm_n1 224 (by decide +kernel) rfl⟩, by decide +kernel, by decide +kernel⟩
theorem fp_X11_22 : mm_FP RX11 22 11 6 .int := ⟨_, _, _, mmcl_X11, by decide, Or.inl (mm_g5 170 (by decide +kernel) rfl), by decide +kernel, by decide +kernel⟩
theorem fp_X11_26 : mm_FP RX11 26 11 7 .int := ⟨_, _, _, mmcl_X11, by decide, Or.inl (mm_g5 171 (by decide +kernel) rfl), by decide +kernel, by decide +kernel⟩
theorem fp_X11_29 : mm_FP RX11 29 11 8 .int := ⟨_, _, _, mmcl_X11, by decide, Or.inl (mm_g5 172 (by decide +kernel) rfl), by decide +kernel, by decide +kernel⟩
theorem fp_X11_32 : mm_FP RX11 32 11 9 .int := ⟨_, _, _, mmcl_X11, by decide, Or.inl (mm_g5 173 (by decide +kernel) rfl), by decide +kernel, by decide +kernel⟩
theorem fp_X11_35 : mm_FP RX11 35 11 10 .int := ⟨_, _, _, mmcl_X11, by decide, Or.inl (mm_g5 174 (by decide +kernel) rfl), by decide +kernel, by decide +kernel⟩
theorem fp_X11_78 : mm_FP RX11 78 11 28 .int := ⟨_, _, _, mmcl_X11, by decide, Or.inl (mm_g5 192 (by decide +kernel) rfl), by decide +kernel, by decide +kernel⟩
theorem fp_X11_133 : mm_FP RX11 133 11 0 .int := ⟨_, _, _, mmcl_X11, by decide, Or.inl (mm_g5 164 (by decide +kernel) rfl), by decide +kernel, by decide +kernel⟩
theorem fp_X11_140 : mm_FP RX11 140 11 2 .int := ⟨_, _, _, mmcl_X11, by decide, Or.inl (mm_g5 166 (by decide +kernel) rfl), by decide +kernel, by decide +kernel⟩
theorem fp_X11_147 : mm_FP RX11 147 11 23 .int := ⟨_, _, _, mmcl_X11, by decide, Or.inl (mm_g5 187 (by decide +kernel) rfl), by decide +kernel, by decide +kernel⟩
theorem fp_X11_157 : mm_FP RX11 157 11 27 .int := ⟨_, _, _, mmcl_X11, by decide, Or.inl (mm_g5 191 (by decide +kernel) rfl), by decide +kernel, by decide +kernel⟩
theorem fp_X11_163 : mm_FP RX11 163 11 29 .int := ⟨_, _, _, mmcl_X11, by decide, Or.inl (mm_g5 193 (by decide +kernel) rfl), by decide +kernel, by decide +kernel⟩
theorem fp_X11_169 : mm_FP RX11 169 11 30 .long := ⟨_, _, _, mmcl_X11, by decide, Or.inl (mm_g5 194 (by decide +kernel) rfl), by decide +kernel, by decide +kernel⟩
theorem fp_X11_173 : mm_FP RX11 173 11 31 .int := ⟨_, _, _, mmcl_X11, by decide, Or.inl (mm_g5 195 (by decide +kernel) rfl), by decide +kernel, by decide +kernel⟩
theorem fp_X11_196 : mm_FP RX11 196 11 33 .int := ⟨_, _, _, mmcl_X11, by decide, Or.inl (mm_g5 197 (by decide +kernel) rfl), by decide +kernel, by decide +kernel⟩
theorem fp_X11_199 : mm_FP RX11 199 11 32 .int := ⟨_, _, _, mmcl_X11, by decide, Or.inl (mm_g5 196 (by decide +kernel) rfl), by decide +kernel, by decide +kernel⟩
theorem fp_X11_208 : mm_FP RX11 208 11 34 .int := ⟨_, _, _, mmcl_X11, by decide, Or.inl (mm_g5 198 (by decide +kernel) rfl), by decide +kernel, by decide +kernel⟩
theorem fp_X11_223 : mm_FP RX11 223 11 36 .int := ⟨_, _, _, mmcl_X11, by decide, Or.inl (mm_g5 200 (by decide +kernel) rfl), by decide +kernel, by decide +kernel⟩
theorem fp_X11_226 : mm_FP RX11 226 11 39 .int := ⟨_, _, _, mmcl_X11, by decide, Or.inl (mm_g5 203 (by decide +kernel) rfl), by decide +kernel, by decide +kernel⟩
theorem fp_X11_244 : mm_FP RX11 244 11 48 .int := ⟨_, _, _, mmcl_X11, by decide, Or.inl (mm_g5 212 (by decide +kernel) rfl), by decide +kernel, by decide +kernel⟩
theorem fp_X11_247 : mm_FP RX11 247 11 51 .int := ⟨_, _, _, mmcl_X11, by decide, Or.inl (mm_g5 215 (by decide +kernel) rfl), by decide +kernel, by decide +kernel⟩
theorem fp_X11_254 : mm_FP RX11 254 11 11 .boolean := ⟨_, _, _, mmcl_X11, by decide, Or.inl (mm_g5 175 (by decide +kernel) rfl), by decide +kernel, by decide +kernel⟩
theorem fp_X11_301 : mm_FP RX11 301 11 24 .int := ⟨_, _, _, mmcl_X11, by decide, Or.inl (mm_g5 188 (by decide +kernel) rfl), by decide +kernel, by decide +kernel⟩
theorem fp_X11_355 : mm_FP RX11 355 11 44 .int := ⟨_, _, _, mmcl_X11, by decide, Or.inl (mm_g5 208 (by decide +kernel) rfl), by decide +kernel, by decide +kernel⟩
theorem fp_X11_375 : mm_FP RX11 375 11 47 .int := ⟨_, _, _, mmcl_X11, by decide, Or.inl (mm_g5 211 (by decide +kernel) rfl), by decide +kernel, by decide +kernel⟩
theorem kX10_124 : Cond.constant RX10 124 (-1000000002) ∈ mm_GW := mm_g3 8 (by decide +kernel) rfl
theorem kX10_128 : Cond.constant RX10 128 (-1000000004) ∈ mm_GW := mm_g3 9 (by decide +kernel) rfl
theorem kX10_167 : Cond.constant RX10 167 (-1000000003) ∈ mm_GW := mm_g3 208 (by decide +kernel) rfl
theorem kX10_220 : Cond.constant RX10 220 (-1000000001) ∈ mm_GW := mm_g4 27 (by decide +kernel) rfl
theorem kX10_350 : Cond.constant RX10 350 1000000 ∈ mm_GW := mm_g5 108 (by decide +kernel) rfl
theorem kX1_92 : Cond.constant RX1 92 65536 ∈ mm_GW := mm_g4 138 (by decide +kernel) rfl
theorem kX2_59 : Cond.constant RX2 59 (-1000000003) ∈ mm_GW := mm_g4 87 (by decide +kernel) rfl
theorem kX3_74 : Cond.constant RX3 74 1000000 ∈ mm_GW := mm_g5 4 (by decide +kernel) rfl
theorem kX11_156 : Cond.constant RX11 156 (-1000000002) ∈ mm_GW := mm_g6 106 (by decide +kernel) rfl
theorem kX11_160 : Cond.constant RX11 160 (-1000000004) ∈ mm_GW := mm_g6 107 (by decide +kernel) rfl
theorem kX11_250 : Cond.constant RX11 250 (-1000000003) ∈ mm_GW := mm_g6 171 (by decide +kernel) rfl
theorem kX11_271 : Cond.constant RX11 271 (-1000000001) ∈ mm_GW := mm_g6 204 (by decide +kernel) rfl
theorem kX11_310 : Cond.constant RX11 310 65536 ∈ mm_GW := mm_g7 30 (by decide +kernel) rfl
theorem kX11_354 : Cond.constant RX11 354 1000000 ∈ mm_GW := mm_g7 98 (by decide +kernel) rfl
theorem kJ6_265 : Cond.constant RJ6 265 1431655765 ∈ mm_GW := mm_g3 236 (by decide +kernel) rfl
theorem kJ6_266 : Cond.constant RJ6 266 858993459 ∈ mm_GW := mm_g3 237 (by decide +kernel) rfl
theorem kJ6_267 : Cond.constant RJ6 267 252645135 ∈ mm_GW := mm_g3 238 (by decide +kernel) rfl
theorem kX10_129 : Cond.constantLong RX10 129 255 ∈ mm_GW := mm_g3 10 (by decide +kernel) rfl
theorem kX1_86 : Cond.constantLong RX1 86 1103515245 ∈ mm_GW := mm_g4 135 (by decide +kernel) rfl
theorem kX1_88 : Cond.constantLong RX1 88 12345 ∈ mm_GW := mm_g4 136 (by decide +kernel) rfl
theorem kX1_90 : Cond.constantLong RX1 90 2147483647 ∈ mm_GW := mm_g4 137 (by decide +kernel) rfl
theorem kX11_154 : Cond.constantLong RX11 154 8 ∈ mm_GW := mm_g6 102 (by decide +kernel) rfl
theorem kX11_161 : Cond.constantLong RX11 161 255 ∈ mm_GW := mm_g6 108 (by decide +kernel) rfl
theorem kX11_176 : Cond.constantLong RX11 176 97 ∈ mm_GW := mm_g6 125 (by decide +kernel) rfl
theorem kX11_178 : Cond.constantLong RX11 178 122 ∈ mm_GW := mm_g6 126 (by decide +kernel) rfl
theorem kX11_180 : Cond.constantLong RX11 180 100000000000000 ∈ mm_GW := mm_g6 127 (by decide +kernel) rfl
theorem kX11_182 : Cond.constantLong RX11 182 200000000000000 ∈ mm_GW := mm_g6 128 (by decide +kernel) rfl
theorem kX11_184 : Cond.constantLong RX11 184 27 ∈ mm_GW := mm_g6 129 (by decide +kernel) rfl
theorem kX11_186 : Cond.constantLong RX11 186 96 ∈ mm_GW := mm_g6 130 (by decide +kernel) rfl
theorem kX11_188 : Cond.constantLong RX11 188 48 ∈ mm_GW := mm_g6 153 (by decide +kernel) rfl
theorem kX11_190 : Cond.constantLong RX11 190 57 ∈ mm_GW := mm_g6 154 (by decide +kernel) rfl
theorem kX11_304 : Cond.constantLong RX11 304 1103515245 ∈ mm_GW := mm_g7 27 (by decide +kernel) rfl
theorem kX11_306 : Cond.constantLong RX11 306 12345 ∈ mm_GW := mm_g7 28 (by decide +kernel) rfl
theorem kX11_308 : Cond.constantLong RX11 308 2147483648 ∈ mm_GW := mm_g7 29 (by decide +kernel) rfl
theorem kX11_328 : Cond.constantLong RX11 328 99 ∈ mm_GW := mm_g7 35 (by decide +kernel) rfl
theorem kX11_336 : Cond.constantLong RX11 336 90 ∈ mm_GW := mm_g7 63 (by decide +kernel) rfl
theorem kX11_338 : Cond.constantLong RX11 338 100 ∈ mm_GW := mm_g7 64 (by decide +kernel) rfl
theorem kX11_346 : Cond.constantLong RX11 346 6 ∈ mm_GW := mm_g7 77 (by decide +kernel) rfl
theorem kX11_384 : Cond.constantLong RX11 384 5 ∈ mm_GW := mm_g7 111 (by decide +kernel) rfl
theorem kX11_389 : Cond.constantLong RX11 389 2 ∈ mm_GW := mm_g7 152 (by decide +kernel) rfl
def MJ0_length : mm_M := (RJ0, yJ0_length_8abf5, cJ0_length_8abf5, 1, (some .int), 1)
theorem mc_J0_length : Cond.code yJ0_length_8abf5 cJ0_length_8abf5 1 (some .int) ∈ mm_GW := mm_g3 60 (by decide +kernel) rfl
theorem ms_J0_length : Cond.instanceMethod yJ0_length_8abf5 ∈ mm_GW ∧ Cond.selects RJ0 yJ0_length_8abf5 yJ0_length_8abf5 ∈ mm_GW ∧ Cond.initialized yJ0_length_8abf5.cls ∈ mm_GW ∧ Cond.code yJ0_length_8abf5 cJ0_length_8abf5 1 (some .int) ∈ mm_GW ∧ (yJ0_length_8abf5.cls ≠ "java/lang/invoke/MethodHandle" ∧ yJ0_length_8abf5.cls ≠ "java/lang/invoke/VarHandle") ∧ (parseMethodDescriptor yJ0_length_8abf5.desc).map (fun d => d.parameters.length) = some 0 := ⟨mm_g3 58 (by decide +kernel) rfl, mm_g3 59 (by decide +kernel) rfl, mm_g1 14 (by decide +kernel) rfl, mc_J0_length, ⟨by decide +kernel, by decide +kernel⟩, by decide +kernel⟩
def MJ0_coder : mm_M := (RJ0, yJ0_coder_7d493, cJ0_coder_7d493, 1, (some .byte), 0)
theorem mc_J0_coder : Cond.code yJ0_coder_7d493 cJ0_coder_7d493 1 (some .byte) ∈ mm_GW := mm_g3 64 (by decide +kernel) rfl
theorem ms_J0_coder : Cond.instanceMethod yJ0_coder_7d493 ∈ mm_GW ∧ Cond.selects RJ0 yJ0_coder_7d493 yJ0_coder_7d493 ∈ mm_GW ∧ Cond.initialized yJ0_coder_7d493.cls ∈ mm_GW ∧ Cond.code yJ0_coder_7d493 cJ0_coder_7d493 1 (some .byte) ∈ mm_GW ∧ (yJ0_coder_7d493.cls ≠ "java/lang/invoke/MethodHandle" ∧ yJ0_coder_7d493.cls ≠ "java/lang/invoke/VarHandle") ∧ (parseMethodDescriptor yJ0_coder_7d493.desc).map (fun d => d.parameters.length) = some 0 := ⟨mm_g3 62 (by decide +kernel) rfl, mm_g3 63 (by decide +kernel) rfl, mm_g1 14 (by decide +kernel) rfl, mc_J0_coder, ⟨by decide +kernel, by decide +kernel⟩, by decide +kernel⟩
def MJ0_isLatin1 : mm_M := (RJ0, yJ0_isLatin1_aae02, cJ0_isLatin1_aae02, 1, (some .boolean), 0)
theorem mc_J0_isLatin1 : Cond.code yJ0_isLatin1_aae02 cJ0_isLatin1_aae02 1 (some .boolean) ∈ mm_GW := mm_g3 74 (by decide +kernel) rfl
theorem ms_J0_isLatin1 : Cond.instanceMethod yJ0_isLatin1_aae02 ∈ mm_GW ∧ Cond.selects RJ0 yJ0_isLatin1_aae02 yJ0_isLatin1_aae02 ∈ mm_GW ∧ Cond.initialized yJ0_isLatin1_aae02.cls ∈ mm_GW ∧ Cond.code yJ0_isLatin1_aae02 cJ0_isLatin1_aae02 1 (some .boolean) ∈ mm_GW ∧ (yJ0_isLatin1_aae02.cls ≠ "java/lang/invoke/MethodHandle" ∧ yJ0_isLatin1_aae02.cls ≠ "java/lang/invoke/VarHandle") ∧ (parseMethodDescriptor yJ0_isLatin1_aae02.desc).map (fun d => d.parameters.length) = some 0 := ⟨mm_g3 72 (by decide +kernel) rfl, mm_g3 73 (by decide +kernel) rfl, mm_g1 14 (by decide +kernel) rfl, mc_J0_isLatin1, ⟨by decide +kernel, by decide +kernel⟩, by decide +kernel⟩
def MJ0_checkIndex : mm_M := (RJ0, yJ0_checkIndex_df160, cJ0_checkIndex_df160, 2, none, 1)
theorem mc_J0_checkIndex : Cond.code yJ0_checkIndex_df160 cJ0_checkIndex_df160 2 none ∈ mm_GW := mm_g3 80 (by decide +kernel) rfl
theorem ms_J0_checkIndex : Cond.static yJ0_checkIndex_df160 ∈ mm_GW ∧ Cond.initialized yJ0_checkIndex_df160.cls ∈ mm_GW ∧ Cond.code yJ0_checkIndex_df160 cJ0_checkIndex_df160 2 none ∈ mm_GW ∧ (yJ0_checkIndex_df160.cls ≠ "java/lang/invoke/MethodHandle" ∧ yJ0_checkIndex_df160.cls ≠ "java/lang/invoke/VarHandle") ∧ (parseMethodDescriptor yJ0_checkIndex_df160.desc).map (fun d => d.parameters.length) = some 2 := ⟨mm_g3 79 (by decide +kernel) rfl, mm_g1 14 (by decide +kernel) rfl, mc_J0_checkIndex, ⟨by decide +kernel, by decide +kernel⟩, by decide +kernel⟩
def MJ0_charAt : mm_M := (RJ0, yJ0_charAt_5068e, cJ0_charAt_5068e, 2, (some .char), 3)
theorem mc_J0_charAt : Cond.code yJ0_charAt_5068e cJ0_charAt_5068e 2 (some .char) ∈ mm_GW := mm_g3 70 (by decide +kernel) rfl
theorem ms_J0_charAt : Cond.instanceMethod yJ0_charAt_5068e ∈ mm_GW ∧ Cond.selects RJ0 yJ0_charAt_5068e yJ0_charAt_5068e ∈ mm_GW ∧ Cond.initialized yJ0_charAt_5068e.cls ∈ mm_GW ∧ Cond.code yJ0_charAt_5068e cJ0_charAt_5068e 2 (some .char) ∈ mm_GW ∧ (yJ0_charAt_5068e.cls ≠ "java/lang/invoke/MethodHandle" ∧ yJ0_charAt_5068e.cls ≠ "java/lang/invoke/VarHandle") ∧ (parseMethodDescriptor yJ0_charAt_5068e.desc).map (fun d => d.parameters.length) = some 1 := ⟨mm_g3 68 (by decide +kernel) rfl, mm_g3 69 (by decide +kernel) rfl, mm_g1 14 (by decide +kernel) rfl, mc_J0_charAt, ⟨by decide +kernel, by decide +kernel⟩, by decide +kernel⟩
def MJ1_charAt : mm_M := (RJ1, yJ1_charAt_3b067, cJ1_charAt_3b067, 2, (some .char), 2)
theorem mc_J1_charAt : Cond.code yJ1_charAt_3b067 cJ1_charAt_3b067 2 (some .char) ∈ mm_GW := mm_g3 77 (by decide +kernel) rfl
theorem ms_J1_charAt : Cond.static yJ1_charAt_3b067 ∈ mm_GW ∧ Cond.initialized yJ1_charAt_3b067.cls ∈ mm_GW ∧ Cond.code yJ1_charAt_3b067 cJ1_charAt_3b067 2 (some .char) ∈ mm_GW ∧ (yJ1_charAt_3b067.cls ≠ "java/lang/invoke/MethodHandle" ∧ yJ1_charAt_3b067.cls ≠ "java/lang/invoke/VarHandle") ∧ (parseMethodDescriptor yJ1_charAt_3b067.desc).map (fun d => d.parameters.length) = some 2 := ⟨mm_g3 76 (by decide +kernel) rfl, mm_g1 15 (by decide +kernel) rfl, mc_J1_charAt, ⟨by decide +kernel, by decide +kernel⟩, by decide +kernel⟩
def MJ3_checkIndex : mm_M := (RJ3, yJ3_checkIndex_8e157, cJ3_checkIndex_8e157, 3, (some .int), 0)
theorem mc_J3_checkIndex : Cond.code yJ3_checkIndex_8e157 cJ3_checkIndex_8e157 3 (some .int) ∈ mm_GW := mm_g3 85 (by decide +kernel) rfl
theorem ms_J3_checkIndex : Cond.static yJ3_checkIndex_8e157 ∈ mm_GW ∧ Cond.initialized yJ3_checkIndex_8e157.cls ∈ mm_GW ∧ Cond.code yJ3_checkIndex_8e157 cJ3_checkIndex_8e157 3 (some .int) ∈ mm_GW ∧ (yJ3_checkIndex_8e157.cls ≠ "java/lang/invoke/MethodHandle" ∧ yJ3_checkIndex_8e157.cls ≠ "java/lang/invoke/VarHandle") ∧ (parseMethodDescriptor yJ3_checkIndex_8e157.desc).map (fun d => d.parameters.length) = some 3 := ⟨mm_g3 84 (by decide +kernel) rfl, mm_g1 16 (by decide +kernel) rfl, mc_J3_checkIndex, ⟨by decide +kernel, by decide +kernel⟩, by decide +kernel⟩
def M0_hasPerson : mm_M := (RX0, yX0_hasPerson, cX0_hasPerson, 2, (some .boolean), 0)
theorem mc_0_hasPerson : Cond.code yX0_hasPerson cX0_hasPerson 2 (some .boolean) ∈ mm_GW := mm_g4 37 (by decide +kernel) rfl
theorem ms_0_hasPerson : Cond.instanceMethod yX0_hasPerson ∈ mm_GW ∧ Cond.selects RX0 yX0_hasPerson yX0_hasPerson ∈ mm_GW ∧ Cond.initialized yX0_hasPerson.cls ∈ mm_GW ∧ Cond.code yX0_hasPerson cX0_hasPerson 2 (some .boolean) ∈ mm_GW ∧ (yX0_hasPerson.cls ≠ "java/lang/invoke/MethodHandle" ∧ yX0_hasPerson.cls ≠ "java/lang/invoke/VarHandle") ∧ (parseMethodDescriptor yX0_hasPerson.desc).map (fun d => d.parameters.length) = some 1 := ⟨mm_g4 36 (by decide +kernel) rfl, mm_g0 40 (by decide +kernel) rfl, mm_g1 5 (by decide +kernel) rfl, mc_0_hasPerson, ⟨by decide +kernel, by decide +kernel⟩, by decide +kernel⟩
def M0_hasTrade : mm_M := (RX0, yX0_hasTrade, cX0_hasTrade, 2, (some .boolean), 0)
theorem mc_0_hasTrade : Cond.code yX0_hasTrade cX0_hasTrade 2 (some .boolean) ∈ mm_GW := mm_g4 26 (by decide +kernel) rfl
theorem ms_0_hasTrade : Cond.instanceMethod yX0_hasTrade ∈ mm_GW ∧ Cond.selects RX0 yX0_hasTrade yX0_hasTrade ∈ mm_GW ∧ Cond.initialized yX0_hasTrade.cls ∈ mm_GW ∧ Cond.code yX0_hasTrade cX0_hasTrade 2 (some .boolean) ∈ mm_GW ∧ (yX0_hasTrade.cls ≠ "java/lang/invoke/MethodHandle" ∧ yX0_hasTrade.cls ≠ "java/lang/invoke/VarHandle") ∧ (parseMethodDescriptor yX0_hasTrade.desc).map (fun d => d.parameters.length) = some 1 := ⟨mm_g4 25 (by decide +kernel) rfl, mm_g0 39 (by decide +kernel) rfl, mm_g1 5 (by decide +kernel) rfl, mc_0_hasTrade, ⟨by decide +kernel, by decide +kernel⟩, by decide +kernel⟩
def M10_cell : mm_M := (RX10, yX10_cell, cX10_cell, 3, (some .int), 0)
theorem mc_10_cell : Cond.code yX10_cell cX10_cell 3 (some .int) ∈ mm_GW := mm_g1 192 (by decide +kernel) rfl
theorem ms_10_cell : Cond.static yX10_cell ∈ mm_GW ∧ Cond.initialized yX10_cell.cls ∈ mm_GW ∧ Cond.code yX10_cell cX10_cell 3 (some .int) ∈ mm_GW ∧ (yX10_cell.cls ≠ "java/lang/invoke/MethodHandle" ∧ yX10_cell.cls ≠ "java/lang/invoke/VarHandle") ∧ (parseMethodDescriptor yX10_cell.desc).map (fun d => d.parameters.length) = some 2 := ⟨mm_g1 191 (by decide +kernel) rfl, mm_g1 1 (by decide +kernel) rfl, mc_10_cell, ⟨by decide +kernel, by decide +kernel⟩, by decide +kernel⟩
def M10_fault : mm_M := (RX10, yX10_fault, cX10_fault, 1, (some .int), 0)
theorem mc_10_fault : Cond.code yX10_fault cX10_fault 1 (some .int) ∈ mm_GW := mm_g4 6 (by decide +kernel) rfl
theorem ms_10_fault : Cond.instanceMethod yX10_fault ∈ mm_GW ∧ Cond.selects RX10 yX10_fault yX10_fault ∈ mm_GW ∧ Cond.initialized yX10_fault.cls ∈ mm_GW ∧ Cond.code yX10_fault cX10_fault 1 (some .int) ∈ mm_GW ∧ (yX10_fault.cls ≠ "java/lang/invoke/MethodHandle" ∧ yX10_fault.cls ≠ "java/lang/invoke/VarHandle") ∧ (parseMethodDescriptor yX10_fault.desc).map (fun d => d.parameters.length) = some 0 := ⟨mm_g4 4 (by decide +kernel) rfl, mm_g4 5 (by decide +kernel) rfl, mm_g1 1 (by decide +kernel) rfl, mc_10_fault, ⟨by decide +kernel, by decide +kernel⟩, by decide +kernel⟩
def M10_has : mm_M := (RX10, yX10_has, cX10_has, 2, (some .boolean), 0)
theorem mc_10_has : Cond.code yX10_has cX10_has 2 (some .boolean) ∈ mm_GW := mm_g4 44 (by decide +kernel) rfl
theorem ms_10_has : Cond.static yX10_has ∈ mm_GW ∧ Cond.initialized yX10_has.cls ∈ mm_GW ∧ Cond.code yX10_has cX10_has 2 (some .boolean) ∈ mm_GW ∧ (yX10_has.cls ≠ "java/lang/invoke/MethodHandle" ∧ yX10_has.cls ≠ "java/lang/invoke/VarHandle") ∧ (parseMethodDescriptor yX10_has.desc).map (fun d => d.parameters.length) = some 2 := ⟨mm_g4 43 (by decide +kernel) rfl, mm_g1 1 (by decide +kernel) rfl, mc_10_has, ⟨by decide +kernel, by decide +kernel⟩, by decide +kernel⟩
def M10_image : mm_M := (RX10, yX10_image, cX10_image, 2, (some (.object "ForgottenCrafts$Folk")), 0)
theorem mc_10_image : Cond.code yX10_image cX10_image 2 (some (.object "ForgottenCrafts$Folk")) ∈ mm_GW := mm_g5 141 (by decide +kernel) rfl
theorem ms_10_image : Cond.instanceMethod yX10_image ∈ mm_GW ∧ Cond.selects RX10 yX10_image yX10_image ∈ mm_GW ∧ Cond.initialized yX10_image.cls ∈ mm_GW ∧ Cond.code yX10_image cX10_image 2 (some (.object "ForgottenCrafts$Folk")) ∈ mm_GW ∧ (yX10_image.cls ≠ "java/lang/invoke/MethodHandle" ∧ yX10_image.cls ≠ "java/lang/invoke/VarHandle") ∧ (parseMethodDescriptor yX10_image.desc).map (fun d => d.parameters.length) = some 1 := ⟨mm_g5 140 (by decide +kernel) rfl, mm_g0 87 (by decide +kernel) rfl, mm_g1 1 (by decide +kernel) rfl, mc_10_image, ⟨by decide +kernel, by decide +kernel⟩, by decide +kernel⟩
def M10_seed : mm_M := (RX10, yX10_seed, cX10_seed, 3, (some .int), 0)
theorem mc_10_seed : Cond.code yX10_seed cX10_seed 3 (some .int) ∈ mm_GW := mm_g5 133 (by decide +kernel) rfl
theorem ms_10_seed : Cond.instanceMethod yX10_seed ∈ mm_GW ∧ Cond.selects RX10 yX10_seed yX10_seed ∈ mm_GW ∧ Cond.initialized yX10_seed.cls ∈ mm_GW ∧ Cond.code yX10_seed cX10_seed 3 (some .int) ∈ mm_GW ∧ (yX10_seed.cls ≠ "java/lang/invoke/MethodHandle" ∧ yX10_seed.cls ≠ "java/lang/invoke/VarHandle") ∧ (parseMethodDescriptor yX10_seed.desc).map (fun d => d.parameters.length) = some 1 := ⟨mm_g5 131 (by decide +kernel) rfl, mm_g5 132 (by decide +kernel) rfl, mm_g1 1 (by decide +kernel) rfl, mc_10_seed, ⟨by decide +kernel, by decide +kernel⟩, by decide +kernel⟩
def M10_within : mm_M := (RX10, yX10_within, cX10_within, 3, (some .boolean), 0)
theorem mc_10_within : Cond.code yX10_within cX10_within 3 (some .boolean) ∈ mm_GW := mm_g3 7 (by decide +kernel) rfl
theorem ms_10_within : Cond.static yX10_within ∈ mm_GW ∧ Cond.initialized yX10_within.cls ∈ mm_GW ∧ Cond.code yX10_within cX10_within 3 (some .boolean) ∈ mm_GW ∧ (yX10_within.cls ≠ "java/lang/invoke/MethodHandle" ∧ yX10_within.cls ≠ "java/lang/invoke/VarHandle") ∧ (parseMethodDescriptor yX10_within.desc).map (fun d => d.parameters.length) = some 3 := ⟨mm_g3 6 (by decide +kernel) rfl, mm_g1 1 (by decide +kernel) rfl, mc_10_within, ⟨by decide +kernel, by decide +kernel⟩, by decide +kernel⟩
def M11_bits : mm_M := (RX11, yX11_bits, cX11_bits, 3, (some .int), 0)
theorem mc_11_bits : Cond.code yX11_bits cX11_bits 3 (some .int) ∈ mm_GW := mm_g7 11 (by decide +kernel) rfl
theorem ms_11_bits : Cond.static yX11_bits ∈ mm_GW ∧ Cond.initialized yX11_bits.cls ∈ mm_GW ∧ Cond.code yX11_bits cX11_bits 3 (some .int) ∈ mm_GW ∧ (yX11_bits.cls ≠ "java/lang/invoke/MethodHandle" ∧ yX11_bits.cls ≠ "java/lang/invoke/VarHandle") ∧ (parseMethodDescriptor yX11_bits.desc).map (fun d => d.parameters.length) = some 1 := ⟨mm_g7 10 (by decide +kernel) rfl, mm_g1 13 (by decide +kernel) rfl, mc_11_bits, ⟨by decide +kernel, by decide +kernel⟩, by decide +kernel⟩
def M11_code : mm_M := (RX11, yX11_code, cX11_code, 4, (some .long), 0)
theorem mc_11_code : Cond.code yX11_code cX11_code 4 (some .long) ∈ mm_GW := mm_g6 133 (by decide +kernel) rfl
theorem ms_11_code : Cond.static yX11_code ∈ mm_GW ∧ Cond.initialized yX11_code.cls ∈ mm_GW ∧ Cond.code yX11_code cX11_code 4 (some .long) ∈ mm_GW ∧ (yX11_code.cls ≠ "java/lang/invoke/MethodHandle" ∧ yX11_code.cls ≠ "java/lang/invoke/VarHandle") ∧ (parseMethodDescriptor yX11_code.desc).map (fun d => d.parameters.length) = some 4 := ⟨mm_g6 132 (by decide +kernel) rfl, mm_g1 13 (by decide +kernel) rfl, mc_11_code, ⟨by decide +kernel, by decide +kernel⟩, by decide +kernel⟩
def M11_die : mm_M := (RX11, yX11_die, cX11_die, 3, none, 0)
theorem mc_11_die : Cond.code yX11_die cX11_die 3 none ∈ mm_GW := mm_g7 55 (by decide +kernel) rfl
theorem ms_11_die : Cond.instanceMethod yX11_die ∈ mm_GW ∧ Cond.selects RX11 yX11_die yX11_die ∈ mm_GW ∧ Cond.initialized yX11_die.cls ∈ mm_GW ∧ Cond.code yX11_die cX11_die 3 none ∈ mm_GW ∧ (yX11_die.cls ≠ "java/lang/invoke/MethodHandle" ∧ yX11_die.cls ≠ "java/lang/invoke/VarHandle") ∧ (parseMethodDescriptor yX11_die.desc).map (fun d => d.parameters.length) = some 1 := ⟨mm_g7 54 (by decide +kernel) rfl, mm_g0 117 (by decide +kernel) rfl, mm_g1 13 (by decide +kernel) rfl, mc_11_die, ⟨by decide +kernel, by decide +kernel⟩, by decide +kernel⟩
def M11_draw : mm_M := (RX11, yX11_draw, cX11_draw, 2, (some .int), 0)
theorem mc_11_draw : Cond.code yX11_draw cX11_draw 2 (some .int) ∈ mm_GW := mm_g7 26 (by decide +kernel) rfl
theorem ms_11_draw : Cond.instanceMethod yX11_draw ∈ mm_GW ∧ Cond.selects RX11 yX11_draw yX11_draw ∈ mm_GW ∧ Cond.initialized yX11_draw.cls ∈ mm_GW ∧ Cond.code yX11_draw cX11_draw 2 (some .int) ∈ mm_GW ∧ (yX11_draw.cls ≠ "java/lang/invoke/MethodHandle" ∧ yX11_draw.cls ≠ "java/lang/invoke/VarHandle") ∧ (parseMethodDescriptor yX11_draw.desc).map (fun d => d.parameters.length) = some 1 := ⟨mm_g7 25 (by decide +kernel) rfl, mm_g0 112 (by decide +kernel) rfl, mm_g1 13 (by decide +kernel) rfl, mc_11_draw, ⟨by decide +kernel, by decide +kernel⟩, by decide +kernel⟩
def M11_fails : mm_M := (RX11, yX11_fails, cX11_fails, 3, (some .int), 0)
theorem mc_11_fails : Cond.code yX11_fails cX11_fails 3 (some .int) ∈ mm_GW := mm_g6 140 (by decide +kernel) rfl
theorem ms_11_fails : Cond.instanceMethod yX11_fails ∈ mm_GW ∧ Cond.selects RX11 yX11_fails yX11_fails ∈ mm_GW ∧ Cond.initialized yX11_fails.cls ∈ mm_GW ∧ Cond.code yX11_fails cX11_fails 3 (some .int) ∈ mm_GW ∧ (yX11_fails.cls ≠ "java/lang/invoke/MethodHandle" ∧ yX11_fails.cls ≠ "java/lang/invoke/VarHandle") ∧ (parseMethodDescriptor yX11_fails.desc).map (fun d => d.parameters.length) = some 2 := ⟨mm_g6 139 (by decide +kernel) rfl, mm_g0 93 (by decide +kernel) rfl, mm_g1 13 (by decide +kernel) rfl, mc_11_fails, ⟨by decide +kernel, by decide +kernel⟩, by decide +kernel⟩
def M11_fault : mm_M := (RX11, yX11_fault, cX11_fault, 1, (some .int), 0)
theorem mc_11_fault : Cond.code yX11_fault cX11_fault 1 (some .int) ∈ mm_GW := mm_g6 179 (by decide +kernel) rfl
theorem ms_11_fault : Cond.instanceMethod yX11_fault ∈ mm_GW ∧ Cond.selects RX11 yX11_fault yX11_fault ∈ mm_GW ∧ Cond.initialized yX11_fault.cls ∈ mm_GW ∧ Cond.code yX11_fault cX11_fault 1 (some .int) ∈ mm_GW ∧ (yX11_fault.cls ≠ "java/lang/invoke/MethodHandle" ∧ yX11_fault.cls ≠ "java/lang/invoke/VarHandle") ∧ (parseMethodDescriptor yX11_fault.desc).map (fun d => d.parameters.length) = some 0 := ⟨mm_g6 177 (by decide +kernel) rfl, mm_g6 178 (by decide +kernel) rfl, mm_g1 13 (by decide +kernel) rfl, mc_11_fault, ⟨by decide +kernel, by decide +kernel⟩, by decide +kernel⟩
def M11_forgetOn : mm_M := (RX11, yX11_forgetOn, cX11_forgetOn, 6, none, 0)
theorem mc_11_forgetOn : Cond.code yX11_forgetOn cX11_forgetOn 6 none ∈ mm_GW := mm_g7 47 (by decide +kernel) rfl
theorem ms_11_forgetOn : Cond.instanceMethod yX11_forgetOn ∈ mm_GW ∧ Cond.selects RX11 yX11_forgetOn yX11_forgetOn ∈ mm_GW ∧ Cond.initialized yX11_forgetOn.cls ∈ mm_GW ∧ Cond.code yX11_forgetOn cX11_forgetOn 6 none ∈ mm_GW ∧ (yX11_forgetOn.cls ≠ "java/lang/invoke/MethodHandle" ∧ yX11_forgetOn.cls ≠ "java/lang/invoke/VarHandle") ∧ (parseMethodDescriptor yX11_forgetOn.desc).map (fun d => d.parameters.length) = some 2 := ⟨mm_g7 46 (by decide +kernel) rfl, mm_g0 115 (by decide +kernel) rfl, mm_g1 13 (by decide +kernel) rfl, mc_11_forgetOn, ⟨by decide +kernel, by decide +kernel⟩, by decide +kernel⟩
def M11_has : mm_M := (RX11, yX11_has, cX11_has, 2, (some .boolean), 0)
theorem mc_11_has : Cond.code yX11_has cX11_has 2 (some .boolean) ∈ mm_GW := mm_g7 14 (by decide +kernel) rfl
theorem ms_11_has : Cond.static yX11_has ∈ mm_GW ∧ Cond.initialized yX11_has.cls ∈ mm_GW ∧ Cond.code yX11_has cX11_has 2 (some .boolean) ∈ mm_GW ∧ (yX11_has.cls ≠ "java/lang/invoke/MethodHandle" ∧ yX11_has.cls ≠ "java/lang/invoke/VarHandle") ∧ (parseMethodDescriptor yX11_has.desc).map (fun d => d.parameters.length) = some 2 := ⟨mm_g7 13 (by decide +kernel) rfl, mm_g1 13 (by decide +kernel) rfl, mc_11_has, ⟨by decide +kernel, by decide +kernel⟩, by decide +kernel⟩
def M11_here : mm_M := (RX11, yX11_here, cX11_here, 1, (some .int), 0)
theorem mc_11_here : Cond.code yX11_here cX11_here 1 (some .int) ∈ mm_GW := mm_g6 116 (by decide +kernel) rfl
theorem ms_11_here : Cond.instanceMethod yX11_here ∈ mm_GW ∧ Cond.selects RX11 yX11_here yX11_here ∈ mm_GW ∧ Cond.initialized yX11_here.cls ∈ mm_GW ∧ Cond.code yX11_here cX11_here 1 (some .int) ∈ mm_GW ∧ (yX11_here.cls ≠ "java/lang/invoke/MethodHandle" ∧ yX11_here.cls ≠ "java/lang/invoke/VarHandle") ∧ (parseMethodDescriptor yX11_here.desc).map (fun d => d.parameters.length) = some 0 := ⟨mm_g6 115 (by decide +kernel) rfl, mm_g0 90 (by decide +kernel) rfl, mm_g1 13 (by decide +kernel) rfl, mc_11_here, ⟨by decide +kernel, by decide +kernel⟩, by decide +kernel⟩
def M11_in : mm_M := (RX11, yX11_in, cX11_in, 6, (some .boolean), 0)
theorem mc_11_in : Cond.code yX11_in cX11_in 6 (some .boolean) ∈ mm_GW := mm_g6 105 (by decide +kernel) rfl
theorem ms_11_in : Cond.static yX11_in ∈ mm_GW ∧ Cond.initialized yX11_in.cls ∈ mm_GW ∧ Cond.code yX11_in cX11_in 6 (some .boolean) ∈ mm_GW ∧ (yX11_in.cls ≠ "java/lang/invoke/MethodHandle" ∧ yX11_in.cls ≠ "java/lang/invoke/VarHandle") ∧ (parseMethodDescriptor yX11_in.desc).map (fun d => d.parameters.length) = some 3 := ⟨mm_g6 104 (by decide +kernel) rfl, mm_g1 13 (by decide +kernel) rfl, mc_11_in, ⟨by decide +kernel, by decide +kernel⟩, by decide +kernel⟩
def M11_judge : mm_M := (RX11, yX11_judge, cX11_judge, 2, (some .int), 0)
theorem mc_11_judge : Cond.code yX11_judge cX11_judge 2 (some .int) ∈ mm_GW := mm_g7 164 (by decide +kernel) rfl
theorem ms_11_judge : Cond.instanceMethod yX11_judge ∈ mm_GW ∧ Cond.selects RX11 yX11_judge yX11_judge ∈ mm_GW ∧ Cond.initialized yX11_judge.cls ∈ mm_GW ∧ Cond.code yX11_judge cX11_judge 2 (some .int) ∈ mm_GW ∧ (yX11_judge.cls ≠ "java/lang/invoke/MethodHandle" ∧ yX11_judge.cls ≠ "java/lang/invoke/VarHandle") ∧ (parseMethodDescriptor yX11_judge.desc).map (fun d => d.parameters.length) = some 0 := ⟨mm_g7 162 (by decide +kernel) rfl, mm_g7 163 (by decide +kernel) rfl, mm_g1 13 (by decide +kernel) rfl, mc_11_judge, ⟨by decide +kernel, by decide +kernel⟩, by decide +kernel⟩
def M11_knowers : mm_M := (RX11, yX11_knowers, cX11_knowers, 5, (some .int), 0)
theorem mc_11_knowers : Cond.code yX11_knowers cX11_knowers 5 (some .int) ∈ mm_GW := mm_g6 195 (by decide +kernel) rfl
theorem ms_11_knowers : Cond.instanceMethod yX11_knowers ∈ mm_GW ∧ Cond.selects RX11 yX11_knowers yX11_knowers ∈ mm_GW ∧ Cond.initialized yX11_knowers.cls ∈ mm_GW ∧ Cond.code yX11_knowers cX11_knowers 5 (some .int) ∈ mm_GW ∧ (yX11_knowers.cls ≠ "java/lang/invoke/MethodHandle" ∧ yX11_knowers.cls ≠ "java/lang/invoke/VarHandle") ∧ (parseMethodDescriptor yX11_knowers.desc).map (fun d => d.parameters.length) = some 2 := ⟨mm_g6 194 (by decide +kernel) rfl, mm_g0 103 (by decide +kernel) rfl, mm_g1 13 (by decide +kernel) rfl, mc_11_knowers, ⟨by decide +kernel, by decide +kernel⟩, by decide +kernel⟩
def M11_knows : mm_M := (RX11, yX11_knows, cX11_knows, 3, (some .boolean), 0)
theorem mc_11_knows : Cond.code yX11_knows cX11_knows 3 (some .boolean) ∈ mm_GW := mm_g5 163 (by decide +kernel) rfl
theorem ms_11_knows : Cond.instanceMethod yX11_knows ∈ mm_GW ∧ Cond.selects RX11 yX11_knows yX11_knows ∈ mm_GW ∧ Cond.initialized yX11_knows.cls ∈ mm_GW ∧ Cond.code yX11_knows cX11_knows 3 (some .boolean) ∈ mm_GW ∧ (yX11_knows.cls ≠ "java/lang/invoke/MethodHandle" ∧ yX11_knows.cls ≠ "java/lang/invoke/VarHandle") ∧ (parseMethodDescriptor yX11_knows.desc).map (fun d => d.parameters.length) = some 2 := ⟨mm_g5 162 (by decide +kernel) rfl, mm_g0 89 (by decide +kernel) rfl, mm_g1 13 (by decide +kernel) rfl, mc_11_knows, ⟨by decide +kernel, by decide +kernel⟩, by decide +kernel⟩
def M11_learnOn : mm_M := (RX11, yX11_learnOn, cX11_learnOn, 6, none, 0)
theorem mc_11_learnOn : Cond.code yX11_learnOn cX11_learnOn 6 none ∈ mm_GW := mm_g7 51 (by decide +kernel) rfl
theorem ms_11_learnOn : Cond.instanceMethod yX11_learnOn ∈ mm_GW ∧ Cond.selects RX11 yX11_learnOn yX11_learnOn ∈ mm_GW ∧ Cond.initialized yX11_learnOn.cls ∈ mm_GW ∧ Cond.code yX11_learnOn cX11_learnOn 6 none ∈ mm_GW ∧ (yX11_learnOn.cls ≠ "java/lang/invoke/MethodHandle" ∧ yX11_learnOn.cls ≠ "java/lang/invoke/VarHandle") ∧ (parseMethodDescriptor yX11_learnOn.desc).map (fun d => d.parameters.length) = some 2 := ⟨mm_g7 50 (by decide +kernel) rfl, mm_g0 116 (by decide +kernel) rfl, mm_g1 13 (by decide +kernel) rfl, mc_11_learnOn, ⟨by decide +kernel, by decide +kernel⟩, by decide +kernel⟩
def M11_livesSet : mm_M := (RX11, yX11_livesSet, cX11_livesSet, 3, (some .int), 0)
theorem mc_11_livesSet : Cond.code yX11_livesSet cX11_livesSet 3 (some .int) ∈ mm_GW := mm_g6 187 (by decide +kernel) rfl
theorem ms_11_livesSet : Cond.instanceMethod yX11_livesSet ∈ mm_GW ∧ Cond.selects RX11 yX11_livesSet yX11_livesSet ∈ mm_GW ∧ Cond.initialized yX11_livesSet.cls ∈ mm_GW ∧ Cond.code yX11_livesSet cX11_livesSet 3 (some .int) ∈ mm_GW ∧ (yX11_livesSet.cls ≠ "java/lang/invoke/MethodHandle" ∧ yX11_livesSet.cls ≠ "java/lang/invoke/VarHandle") ∧ (parseMethodDescriptor yX11_livesSet.desc).map (fun d => d.parameters.length) = some 0 := ⟨mm_g6 186 (by decide +kernel) rfl, mm_g0 101 (by decide +kernel) rfl, mm_g1 13 (by decide +kernel) rfl, mc_11_livesSet, ⟨by decide +kernel, by decide +kernel⟩, by decide +kernel⟩
def M11_load : mm_M := (RX11, yX11_load, cX11_load, 4, none, 0)
theorem mc_11_load : Cond.code yX11_load cX11_load 4 none ∈ mm_GW := mm_g7 85 (by decide +kernel) rfl
theorem ms_11_load : Cond.instanceMethod yX11_load ∈ mm_GW ∧ Cond.selects RX11 yX11_load yX11_load ∈ mm_GW ∧ Cond.initialized yX11_load.cls ∈ mm_GW ∧ Cond.code yX11_load cX11_load 4 none ∈ mm_GW ∧ (yX11_load.cls ≠ "java/lang/invoke/MethodHandle" ∧ yX11_load.cls ≠ "java/lang/invoke/VarHandle") ∧ (parseMethodDescriptor yX11_load.desc).map (fun d => d.parameters.length) = some 1 := ⟨mm_g7 84 (by decide +kernel) rfl, mm_g0 121 (by decide +kernel) rfl, mm_g1 13 (by decide +kernel) rfl, mc_11_load, ⟨by decide +kernel, by decide +kernel⟩, by decide +kernel⟩
def M11_longer : mm_M := (RX11, yX11_longer, cX11_longer, 3, (some .long), 0)
theorem mc_11_longer : Cond.code yX11_longer cX11_longer 3 (some .long) ∈ mm_GW := mm_g6 136 (by decide +kernel) rfl
theorem ms_11_longer : Cond.static yX11_longer ∈ mm_GW ∧ Cond.initialized yX11_longer.cls ∈ mm_GW ∧ Cond.code yX11_longer cX11_longer 3 (some .long) ∈ mm_GW ∧ (yX11_longer.cls ≠ "java/lang/invoke/MethodHandle" ∧ yX11_longer.cls ≠ "java/lang/invoke/VarHandle") ∧ (parseMethodDescriptor yX11_longer.desc).map (fun d => d.parameters.length) = some 2 := ⟨mm_g6 135 (by decide +kernel) rfl, mm_g1 13 (by decide +kernel) rfl, mc_11_longer, ⟨by decide +kernel, by decide +kernel⟩, by decide +kernel⟩
def M11_save : mm_M := (RX11, yX11_save, cX11_save, 4, none, 0)
theorem mc_11_save : Cond.code yX11_save cX11_save 4 none ∈ mm_GW := mm_g7 81 (by decide +kernel) rfl
theorem ms_11_save : Cond.instanceMethod yX11_save ∈ mm_GW ∧ Cond.selects RX11 yX11_save yX11_save ∈ mm_GW ∧ Cond.initialized yX11_save.cls ∈ mm_GW ∧ Cond.code yX11_save cX11_save 4 none ∈ mm_GW ∧ (yX11_save.cls ≠ "java/lang/invoke/MethodHandle" ∧ yX11_save.cls ≠ "java/lang/invoke/VarHandle") ∧ (parseMethodDescriptor yX11_save.desc).map (fun d => d.parameters.length) = some 1 := ⟨mm_g7 80 (by decide +kernel) rfl, mm_g0 120 (by decide +kernel) rfl, mm_g1 13 (by decide +kernel) rfl, mc_11_save, ⟨by decide +kernel, by decide +kernel⟩, by decide +kernel⟩
def M11_seed : mm_M := (RX11, yX11_seed, cX11_seed, 3, (some .int), 0)
theorem mc_11_seed : Cond.code yX11_seed cX11_seed 3 (some .int) ∈ mm_GW := mm_g7 168 (by decide +kernel) rfl
theorem ms_11_seed : Cond.instanceMethod yX11_seed ∈ mm_GW ∧ Cond.selects RX11 yX11_seed yX11_seed ∈ mm_GW ∧ Cond.initialized yX11_seed.cls ∈ mm_GW ∧ Cond.code yX11_seed cX11_seed 3 (some .int) ∈ mm_GW ∧ (yX11_seed.cls ≠ "java/lang/invoke/MethodHandle" ∧ yX11_seed.cls ≠ "java/lang/invoke/VarHandle") ∧ (parseMethodDescriptor yX11_seed.desc).map (fun d => d.parameters.length) = some 1 := ⟨mm_g7 166 (by decide +kernel) rfl, mm_g7 167 (by decide +kernel) rfl, mm_g1 13 (by decide +kernel) rfl, mc_11_seed, ⟨by decide +kernel, by decide +kernel⟩, by decide +kernel⟩
def M11_tear : mm_M := (RX11, yX11_tear, cX11_tear, 2, (some .int), 0)
theorem mc_11_tear : Cond.code yX11_tear cX11_tear 2 (some .int) ∈ mm_GW := mm_g7 160 (by decide +kernel) rfl
theorem ms_11_tear : Cond.instanceMethod yX11_tear ∈ mm_GW ∧ Cond.selects RX11 yX11_tear yX11_tear ∈ mm_GW ∧ Cond.initialized yX11_tear.cls ∈ mm_GW ∧ Cond.code yX11_tear cX11_tear 2 (some .int) ∈ mm_GW ∧ (yX11_tear.cls ≠ "java/lang/invoke/MethodHandle" ∧ yX11_tear.cls ≠ "java/lang/invoke/VarHandle") ∧ (parseMethodDescriptor yX11_tear.desc).map (fun d => d.parameters.length) = some 0 := ⟨mm_g7 158 (by decide +kernel) rfl, mm_g7 159 (by decide +kernel) rfl, mm_g1 13 (by decide +kernel) rfl, mc_11_tear, ⟨by decide +kernel, by decide +kernel⟩, by decide +kernel⟩
def M1_draw : mm_M := (RX1, yX1_draw, cX1_draw, 2, (some .int), 0)
theorem mc_1_draw : Cond.code yX1_draw cX1_draw 2 (some .int) ∈ mm_GW := mm_g4 134 (by decide +kernel) rfl
theorem ms_1_draw : Cond.instanceMethod yX1_draw ∈ mm_GW ∧ Cond.selects RX1 yX1_draw yX1_draw ∈ mm_GW ∧ Cond.initialized yX1_draw.cls ∈ mm_GW ∧ Cond.code yX1_draw cX1_draw 2 (some .int) ∈ mm_GW ∧ (yX1_draw.cls ≠ "java/lang/invoke/MethodHandle" ∧ yX1_draw.cls ≠ "java/lang/invoke/VarHandle") ∧ (parseMethodDescriptor yX1_draw.desc).map (fun d => d.parameters.length) = some 1 := ⟨mm_g4 133 (by decide +kernel) rfl, mm_g0 54 (by decide +kernel) rfl, mm_g1 7 (by decide +kernel) rfl, mc_1_draw, ⟨by decide +kernel, by decide +kernel⟩, by decide +kernel⟩
def M4_blame : mm_M := (RX4, yX4_blame, cX4_blame, 3, none, 0)
theorem mc_4_blame : Cond.code yX4_blame cX4_blame 3 none ∈ mm_GW := mm_g3 116 (by decide +kernel) rfl
theorem ms_4_blame : Cond.instanceMethod yX4_blame ∈ mm_GW ∧ Cond.selects RX4 yX4_blame yX4_blame ∈ mm_GW ∧ Cond.initialized yX4_blame.cls ∈ mm_GW ∧ Cond.code yX4_blame cX4_blame 3 none ∈ mm_GW ∧ (yX4_blame.cls ≠ "java/lang/invoke/MethodHandle" ∧ yX4_blame.cls ≠ "java/lang/invoke/VarHandle") ∧ (parseMethodDescriptor yX4_blame.desc).map (fun d => d.parameters.length) = some 2 := ⟨mm_g3 115 (by decide +kernel) rfl, mm_g0 15 (by decide +kernel) rfl, mm_g1 2 (by decide +kernel) rfl, mc_4_blame, ⟨by decide +kernel, by decide +kernel⟩, by decide +kernel⟩
def M4_clear : mm_M := (RX4, yX4_clear, cX4_clear, 1, none, 0)
theorem mc_4_clear : Cond.code yX4_clear cX4_clear 1 none ∈ mm_GW := mm_g3 179 (by decide +kernel) rfl
theorem ms_4_clear : Cond.instanceMethod yX4_clear ∈ mm_GW ∧ Cond.selects RX4 yX4_clear yX4_clear ∈ mm_GW ∧ Cond.initialized yX4_clear.cls ∈ mm_GW ∧ Cond.code yX4_clear cX4_clear 1 none ∈ mm_GW ∧ (yX4_clear.cls ≠ "java/lang/invoke/MethodHandle" ∧ yX4_clear.cls ≠ "java/lang/invoke/VarHandle") ∧ (parseMethodDescriptor yX4_clear.desc).map (fun d => d.parameters.length) = some 0 := ⟨mm_g3 178 (by decide +kernel) rfl, mm_g0 27 (by decide +kernel) rfl, mm_g1 2 (by decide +kernel) rfl, mc_4_clear, ⟨by decide +kernel, by decide +kernel⟩, by decide +kernel⟩
def M4_isSound : mm_M := (RX4, yX4_isSound, cX4_isSound, 1, (some .boolean), 0)
theorem mc_4_isSound : Cond.code yX4_isSound cX4_isSound 1 (some .boolean) ∈ mm_GW := mm_g3 51 (by decide +kernel) rfl
theorem ms_4_isSound : Cond.instanceMethod yX4_isSound ∈ mm_GW ∧ Cond.selects RX4 yX4_isSound yX4_isSound ∈ mm_GW ∧ Cond.initialized yX4_isSound.cls ∈ mm_GW ∧ Cond.code yX4_isSound cX4_isSound 1 (some .boolean) ∈ mm_GW ∧ (yX4_isSound.cls ≠ "java/lang/invoke/MethodHandle" ∧ yX4_isSound.cls ≠ "java/lang/invoke/VarHandle") ∧ (parseMethodDescriptor yX4_isSound.desc).map (fun d => d.parameters.length) = some 0 := ⟨mm_g3 50 (by decide +kernel) rfl, mm_g0 11 (by decide +kernel) rfl, mm_g1 2 (by decide +kernel) rfl, mc_4_isSound, ⟨by decide +kernel, by decide +kernel⟩, by decide +kernel⟩
def M4_tokenOf : mm_M := (RX4, yX4_tokenOf, cX4_tokenOf, 1, (some .int), 0)
theorem mc_4_tokenOf : Cond.code yX4_tokenOf cX4_tokenOf 1 (some .int) ∈ mm_GW := mm_g3 34 (by decide +kernel) rfl
theorem ms_4_tokenOf : Cond.static yX4_tokenOf ∈ mm_GW ∧ Cond.initialized yX4_tokenOf.cls ∈ mm_GW ∧ Cond.code yX4_tokenOf cX4_tokenOf 1 (some .int) ∈ mm_GW ∧ (yX4_tokenOf.cls ≠ "java/lang/invoke/MethodHandle" ∧ yX4_tokenOf.cls ≠ "java/lang/invoke/VarHandle") ∧ (parseMethodDescriptor yX4_tokenOf.desc).map (fun d => d.parameters.length) = some 1 := ⟨mm_g3 33 (by decide +kernel) rfl, mm_g1 2 (by decide +kernel) rfl, mc_4_tokenOf, ⟨by decide +kernel, by decide +kernel⟩, by decide +kernel⟩
def M6_at : mm_M := (RX6, yX6_at, cX6_at, 2, (some .int), 0)
theorem mc_6_at : Cond.code yX6_at cX6_at 2 (some .int) ∈ mm_GW := mm_g3 31 (by decide +kernel) rfl
theorem ms_6_at : Cond.instanceMethod yX6_at ∈ mm_GW ∧ Cond.selects RX6 yX6_at yX6_at ∈ mm_GW ∧ Cond.initialized yX6_at.cls ∈ mm_GW ∧ Cond.code yX6_at cX6_at 2 (some .int) ∈ mm_GW ∧ (yX6_at.cls ≠ "java/lang/invoke/MethodHandle" ∧ yX6_at.cls ≠ "java/lang/invoke/VarHandle") ∧ (parseMethodDescriptor yX6_at.desc).map (fun d => d.parameters.length) = some 1 := ⟨mm_g3 30 (by decide +kernel) rfl, mm_g0 7 (by decide +kernel) rfl, mm_g1 3 (by decide +kernel) rfl, mc_6_at, ⟨by decide +kernel, by decide +kernel⟩, by decide +kernel⟩
def M6_copyFrom : mm_M := (RX6, yX6_copyFrom, cX6_copyFrom, 3, none, 0)
theorem mc_6_copyFrom : Cond.code yX6_copyFrom cX6_copyFrom 3 none ∈ mm_GW := mm_g3 188 (by decide +kernel) rfl
theorem ms_6_copyFrom : Cond.instanceMethod yX6_copyFrom ∈ mm_GW ∧ Cond.selects RX6 yX6_copyFrom yX6_copyFrom ∈ mm_GW ∧ Cond.initialized yX6_copyFrom.cls ∈ mm_GW ∧ Cond.code yX6_copyFrom cX6_copyFrom 3 none ∈ mm_GW ∧ (yX6_copyFrom.cls ≠ "java/lang/invoke/MethodHandle" ∧ yX6_copyFrom.cls ≠ "java/lang/invoke/VarHandle") ∧ (parseMethodDescriptor yX6_copyFrom.desc).map (fun d => d.parameters.length) = some 1 := ⟨mm_g3 187 (by decide +kernel) rfl, mm_g0 29 (by decide +kernel) rfl, mm_g1 3 (by decide +kernel) rfl, mc_6_copyFrom, ⟨by decide +kernel, by decide +kernel⟩, by decide +kernel⟩
def M6_fill : mm_M := (RX6, yX6_fill, cX6_fill, 3, none, 0)
theorem mc_6_fill : Cond.code yX6_fill cX6_fill 3 none ∈ mm_GW := mm_g3 46 (by decide +kernel) rfl
theorem ms_6_fill : Cond.instanceMethod yX6_fill ∈ mm_GW ∧ Cond.selects RX6 yX6_fill yX6_fill ∈ mm_GW ∧ Cond.initialized yX6_fill.cls ∈ mm_GW ∧ Cond.code yX6_fill cX6_fill 3 none ∈ mm_GW ∧ (yX6_fill.cls ≠ "java/lang/invoke/MethodHandle" ∧ yX6_fill.cls ≠ "java/lang/invoke/VarHandle") ∧ (parseMethodDescriptor yX6_fill.desc).map (fun d => d.parameters.length) = some 1 := ⟨mm_g3 45 (by decide +kernel) rfl, mm_g0 10 (by decide +kernel) rfl, mm_g1 3 (by decide +kernel) rfl, mc_6_fill, ⟨by decide +kernel, by decide +kernel⟩, by decide +kernel⟩
def M6_put : mm_M := (RX6, yX6_put, cX6_put, 3, none, 0)
theorem mc_6_put : Cond.code yX6_put cX6_put 3 none ∈ mm_GW := mm_g1 196 (by decide +kernel) rfl
theorem ms_6_put : Cond.instanceMethod yX6_put ∈ mm_GW ∧ Cond.selects RX6 yX6_put yX6_put ∈ mm_GW ∧ Cond.initialized yX6_put.cls ∈ mm_GW ∧ Cond.code yX6_put cX6_put 3 none ∈ mm_GW ∧ (yX6_put.cls ≠ "java/lang/invoke/MethodHandle" ∧ yX6_put.cls ≠ "java/lang/invoke/VarHandle") ∧ (parseMethodDescriptor yX6_put.desc).map (fun d => d.parameters.length) = some 2 := ⟨mm_g1 195 (by decide +kernel) rfl, mm_g0 3 (by decide +kernel) rfl, mm_g1 3 (by decide +kernel) rfl, mc_6_put, ⟨by decide +kernel, by decide +kernel⟩, by decide +kernel⟩
def M7_clear : mm_M := (RX7, yX7_clear, cX7_clear, 1, none, 0)
theorem mc_7_clear : Cond.code yX7_clear cX7_clear 1 none ∈ mm_GW := mm_g1 139 (by decide +kernel) rfl
theorem ms_7_clear : Cond.instanceMethod yX7_clear ∈ mm_GW ∧ Cond.selects RX7 yX7_clear yX7_clear ∈ mm_GW ∧ Cond.initialized yX7_clear.cls ∈ mm_GW ∧ Cond.code yX7_clear cX7_clear 1 none ∈ mm_GW ∧ (yX7_clear.cls ≠ "java/lang/invoke/MethodHandle" ∧ yX7_clear.cls ≠ "java/lang/invoke/VarHandle") ∧ (parseMethodDescriptor yX7_clear.desc).map (fun d => d.parameters.length) = some 0 := ⟨mm_g1 138 (by decide +kernel) rfl, mm_g0 0 (by decide +kernel) rfl, mm_g1 6 (by decide +kernel) rfl, mc_7_clear, ⟨by decide +kernel, by decide +kernel⟩, by decide +kernel⟩
def M7_copyFrom : mm_M := (RX7, yX7_copyFrom, cX7_copyFrom, 2, none, 0)
theorem mc_7_copyFrom : Cond.code yX7_copyFrom cX7_copyFrom 2 none ∈ mm_GW := mm_g4 2 (by decide +kernel) rfl
theorem ms_7_copyFrom : Cond.instanceMethod yX7_copyFrom ∈ mm_GW ∧ Cond.selects RX7 yX7_copyFrom yX7_copyFrom ∈ mm_GW ∧ Cond.initialized yX7_copyFrom.cls ∈ mm_GW ∧ Cond.code yX7_copyFrom cX7_copyFrom 2 none ∈ mm_GW ∧ (yX7_copyFrom.cls ≠ "java/lang/invoke/MethodHandle" ∧ yX7_copyFrom.cls ≠ "java/lang/invoke/VarHandle") ∧ (parseMethodDescriptor yX7_copyFrom.desc).map (fun d => d.parameters.length) = some 1 := ⟨mm_g4 1 (by decide +kernel) rfl, mm_g0 36 (by decide +kernel) rfl, mm_g1 6 (by decide +kernel) rfl, mc_7_copyFrom, ⟨by decide +kernel, by decide +kernel⟩, by decide +kernel⟩
def M8_clear : mm_M := (RX8, yX8_clear, cX8_clear, 1, none, 0)
theorem mc_8_clear : Cond.code yX8_clear cX8_clear 1 none ∈ mm_GW := mm_g3 202 (by decide +kernel) rfl
theorem ms_8_clear : Cond.instanceMethod yX8_clear ∈ mm_GW ∧ Cond.selects RX8 yX8_clear yX8_clear ∈ mm_GW ∧ Cond.initialized yX8_clear.cls ∈ mm_GW ∧ Cond.code yX8_clear cX8_clear 1 none ∈ mm_GW ∧ (yX8_clear.cls ≠ "java/lang/invoke/MethodHandle" ∧ yX8_clear.cls ≠ "java/lang/invoke/VarHandle") ∧ (parseMethodDescriptor yX8_clear.desc).map (fun d => d.parameters.length) = some 0 := ⟨mm_g3 201 (by decide +kernel) rfl, mm_g0 32 (by decide +kernel) rfl, mm_g1 8 (by decide +kernel) rfl, mc_8_clear, ⟨by decide +kernel, by decide +kernel⟩, by decide +kernel⟩
def MJ6_bitCount : mm_M := (RJ6, yJ6_bitCount_0f7a4, cJ6_bitCount_0f7a4, 1, (some .int), 0)
theorem mc_J6_bitCount : Cond.code yJ6_bitCount_0f7a4 cJ6_bitCount_0f7a4 1 (some .int) ∈ mm_GW := mm_g3 235 (by decide +kernel) rfl
theorem ms_J6_bitCount : Cond.static yJ6_bitCount_0f7a4 ∈ mm_GW ∧ Cond.initialized yJ6_bitCount_0f7a4.cls ∈ mm_GW ∧ Cond.code yJ6_bitCount_0f7a4 cJ6_bitCount_0f7a4 1 (some .int) ∈ mm_GW ∧ (yJ6_bitCount_0f7a4.cls ≠ "java/lang/invoke/MethodHandle" ∧ yJ6_bitCount_0f7a4.cls ≠ "java/lang/invoke/VarHandle") ∧ (parseMethodDescriptor yJ6_bitCount_0f7a4.desc).map (fun d => d.parameters.length) = some 1 := ⟨mm_g3 234 (by decide +kernel) rfl, mm_g1 18 (by decide +kernel) rfl, mc_J6_bitCount, ⟨by decide +kernel, by decide +kernel⟩, by decide +kernel⟩
def M0_clear : mm_M := (RX0, yX0_clear, cX0_clear, 1, none, 1)
theorem mc_0_clear : Cond.code yX0_clear cX0_clear 1 none ∈ mm_GW := mm_g3 42 (by decide +kernel) rfl
theorem ms_0_clear : Cond.instanceMethod yX0_clear ∈ mm_GW ∧ Cond.selects RX0 yX0_clear yX0_clear ∈ mm_GW ∧ Cond.initialized yX0_clear.cls ∈ mm_GW ∧ Cond.code yX0_clear cX0_clear 1 none ∈ mm_GW ∧ (yX0_clear.cls ≠ "java/lang/invoke/MethodHandle" ∧ yX0_clear.cls ≠ "java/lang/invoke/VarHandle") ∧ (parseMethodDescriptor yX0_clear.desc).map (fun d => d.parameters.length) = some 0 := ⟨mm_g3 41 (by decide +kernel) rfl, mm_g0 9 (by decide +kernel) rfl, mm_g1 5 (by decide +kernel) rfl, mc_0_clear, ⟨by decide +kernel, by decide +kernel⟩, by decide +kernel⟩
def M0_copyFrom : mm_M := (RX0, yX0_copyFrom, cX0_copyFrom, 2, none, 1)
theorem mc_0_copyFrom : Cond.code yX0_copyFrom cX0_copyFrom 2 none ∈ mm_GW := mm_g3 184 (by decide +kernel) rfl
theorem ms_0_copyFrom : Cond.instanceMethod yX0_copyFrom ∈ mm_GW ∧ Cond.selects RX0 yX0_copyFrom yX0_copyFrom ∈ mm_GW ∧ Cond.initialized yX0_copyFrom.cls ∈ mm_GW ∧ Cond.code yX0_copyFrom cX0_copyFrom 2 none ∈ mm_GW ∧ (yX0_copyFrom.cls ≠ "java/lang/invoke/MethodHandle" ∧ yX0_copyFrom.cls ≠ "java/lang/invoke/VarHandle") ∧ (parseMethodDescriptor yX0_copyFrom.desc).map (fun d => d.parameters.length) = some 1 := ⟨mm_g3 183 (by decide +kernel) rfl, mm_g0 28 (by decide +kernel) rfl, mm_g1 5 (by decide +kernel) rfl, mc_0_copyFrom, ⟨by decide +kernel, by decide +kernel⟩, by decide +kernel⟩
def M0_isForbidden : mm_M := (RX0, yX0_isForbidden, cX0_isForbidden, 2, (some .boolean), 1)
theorem mc_0_isForbidden : Cond.code yX0_isForbidden cX0_isForbidden 2 (some .boolean) ∈ mm_GW := mm_g4 86 (by decide +kernel) rfl
theorem ms_0_isForbidden : Cond.instanceMethod yX0_isForbidden ∈ mm_GW ∧ Cond.selects RX0 yX0_isForbidden yX0_isForbidden ∈ mm_GW ∧ Cond.initialized yX0_isForbidden.cls ∈ mm_GW ∧ Cond.code yX0_isForbidden cX0_isForbidden 2 (some .boolean) ∈ mm_GW ∧ (yX0_isForbidden.cls ≠ "java/lang/invoke/MethodHandle" ∧ yX0_isForbidden.cls ≠ "java/lang/invoke/VarHandle") ∧ (parseMethodDescriptor yX0_isForbidden.desc).map (fun d => d.parameters.length) = some 1 := ⟨mm_g4 85 (by decide +kernel) rfl, mm_g0 47 (by decide +kernel) rfl, mm_g1 5 (by decide +kernel) rfl, mc_0_isForbidden, ⟨by decide +kernel, by decide +kernel⟩, by decide +kernel⟩
def M0_likeOf : mm_M := (RX0, yX0_likeOf, cX0_likeOf, 3, (some .int), 1)
theorem mc_0_likeOf : Cond.code yX0_likeOf cX0_likeOf 3 (some .int) ∈ mm_GW := mm_g4 61 (by decide +kernel) rfl
theorem ms_0_likeOf : Cond.instanceMethod yX0_likeOf ∈ mm_GW ∧ Cond.selects RX0 yX0_likeOf yX0_likeOf ∈ mm_GW ∧ Cond.initialized yX0_likeOf.cls ∈ mm_GW ∧ Cond.code yX0_likeOf cX0_likeOf 3 (some .int) ∈ mm_GW ∧ (yX0_likeOf.cls ≠ "java/lang/invoke/MethodHandle" ∧ yX0_likeOf.cls ≠ "java/lang/invoke/VarHandle") ∧ (parseMethodDescriptor yX0_likeOf.desc).map (fun d => d.parameters.length) = some 2 := ⟨mm_g4 60 (by decide +kernel) rfl, mm_g0 43 (by decide +kernel) rfl, mm_g1 5 (by decide +kernel) rfl, mc_0_likeOf, ⟨by decide +kernel, by decide +kernel⟩, by decide +kernel⟩
def M10_isKnownPair : mm_M := (RX10, yX10_isKnownPair, cX10_isKnownPair, 3, (some .boolean), 1)
theorem mc_10_isKnownPair : Cond.code yX10_isKnownPair cX10_isKnownPair 3 (some .boolean) ∈ mm_GW := mm_g4 52 (by decide +kernel) rfl
theorem ms_10_isKnownPair : Cond.instanceMethod yX10_isKnownPair ∈ mm_GW ∧ Cond.selects RX10 yX10_isKnownPair yX10_isKnownPair ∈ mm_GW ∧ Cond.initialized yX10_isKnownPair.cls ∈ mm_GW ∧ Cond.code yX10_isKnownPair cX10_isKnownPair 3 (some .boolean) ∈ mm_GW ∧ (yX10_isKnownPair.cls ≠ "java/lang/invoke/MethodHandle" ∧ yX10_isKnownPair.cls ≠ "java/lang/invoke/VarHandle") ∧ (parseMethodDescriptor yX10_isKnownPair.desc).map (fun d => d.parameters.length) = some 2 := ⟨mm_g4 51 (by decide +kernel) rfl, mm_g0 42 (by decide +kernel) rfl, mm_g1 1 (by decide +kernel) rfl, mc_10_isKnownPair, ⟨by decide +kernel, by decide +kernel⟩, by decide +kernel⟩
def M10_leastOf : mm_M := (RX10, yX10_leastOf, cX10_leastOf, 2, (some .int), 1)
theorem mc_10_leastOf : Cond.code yX10_leastOf cX10_leastOf 2 (some .int) ∈ mm_GW := mm_g5 69 (by decide +kernel) rfl
theorem ms_10_leastOf : Cond.static yX10_leastOf ∈ mm_GW ∧ Cond.initialized yX10_leastOf.cls ∈ mm_GW ∧ Cond.code yX10_leastOf cX10_leastOf 2 (some .int) ∈ mm_GW ∧ (yX10_leastOf.cls ≠ "java/lang/invoke/MethodHandle" ∧ yX10_leastOf.cls ≠ "java/lang/invoke/VarHandle") ∧ (parseMethodDescriptor yX10_leastOf.desc).map (fun d => d.parameters.length) = some 1 := ⟨mm_g5 68 (by decide +kernel) rfl, mm_g1 1 (by decide +kernel) rfl, mc_10_leastOf, ⟨by decide +kernel, by decide +kernel⟩, by decide +kernel⟩
def M10_tear : mm_M := (RX10, yX10_tear, cX10_tear, 2, (some .int), 1)
theorem mc_10_tear : Cond.code yX10_tear cX10_tear 2 (some .int) ∈ mm_GW := mm_g5 120 (by decide +kernel) rfl
theorem ms_10_tear : Cond.instanceMethod yX10_tear ∈ mm_GW ∧ Cond.selects RX10 yX10_tear yX10_tear ∈ mm_GW ∧ Cond.initialized yX10_tear.cls ∈ mm_GW ∧ Cond.code yX10_tear cX10_tear 2 (some .int) ∈ mm_GW ∧ (yX10_tear.cls ≠ "java/lang/invoke/MethodHandle" ∧ yX10_tear.cls ≠ "java/lang/invoke/VarHandle") ∧ (parseMethodDescriptor yX10_tear.desc).map (fun d => d.parameters.length) = some 0 := ⟨mm_g5 118 (by decide +kernel) rfl, mm_g5 119 (by decide +kernel) rfl, mm_g1 1 (by decide +kernel) rfl, mc_10_tear, ⟨by decide +kernel, by decide +kernel⟩, by decide +kernel⟩
def M10_want : mm_M := (RX10, yX10_want, cX10_want, 4, (some .int), 1)
theorem mc_10_want : Cond.code yX10_want cX10_want 4 (some .int) ∈ mm_GW := mm_g4 210 (by decide +kernel) rfl
theorem ms_10_want : Cond.instanceMethod yX10_want ∈ mm_GW ∧ Cond.selects RX10 yX10_want yX10_want ∈ mm_GW ∧ Cond.initialized yX10_want.cls ∈ mm_GW ∧ Cond.code yX10_want cX10_want 4 (some .int) ∈ mm_GW ∧ (yX10_want.cls ≠ "java/lang/invoke/MethodHandle" ∧ yX10_want.cls ≠ "java/lang/invoke/VarHandle") ∧ (parseMethodDescriptor yX10_want.desc).map (fun d => d.parameters.length) = some 2 := ⟨mm_g4 208 (by decide +kernel) rfl, mm_g4 209 (by decide +kernel) rfl, mm_g1 1 (by decide +kernel) rfl, mc_10_want, ⟨by decide +kernel, by decide +kernel⟩, by decide +kernel⟩
def M11_bestOf : mm_M := (RX11, yX11_bestOf, cX11_bestOf, 4, (some .int), 1)
theorem mc_11_bestOf : Cond.code yX11_bestOf cX11_bestOf 4 (some .int) ∈ mm_GW := mm_g5 159 (by decide +kernel) rfl
theorem ms_11_bestOf : Cond.instanceMethod yX11_bestOf ∈ mm_GW ∧ Cond.selects RX11 yX11_bestOf yX11_bestOf ∈ mm_GW ∧ Cond.initialized yX11_bestOf.cls ∈ mm_GW ∧ Cond.code yX11_bestOf cX11_bestOf 4 (some .int) ∈ mm_GW ∧ (yX11_bestOf.cls ≠ "java/lang/invoke/MethodHandle" ∧ yX11_bestOf.cls ≠ "java/lang/invoke/VarHandle") ∧ (parseMethodDescriptor yX11_bestOf.desc).map (fun d => d.parameters.length) = some 1 := ⟨mm_g5 158 (by decide +kernel) rfl, mm_g0 88 (by decide +kernel) rfl, mm_g1 13 (by decide +kernel) rfl, mc_11_bestOf, ⟨by decide +kernel, by decide +kernel⟩, by decide +kernel⟩
def M11_costOf : mm_M := (RX11, yX11_costOf, cX11_costOf, 6, (some .int), 1)
theorem mc_11_costOf : Cond.code yX11_costOf cX11_costOf 6 (some .int) ∈ mm_GW := mm_g7 106 (by decide +kernel) rfl
theorem ms_11_costOf : Cond.instanceMethod yX11_costOf ∈ mm_GW ∧ Cond.selects RX11 yX11_costOf yX11_costOf ∈ mm_GW ∧ Cond.initialized yX11_costOf.cls ∈ mm_GW ∧ Cond.code yX11_costOf cX11_costOf 6 (some .int) ∈ mm_GW ∧ (yX11_costOf.cls ≠ "java/lang/invoke/MethodHandle" ∧ yX11_costOf.cls ≠ "java/lang/invoke/VarHandle") ∧ (parseMethodDescriptor yX11_costOf.desc).map (fun d => d.parameters.length) = some 2 := ⟨mm_g7 105 (by decide +kernel) rfl, mm_g0 124 (by decide +kernel) rfl, mm_g1 13 (by decide +kernel) rfl, mc_11_costOf, ⟨by decide +kernel, by decide +kernel⟩, by decide +kernel⟩
def M11_deadSet : mm_M := (RX11, yX11_deadSet, cX11_deadSet, 3, (some .int), 1)
theorem mc_11_deadSet : Cond.code yX11_deadSet cX11_deadSet 3 (some .int) ∈ mm_GW := mm_g6 191 (by decide +kernel) rfl
theorem ms_11_deadSet : Cond.instanceMethod yX11_deadSet ∈ mm_GW ∧ Cond.selects RX11 yX11_deadSet yX11_deadSet ∈ mm_GW ∧ Cond.initialized yX11_deadSet.cls ∈ mm_GW ∧ Cond.code yX11_deadSet cX11_deadSet 3 (some .int) ∈ mm_GW ∧ (yX11_deadSet.cls ≠ "java/lang/invoke/MethodHandle" ∧ yX11_deadSet.cls ≠ "java/lang/invoke/VarHandle") ∧ (parseMethodDescriptor yX11_deadSet.desc).map (fun d => d.parameters.length) = some 0 := ⟨mm_g6 190 (by decide +kernel) rfl, mm_g0 102 (by decide +kernel) rfl, mm_g1 13 (by decide +kernel) rfl, mc_11_deadSet, ⟨by decide +kernel, by decide +kernel⟩, by decide +kernel⟩
def M11_feed : mm_M := (RX11, yX11_feed, cX11_feed, 5, (some .int), 1)
theorem mc_11_feed : Cond.code yX11_feed cX11_feed 5 (some .int) ∈ mm_GW := mm_g6 101 (by decide +kernel) rfl
theorem ms_11_feed : Cond.instanceMethod yX11_feed ∈ mm_GW ∧ Cond.selects RX11 yX11_feed yX11_feed ∈ mm_GW ∧ Cond.initialized yX11_feed.cls ∈ mm_GW ∧ Cond.code yX11_feed cX11_feed 5 (some .int) ∈ mm_GW ∧ (yX11_feed.cls ≠ "java/lang/invoke/MethodHandle" ∧ yX11_feed.cls ≠ "java/lang/invoke/VarHandle") ∧ (parseMethodDescriptor yX11_feed.desc).map (fun d => d.parameters.length) = some 2 := ⟨mm_g6 99 (by decide +kernel) rfl, mm_g6 100 (by decide +kernel) rfl, mm_g1 13 (by decide +kernel) rfl, mc_11_feed, ⟨by decide +kernel, by decide +kernel⟩, by decide +kernel⟩
def M11_findWitnesses : mm_M := (RX11, yX11_findWitnesses, cX11_findWitnesses, 6, (some .int), 1)
theorem mc_11_findWitnesses : Cond.code yX11_findWitnesses cX11_findWitnesses 6 (some .int) ∈ mm_GW := mm_g7 8 (by decide +kernel) rfl
theorem ms_11_findWitnesses : Cond.instanceMethod yX11_findWitnesses ∈ mm_GW ∧ Cond.selects RX11 yX11_findWitnesses yX11_findWitnesses ∈ mm_GW ∧ Cond.initialized yX11_findWitnesses.cls ∈ mm_GW ∧ Cond.code yX11_findWitnesses cX11_findWitnesses 6 (some .int) ∈ mm_GW ∧ (yX11_findWitnesses.cls ≠ "java/lang/invoke/MethodHandle" ∧ yX11_findWitnesses.cls ≠ "java/lang/invoke/VarHandle") ∧ (parseMethodDescriptor yX11_findWitnesses.desc).map (fun d => d.parameters.length) = some 2 := ⟨mm_g7 7 (by decide +kernel) rfl, mm_g0 111 (by decide +kernel) rfl, mm_g1 13 (by decide +kernel) rfl, mc_11_findWitnesses, ⟨by decide +kernel, by decide +kernel⟩, by decide +kernel⟩
def M11_fits : mm_M := (RX11, yX11_fits, cX11_fits, 10, (some .int), 1)
theorem mc_11_fits : Cond.code yX11_fits cX11_fits 10 (some .int) ∈ mm_GW := mm_g7 151 (by decide +kernel) rfl
theorem ms_11_fits : Cond.instanceMethod yX11_fits ∈ mm_GW ∧ Cond.selects RX11 yX11_fits yX11_fits ∈ mm_GW ∧ Cond.initialized yX11_fits.cls ∈ mm_GW ∧ Cond.code yX11_fits cX11_fits 10 (some .int) ∈ mm_GW ∧ (yX11_fits.cls ≠ "java/lang/invoke/MethodHandle" ∧ yX11_fits.cls ≠ "java/lang/invoke/VarHandle") ∧ (parseMethodDescriptor yX11_fits.desc).map (fun d => d.parameters.length) = some 2 := ⟨mm_g7 149 (by decide +kernel) rfl, mm_g7 150 (by decide +kernel) rfl, mm_g1 13 (by decide +kernel) rfl, mc_11_fits, ⟨by decide +kernel, by decide +kernel⟩, by decide +kernel⟩
def M11_goBack : mm_M := (RX11, yX11_goBack, cX11_goBack, 2, (some .int), 1)
theorem mc_11_goBack : Cond.code yX11_goBack cX11_goBack 2 (some .int) ∈ mm_GW := mm_g7 176 (by decide +kernel) rfl
theorem ms_11_goBack : Cond.instanceMethod yX11_goBack ∈ mm_GW ∧ Cond.selects RX11 yX11_goBack yX11_goBack ∈ mm_GW ∧ Cond.initialized yX11_goBack.cls ∈ mm_GW ∧ Cond.code yX11_goBack cX11_goBack 2 (some .int) ∈ mm_GW ∧ (yX11_goBack.cls ≠ "java/lang/invoke/MethodHandle" ∧ yX11_goBack.cls ≠ "java/lang/invoke/VarHandle") ∧ (parseMethodDescriptor yX11_goBack.desc).map (fun d => d.parameters.length) = some 1 := ⟨mm_g7 174 (by decide +kernel) rfl, mm_g7 175 (by decide +kernel) rfl, mm_g1 13 (by decide +kernel) rfl, mc_11_goBack, ⟨by decide +kernel, by decide +kernel⟩, by decide +kernel⟩
def M11_isDrift : mm_M := (RX11, yX11_isDrift, cX11_isDrift, 2, (some .boolean), 1)
theorem mc_11_isDrift : Cond.code yX11_isDrift cX11_isDrift 2 (some .boolean) ∈ mm_GW := mm_g7 62 (by decide +kernel) rfl
theorem ms_11_isDrift : Cond.static yX11_isDrift ∈ mm_GW ∧ Cond.initialized yX11_isDrift.cls ∈ mm_GW ∧ Cond.code yX11_isDrift cX11_isDrift 2 (some .boolean) ∈ mm_GW ∧ (yX11_isDrift.cls ≠ "java/lang/invoke/MethodHandle" ∧ yX11_isDrift.cls ≠ "java/lang/invoke/VarHandle") ∧ (parseMethodDescriptor yX11_isDrift.desc).map (fun d => d.parameters.length) = some 2 := ⟨mm_g7 61 (by decide +kernel) rfl, mm_g1 13 (by decide +kernel) rfl, mc_11_isDrift, ⟨by decide +kernel, by decide +kernel⟩, by decide +kernel⟩
def M11_isPerson : mm_M := (RX11, yX11_isPerson, cX11_isPerson, 2, (some .boolean), 1)
theorem mc_11_isPerson : Cond.code yX11_isPerson cX11_isPerson 2 (some .boolean) ∈ mm_GW := mm_g6 212 (by decide +kernel) rfl
theorem ms_11_isPerson : Cond.instanceMethod yX11_isPerson ∈ mm_GW ∧ Cond.selects RX11 yX11_isPerson yX11_isPerson ∈ mm_GW ∧ Cond.initialized yX11_isPerson.cls ∈ mm_GW ∧ Cond.code yX11_isPerson cX11_isPerson 2 (some .boolean) ∈ mm_GW ∧ (yX11_isPerson.cls ≠ "java/lang/invoke/MethodHandle" ∧ yX11_isPerson.cls ≠ "java/lang/invoke/VarHandle") ∧ (parseMethodDescriptor yX11_isPerson.desc).map (fun d => d.parameters.length) = some 1 := ⟨mm_g6 211 (by decide +kernel) rfl, mm_g0 105 (by decide +kernel) rfl, mm_g1 13 (by decide +kernel) rfl, mc_11_isPerson, ⟨by decide +kernel, by decide +kernel⟩, by decide +kernel⟩
def M11_isRing : mm_M := (RX11, yX11_isRing, cX11_isRing, 7, (some .boolean), 1)
theorem mc_11_isRing : Cond.code yX11_isRing cX11_isRing 7 (some .boolean) ∈ mm_GW := mm_g7 119 (by decide +kernel) rfl
theorem ms_11_isRing : Cond.instanceMethod yX11_isRing ∈ mm_GW ∧ Cond.selects RX11 yX11_isRing yX11_isRing ∈ mm_GW ∧ Cond.initialized yX11_isRing.cls ∈ mm_GW ∧ Cond.code yX11_isRing cX11_isRing 7 (some .boolean) ∈ mm_GW ∧ (yX11_isRing.cls ≠ "java/lang/invoke/MethodHandle" ∧ yX11_isRing.cls ≠ "java/lang/invoke/VarHandle") ∧ (parseMethodDescriptor yX11_isRing.desc).map (fun d => d.parameters.length) = some 2 := ⟨mm_g7 118 (by decide +kernel) rfl, mm_g0 126 (by decide +kernel) rfl, mm_g1 13 (by decide +kernel) rfl, mc_11_isRing, ⟨by decide +kernel, by decide +kernel⟩, by decide +kernel⟩
def M11_isTrade : mm_M := (RX11, yX11_isTrade, cX11_isTrade, 2, (some .boolean), 1)
theorem mc_11_isTrade : Cond.code yX11_isTrade cX11_isTrade 2 (some .boolean) ∈ mm_GW := mm_g6 203 (by decide +kernel) rfl
theorem ms_11_isTrade : Cond.instanceMethod yX11_isTrade ∈ mm_GW ∧ Cond.selects RX11 yX11_isTrade yX11_isTrade ∈ mm_GW ∧ Cond.initialized yX11_isTrade.cls ∈ mm_GW ∧ Cond.code yX11_isTrade cX11_isTrade 2 (some .boolean) ∈ mm_GW ∧ (yX11_isTrade.cls ≠ "java/lang/invoke/MethodHandle" ∧ yX11_isTrade.cls ≠ "java/lang/invoke/VarHandle") ∧ (parseMethodDescriptor yX11_isTrade.desc).map (fun d => d.parameters.length) = some 1 := ⟨mm_g6 202 (by decide +kernel) rfl, mm_g0 104 (by decide +kernel) rfl, mm_g1 13 (by decide +kernel) rfl, mc_11_isTrade, ⟨by decide +kernel, by decide +kernel⟩, by decide +kernel⟩
def M11_keep : mm_M := (RX11, yX11_keep, cX11_keep, 2, (some .int), 1)
theorem mc_11_keep : Cond.code yX11_keep cX11_keep 2 (some .int) ∈ mm_GW := mm_g7 172 (by decide +kernel) rfl
theorem ms_11_keep : Cond.instanceMethod yX11_keep ∈ mm_GW ∧ Cond.selects RX11 yX11_keep yX11_keep ∈ mm_GW ∧ Cond.initialized yX11_keep.cls ∈ mm_GW ∧ Cond.code yX11_keep cX11_keep 2 (some .int) ∈ mm_GW ∧ (yX11_keep.cls ≠ "java/lang/invoke/MethodHandle" ∧ yX11_keep.cls ≠ "java/lang/invoke/VarHandle") ∧ (parseMethodDescriptor yX11_keep.desc).map (fun d => d.parameters.length) = some 1 := ⟨mm_g7 170 (by decide +kernel) rfl, mm_g7 171 (by decide +kernel) rfl, mm_g1 13 (by decide +kernel) rfl, mc_11_keep, ⟨by decide +kernel, by decide +kernel⟩, by decide +kernel⟩
def M11_knownMany : mm_M := (RX11, yX11_knownMany, cX11_knownMany, 4, (some .int), 1)
theorem mc_11_knownMany : Cond.code yX11_knownMany cX11_knownMany 4 (some .int) ∈ mm_GW := mm_g7 4 (by decide +kernel) rfl
theorem ms_11_knownMany : Cond.instanceMethod yX11_knownMany ∈ mm_GW ∧ Cond.selects RX11 yX11_knownMany yX11_knownMany ∈ mm_GW ∧ Cond.initialized yX11_knownMany.cls ∈ mm_GW ∧ Cond.code yX11_knownMany cX11_knownMany 4 (some .int) ∈ mm_GW ∧ (yX11_knownMany.cls ≠ "java/lang/invoke/MethodHandle" ∧ yX11_knownMany.cls ≠ "java/lang/invoke/VarHandle") ∧ (parseMethodDescriptor yX11_knownMany.desc).map (fun d => d.parameters.length) = some 1 := ⟨mm_g7 3 (by decide +kernel) rfl, mm_g0 110 (by decide +kernel) rfl, mm_g1 13 (by decide +kernel) rfl, mc_11_knownMany, ⟨by decide +kernel, by decide +kernel⟩, by decide +kernel⟩
def M11_knownSet : mm_M := (RX11, yX11_knownSet, cX11_knownSet, 4, (some .int), 1)
theorem mc_11_knownSet : Cond.code yX11_knownSet cX11_knownSet 4 (some .int) ∈ mm_GW := mm_g6 216 (by decide +kernel) rfl
theorem ms_11_knownSet : Cond.instanceMethod yX11_knownSet ∈ mm_GW ∧ Cond.selects RX11 yX11_knownSet yX11_knownSet ∈ mm_GW ∧ Cond.initialized yX11_knownSet.cls ∈ mm_GW ∧ Cond.code yX11_knownSet cX11_knownSet 4 (some .int) ∈ mm_GW ∧ (yX11_knownSet.cls ≠ "java/lang/invoke/MethodHandle" ∧ yX11_knownSet.cls ≠ "java/lang/invoke/VarHandle") ∧ (parseMethodDescriptor yX11_knownSet.desc).map (fun d => d.parameters.length) = some 1 := ⟨mm_g6 215 (by decide +kernel) rfl, mm_g0 106 (by decide +kernel) rfl, mm_g1 13 (by decide +kernel) rfl, mc_11_knownSet, ⟨by decide +kernel, by decide +kernel⟩, by decide +kernel⟩
def M11_leastLiked : mm_M := (RX11, yX11_leastLiked, cX11_leastLiked, 4, (some .int), 1)
theorem mc_11_leastLiked : Cond.code yX11_leastLiked cX11_leastLiked 4 (some .int) ∈ mm_GW := mm_g7 72 (by decide +kernel) rfl
theorem ms_11_leastLiked : Cond.instanceMethod yX11_leastLiked ∈ mm_GW ∧ Cond.selects RX11 yX11_leastLiked yX11_leastLiked ∈ mm_GW ∧ Cond.initialized yX11_leastLiked.cls ∈ mm_GW ∧ Cond.code yX11_leastLiked cX11_leastLiked 4 (some .int) ∈ mm_GW ∧ (yX11_leastLiked.cls ≠ "java/lang/invoke/MethodHandle" ∧ yX11_leastLiked.cls ≠ "java/lang/invoke/VarHandle") ∧ (parseMethodDescriptor yX11_leastLiked.desc).map (fun d => d.parameters.length) = some 1 := ⟨mm_g7 71 (by decide +kernel) rfl, mm_g0 119 (by decide +kernel) rfl, mm_g1 13 (by decide +kernel) rfl, mc_11_leastLiked, ⟨by decide +kernel, by decide +kernel⟩, by decide +kernel⟩
def M11_makers : mm_M := (RX11, yX11_makers, cX11_makers, 2, (some .int), 1)
theorem mc_11_makers : Cond.code yX11_makers cX11_makers 2 (some .int) ∈ mm_GW := mm_g7 147 (by decide +kernel) rfl
theorem ms_11_makers : Cond.instanceMethod yX11_makers ∈ mm_GW ∧ Cond.selects RX11 yX11_makers yX11_makers ∈ mm_GW ∧ Cond.initialized yX11_makers.cls ∈ mm_GW ∧ Cond.code yX11_makers cX11_makers 2 (some .int) ∈ mm_GW ∧ (yX11_makers.cls ≠ "java/lang/invoke/MethodHandle" ∧ yX11_makers.cls ≠ "java/lang/invoke/VarHandle") ∧ (parseMethodDescriptor yX11_makers.desc).map (fun d => d.parameters.length) = some 1 := ⟨mm_g7 145 (by decide +kernel) rfl, mm_g7 146 (by decide +kernel) rfl, mm_g1 13 (by decide +kernel) rfl, mc_11_makers, ⟨by decide +kernel, by decide +kernel⟩, by decide +kernel⟩
def M11_mayLearn : mm_M := (RX11, yX11_mayLearn, cX11_mayLearn, 5, (some .boolean), 1)
theorem mc_11_mayLearn : Cond.code yX11_mayLearn cX11_mayLearn 5 (some .boolean) ∈ mm_GW := mm_g6 236 (by decide +kernel) rfl
theorem ms_11_mayLearn : Cond.instanceMethod yX11_mayLearn ∈ mm_GW ∧ Cond.selects RX11 yX11_mayLearn yX11_mayLearn ∈ mm_GW ∧ Cond.initialized yX11_mayLearn.cls ∈ mm_GW ∧ Cond.code yX11_mayLearn cX11_mayLearn 5 (some .boolean) ∈ mm_GW ∧ (yX11_mayLearn.cls ≠ "java/lang/invoke/MethodHandle" ∧ yX11_mayLearn.cls ≠ "java/lang/invoke/VarHandle") ∧ (parseMethodDescriptor yX11_mayLearn.desc).map (fun d => d.parameters.length) = some 2 := ⟨mm_g6 235 (by decide +kernel) rfl, mm_g0 108 (by decide +kernel) rfl, mm_g1 13 (by decide +kernel) rfl, mc_11_mayLearn, ⟨by decide +kernel, by decide +kernel⟩, by decide +kernel⟩
def M11_readWord : mm_M := (RX11, yX11_readWord, cX11_readWord, 2, none, 1)
theorem mc_11_readWord : Cond.code yX11_readWord cX11_readWord 2 none ∈ mm_GW := mm_g6 124 (by decide +kernel) rfl
theorem ms_11_readWord : Cond.instanceMethod yX11_readWord ∈ mm_GW ∧ Cond.selects RX11 yX11_readWord yX11_readWord ∈ mm_GW ∧ Cond.initialized yX11_readWord.cls ∈ mm_GW ∧ Cond.code yX11_readWord cX11_readWord 2 none ∈ mm_GW ∧ (yX11_readWord.cls ≠ "java/lang/invoke/MethodHandle" ∧ yX11_readWord.cls ≠ "java/lang/invoke/VarHandle") ∧ (parseMethodDescriptor yX11_readWord.desc).map (fun d => d.parameters.length) = some 0 := ⟨mm_g6 123 (by decide +kernel) rfl, mm_g0 92 (by decide +kernel) rfl, mm_g1 13 (by decide +kernel) rfl, mc_11_readWord, ⟨by decide +kernel, by decide +kernel⟩, by decide +kernel⟩
def M11_takeNumber : mm_M := (RX11, yX11_takeNumber, cX11_takeNumber, 4, (some .int), 1)
theorem mc_11_takeNumber : Cond.code yX11_takeNumber cX11_takeNumber 4 (some .int) ∈ mm_GW := mm_g6 152 (by decide +kernel) rfl
theorem ms_11_takeNumber : Cond.instanceMethod yX11_takeNumber ∈ mm_GW ∧ Cond.selects RX11 yX11_takeNumber yX11_takeNumber ∈ mm_GW ∧ Cond.initialized yX11_takeNumber.cls ∈ mm_GW ∧ Cond.code yX11_takeNumber cX11_takeNumber 4 (some .int) ∈ mm_GW ∧ (yX11_takeNumber.cls ≠ "java/lang/invoke/MethodHandle" ∧ yX11_takeNumber.cls ≠ "java/lang/invoke/VarHandle") ∧ (parseMethodDescriptor yX11_takeNumber.desc).map (fun d => d.parameters.length) = some 2 := ⟨mm_g6 151 (by decide +kernel) rfl, mm_g0 96 (by decide +kernel) rfl, mm_g1 13 (by decide +kernel) rfl, mc_11_takeNumber, ⟨by decide +kernel, by decide +kernel⟩, by decide +kernel⟩
def M11_takeStop : mm_M := (RX11, yX11_takeStop, cX11_takeStop, 1, (some .int), 1)
theorem mc_11_takeStop : Cond.code yX11_takeStop cX11_takeStop 1 (some .int) ∈ mm_GW := mm_g6 166 (by decide +kernel) rfl
theorem ms_11_takeStop : Cond.instanceMethod yX11_takeStop ∈ mm_GW ∧ Cond.selects RX11 yX11_takeStop yX11_takeStop ∈ mm_GW ∧ Cond.initialized yX11_takeStop.cls ∈ mm_GW ∧ Cond.code yX11_takeStop cX11_takeStop 1 (some .int) ∈ mm_GW ∧ (yX11_takeStop.cls ≠ "java/lang/invoke/MethodHandle" ∧ yX11_takeStop.cls ≠ "java/lang/invoke/VarHandle") ∧ (parseMethodDescriptor yX11_takeStop.desc).map (fun d => d.parameters.length) = some 0 := ⟨mm_g6 165 (by decide +kernel) rfl, mm_g0 99 (by decide +kernel) rfl, mm_g1 13 (by decide +kernel) rfl, mc_11_takeStop, ⟨by decide +kernel, by decide +kernel⟩, by decide +kernel⟩
def M1_copyFrom : mm_M := (RX1, yX1_copyFrom, cX1_copyFrom, 2, none, 1)
theorem mc_1_copyFrom : Cond.code yX1_copyFrom cX1_copyFrom 2 none ∈ mm_GW := mm_g3 192 (by decide +kernel) rfl
theorem ms_1_copyFrom : Cond.instanceMethod yX1_copyFrom ∈ mm_GW ∧ Cond.selects RX1 yX1_copyFrom yX1_copyFrom ∈ mm_GW ∧ Cond.initialized yX1_copyFrom.cls ∈ mm_GW ∧ Cond.code yX1_copyFrom cX1_copyFrom 2 none ∈ mm_GW ∧ (yX1_copyFrom.cls ≠ "java/lang/invoke/MethodHandle" ∧ yX1_copyFrom.cls ≠ "java/lang/invoke/VarHandle") ∧ (parseMethodDescriptor yX1_copyFrom.desc).map (fun d => d.parameters.length) = some 1 := ⟨mm_g3 191 (by decide +kernel) rfl, mm_g0 30 (by decide +kernel) rfl, mm_g1 7 (by decide +kernel) rfl, mc_1_copyFrom, ⟨by decide +kernel, by decide +kernel⟩, by decide +kernel⟩
def M1_empty : mm_M := (RX1, yX1_empty, cX1_empty, 3, none, 1)
theorem mc_1_empty : Cond.code yX1_empty cX1_empty 3 none ∈ mm_GW := mm_g1 189 (by decide +kernel) rfl
theorem ms_1_empty : Cond.instanceMethod yX1_empty ∈ mm_GW ∧ Cond.selects RX1 yX1_empty yX1_empty ∈ mm_GW ∧ Cond.initialized yX1_empty.cls ∈ mm_GW ∧ Cond.code yX1_empty cX1_empty 3 none ∈ mm_GW ∧ (yX1_empty.cls ≠ "java/lang/invoke/MethodHandle" ∧ yX1_empty.cls ≠ "java/lang/invoke/VarHandle") ∧ (parseMethodDescriptor yX1_empty.desc).map (fun d => d.parameters.length) = some 1 := ⟨mm_g1 188 (by decide +kernel) rfl, mm_g0 2 (by decide +kernel) rfl, mm_g1 7 (by decide +kernel) rfl, mc_1_empty, ⟨by decide +kernel, by decide +kernel⟩, by decide +kernel⟩
def M1_knownBy : mm_M := (RX1, yX1_knownBy, cX1_knownBy, 4, (some .int), 1)
theorem mc_1_knownBy : Cond.code yX1_knownBy cX1_knownBy 4 (some .int) ∈ mm_GW := mm_g4 41 (by decide +kernel) rfl
theorem ms_1_knownBy : Cond.instanceMethod yX1_knownBy ∈ mm_GW ∧ Cond.selects RX1 yX1_knownBy yX1_knownBy ∈ mm_GW ∧ Cond.initialized yX1_knownBy.cls ∈ mm_GW ∧ Cond.code yX1_knownBy cX1_knownBy 4 (some .int) ∈ mm_GW ∧ (yX1_knownBy.cls ≠ "java/lang/invoke/MethodHandle" ∧ yX1_knownBy.cls ≠ "java/lang/invoke/VarHandle") ∧ (parseMethodDescriptor yX1_knownBy.desc).map (fun d => d.parameters.length) = some 1 := ⟨mm_g4 40 (by decide +kernel) rfl, mm_g0 41 (by decide +kernel) rfl, mm_g1 7 (by decide +kernel) rfl, mc_1_knownBy, ⟨by decide +kernel, by decide +kernel⟩, by decide +kernel⟩
def M1_knows : mm_M := (RX1, yX1_knows, cX1_knows, 3, (some .boolean), 1)
theorem mc_1_knows : Cond.code yX1_knows cX1_knows 3 (some .boolean) ∈ mm_GW := mm_g3 151 (by decide +kernel) rfl
theorem ms_1_knows : Cond.instanceMethod yX1_knows ∈ mm_GW ∧ Cond.selects RX1 yX1_knows yX1_knows ∈ mm_GW ∧ Cond.initialized yX1_knows.cls ∈ mm_GW ∧ Cond.code yX1_knows cX1_knows 3 (some .boolean) ∈ mm_GW ∧ (yX1_knows.cls ≠ "java/lang/invoke/MethodHandle" ∧ yX1_knows.cls ≠ "java/lang/invoke/VarHandle") ∧ (parseMethodDescriptor yX1_knows.desc).map (fun d => d.parameters.length) = some 2 := ⟨mm_g3 150 (by decide +kernel) rfl, mm_g0 21 (by decide +kernel) rfl, mm_g1 7 (by decide +kernel) rfl, mc_1_knows, ⟨by decide +kernel, by decide +kernel⟩, by decide +kernel⟩
def M1_lives : mm_M := (RX1, yX1_lives, cX1_lives, 2, (some .boolean), 1)
theorem mc_1_lives : Cond.code yX1_lives cX1_lives 2 (some .boolean) ∈ mm_GW := mm_g4 79 (by decide +kernel) rfl
theorem ms_1_lives : Cond.instanceMethod yX1_lives ∈ mm_GW ∧ Cond.selects RX1 yX1_lives yX1_lives ∈ mm_GW ∧ Cond.initialized yX1_lives.cls ∈ mm_GW ∧ Cond.code yX1_lives cX1_lives 2 (some .boolean) ∈ mm_GW ∧ (yX1_lives.cls ≠ "java/lang/invoke/MethodHandle" ∧ yX1_lives.cls ≠ "java/lang/invoke/VarHandle") ∧ (parseMethodDescriptor yX1_lives.desc).map (fun d => d.parameters.length) = some 1 := ⟨mm_g4 78 (by decide +kernel) rfl, mm_g0 46 (by decide +kernel) rfl, mm_g1 7 (by decide +kernel) rfl, mc_1_lives, ⟨by decide +kernel, by decide +kernel⟩, by decide +kernel⟩
def M1_setSkill : mm_M := (RX1, yX1_setSkill, cX1_setSkill, 4, none, 1)
theorem mc_1_setSkill : Cond.code yX1_setSkill cX1_setSkill 4 none ∈ mm_GW := mm_g3 156 (by decide +kernel) rfl
theorem ms_1_setSkill : Cond.instanceMethod yX1_setSkill ∈ mm_GW ∧ Cond.selects RX1 yX1_setSkill yX1_setSkill ∈ mm_GW ∧ Cond.initialized yX1_setSkill.cls ∈ mm_GW ∧ Cond.code yX1_setSkill cX1_setSkill 4 none ∈ mm_GW ∧ (yX1_setSkill.cls ≠ "java/lang/invoke/MethodHandle" ∧ yX1_setSkill.cls ≠ "java/lang/invoke/VarHandle") ∧ (parseMethodDescriptor yX1_setSkill.desc).map (fun d => d.parameters.length) = some 3 := ⟨mm_g3 155 (by decide +kernel) rfl, mm_g0 22 (by decide +kernel) rfl, mm_g1 7 (by decide +kernel) rfl, mc_1_setSkill, ⟨by decide +kernel, by decide +kernel⟩, by decide +kernel⟩
def M1_skillOf : mm_M := (RX1, yX1_skillOf, cX1_skillOf, 3, (some .int), 1)
theorem mc_1_skillOf : Cond.code yX1_skillOf cX1_skillOf 3 (some .int) ∈ mm_GW := mm_g3 164 (by decide +kernel) rfl
theorem ms_1_skillOf : Cond.instanceMethod yX1_skillOf ∈ mm_GW ∧ Cond.selects RX1 yX1_skillOf yX1_skillOf ∈ mm_GW ∧ Cond.initialized yX1_skillOf.cls ∈ mm_GW ∧ Cond.code yX1_skillOf cX1_skillOf 3 (some .int) ∈ mm_GW ∧ (yX1_skillOf.cls ≠ "java/lang/invoke/MethodHandle" ∧ yX1_skillOf.cls ≠ "java/lang/invoke/VarHandle") ∧ (parseMethodDescriptor yX1_skillOf.desc).map (fun d => d.parameters.length) = some 2 := ⟨mm_g3 163 (by decide +kernel) rfl, mm_g0 24 (by decide +kernel) rfl, mm_g1 7 (by decide +kernel) rfl, mc_1_skillOf, ⟨by decide +kernel, by decide +kernel⟩, by decide +kernel⟩
def M2_isBackDue : mm_M := (RX2, yX2_isBackDue, cX2_isBackDue, 4, (some .boolean), 1)
theorem mc_2_isBackDue : Cond.code yX2_isBackDue cX2_isBackDue 4 (some .boolean) ∈ mm_GW := mm_g4 168 (by decide +kernel) rfl
theorem ms_2_isBackDue : Cond.instanceMethod yX2_isBackDue ∈ mm_GW ∧ Cond.selects RX2 yX2_isBackDue yX2_isBackDue ∈ mm_GW ∧ Cond.initialized yX2_isBackDue.cls ∈ mm_GW ∧ Cond.code yX2_isBackDue cX2_isBackDue 4 (some .boolean) ∈ mm_GW ∧ (yX2_isBackDue.cls ≠ "java/lang/invoke/MethodHandle" ∧ yX2_isBackDue.cls ≠ "java/lang/invoke/VarHandle") ∧ (parseMethodDescriptor yX2_isBackDue.desc).map (fun d => d.parameters.length) = some 2 := ⟨mm_g4 167 (by decide +kernel) rfl, mm_g0 60 (by decide +kernel) rfl, mm_g1 10 (by decide +kernel) rfl, mc_2_isBackDue, ⟨by decide +kernel, by decide +kernel⟩, by decide +kernel⟩
def M2_startLearning : mm_M := (RX2, yX2_startLearning, cX2_startLearning, 3, none, 1)
theorem mc_2_startLearning : Cond.code yX2_startLearning cX2_startLearning 3 none ∈ mm_GW := mm_g4 97 (by decide +kernel) rfl
theorem ms_2_startLearning : Cond.instanceMethod yX2_startLearning ∈ mm_GW ∧ Cond.selects RX2 yX2_startLearning yX2_startLearning ∈ mm_GW ∧ Cond.initialized yX2_startLearning.cls ∈ mm_GW ∧ Cond.code yX2_startLearning cX2_startLearning 3 none ∈ mm_GW ∧ (yX2_startLearning.cls ≠ "java/lang/invoke/MethodHandle" ∧ yX2_startLearning.cls ≠ "java/lang/invoke/VarHandle") ∧ (parseMethodDescriptor yX2_startLearning.desc).map (fun d => d.parameters.length) = some 2 := ⟨mm_g4 96 (by decide +kernel) rfl, mm_g0 49 (by decide +kernel) rfl, mm_g1 10 (by decide +kernel) rfl, mc_2_startLearning, ⟨by decide +kernel, by decide +kernel⟩, by decide +kernel⟩
def M3_countStates : mm_M := (RX3, yX3_countStates, cX3_countStates, 2, none, 1)
theorem mc_3_countStates : Cond.code yX3_countStates cX3_countStates 2 none ∈ mm_GW := mm_g4 229 (by decide +kernel) rfl
theorem ms_3_countStates : Cond.instanceMethod yX3_countStates ∈ mm_GW ∧ Cond.selects RX3 yX3_countStates yX3_countStates ∈ mm_GW ∧ Cond.initialized yX3_countStates.cls ∈ mm_GW ∧ Cond.code yX3_countStates cX3_countStates 2 none ∈ mm_GW ∧ (yX3_countStates.cls ≠ "java/lang/invoke/MethodHandle" ∧ yX3_countStates.cls ≠ "java/lang/invoke/VarHandle") ∧ (parseMethodDescriptor yX3_countStates.desc).map (fun d => d.parameters.length) = some 0 := ⟨mm_g4 228 (by decide +kernel) rfl, mm_g0 68 (by decide +kernel) rfl, mm_g1 11 (by decide +kernel) rfl, mc_3_countStates, ⟨by decide +kernel, by decide +kernel⟩, by decide +kernel⟩
def M3_stillWanted : mm_M := (RX3, yX3_stillWanted, cX3_stillWanted, 4, (some .int), 1)
theorem mc_3_stillWanted : Cond.code yX3_stillWanted cX3_stillWanted 4 (some .int) ∈ mm_GW := mm_g5 16 (by decide +kernel) rfl
theorem ms_3_stillWanted : Cond.instanceMethod yX3_stillWanted ∈ mm_GW ∧ Cond.selects RX3 yX3_stillWanted yX3_stillWanted ∈ mm_GW ∧ Cond.initialized yX3_stillWanted.cls ∈ mm_GW ∧ Cond.code yX3_stillWanted cX3_stillWanted 4 (some .int) ∈ mm_GW ∧ (yX3_stillWanted.cls ≠ "java/lang/invoke/MethodHandle" ∧ yX3_stillWanted.cls ≠ "java/lang/invoke/VarHandle") ∧ (parseMethodDescriptor yX3_stillWanted.desc).map (fun d => d.parameters.length) = some 2 := ⟨mm_g5 15 (by decide +kernel) rfl, mm_g0 73 (by decide +kernel) rfl, mm_g1 11 (by decide +kernel) rfl, mc_3_stillWanted, ⟨by decide +kernel, by decide +kernel⟩, by decide +kernel⟩
def M3_wantedInAll : mm_M := (RX3, yX3_wantedInAll, cX3_wantedInAll, 3, (some .int), 1)
theorem mc_3_wantedInAll : Cond.code yX3_wantedInAll cX3_wantedInAll 3 (some .int) ∈ mm_GW := mm_g4 223 (by decide +kernel) rfl
theorem ms_3_wantedInAll : Cond.instanceMethod yX3_wantedInAll ∈ mm_GW ∧ Cond.selects RX3 yX3_wantedInAll yX3_wantedInAll ∈ mm_GW ∧ Cond.initialized yX3_wantedInAll.cls ∈ mm_GW ∧ Cond.code yX3_wantedInAll cX3_wantedInAll 3 (some .int) ∈ mm_GW ∧ (yX3_wantedInAll.cls ≠ "java/lang/invoke/MethodHandle" ∧ yX3_wantedInAll.cls ≠ "java/lang/invoke/VarHandle") ∧ (parseMethodDescriptor yX3_wantedInAll.desc).map (fun d => d.parameters.length) = some 0 := ⟨mm_g4 222 (by decide +kernel) rfl, mm_g0 67 (by decide +kernel) rfl, mm_g1 11 (by decide +kernel) rfl, mc_3_wantedInAll, ⟨by decide +kernel, by decide +kernel⟩, by decide +kernel⟩
def M4_advance : mm_M := (RX4, yX4_advance, cX4_advance, 2, none, 1)
theorem mc_4_advance : Cond.code yX4_advance cX4_advance 2 none ∈ mm_GW := mm_g3 27 (by decide +kernel) rfl
theorem ms_4_advance : Cond.instanceMethod yX4_advance ∈ mm_GW ∧ Cond.selects RX4 yX4_advance yX4_advance ∈ mm_GW ∧ Cond.initialized yX4_advance.cls ∈ mm_GW ∧ Cond.code yX4_advance cX4_advance 2 none ∈ mm_GW ∧ (yX4_advance.cls ≠ "java/lang/invoke/MethodHandle" ∧ yX4_advance.cls ≠ "java/lang/invoke/VarHandle") ∧ (parseMethodDescriptor yX4_advance.desc).map (fun d => d.parameters.length) = some 0 := ⟨mm_g3 26 (by decide +kernel) rfl, mm_g0 6 (by decide +kernel) rfl, mm_g1 2 (by decide +kernel) rfl, mc_4_advance, ⟨by decide +kernel, by decide +kernel⟩, by decide +kernel⟩
def M4_append : mm_M := (RX4, yX4_append, cX4_append, 2, none, 1)
theorem mc_4_append : Cond.code yX4_append cX4_append 2 none ∈ mm_GW := mm_g3 14 (by decide +kernel) rfl
theorem ms_4_append : Cond.instanceMethod yX4_append ∈ mm_GW ∧ Cond.selects RX4 yX4_append yX4_append ∈ mm_GW ∧ Cond.initialized yX4_append.cls ∈ mm_GW ∧ Cond.code yX4_append cX4_append 2 none ∈ mm_GW ∧ (yX4_append.cls ≠ "java/lang/invoke/MethodHandle" ∧ yX4_append.cls ≠ "java/lang/invoke/VarHandle") ∧ (parseMethodDescriptor yX4_append.desc).map (fun d => d.parameters.length) = some 1 := ⟨mm_g3 13 (by decide +kernel) rfl, mm_g0 4 (by decide +kernel) rfl, mm_g1 2 (by decide +kernel) rfl, mc_4_append, ⟨by decide +kernel, by decide +kernel⟩, by decide +kernel⟩
def M4_figures : mm_M := (RX4, yX4_figures, cX4_figures, 3, (some .int), 1)
theorem mc_4_figures : Cond.code yX4_figures cX4_figures 3 (some .int) ∈ mm_GW := mm_g3 135 (by decide +kernel) rfl
theorem ms_4_figures : Cond.instanceMethod yX4_figures ∈ mm_GW ∧ Cond.selects RX4 yX4_figures yX4_figures ∈ mm_GW ∧ Cond.initialized yX4_figures.cls ∈ mm_GW ∧ Cond.code yX4_figures cX4_figures 3 (some .int) ∈ mm_GW ∧ (yX4_figures.cls ≠ "java/lang/invoke/MethodHandle" ∧ yX4_figures.cls ≠ "java/lang/invoke/VarHandle") ∧ (parseMethodDescriptor yX4_figures.desc).map (fun d => d.parameters.length) = some 0 := ⟨mm_g3 134 (by decide +kernel) rfl, mm_g0 18 (by decide +kernel) rfl, mm_g1 2 (by decide +kernel) rfl, mc_4_figures, ⟨by decide +kernel, by decide +kernel⟩, by decide +kernel⟩
def M5_closeRing : mm_M := (RX5, yX5_closeRing, cX5_closeRing, 4, none, 1)
theorem mc_5_closeRing : Cond.code yX5_closeRing cX5_closeRing 4 none ∈ mm_GW := mm_g5 57 (by decide +kernel) rfl
theorem ms_5_closeRing : Cond.instanceMethod yX5_closeRing ∈ mm_GW ∧ Cond.selects RX5 yX5_closeRing yX5_closeRing ∈ mm_GW ∧ Cond.initialized yX5_closeRing.cls ∈ mm_GW ∧ Cond.code yX5_closeRing cX5_closeRing 4 none ∈ mm_GW ∧ (yX5_closeRing.cls ≠ "java/lang/invoke/MethodHandle" ∧ yX5_closeRing.cls ≠ "java/lang/invoke/VarHandle") ∧ (parseMethodDescriptor yX5_closeRing.desc).map (fun d => d.parameters.length) = some 3 := ⟨mm_g5 56 (by decide +kernel) rfl, mm_g0 79 (by decide +kernel) rfl, mm_g1 12 (by decide +kernel) rfl, mc_5_closeRing, ⟨by decide +kernel, by decide +kernel⟩, by decide +kernel⟩
def M5_gainFrom : mm_M := (RX5, yX5_gainFrom, cX5_gainFrom, 3, (some .int), 1)
theorem mc_5_gainFrom : Cond.code yX5_gainFrom cX5_gainFrom 3 (some .int) ∈ mm_GW := mm_g5 53 (by decide +kernel) rfl
theorem ms_5_gainFrom : Cond.instanceMethod yX5_gainFrom ∈ mm_GW ∧ Cond.selects RX5 yX5_gainFrom yX5_gainFrom ∈ mm_GW ∧ Cond.initialized yX5_gainFrom.cls ∈ mm_GW ∧ Cond.code yX5_gainFrom cX5_gainFrom 3 (some .int) ∈ mm_GW ∧ (yX5_gainFrom.cls ≠ "java/lang/invoke/MethodHandle" ∧ yX5_gainFrom.cls ≠ "java/lang/invoke/VarHandle") ∧ (parseMethodDescriptor yX5_gainFrom.desc).map (fun d => d.parameters.length) = some 2 := ⟨mm_g5 52 (by decide +kernel) rfl, mm_g0 78 (by decide +kernel) rfl, mm_g1 12 (by decide +kernel) rfl, mc_5_gainFrom, ⟨by decide +kernel, by decide +kernel⟩, by decide +kernel⟩
def M5_isOnPath : mm_M := (RX5, yX5_isOnPath, cX5_isOnPath, 4, (some .boolean), 1)
theorem mc_5_isOnPath : Cond.code yX5_isOnPath cX5_isOnPath 4 (some .boolean) ∈ mm_GW := mm_g5 62 (by decide +kernel) rfl
theorem ms_5_isOnPath : Cond.instanceMethod yX5_isOnPath ∈ mm_GW ∧ Cond.selects RX5 yX5_isOnPath yX5_isOnPath ∈ mm_GW ∧ Cond.initialized yX5_isOnPath.cls ∈ mm_GW ∧ Cond.code yX5_isOnPath cX5_isOnPath 4 (some .boolean) ∈ mm_GW ∧ (yX5_isOnPath.cls ≠ "java/lang/invoke/MethodHandle" ∧ yX5_isOnPath.cls ≠ "java/lang/invoke/VarHandle") ∧ (parseMethodDescriptor yX5_isOnPath.desc).map (fun d => d.parameters.length) = some 2 := ⟨mm_g5 61 (by decide +kernel) rfl, mm_g0 80 (by decide +kernel) rfl, mm_g1 12 (by decide +kernel) rfl, mc_5_isOnPath, ⟨by decide +kernel, by decide +kernel⟩, by decide +kernel⟩
def M8_addEntry : mm_M := (RX8, yX8_addEntry, cX8_addEntry, 4, (some .int), 1)
theorem mc_8_addEntry : Cond.code yX8_addEntry cX8_addEntry 4 (some .int) ∈ mm_GW := mm_g5 116 (by decide +kernel) rfl
theorem ms_8_addEntry : Cond.instanceMethod yX8_addEntry ∈ mm_GW ∧ Cond.selects RX8 yX8_addEntry yX8_addEntry ∈ mm_GW ∧ Cond.initialized yX8_addEntry.cls ∈ mm_GW ∧ Cond.code yX8_addEntry cX8_addEntry 4 (some .int) ∈ mm_GW ∧ (yX8_addEntry.cls ≠ "java/lang/invoke/MethodHandle" ∧ yX8_addEntry.cls ≠ "java/lang/invoke/VarHandle") ∧ (parseMethodDescriptor yX8_addEntry.desc).map (fun d => d.parameters.length) = some 3 := ⟨mm_g5 115 (by decide +kernel) rfl, mm_g0 85 (by decide +kernel) rfl, mm_g1 8 (by decide +kernel) rfl, mc_8_addEntry, ⟨by decide +kernel, by decide +kernel⟩, by decide +kernel⟩
def M8_addThing : mm_M := (RX8, yX8_addThing, cX8_addThing, 3, (some .int), 1)
theorem mc_8_addThing : Cond.code yX8_addThing cX8_addThing 3 (some .int) ∈ mm_GW := mm_g5 82 (by decide +kernel) rfl
theorem ms_8_addThing : Cond.instanceMethod yX8_addThing ∈ mm_GW ∧ Cond.selects RX8 yX8_addThing yX8_addThing ∈ mm_GW ∧ Cond.initialized yX8_addThing.cls ∈ mm_GW ∧ Cond.code yX8_addThing cX8_addThing 3 (some .int) ∈ mm_GW ∧ (yX8_addThing.cls ≠ "java/lang/invoke/MethodHandle" ∧ yX8_addThing.cls ≠ "java/lang/invoke/VarHandle") ∧ (parseMethodDescriptor yX8_addThing.desc).map (fun d => d.parameters.length) = some 2 := ⟨mm_g5 81 (by decide +kernel) rfl, mm_g0 81 (by decide +kernel) rfl, mm_g1 8 (by decide +kernel) rfl, mc_8_addThing, ⟨by decide +kernel, by decide +kernel⟩, by decide +kernel⟩
def M8_countIfFit : mm_M := (RX8, yX8_countIfFit, cX8_countIfFit, 3, none, 1)
theorem mc_8_countIfFit : Cond.code yX8_countIfFit cX8_countIfFit 3 none ∈ mm_GW := mm_g5 107 (by decide +kernel) rfl
theorem ms_8_countIfFit : Cond.instanceMethod yX8_countIfFit ∈ mm_GW ∧ Cond.selects RX8 yX8_countIfFit yX8_countIfFit ∈ mm_GW ∧ Cond.initialized yX8_countIfFit.cls ∈ mm_GW ∧ Cond.code yX8_countIfFit cX8_countIfFit 3 none ∈ mm_GW ∧ (yX8_countIfFit.cls ≠ "java/lang/invoke/MethodHandle" ∧ yX8_countIfFit.cls ≠ "java/lang/invoke/VarHandle") ∧ (parseMethodDescriptor yX8_countIfFit.desc).map (fun d => d.parameters.length) = some 1 := ⟨mm_g5 106 (by decide +kernel) rfl, mm_g0 84 (by decide +kernel) rfl, mm_g1 8 (by decide +kernel) rfl, mc_8_countIfFit, ⟨by decide +kernel, by decide +kernel⟩, by decide +kernel⟩
def M10_feed : mm_M := (RX10, yX10_feed, cX10_feed, 5, (some .int), 2)
theorem mc_10_feed : Cond.code yX10_feed cX10_feed 5 (some .int) ∈ mm_GW := mm_g3 4 (by decide +kernel) rfl
theorem ms_10_feed : Cond.instanceMethod yX10_feed ∈ mm_GW ∧ Cond.selects RX10 yX10_feed yX10_feed ∈ mm_GW ∧ Cond.initialized yX10_feed.cls ∈ mm_GW ∧ Cond.code yX10_feed cX10_feed 5 (some .int) ∈ mm_GW ∧ (yX10_feed.cls ≠ "java/lang/invoke/MethodHandle" ∧ yX10_feed.cls ≠ "java/lang/invoke/VarHandle") ∧ (parseMethodDescriptor yX10_feed.desc).map (fun d => d.parameters.length) = some 2 := ⟨mm_g3 2 (by decide +kernel) rfl, mm_g3 3 (by decide +kernel) rfl, mm_g1 1 (by decide +kernel) rfl, mc_10_feed, ⟨by decide +kernel, by decide +kernel⟩, by decide +kernel⟩
def M10_goBack : mm_M := (RX10, yX10_goBack, cX10_goBack, 2, (some .int), 2)
theorem mc_10_goBack : Cond.code yX10_goBack cX10_goBack 2 (some .int) ∈ mm_GW := mm_g5 145 (by decide +kernel) rfl
theorem ms_10_goBack : Cond.instanceMethod yX10_goBack ∈ mm_GW ∧ Cond.selects RX10 yX10_goBack yX10_goBack ∈ mm_GW ∧ Cond.initialized yX10_goBack.cls ∈ mm_GW ∧ Cond.code yX10_goBack cX10_goBack 2 (some .int) ∈ mm_GW ∧ (yX10_goBack.cls ≠ "java/lang/invoke/MethodHandle" ∧ yX10_goBack.cls ≠ "java/lang/invoke/VarHandle") ∧ (parseMethodDescriptor yX10_goBack.desc).map (fun d => d.parameters.length) = some 1 := ⟨mm_g5 143 (by decide +kernel) rfl, mm_g5 144 (by decide +kernel) rfl, mm_g1 1 (by decide +kernel) rfl, mc_10_goBack, ⟨by decide +kernel, by decide +kernel⟩, by decide +kernel⟩
def M10_keep : mm_M := (RX10, yX10_keep, cX10_keep, 2, (some .int), 2)
theorem mc_10_keep : Cond.code yX10_keep cX10_keep 2 (some .int) ∈ mm_GW := mm_g5 137 (by decide +kernel) rfl
theorem ms_10_keep : Cond.instanceMethod yX10_keep ∈ mm_GW ∧ Cond.selects RX10 yX10_keep yX10_keep ∈ mm_GW ∧ Cond.initialized yX10_keep.cls ∈ mm_GW ∧ Cond.code yX10_keep cX10_keep 2 (some .int) ∈ mm_GW ∧ (yX10_keep.cls ≠ "java/lang/invoke/MethodHandle" ∧ yX10_keep.cls ≠ "java/lang/invoke/VarHandle") ∧ (parseMethodDescriptor yX10_keep.desc).map (fun d => d.parameters.length) = some 1 := ⟨mm_g5 135 (by decide +kernel) rfl, mm_g5 136 (by decide +kernel) rfl, mm_g1 1 (by decide +kernel) rfl, mc_10_keep, ⟨by decide +kernel, by decide +kernel⟩, by decide +kernel⟩
def M10_like : mm_M := (RX10, yX10_like, cX10_like, 3, (some .int), 2)
theorem mc_10_like : Cond.code yX10_like cX10_like 3 (some .int) ∈ mm_GW := mm_g4 57 (by decide +kernel) rfl
theorem ms_10_like : Cond.instanceMethod yX10_like ∈ mm_GW ∧ Cond.selects RX10 yX10_like yX10_like ∈ mm_GW ∧ Cond.initialized yX10_like.cls ∈ mm_GW ∧ Cond.code yX10_like cX10_like 3 (some .int) ∈ mm_GW ∧ (yX10_like.cls ≠ "java/lang/invoke/MethodHandle" ∧ yX10_like.cls ≠ "java/lang/invoke/VarHandle") ∧ (parseMethodDescriptor yX10_like.desc).map (fun d => d.parameters.length) = some 2 := ⟨mm_g4 55 (by decide +kernel) rfl, mm_g4 56 (by decide +kernel) rfl, mm_g1 1 (by decide +kernel) rfl, mc_10_like, ⟨by decide +kernel, by decide +kernel⟩, by decide +kernel⟩
def M10_make : mm_M := (RX10, yX10_make, cX10_make, 3, (some .int), 2)
theorem mc_10_make : Cond.code yX10_make cX10_make 3 (some .int) ∈ mm_GW := mm_g5 78 (by decide +kernel) rfl
theorem ms_10_make : Cond.instanceMethod yX10_make ∈ mm_GW ∧ Cond.selects RX10 yX10_make yX10_make ∈ mm_GW ∧ Cond.initialized yX10_make.cls ∈ mm_GW ∧ Cond.code yX10_make cX10_make 3 (some .int) ∈ mm_GW ∧ (yX10_make.cls ≠ "java/lang/invoke/MethodHandle" ∧ yX10_make.cls ≠ "java/lang/invoke/VarHandle") ∧ (parseMethodDescriptor yX10_make.desc).map (fun d => d.parameters.length) = some 2 := ⟨mm_g5 76 (by decide +kernel) rfl, mm_g5 77 (by decide +kernel) rfl, mm_g1 1 (by decide +kernel) rfl, mc_10_make, ⟨by decide +kernel, by decide +kernel⟩, by decide +kernel⟩
def M10_person : mm_M := (RX10, yX10_person, cX10_person, 3, (some .int), 2)
theorem mc_10_person : Cond.code yX10_person cX10_person 3 (some .int) ∈ mm_GW := mm_g4 33 (by decide +kernel) rfl
theorem ms_10_person : Cond.instanceMethod yX10_person ∈ mm_GW ∧ Cond.selects RX10 yX10_person yX10_person ∈ mm_GW ∧ Cond.initialized yX10_person.cls ∈ mm_GW ∧ Cond.code yX10_person cX10_person 3 (some .int) ∈ mm_GW ∧ (yX10_person.cls ≠ "java/lang/invoke/MethodHandle" ∧ yX10_person.cls ≠ "java/lang/invoke/VarHandle") ∧ (parseMethodDescriptor yX10_person.desc).map (fun d => d.parameters.length) = some 2 := ⟨mm_g4 31 (by decide +kernel) rfl, mm_g4 32 (by decide +kernel) rfl, mm_g1 1 (by decide +kernel) rfl, mc_10_person, ⟨by decide +kernel, by decide +kernel⟩, by decide +kernel⟩
def M10_practise : mm_M := (RX10, yX10_practise, cX10_practise, 4, (some .int), 2)
theorem mc_10_practise : Cond.code yX10_practise cX10_practise 4 (some .int) ∈ mm_GW := mm_g4 115 (by decide +kernel) rfl
theorem ms_10_practise : Cond.instanceMethod yX10_practise ∈ mm_GW ∧ Cond.selects RX10 yX10_practise yX10_practise ∈ mm_GW ∧ Cond.initialized yX10_practise.cls ∈ mm_GW ∧ Cond.code yX10_practise cX10_practise 4 (some .int) ∈ mm_GW ∧ (yX10_practise.cls ≠ "java/lang/invoke/MethodHandle" ∧ yX10_practise.cls ≠ "java/lang/invoke/VarHandle") ∧ (parseMethodDescriptor yX10_practise.desc).map (fun d => d.parameters.length) = some 2 := ⟨mm_g4 113 (by decide +kernel) rfl, mm_g4 114 (by decide +kernel) rfl, mm_g1 1 (by decide +kernel) rfl, mc_10_practise, ⟨by decide +kernel, by decide +kernel⟩, by decide +kernel⟩
def M10_skill : mm_M := (RX10, yX10_skill, cX10_skill, 3, (some .int), 2)
theorem mc_10_skill : Cond.code yX10_skill cX10_skill 3 (some .int) ∈ mm_GW := mm_g4 48 (by decide +kernel) rfl
theorem ms_10_skill : Cond.instanceMethod yX10_skill ∈ mm_GW ∧ Cond.selects RX10 yX10_skill yX10_skill ∈ mm_GW ∧ Cond.initialized yX10_skill.cls ∈ mm_GW ∧ Cond.code yX10_skill cX10_skill 3 (some .int) ∈ mm_GW ∧ (yX10_skill.cls ≠ "java/lang/invoke/MethodHandle" ∧ yX10_skill.cls ≠ "java/lang/invoke/VarHandle") ∧ (parseMethodDescriptor yX10_skill.desc).map (fun d => d.parameters.length) = some 2 := ⟨mm_g4 46 (by decide +kernel) rfl, mm_g4 47 (by decide +kernel) rfl, mm_g1 1 (by decide +kernel) rfl, mc_10_skill, ⟨by decide +kernel, by decide +kernel⟩, by decide +kernel⟩
def M10_startAnew : mm_M := (RX10, yX10_startAnew, cX10_startAnew, 2, none, 2)
theorem mc_10_startAnew : Cond.code yX10_startAnew cX10_startAnew 2 none ∈ mm_GW := mm_g3 197 (by decide +kernel) rfl
theorem ms_10_startAnew : Cond.instanceMethod yX10_startAnew ∈ mm_GW ∧ Cond.selects RX10 yX10_startAnew yX10_startAnew ∈ mm_GW ∧ Cond.initialized yX10_startAnew.cls ∈ mm_GW ∧ Cond.code yX10_startAnew cX10_startAnew 2 none ∈ mm_GW ∧ (yX10_startAnew.cls ≠ "java/lang/invoke/MethodHandle" ∧ yX10_startAnew.cls ≠ "java/lang/invoke/VarHandle") ∧ (parseMethodDescriptor yX10_startAnew.desc).map (fun d => d.parameters.length) = some 0 := ⟨mm_g3 196 (by decide +kernel) rfl, mm_g0 31 (by decide +kernel) rfl, mm_g1 1 (by decide +kernel) rfl, mc_10_startAnew, ⟨by decide +kernel, by decide +kernel⟩, by decide +kernel⟩
def M10_write : mm_M := (RX10, yX10_write, cX10_write, 4, (some .int), 2)
theorem mc_10_write : Cond.code yX10_write cX10_write 4 (some .int) ∈ mm_GW := mm_g5 112 (by decide +kernel) rfl
theorem ms_10_write : Cond.instanceMethod yX10_write ∈ mm_GW ∧ Cond.selects RX10 yX10_write yX10_write ∈ mm_GW ∧ Cond.initialized yX10_write.cls ∈ mm_GW ∧ Cond.code yX10_write cX10_write 4 (some .int) ∈ mm_GW ∧ (yX10_write.cls ≠ "java/lang/invoke/MethodHandle" ∧ yX10_write.cls ≠ "java/lang/invoke/VarHandle") ∧ (parseMethodDescriptor yX10_write.desc).map (fun d => d.parameters.length) = some 3 := ⟨mm_g5 110 (by decide +kernel) rfl, mm_g5 111 (by decide +kernel) rfl, mm_g1 1 (by decide +kernel) rfl, mc_10_write, ⟨by decide +kernel, by decide +kernel⟩, by decide +kernel⟩
def M11_begin : mm_M := (RX11, yX11_begin, cX11_begin, 4, (some .int), 2)
theorem mc_11_begin : Cond.code yX11_begin cX11_begin 4 (some .int) ∈ mm_GW := mm_g5 155 (by decide +kernel) rfl
theorem ms_11_begin : Cond.instanceMethod yX11_begin ∈ mm_GW ∧ Cond.selects RX11 yX11_begin yX11_begin ∈ mm_GW ∧ Cond.initialized yX11_begin.cls ∈ mm_GW ∧ Cond.code yX11_begin cX11_begin 4 (some .int) ∈ mm_GW ∧ (yX11_begin.cls ≠ "java/lang/invoke/MethodHandle" ∧ yX11_begin.cls ≠ "java/lang/invoke/VarHandle") ∧ (parseMethodDescriptor yX11_begin.desc).map (fun d => d.parameters.length) = some 0 := ⟨mm_g5 153 (by decide +kernel) rfl, mm_g5 154 (by decide +kernel) rfl, mm_g1 13 (by decide +kernel) rfl, mc_11_begin, ⟨by decide +kernel, by decide +kernel⟩, by decide +kernel⟩
def M11_byGiving : mm_M := (RX11, yX11_byGiving, cX11_byGiving, 6, (some .int), 2)
theorem mc_11_byGiving : Cond.code yX11_byGiving cX11_byGiving 6 (some .int) ∈ mm_GW := mm_g7 102 (by decide +kernel) rfl
theorem ms_11_byGiving : Cond.instanceMethod yX11_byGiving ∈ mm_GW ∧ Cond.selects RX11 yX11_byGiving yX11_byGiving ∈ mm_GW ∧ Cond.initialized yX11_byGiving.cls ∈ mm_GW ∧ Cond.code yX11_byGiving cX11_byGiving 6 (some .int) ∈ mm_GW ∧ (yX11_byGiving.cls ≠ "java/lang/invoke/MethodHandle" ∧ yX11_byGiving.cls ≠ "java/lang/invoke/VarHandle") ∧ (parseMethodDescriptor yX11_byGiving.desc).map (fun d => d.parameters.length) = some 3 := ⟨mm_g7 101 (by decide +kernel) rfl, mm_g0 123 (by decide +kernel) rfl, mm_g1 13 (by decide +kernel) rfl, mc_11_byGiving, ⟨by decide +kernel, by decide +kernel⟩, by decide +kernel⟩
def M11_gainBy : mm_M := (RX11, yX11_gainBy, cX11_gainBy, 6, (some .int), 2)
theorem mc_11_gainBy : Cond.code yX11_gainBy cX11_gainBy 6 (some .int) ∈ mm_GW := mm_g7 131 (by decide +kernel) rfl
theorem ms_11_gainBy : Cond.instanceMethod yX11_gainBy ∈ mm_GW ∧ Cond.selects RX11 yX11_gainBy yX11_gainBy ∈ mm_GW ∧ Cond.initialized yX11_gainBy.cls ∈ mm_GW ∧ Cond.code yX11_gainBy cX11_gainBy 6 (some .int) ∈ mm_GW ∧ (yX11_gainBy.cls ≠ "java/lang/invoke/MethodHandle" ∧ yX11_gainBy.cls ≠ "java/lang/invoke/VarHandle") ∧ (parseMethodDescriptor yX11_gainBy.desc).map (fun d => d.parameters.length) = some 2 := ⟨mm_g7 130 (by decide +kernel) rfl, mm_g0 129 (by decide +kernel) rfl, mm_g1 13 (by decide +kernel) rfl, mc_11_gainBy, ⟨by decide +kernel, by decide +kernel⟩, by decide +kernel⟩
def M11_into : mm_M := (RX11, yX11_into, cX11_into, 6, (some .int), 2)
theorem mc_11_into : Cond.code yX11_into cX11_into 6 (some .int) ∈ mm_GW := mm_g6 148 (by decide +kernel) rfl
theorem ms_11_into : Cond.instanceMethod yX11_into ∈ mm_GW ∧ Cond.selects RX11 yX11_into yX11_into ∈ mm_GW ∧ Cond.initialized yX11_into.cls ∈ mm_GW ∧ Cond.code yX11_into cX11_into 6 (some .int) ∈ mm_GW ∧ (yX11_into.cls ≠ "java/lang/invoke/MethodHandle" ∧ yX11_into.cls ≠ "java/lang/invoke/VarHandle") ∧ (parseMethodDescriptor yX11_into.desc).map (fun d => d.parameters.length) = some 4 := ⟨mm_g6 147 (by decide +kernel) rfl, mm_g0 95 (by decide +kernel) rfl, mm_g1 13 (by decide +kernel) rfl, mc_11_into, ⟨by decide +kernel, by decide +kernel⟩, by decide +kernel⟩
def M11_lastHand : mm_M := (RX11, yX11_lastHand, cX11_lastHand, 6, (some .int), 2)
theorem mc_11_lastHand : Cond.code yX11_lastHand cX11_lastHand 6 (some .int) ∈ mm_GW := mm_g7 135 (by decide +kernel) rfl
theorem ms_11_lastHand : Cond.instanceMethod yX11_lastHand ∈ mm_GW ∧ Cond.selects RX11 yX11_lastHand yX11_lastHand ∈ mm_GW ∧ Cond.initialized yX11_lastHand.cls ∈ mm_GW ∧ Cond.code yX11_lastHand cX11_lastHand 6 (some .int) ∈ mm_GW ∧ (yX11_lastHand.cls ≠ "java/lang/invoke/MethodHandle" ∧ yX11_lastHand.cls ≠ "java/lang/invoke/VarHandle") ∧ (parseMethodDescriptor yX11_lastHand.desc).map (fun d => d.parameters.length) = some 2 := ⟨mm_g7 133 (by decide +kernel) rfl, mm_g7 134 (by decide +kernel) rfl, mm_g1 13 (by decide +kernel) rfl, mc_11_lastHand, ⟨by decide +kernel, by decide +kernel⟩, by decide +kernel⟩
def M11_like : mm_M := (RX11, yX11_like, cX11_like, 3, (some .int), 2)
theorem mc_11_like : Cond.code yX11_like cX11_like 3 (some .int) ∈ mm_GW := mm_g6 224 (by decide +kernel) rfl
theorem ms_11_like : Cond.instanceMethod yX11_like ∈ mm_GW ∧ Cond.selects RX11 yX11_like yX11_like ∈ mm_GW ∧ Cond.initialized yX11_like.cls ∈ mm_GW ∧ Cond.code yX11_like cX11_like 3 (some .int) ∈ mm_GW ∧ (yX11_like.cls ≠ "java/lang/invoke/MethodHandle" ∧ yX11_like.cls ≠ "java/lang/invoke/VarHandle") ∧ (parseMethodDescriptor yX11_like.desc).map (fun d => d.parameters.length) = some 2 := ⟨mm_g6 222 (by decide +kernel) rfl, mm_g6 223 (by decide +kernel) rfl, mm_g1 13 (by decide +kernel) rfl, mc_11_like, ⟨by decide +kernel, by decide +kernel⟩, by decide +kernel⟩
def M11_make : mm_M := (RX11, yX11_make, cX11_make, 3, (some .int), 2)
theorem mc_11_make : Cond.code yX11_make cX11_make 3 (some .int) ∈ mm_GW := mm_g7 143 (by decide +kernel) rfl
theorem ms_11_make : Cond.instanceMethod yX11_make ∈ mm_GW ∧ Cond.selects RX11 yX11_make yX11_make ∈ mm_GW ∧ Cond.initialized yX11_make.cls ∈ mm_GW ∧ Cond.code yX11_make cX11_make 3 (some .int) ∈ mm_GW ∧ (yX11_make.cls ≠ "java/lang/invoke/MethodHandle" ∧ yX11_make.cls ≠ "java/lang/invoke/VarHandle") ∧ (parseMethodDescriptor yX11_make.desc).map (fun d => d.parameters.length) = some 2 := ⟨mm_g7 141 (by decide +kernel) rfl, mm_g7 142 (by decide +kernel) rfl, mm_g1 13 (by decide +kernel) rfl, mc_11_make, ⟨by decide +kernel, by decide +kernel⟩, by decide +kernel⟩
def M11_mayGive : mm_M := (RX11, yX11_mayGive, cX11_mayGive, 5, (some .boolean), 2)
theorem mc_11_mayGive : Cond.code yX11_mayGive cX11_mayGive 5 (some .boolean) ∈ mm_GW := mm_g7 0 (by decide +kernel) rfl
theorem ms_11_mayGive : Cond.instanceMethod yX11_mayGive ∈ mm_GW ∧ Cond.selects RX11 yX11_mayGive yX11_mayGive ∈ mm_GW ∧ Cond.initialized yX11_mayGive.cls ∈ mm_GW ∧ Cond.code yX11_mayGive cX11_mayGive 5 (some .boolean) ∈ mm_GW ∧ (yX11_mayGive.cls ≠ "java/lang/invoke/MethodHandle" ∧ yX11_mayGive.cls ≠ "java/lang/invoke/VarHandle") ∧ (parseMethodDescriptor yX11_mayGive.desc).map (fun d => d.parameters.length) = some 4 := ⟨mm_g6 239 (by decide +kernel) rfl, mm_g0 109 (by decide +kernel) rfl, mm_g1 13 (by decide +kernel) rfl, mc_11_mayGive, ⟨by decide +kernel, by decide +kernel⟩, by decide +kernel⟩
def M11_maySwap : mm_M := (RX11, yX11_maySwap, cX11_maySwap, 2, (some .boolean), 2)
theorem mc_11_maySwap : Cond.code yX11_maySwap cX11_maySwap 2 (some .boolean) ∈ mm_GW := mm_g7 127 (by decide +kernel) rfl
theorem ms_11_maySwap : Cond.instanceMethod yX11_maySwap ∈ mm_GW ∧ Cond.selects RX11 yX11_maySwap yX11_maySwap ∈ mm_GW ∧ Cond.initialized yX11_maySwap.cls ∈ mm_GW ∧ Cond.code yX11_maySwap cX11_maySwap 2 (some .boolean) ∈ mm_GW ∧ (yX11_maySwap.cls ≠ "java/lang/invoke/MethodHandle" ∧ yX11_maySwap.cls ≠ "java/lang/invoke/VarHandle") ∧ (parseMethodDescriptor yX11_maySwap.desc).map (fun d => d.parameters.length) = some 1 := ⟨mm_g7 126 (by decide +kernel) rfl, mm_g0 128 (by decide +kernel) rfl, mm_g1 13 (by decide +kernel) rfl, mc_11_maySwap, ⟨by decide +kernel, by decide +kernel⟩, by decide +kernel⟩
def M11_night : mm_M := (RX11, yX11_night, cX11_night, 5, (some .int), 2)
theorem mc_11_night : Cond.code yX11_night cX11_night 5 (some .int) ∈ mm_GW := mm_g7 22 (by decide +kernel) rfl
theorem ms_11_night : Cond.instanceMethod yX11_night ∈ mm_GW ∧ Cond.selects RX11 yX11_night yX11_night ∈ mm_GW ∧ Cond.initialized yX11_night.cls ∈ mm_GW ∧ Cond.code yX11_night cX11_night 5 (some .int) ∈ mm_GW ∧ (yX11_night.cls ≠ "java/lang/invoke/MethodHandle" ∧ yX11_night.cls ≠ "java/lang/invoke/VarHandle") ∧ (parseMethodDescriptor yX11_night.desc).map (fun d => d.parameters.length) = some 2 := ⟨mm_g7 20 (by decide +kernel) rfl, mm_g7 21 (by decide +kernel) rfl, mm_g1 13 (by decide +kernel) rfl, mc_11_night, ⟨by decide +kernel, by decide +kernel⟩, by decide +kernel⟩
def M11_person : mm_M := (RX11, yX11_person, cX11_person, 3, (some .int), 2)
theorem mc_11_person : Cond.code yX11_person cX11_person 3 (some .int) ∈ mm_GW := mm_g6 208 (by decide +kernel) rfl
theorem ms_11_person : Cond.instanceMethod yX11_person ∈ mm_GW ∧ Cond.selects RX11 yX11_person yX11_person ∈ mm_GW ∧ Cond.initialized yX11_person.cls ∈ mm_GW ∧ Cond.code yX11_person cX11_person 3 (some .int) ∈ mm_GW ∧ (yX11_person.cls ≠ "java/lang/invoke/MethodHandle" ∧ yX11_person.cls ≠ "java/lang/invoke/VarHandle") ∧ (parseMethodDescriptor yX11_person.desc).map (fun d => d.parameters.length) = some 2 := ⟨mm_g6 206 (by decide +kernel) rfl, mm_g6 207 (by decide +kernel) rfl, mm_g1 13 (by decide +kernel) rfl, mc_11_person, ⟨by decide +kernel, by decide +kernel⟩, by decide +kernel⟩
def M11_practise : mm_M := (RX11, yX11_practise, cX11_practise, 4, (some .int), 2)
theorem mc_11_practise : Cond.code yX11_practise cX11_practise 4 (some .int) ∈ mm_GW := mm_g7 18 (by decide +kernel) rfl
theorem ms_11_practise : Cond.instanceMethod yX11_practise ∈ mm_GW ∧ Cond.selects RX11 yX11_practise yX11_practise ∈ mm_GW ∧ Cond.initialized yX11_practise.cls ∈ mm_GW ∧ Cond.code yX11_practise cX11_practise 4 (some .int) ∈ mm_GW ∧ (yX11_practise.cls ≠ "java/lang/invoke/MethodHandle" ∧ yX11_practise.cls ≠ "java/lang/invoke/VarHandle") ∧ (parseMethodDescriptor yX11_practise.desc).map (fun d => d.parameters.length) = some 2 := ⟨mm_g7 16 (by decide +kernel) rfl, mm_g7 17 (by decide +kernel) rfl, mm_g1 13 (by decide +kernel) rfl, mc_11_practise, ⟨by decide +kernel, by decide +kernel⟩, by decide +kernel⟩
def M11_skill : mm_M := (RX11, yX11_skill, cX11_skill, 3, (some .int), 2)
theorem mc_11_skill : Cond.code yX11_skill cX11_skill 3 (some .int) ∈ mm_GW := mm_g6 220 (by decide +kernel) rfl
theorem ms_11_skill : Cond.instanceMethod yX11_skill ∈ mm_GW ∧ Cond.selects RX11 yX11_skill yX11_skill ∈ mm_GW ∧ Cond.initialized yX11_skill.cls ∈ mm_GW ∧ Cond.code yX11_skill cX11_skill 3 (some .int) ∈ mm_GW ∧ (yX11_skill.cls ≠ "java/lang/invoke/MethodHandle" ∧ yX11_skill.cls ≠ "java/lang/invoke/VarHandle") ∧ (parseMethodDescriptor yX11_skill.desc).map (fun d => d.parameters.length) = some 2 := ⟨mm_g6 218 (by decide +kernel) rfl, mm_g6 219 (by decide +kernel) rfl, mm_g1 13 (by decide +kernel) rfl, mc_11_skill, ⟨by decide +kernel, by decide +kernel⟩, by decide +kernel⟩
def M11_told : mm_M := (RX11, yX11_told, cX11_told, 2, (some .int), 2)
theorem mc_11_told : Cond.code yX11_told cX11_told 2 (some .int) ∈ mm_GW := mm_g6 183 (by decide +kernel) rfl
theorem ms_11_told : Cond.instanceMethod yX11_told ∈ mm_GW ∧ Cond.selects RX11 yX11_told yX11_told ∈ mm_GW ∧ Cond.initialized yX11_told.cls ∈ mm_GW ∧ Cond.code yX11_told cX11_told 2 (some .int) ∈ mm_GW ∧ (yX11_told.cls ≠ "java/lang/invoke/MethodHandle" ∧ yX11_told.cls ≠ "java/lang/invoke/VarHandle") ∧ (parseMethodDescriptor yX11_told.desc).map (fun d => d.parameters.length) = some 1 := ⟨mm_g6 181 (by decide +kernel) rfl, mm_g6 182 (by decide +kernel) rfl, mm_g1 13 (by decide +kernel) rfl, mc_11_told, ⟨by decide +kernel, by decide +kernel⟩, by decide +kernel⟩
def M11_trade : mm_M := (RX11, yX11_trade, cX11_trade, 3, (some .int), 2)
theorem mc_11_trade : Cond.code yX11_trade cX11_trade 3 (some .int) ∈ mm_GW := mm_g6 199 (by decide +kernel) rfl
theorem ms_11_trade : Cond.instanceMethod yX11_trade ∈ mm_GW ∧ Cond.selects RX11 yX11_trade yX11_trade ∈ mm_GW ∧ Cond.initialized yX11_trade.cls ∈ mm_GW ∧ Cond.code yX11_trade cX11_trade 3 (some .int) ∈ mm_GW ∧ (yX11_trade.cls ≠ "java/lang/invoke/MethodHandle" ∧ yX11_trade.cls ≠ "java/lang/invoke/VarHandle") ∧ (parseMethodDescriptor yX11_trade.desc).map (fun d => d.parameters.length) = some 2 := ⟨mm_g6 197 (by decide +kernel) rfl, mm_g6 198 (by decide +kernel) rfl, mm_g1 13 (by decide +kernel) rfl, mc_11_trade, ⟨by decide +kernel, by decide +kernel⟩, by decide +kernel⟩
def M11_tradeYear : mm_M := (RX11, yX11_tradeYear, cX11_tradeYear, 7, none, 2)
theorem mc_11_tradeYear : Cond.code yX11_tradeYear cX11_tradeYear 7 none ∈ mm_GW := mm_g7 43 (by decide +kernel) rfl
theorem ms_11_tradeYear : Cond.instanceMethod yX11_tradeYear ∈ mm_GW ∧ Cond.selects RX11 yX11_tradeYear yX11_tradeYear ∈ mm_GW ∧ Cond.initialized yX11_tradeYear.cls ∈ mm_GW ∧ Cond.code yX11_tradeYear cX11_tradeYear 7 none ∈ mm_GW ∧ (yX11_tradeYear.cls ≠ "java/lang/invoke/MethodHandle" ∧ yX11_tradeYear.cls ≠ "java/lang/invoke/VarHandle") ∧ (parseMethodDescriptor yX11_tradeYear.desc).map (fun d => d.parameters.length) = some 2 := ⟨mm_g7 42 (by decide +kernel) rfl, mm_g0 114 (by decide +kernel) rfl, mm_g1 13 (by decide +kernel) rfl, mc_11_tradeYear, ⟨by decide +kernel, by decide +kernel⟩, by decide +kernel⟩
def M11_want : mm_M := (RX11, yX11_want, cX11_want, 4, (some .int), 2)
theorem mc_11_want : Cond.code yX11_want cX11_want 4 (some .int) ∈ mm_GW := mm_g7 89 (by decide +kernel) rfl
theorem ms_11_want : Cond.instanceMethod yX11_want ∈ mm_GW ∧ Cond.selects RX11 yX11_want yX11_want ∈ mm_GW ∧ Cond.initialized yX11_want.cls ∈ mm_GW ∧ Cond.code yX11_want cX11_want 4 (some .int) ∈ mm_GW ∧ (yX11_want.cls ≠ "java/lang/invoke/MethodHandle" ∧ yX11_want.cls ≠ "java/lang/invoke/VarHandle") ∧ (parseMethodDescriptor yX11_want.desc).map (fun d => d.parameters.length) = some 2 := ⟨mm_g7 87 (by decide +kernel) rfl, mm_g7 88 (by decide +kernel) rfl, mm_g1 13 (by decide +kernel) rfl, mc_11_want, ⟨by decide +kernel, by decide +kernel⟩, by decide +kernel⟩
def M11_write : mm_M := (RX11, yX11_write, cX11_write, 4, (some .int), 2)
theorem mc_11_write : Cond.code yX11_write cX11_write 4 (some .int) ∈ mm_GW := mm_g7 156 (by decide +kernel) rfl
theorem ms_11_write : Cond.instanceMethod yX11_write ∈ mm_GW ∧ Cond.selects RX11 yX11_write yX11_write ∈ mm_GW ∧ Cond.initialized yX11_write.cls ∈ mm_GW ∧ Cond.code yX11_write cX11_write 4 (some .int) ∈ mm_GW ∧ (yX11_write.cls ≠ "java/lang/invoke/MethodHandle" ∧ yX11_write.cls ≠ "java/lang/invoke/VarHandle") ∧ (parseMethodDescriptor yX11_write.desc).map (fun d => d.parameters.length) = some 3 := ⟨mm_g7 154 (by decide +kernel) rfl, mm_g7 155 (by decide +kernel) rfl, mm_g1 13 (by decide +kernel) rfl, mc_11_write, ⟨by decide +kernel, by decide +kernel⟩, by decide +kernel⟩
def M1_bestOf : mm_M := (RX1, yX1_bestOf, cX1_bestOf, 4, (some .int), 2)
theorem mc_1_bestOf : Cond.code yX1_bestOf cX1_bestOf 4 (some .int) ∈ mm_GW := mm_g3 160 (by decide +kernel) rfl
theorem ms_1_bestOf : Cond.instanceMethod yX1_bestOf ∈ mm_GW ∧ Cond.selects RX1 yX1_bestOf yX1_bestOf ∈ mm_GW ∧ Cond.initialized yX1_bestOf.cls ∈ mm_GW ∧ Cond.code yX1_bestOf cX1_bestOf 4 (some .int) ∈ mm_GW ∧ (yX1_bestOf.cls ≠ "java/lang/invoke/MethodHandle" ∧ yX1_bestOf.cls ≠ "java/lang/invoke/VarHandle") ∧ (parseMethodDescriptor yX1_bestOf.desc).map (fun d => d.parameters.length) = some 1 := ⟨mm_g3 159 (by decide +kernel) rfl, mm_g0 23 (by decide +kernel) rfl, mm_g1 7 (by decide +kernel) rfl, mc_1_bestOf, ⟨by decide +kernel, by decide +kernel⟩, by decide +kernel⟩
def M1_clear : mm_M := (RX1, yX1_clear, cX1_clear, 2, none, 2)
theorem mc_1_clear : Cond.code yX1_clear cX1_clear 2 none ∈ mm_GW := mm_g1 185 (by decide +kernel) rfl
theorem ms_1_clear : Cond.instanceMethod yX1_clear ∈ mm_GW ∧ Cond.selects RX1 yX1_clear yX1_clear ∈ mm_GW ∧ Cond.initialized yX1_clear.cls ∈ mm_GW ∧ Cond.code yX1_clear cX1_clear 2 none ∈ mm_GW ∧ (yX1_clear.cls ≠ "java/lang/invoke/MethodHandle" ∧ yX1_clear.cls ≠ "java/lang/invoke/VarHandle") ∧ (parseMethodDescriptor yX1_clear.desc).map (fun d => d.parameters.length) = some 0 := ⟨mm_g1 184 (by decide +kernel) rfl, mm_g0 1 (by decide +kernel) rfl, mm_g1 7 (by decide +kernel) rfl, mc_1_clear, ⟨by decide +kernel, by decide +kernel⟩, by decide +kernel⟩
def M1_withSkill : mm_M := (RX1, yX1_withSkill, cX1_withSkill, 5, (some .int), 2)
theorem mc_1_withSkill : Cond.code yX1_withSkill cX1_withSkill 5 (some .int) ∈ mm_GW := mm_g4 18 (by decide +kernel) rfl
theorem ms_1_withSkill : Cond.instanceMethod yX1_withSkill ∈ mm_GW ∧ Cond.selects RX1 yX1_withSkill yX1_withSkill ∈ mm_GW ∧ Cond.initialized yX1_withSkill.cls ∈ mm_GW ∧ Cond.code yX1_withSkill cX1_withSkill 5 (some .int) ∈ mm_GW ∧ (yX1_withSkill.cls ≠ "java/lang/invoke/MethodHandle" ∧ yX1_withSkill.cls ≠ "java/lang/invoke/VarHandle") ∧ (parseMethodDescriptor yX1_withSkill.desc).map (fun d => d.parameters.length) = some 2 := ⟨mm_g4 17 (by decide +kernel) rfl, mm_g0 38 (by decide +kernel) rfl, mm_g1 7 (by decide +kernel) rfl, mc_1_withSkill, ⟨by decide +kernel, by decide +kernel⟩, by decide +kernel⟩
def M2_bearChild : mm_M := (RX2, yX2_bearChild, cX2_bearChild, 3, none, 2)
theorem mc_2_bearChild : Cond.code yX2_bearChild cX2_bearChild 3 none ∈ mm_GW := mm_g4 197 (by decide +kernel) rfl
theorem ms_2_bearChild : Cond.instanceMethod yX2_bearChild ∈ mm_GW ∧ Cond.selects RX2 yX2_bearChild yX2_bearChild ∈ mm_GW ∧ Cond.initialized yX2_bearChild.cls ∈ mm_GW ∧ Cond.code yX2_bearChild cX2_bearChild 3 none ∈ mm_GW ∧ (yX2_bearChild.cls ≠ "java/lang/invoke/MethodHandle" ∧ yX2_bearChild.cls ≠ "java/lang/invoke/VarHandle") ∧ (parseMethodDescriptor yX2_bearChild.desc).map (fun d => d.parameters.length) = some 1 := ⟨mm_g4 196 (by decide +kernel) rfl, mm_g0 65 (by decide +kernel) rfl, mm_g1 10 (by decide +kernel) rfl, mc_2_bearChild, ⟨by decide +kernel, by decide +kernel⟩, by decide +kernel⟩
def M2_fade : mm_M := (RX2, yX2_fade, cX2_fade, 6, none, 2)
theorem mc_2_fade : Cond.code yX2_fade cX2_fade 6 none ∈ mm_GW := mm_g4 154 (by decide +kernel) rfl
theorem ms_2_fade : Cond.instanceMethod yX2_fade ∈ mm_GW ∧ Cond.selects RX2 yX2_fade yX2_fade ∈ mm_GW ∧ Cond.initialized yX2_fade.cls ∈ mm_GW ∧ Cond.code yX2_fade cX2_fade 6 none ∈ mm_GW ∧ (yX2_fade.cls ≠ "java/lang/invoke/MethodHandle" ∧ yX2_fade.cls ≠ "java/lang/invoke/VarHandle") ∧ (parseMethodDescriptor yX2_fade.desc).map (fun d => d.parameters.length) = some 2 := ⟨mm_g4 153 (by decide +kernel) rfl, mm_g0 57 (by decide +kernel) rfl, mm_g1 10 (by decide +kernel) rfl, mc_2_fade, ⟨by decide +kernel, by decide +kernel⟩, by decide +kernel⟩
def M2_hasRoom : mm_M := (RX2, yX2_hasRoom, cX2_hasRoom, 2, (some .boolean), 2)
theorem mc_2_hasRoom : Cond.code yX2_hasRoom cX2_hasRoom 2 (some .boolean) ∈ mm_GW := mm_g4 91 (by decide +kernel) rfl
theorem ms_2_hasRoom : Cond.instanceMethod yX2_hasRoom ∈ mm_GW ∧ Cond.selects RX2 yX2_hasRoom yX2_hasRoom ∈ mm_GW ∧ Cond.initialized yX2_hasRoom.cls ∈ mm_GW ∧ Cond.code yX2_hasRoom cX2_hasRoom 2 (some .boolean) ∈ mm_GW ∧ (yX2_hasRoom.cls ≠ "java/lang/invoke/MethodHandle" ∧ yX2_hasRoom.cls ≠ "java/lang/invoke/VarHandle") ∧ (parseMethodDescriptor yX2_hasRoom.desc).map (fun d => d.parameters.length) = some 1 := ⟨mm_g4 90 (by decide +kernel) rfl, mm_g0 48 (by decide +kernel) rfl, mm_g1 10 (by decide +kernel) rfl, mc_2_hasRoom, ⟨by decide +kernel, by decide +kernel⟩, by decide +kernel⟩
def M2_learnOn : mm_M := (RX2, yX2_learnOn, cX2_learnOn, 6, none, 2)
theorem mc_2_learnOn : Cond.code yX2_learnOn cX2_learnOn 6 none ∈ mm_GW := mm_g4 160 (by decide +kernel) rfl
theorem ms_2_learnOn : Cond.instanceMethod yX2_learnOn ∈ mm_GW ∧ Cond.selects RX2 yX2_learnOn yX2_learnOn ∈ mm_GW ∧ Cond.initialized yX2_learnOn.cls ∈ mm_GW ∧ Cond.code yX2_learnOn cX2_learnOn 6 none ∈ mm_GW ∧ (yX2_learnOn.cls ≠ "java/lang/invoke/MethodHandle" ∧ yX2_learnOn.cls ≠ "java/lang/invoke/VarHandle") ∧ (parseMethodDescriptor yX2_learnOn.desc).map (fun d => d.parameters.length) = some 2 := ⟨mm_g4 159 (by decide +kernel) rfl, mm_g0 58 (by decide +kernel) rfl, mm_g1 10 (by decide +kernel) rfl, mc_2_learnOn, ⟨by decide +kernel, by decide +kernel⟩, by decide +kernel⟩
def M2_leastLiked : mm_M := (RX2, yX2_leastLiked, cX2_leastLiked, 4, (some .int), 2)
theorem mc_2_leastLiked : Cond.code yX2_leastLiked cX2_leastLiked 4 (some .int) ∈ mm_GW := mm_g4 186 (by decide +kernel) rfl
theorem ms_2_leastLiked : Cond.instanceMethod yX2_leastLiked ∈ mm_GW ∧ Cond.selects RX2 yX2_leastLiked yX2_leastLiked ∈ mm_GW ∧ Cond.initialized yX2_leastLiked.cls ∈ mm_GW ∧ Cond.code yX2_leastLiked cX2_leastLiked 4 (some .int) ∈ mm_GW ∧ (yX2_leastLiked.cls ≠ "java/lang/invoke/MethodHandle" ∧ yX2_leastLiked.cls ≠ "java/lang/invoke/VarHandle") ∧ (parseMethodDescriptor yX2_leastLiked.desc).map (fun d => d.parameters.length) = some 1 := ⟨mm_g4 185 (by decide +kernel) rfl, mm_g0 63 (by decide +kernel) rfl, mm_g1 10 (by decide +kernel) rfl, mc_2_leastLiked, ⟨by decide +kernel, by decide +kernel⟩, by decide +kernel⟩
def M2_mayGiveUp : mm_M := (RX2, yX2_mayGiveUp, cX2_mayGiveUp, 4, (some .boolean), 2)
theorem mc_2_mayGiveUp : Cond.code yX2_mayGiveUp cX2_mayGiveUp 4 (some .boolean) ∈ mm_GW := mm_g4 102 (by decide +kernel) rfl
theorem ms_2_mayGiveUp : Cond.instanceMethod yX2_mayGiveUp ∈ mm_GW ∧ Cond.selects RX2 yX2_mayGiveUp yX2_mayGiveUp ∈ mm_GW ∧ Cond.initialized yX2_mayGiveUp.cls ∈ mm_GW ∧ Cond.code yX2_mayGiveUp cX2_mayGiveUp 4 (some .boolean) ∈ mm_GW ∧ (yX2_mayGiveUp.cls ≠ "java/lang/invoke/MethodHandle" ∧ yX2_mayGiveUp.cls ≠ "java/lang/invoke/VarHandle") ∧ (parseMethodDescriptor yX2_mayGiveUp.desc).map (fun d => d.parameters.length) = some 3 := ⟨mm_g4 101 (by decide +kernel) rfl, mm_g0 50 (by decide +kernel) rfl, mm_g1 10 (by decide +kernel) rfl, mc_2_mayGiveUp, ⟨by decide +kernel, by decide +kernel⟩, by decide +kernel⟩
def M2_mayLearn : mm_M := (RX2, yX2_mayLearn, cX2_mayLearn, 4, (some .boolean), 2)
theorem mc_2_mayLearn : Cond.code yX2_mayLearn cX2_mayLearn 4 (some .boolean) ∈ mm_GW := mm_g4 75 (by decide +kernel) rfl
theorem ms_2_mayLearn : Cond.instanceMethod yX2_mayLearn ∈ mm_GW ∧ Cond.selects RX2 yX2_mayLearn yX2_mayLearn ∈ mm_GW ∧ Cond.initialized yX2_mayLearn.cls ∈ mm_GW ∧ Cond.code yX2_mayLearn cX2_mayLearn 4 (some .boolean) ∈ mm_GW ∧ (yX2_mayLearn.cls ≠ "java/lang/invoke/MethodHandle" ∧ yX2_mayLearn.cls ≠ "java/lang/invoke/VarHandle") ∧ (parseMethodDescriptor yX2_mayLearn.desc).map (fun d => d.parameters.length) = some 2 := ⟨mm_g4 74 (by decide +kernel) rfl, mm_g0 45 (by decide +kernel) rfl, mm_g1 10 (by decide +kernel) rfl, mc_2_mayLearn, ⟨by decide +kernel, by decide +kernel⟩, by decide +kernel⟩
def M2_mayLend : mm_M := (RX2, yX2_mayLend, cX2_mayLend, 3, (some .boolean), 2)
theorem mc_2_mayLend : Cond.code yX2_mayLend cX2_mayLend 3 (some .boolean) ∈ mm_GW := mm_g4 106 (by decide +kernel) rfl
theorem ms_2_mayLend : Cond.instanceMethod yX2_mayLend ∈ mm_GW ∧ Cond.selects RX2 yX2_mayLend yX2_mayLend ∈ mm_GW ∧ Cond.initialized yX2_mayLend.cls ∈ mm_GW ∧ Cond.code yX2_mayLend cX2_mayLend 3 (some .boolean) ∈ mm_GW ∧ (yX2_mayLend.cls ≠ "java/lang/invoke/MethodHandle" ∧ yX2_mayLend.cls ≠ "java/lang/invoke/VarHandle") ∧ (parseMethodDescriptor yX2_mayLend.desc).map (fun d => d.parameters.length) = some 2 := ⟨mm_g4 105 (by decide +kernel) rfl, mm_g0 51 (by decide +kernel) rfl, mm_g1 10 (by decide +kernel) rfl, mc_2_mayLend, ⟨by decide +kernel, by decide +kernel⟩, by decide +kernel⟩
def M2_witnessesFor : mm_M := (RX2, yX2_witnessesFor, cX2_witnessesFor, 7, (some .int), 2)
theorem mc_2_witnessesFor : Cond.code yX2_witnessesFor cX2_witnessesFor 7 (some .int) ∈ mm_GW := mm_g4 110 (by decide +kernel) rfl
theorem ms_2_witnessesFor : Cond.instanceMethod yX2_witnessesFor ∈ mm_GW ∧ Cond.selects RX2 yX2_witnessesFor yX2_witnessesFor ∈ mm_GW ∧ Cond.initialized yX2_witnessesFor.cls ∈ mm_GW ∧ Cond.code yX2_witnessesFor cX2_witnessesFor 7 (some .int) ∈ mm_GW ∧ (yX2_witnessesFor.cls ≠ "java/lang/invoke/MethodHandle" ∧ yX2_witnessesFor.cls ≠ "java/lang/invoke/VarHandle") ∧ (parseMethodDescriptor yX2_witnessesFor.desc).map (fun d => d.parameters.length) = some 2 := ⟨mm_g4 109 (by decide +kernel) rfl, mm_g0 52 (by decide +kernel) rfl, mm_g1 10 (by decide +kernel) rfl, mc_2_witnessesFor, ⟨by decide +kernel, by decide +kernel⟩, by decide +kernel⟩
def M2_workByNight : mm_M := (RX2, yX2_workByNight, cX2_workByNight, 5, (some .boolean), 2)
theorem mc_2_workByNight : Cond.code yX2_workByNight cX2_workByNight 5 (some .boolean) ∈ mm_GW := mm_g4 125 (by decide +kernel) rfl
theorem ms_2_workByNight : Cond.instanceMethod yX2_workByNight ∈ mm_GW ∧ Cond.selects RX2 yX2_workByNight yX2_workByNight ∈ mm_GW ∧ Cond.initialized yX2_workByNight.cls ∈ mm_GW ∧ Cond.code yX2_workByNight cX2_workByNight 5 (some .boolean) ∈ mm_GW ∧ (yX2_workByNight.cls ≠ "java/lang/invoke/MethodHandle" ∧ yX2_workByNight.cls ≠ "java/lang/invoke/VarHandle") ∧ (parseMethodDescriptor yX2_workByNight.desc).map (fun d => d.parameters.length) = some 2 := ⟨mm_g4 124 (by decide +kernel) rfl, mm_g0 53 (by decide +kernel) rfl, mm_g1 10 (by decide +kernel) rfl, mc_2_workByNight, ⟨by decide +kernel, by decide +kernel⟩, by decide +kernel⟩
def M3_costOf : mm_M := (RX3, yX3_costOf, cX3_costOf, 7, (some .int), 2)
theorem mc_3_costOf : Cond.code yX3_costOf cX3_costOf 7 (some .int) ∈ mm_GW := mm_g4 239 (by decide +kernel) rfl
theorem ms_3_costOf : Cond.instanceMethod yX3_costOf ∈ mm_GW ∧ Cond.selects RX3 yX3_costOf yX3_costOf ∈ mm_GW ∧ Cond.initialized yX3_costOf.cls ∈ mm_GW ∧ Cond.code yX3_costOf cX3_costOf 7 (some .int) ∈ mm_GW ∧ (yX3_costOf.cls ≠ "java/lang/invoke/MethodHandle" ∧ yX3_costOf.cls ≠ "java/lang/invoke/VarHandle") ∧ (parseMethodDescriptor yX3_costOf.desc).map (fun d => d.parameters.length) = some 2 := ⟨mm_g4 238 (by decide +kernel) rfl, mm_g0 70 (by decide +kernel) rfl, mm_g1 11 (by decide +kernel) rfl, mc_3_costOf, ⟨by decide +kernel, by decide +kernel⟩, by decide +kernel⟩
def M3_sumWith : mm_M := (RX3, yX3_sumWith, cX3_sumWith, 5, (some .int), 2)
theorem mc_3_sumWith : Cond.code yX3_sumWith cX3_sumWith 5 (some .int) ∈ mm_GW := mm_g5 12 (by decide +kernel) rfl
theorem ms_3_sumWith : Cond.instanceMethod yX3_sumWith ∈ mm_GW ∧ Cond.selects RX3 yX3_sumWith yX3_sumWith ∈ mm_GW ∧ Cond.initialized yX3_sumWith.cls ∈ mm_GW ∧ Cond.code yX3_sumWith cX3_sumWith 5 (some .int) ∈ mm_GW ∧ (yX3_sumWith.cls ≠ "java/lang/invoke/MethodHandle" ∧ yX3_sumWith.cls ≠ "java/lang/invoke/VarHandle") ∧ (parseMethodDescriptor yX3_sumWith.desc).map (fun d => d.parameters.length) = some 3 := ⟨mm_g5 11 (by decide +kernel) rfl, mm_g0 72 (by decide +kernel) rfl, mm_g1 11 (by decide +kernel) rfl, mc_3_sumWith, ⟨by decide +kernel, by decide +kernel⟩, by decide +kernel⟩
def M4_closeClause : mm_M := (RX4, yX4_closeClause, cX4_closeClause, 1, none, 2)
theorem mc_4_closeClause : Cond.code yX4_closeClause cX4_closeClause 1 none ∈ mm_GW := mm_g3 175 (by decide +kernel) rfl
theorem ms_4_closeClause : Cond.instanceMethod yX4_closeClause ∈ mm_GW ∧ Cond.selects RX4 yX4_closeClause yX4_closeClause ∈ mm_GW ∧ Cond.initialized yX4_closeClause.cls ∈ mm_GW ∧ Cond.code yX4_closeClause cX4_closeClause 1 none ∈ mm_GW ∧ (yX4_closeClause.cls ≠ "java/lang/invoke/MethodHandle" ∧ yX4_closeClause.cls ≠ "java/lang/invoke/VarHandle") ∧ (parseMethodDescriptor yX4_closeClause.desc).map (fun d => d.parameters.length) = some 0 := ⟨mm_g3 174 (by decide +kernel) rfl, mm_g0 26 (by decide +kernel) rfl, mm_g1 2 (by decide +kernel) rfl, mc_4_closeClause, ⟨by decide +kernel, by decide +kernel⟩, by decide +kernel⟩
def M4_number : mm_M := (RX4, yX4_number, cX4_number, 4, (some .int), 2)
theorem mc_4_number : Cond.code yX4_number cX4_number 4 (some .int) ∈ mm_GW := mm_g3 130 (by decide +kernel) rfl
theorem ms_4_number : Cond.instanceMethod yX4_number ∈ mm_GW ∧ Cond.selects RX4 yX4_number yX4_number ∈ mm_GW ∧ Cond.initialized yX4_number.cls ∈ mm_GW ∧ Cond.code yX4_number cX4_number 4 (some .int) ∈ mm_GW ∧ (yX4_number.cls ≠ "java/lang/invoke/MethodHandle" ∧ yX4_number.cls ≠ "java/lang/invoke/VarHandle") ∧ (parseMethodDescriptor yX4_number.desc).map (fun d => d.parameters.length) = some 2 := ⟨mm_g3 129 (by decide +kernel) rfl, mm_g0 17 (by decide +kernel) rfl, mm_g1 2 (by decide +kernel) rfl, mc_4_number, ⟨by decide +kernel, by decide +kernel⟩, by decide +kernel⟩
def M4_open : mm_M := (RX4, yX4_open, cX4_open, 1, none, 2)
theorem mc_4_open : Cond.code yX4_open cX4_open 1 none ∈ mm_GW := mm_g3 23 (by decide +kernel) rfl
theorem ms_4_open : Cond.instanceMethod yX4_open ∈ mm_GW ∧ Cond.selects RX4 yX4_open yX4_open ∈ mm_GW ∧ Cond.initialized yX4_open.cls ∈ mm_GW ∧ Cond.code yX4_open cX4_open 1 none ∈ mm_GW ∧ (yX4_open.cls ≠ "java/lang/invoke/MethodHandle" ∧ yX4_open.cls ≠ "java/lang/invoke/VarHandle") ∧ (parseMethodDescriptor yX4_open.desc).map (fun d => d.parameters.length) = some 0 := ⟨mm_g3 22 (by decide +kernel) rfl, mm_g0 5 (by decide +kernel) rfl, mm_g1 2 (by decide +kernel) rfl, mc_4_open, ⟨by decide +kernel, by decide +kernel⟩, by decide +kernel⟩
def M5_gainOf : mm_M := (RX5, yX5_gainOf, cX5_gainOf, 5, (some .int), 2)
theorem mc_5_gainOf : Cond.code yX5_gainOf cX5_gainOf 5 (some .int) ∈ mm_GW := mm_g5 42 (by decide +kernel) rfl
theorem ms_5_gainOf : Cond.instanceMethod yX5_gainOf ∈ mm_GW ∧ Cond.selects RX5 yX5_gainOf yX5_gainOf ∈ mm_GW ∧ Cond.initialized yX5_gainOf.cls ∈ mm_GW ∧ Cond.code yX5_gainOf cX5_gainOf 5 (some .int) ∈ mm_GW ∧ (yX5_gainOf.cls ≠ "java/lang/invoke/MethodHandle" ∧ yX5_gainOf.cls ≠ "java/lang/invoke/VarHandle") ∧ (parseMethodDescriptor yX5_gainOf.desc).map (fun d => d.parameters.length) = some 3 := ⟨mm_g5 41 (by decide +kernel) rfl, mm_g0 77 (by decide +kernel) rfl, mm_g1 12 (by decide +kernel) rfl, mc_5_gainOf, ⟨by decide +kernel, by decide +kernel⟩, by decide +kernel⟩
def M5_walkOn (d : Nat) : mm_M := (RX5, yX5_walkOn, cX5_walkOn, 8, none, 2 + d)
theorem mc_5_walkOn : Cond.code yX5_walkOn cX5_walkOn 8 none ∈ mm_GW := mm_g5 49 (by decide +kernel) rfl
theorem ms_5_walkOn : Cond.static yX5_walkOn ∈ mm_GW ∧ Cond.initialized yX5_walkOn.cls ∈ mm_GW ∧ Cond.code yX5_walkOn cX5_walkOn 8 none ∈ mm_GW ∧ (yX5_walkOn.cls ≠ "java/lang/invoke/MethodHandle" ∧ yX5_walkOn.cls ≠ "java/lang/invoke/VarHandle") ∧ (parseMethodDescriptor yX5_walkOn.desc).map (fun d => d.parameters.length) = some 4 := ⟨mm_g5 48 (by decide +kernel) rfl, mm_g1 12 (by decide +kernel) rfl, mc_5_walkOn, ⟨by decide +kernel, by decide +kernel⟩, by decide +kernel⟩
def M8_firstWrong : mm_M := (RX8, yX8_firstWrong, cX8_firstWrong, 3, (some .int), 2)
theorem mc_8_firstWrong : Cond.code yX8_firstWrong cX8_firstWrong 3 (some .int) ∈ mm_GW := mm_g5 128 (by decide +kernel) rfl
theorem ms_8_firstWrong : Cond.instanceMethod yX8_firstWrong ∈ mm_GW ∧ Cond.selects RX8 yX8_firstWrong yX8_firstWrong ∈ mm_GW ∧ Cond.initialized yX8_firstWrong.cls ∈ mm_GW ∧ Cond.code yX8_firstWrong cX8_firstWrong 3 (some .int) ∈ mm_GW ∧ (yX8_firstWrong.cls ≠ "java/lang/invoke/MethodHandle" ∧ yX8_firstWrong.cls ≠ "java/lang/invoke/VarHandle") ∧ (parseMethodDescriptor yX8_firstWrong.desc).map (fun d => d.parameters.length) = some 1 := ⟨mm_g5 127 (by decide +kernel) rfl, mm_g0 86 (by decide +kernel) rfl, mm_g1 8 (by decide +kernel) rfl, mc_8_firstWrong, ⟨by decide +kernel, by decide +kernel⟩, by decide +kernel⟩
def M9_openClause : mm_M := (RX9, yX9_openClause, cX9_openClause, 2, none, 2)
theorem mc_9_openClause : Cond.code yX9_openClause cX9_openClause 2 none ∈ mm_GW := mm_g3 112 (by decide +kernel) rfl
theorem ms_9_openClause : Cond.instanceMethod yX9_openClause ∈ mm_GW ∧ Cond.selects RX9 yX9_openClause yX9_openClause ∈ mm_GW ∧ Cond.initialized yX9_openClause.cls ∈ mm_GW ∧ Cond.code yX9_openClause cX9_openClause 2 none ∈ mm_GW ∧ (yX9_openClause.cls ≠ "java/lang/invoke/MethodHandle" ∧ yX9_openClause.cls ≠ "java/lang/invoke/VarHandle") ∧ (parseMethodDescriptor yX9_openClause.desc).map (fun d => d.parameters.length) = some 1 := ⟨mm_g3 111 (by decide +kernel) rfl, mm_g0 14 (by decide +kernel) rfl, mm_g1 9 (by decide +kernel) rfl, mc_9_openClause, ⟨by decide +kernel, by decide +kernel⟩, by decide +kernel⟩
def M10_begin : mm_M := (RX10, yX10_begin, cX10_begin, 2, (some .int), 3)
theorem mc_10_begin : Cond.code yX10_begin cX10_begin 2 (some .int) ∈ mm_GW := mm_g4 206 (by decide +kernel) rfl
theorem ms_10_begin : Cond.instanceMethod yX10_begin ∈ mm_GW ∧ Cond.selects RX10 yX10_begin yX10_begin ∈ mm_GW ∧ Cond.initialized yX10_begin.cls ∈ mm_GW ∧ Cond.code yX10_begin cX10_begin 2 (some .int) ∈ mm_GW ∧ (yX10_begin.cls ≠ "java/lang/invoke/MethodHandle" ∧ yX10_begin.cls ≠ "java/lang/invoke/VarHandle") ∧ (parseMethodDescriptor yX10_begin.desc).map (fun d => d.parameters.length) = some 0 := ⟨mm_g4 204 (by decide +kernel) rfl, mm_g4 205 (by decide +kernel) rfl, mm_g1 1 (by decide +kernel) rfl, mc_10_begin, ⟨by decide +kernel, by decide +kernel⟩, by decide +kernel⟩
def M10_judge : mm_M := (RX10, yX10_judge, cX10_judge, 1, (some .int), 3)
theorem mc_10_judge : Cond.code yX10_judge cX10_judge 1 (some .int) ∈ mm_GW := mm_g5 124 (by decide +kernel) rfl
theorem ms_10_judge : Cond.instanceMethod yX10_judge ∈ mm_GW ∧ Cond.selects RX10 yX10_judge yX10_judge ∈ mm_GW ∧ Cond.initialized yX10_judge.cls ∈ mm_GW ∧ Cond.code yX10_judge cX10_judge 1 (some .int) ∈ mm_GW ∧ (yX10_judge.cls ≠ "java/lang/invoke/MethodHandle" ∧ yX10_judge.cls ≠ "java/lang/invoke/VarHandle") ∧ (parseMethodDescriptor yX10_judge.desc).map (fun d => d.parameters.length) = some 0 := ⟨mm_g5 122 (by decide +kernel) rfl, mm_g5 123 (by decide +kernel) rfl, mm_g1 1 (by decide +kernel) rfl, mc_10_judge, ⟨by decide +kernel, by decide +kernel⟩, by decide +kernel⟩
def M10_lastHand : mm_M := (RX10, yX10_lastHand, cX10_lastHand, 6, (some .int), 3)
theorem mc_10_lastHand : Cond.code yX10_lastHand cX10_lastHand 6 (some .int) ∈ mm_GW := mm_g5 66 (by decide +kernel) rfl
theorem ms_10_lastHand : Cond.instanceMethod yX10_lastHand ∈ mm_GW ∧ Cond.selects RX10 yX10_lastHand yX10_lastHand ∈ mm_GW ∧ Cond.initialized yX10_lastHand.cls ∈ mm_GW ∧ Cond.code yX10_lastHand cX10_lastHand 6 (some .int) ∈ mm_GW ∧ (yX10_lastHand.cls ≠ "java/lang/invoke/MethodHandle" ∧ yX10_lastHand.cls ≠ "java/lang/invoke/VarHandle") ∧ (parseMethodDescriptor yX10_lastHand.desc).map (fun d => d.parameters.length) = some 2 := ⟨mm_g5 64 (by decide +kernel) rfl, mm_g5 65 (by decide +kernel) rfl, mm_g1 1 (by decide +kernel) rfl, mc_10_lastHand, ⟨by decide +kernel, by decide +kernel⟩, by decide +kernel⟩
def M10_night : mm_M := (RX10, yX10_night, cX10_night, 3, (some .int), 3)
theorem mc_10_night : Cond.code yX10_night cX10_night 3 (some .int) ∈ mm_GW := mm_g4 121 (by decide +kernel) rfl
theorem ms_10_night : Cond.instanceMethod yX10_night ∈ mm_GW ∧ Cond.selects RX10 yX10_night yX10_night ∈ mm_GW ∧ Cond.initialized yX10_night.cls ∈ mm_GW ∧ Cond.code yX10_night cX10_night 3 (some .int) ∈ mm_GW ∧ (yX10_night.cls ≠ "java/lang/invoke/MethodHandle" ∧ yX10_night.cls ≠ "java/lang/invoke/VarHandle") ∧ (parseMethodDescriptor yX10_night.desc).map (fun d => d.parameters.length) = some 2 := ⟨mm_g4 119 (by decide +kernel) rfl, mm_g4 120 (by decide +kernel) rfl, mm_g1 1 (by decide +kernel) rfl, mc_10_night, ⟨by decide +kernel, by decide +kernel⟩, by decide +kernel⟩
def M10_trade : mm_M := (RX10, yX10_trade, cX10_trade, 3, (some .int), 3)
theorem mc_10_trade : Cond.code yX10_trade cX10_trade 3 (some .int) ∈ mm_GW := mm_g4 22 (by decide +kernel) rfl
theorem ms_10_trade : Cond.instanceMethod yX10_trade ∈ mm_GW ∧ Cond.selects RX10 yX10_trade yX10_trade ∈ mm_GW ∧ Cond.initialized yX10_trade.cls ∈ mm_GW ∧ Cond.code yX10_trade cX10_trade 3 (some .int) ∈ mm_GW ∧ (yX10_trade.cls ≠ "java/lang/invoke/MethodHandle" ∧ yX10_trade.cls ≠ "java/lang/invoke/VarHandle") ∧ (parseMethodDescriptor yX10_trade.desc).map (fun d => d.parameters.length) = some 2 := ⟨mm_g4 20 (by decide +kernel) rfl, mm_g4 21 (by decide +kernel) rfl, mm_g1 1 (by decide +kernel) rfl, mc_10_trade, ⟨by decide +kernel, by decide +kernel⟩, by decide +kernel⟩
def M11_changeNow : mm_M := (RX11, yX11_changeNow, cX11_changeNow, 7, (some .int), 3)
theorem mc_11_changeNow : Cond.code yX11_changeNow cX11_changeNow 7 (some .int) ∈ mm_GW := mm_g6 232 (by decide +kernel) rfl
theorem ms_11_changeNow : Cond.instanceMethod yX11_changeNow ∈ mm_GW ∧ Cond.selects RX11 yX11_changeNow yX11_changeNow ∈ mm_GW ∧ Cond.initialized yX11_changeNow.cls ∈ mm_GW ∧ Cond.code yX11_changeNow cX11_changeNow 7 (some .int) ∈ mm_GW ∧ (yX11_changeNow.cls ≠ "java/lang/invoke/MethodHandle" ∧ yX11_changeNow.cls ≠ "java/lang/invoke/VarHandle") ∧ (parseMethodDescriptor yX11_changeNow.desc).map (fun d => d.parameters.length) = some 4 := ⟨mm_g6 231 (by decide +kernel) rfl, mm_g0 107 (by decide +kernel) rfl, mm_g1 13 (by decide +kernel) rfl, mc_11_changeNow, ⟨by decide +kernel, by decide +kernel⟩, by decide +kernel⟩
def M11_findLeast : mm_M := (RX11, yX11_findLeast, cX11_findLeast, 6, (some .boolean), 3)
theorem mc_11_findLeast : Cond.code yX11_findLeast cX11_findLeast 6 (some .boolean) ∈ mm_GW := mm_g7 97 (by decide +kernel) rfl
theorem ms_11_findLeast : Cond.instanceMethod yX11_findLeast ∈ mm_GW ∧ Cond.selects RX11 yX11_findLeast yX11_findLeast ∈ mm_GW ∧ Cond.initialized yX11_findLeast.cls ∈ mm_GW ∧ Cond.code yX11_findLeast cX11_findLeast 6 (some .boolean) ∈ mm_GW ∧ (yX11_findLeast.cls ≠ "java/lang/invoke/MethodHandle" ∧ yX11_findLeast.cls ≠ "java/lang/invoke/VarHandle") ∧ (parseMethodDescriptor yX11_findLeast.desc).map (fun d => d.parameters.length) = some 0 := ⟨mm_g7 96 (by decide +kernel) rfl, mm_g0 122 (by decide +kernel) rfl, mm_g1 13 (by decide +kernel) rfl, mc_11_findLeast, ⟨by decide +kernel, by decide +kernel⟩, by decide +kernel⟩
def M11_ringSum : mm_M := (RX11, yX11_ringSum, cX11_ringSum, 5, (some .int), 3)
theorem mc_11_ringSum : Cond.code yX11_ringSum cX11_ringSum 5 (some .int) ∈ mm_GW := mm_g7 123 (by decide +kernel) rfl
theorem ms_11_ringSum : Cond.instanceMethod yX11_ringSum ∈ mm_GW ∧ Cond.selects RX11 yX11_ringSum yX11_ringSum ∈ mm_GW ∧ Cond.initialized yX11_ringSum.cls ∈ mm_GW ∧ Cond.code yX11_ringSum cX11_ringSum 5 (some .int) ∈ mm_GW ∧ (yX11_ringSum.cls ≠ "java/lang/invoke/MethodHandle" ∧ yX11_ringSum.cls ≠ "java/lang/invoke/VarHandle") ∧ (parseMethodDescriptor yX11_ringSum.desc).map (fun d => d.parameters.length) = some 1 := ⟨mm_g7 122 (by decide +kernel) rfl, mm_g0 127 (by decide +kernel) rfl, mm_g1 13 (by decide +kernel) rfl, mc_11_ringSum, ⟨by decide +kernel, by decide +kernel⟩, by decide +kernel⟩
def M11_takeLaw : mm_M := (RX11, yX11_takeLaw, cX11_takeLaw, 4, (some .int), 3)
theorem mc_11_takeLaw : Cond.code yX11_takeLaw cX11_takeLaw 4 (some .int) ∈ mm_GW := mm_g6 175 (by decide +kernel) rfl
theorem ms_11_takeLaw : Cond.instanceMethod yX11_takeLaw ∈ mm_GW ∧ Cond.selects RX11 yX11_takeLaw yX11_takeLaw ∈ mm_GW ∧ Cond.initialized yX11_takeLaw.cls ∈ mm_GW ∧ Cond.code yX11_takeLaw cX11_takeLaw 4 (some .int) ∈ mm_GW ∧ (yX11_takeLaw.cls ≠ "java/lang/invoke/MethodHandle" ∧ yX11_takeLaw.cls ≠ "java/lang/invoke/VarHandle") ∧ (parseMethodDescriptor yX11_takeLaw.desc).map (fun d => d.parameters.length) = some 0 := ⟨mm_g6 174 (by decide +kernel) rfl, mm_g0 100 (by decide +kernel) rfl, mm_g1 13 (by decide +kernel) rfl, mc_11_takeLaw, ⟨by decide +kernel, by decide +kernel⟩, by decide +kernel⟩
def M11_takeLikes : mm_M := (RX11, yX11_takeLikes, cX11_takeLikes, 3, (some .int), 3)
theorem mc_11_takeLikes : Cond.code yX11_takeLikes cX11_takeLikes 3 (some .int) ∈ mm_GW := mm_g6 162 (by decide +kernel) rfl
theorem ms_11_takeLikes : Cond.instanceMethod yX11_takeLikes ∈ mm_GW ∧ Cond.selects RX11 yX11_takeLikes yX11_takeLikes ∈ mm_GW ∧ Cond.initialized yX11_takeLikes.cls ∈ mm_GW ∧ Cond.code yX11_takeLikes cX11_takeLikes 3 (some .int) ∈ mm_GW ∧ (yX11_takeLikes.cls ≠ "java/lang/invoke/MethodHandle" ∧ yX11_takeLikes.cls ≠ "java/lang/invoke/VarHandle") ∧ (parseMethodDescriptor yX11_takeLikes.desc).map (fun d => d.parameters.length) = some 0 := ⟨mm_g6 161 (by decide +kernel) rfl, mm_g0 98 (by decide +kernel) rfl, mm_g1 13 (by decide +kernel) rfl, mc_11_takeLikes, ⟨by decide +kernel, by decide +kernel⟩, by decide +kernel⟩
def M11_takePerson : mm_M := (RX11, yX11_takePerson, cX11_takePerson, 4, (some .int), 3)
theorem mc_11_takePerson : Cond.code yX11_takePerson cX11_takePerson 4 (some .int) ∈ mm_GW := mm_g6 158 (by decide +kernel) rfl
theorem ms_11_takePerson : Cond.instanceMethod yX11_takePerson ∈ mm_GW ∧ Cond.selects RX11 yX11_takePerson yX11_takePerson ∈ mm_GW ∧ Cond.initialized yX11_takePerson.cls ∈ mm_GW ∧ Cond.code yX11_takePerson cX11_takePerson 4 (some .int) ∈ mm_GW ∧ (yX11_takePerson.cls ≠ "java/lang/invoke/MethodHandle" ∧ yX11_takePerson.cls ≠ "java/lang/invoke/VarHandle") ∧ (parseMethodDescriptor yX11_takePerson.desc).map (fun d => d.parameters.length) = some 0 := ⟨mm_g6 157 (by decide +kernel) rfl, mm_g0 97 (by decide +kernel) rfl, mm_g1 13 (by decide +kernel) rfl, mc_11_takePerson, ⟨by decide +kernel, by decide +kernel⟩, by decide +kernel⟩
def M11_takeTrade : mm_M := (RX11, yX11_takeTrade, cX11_takeTrade, 4, (some .int), 3)
theorem mc_11_takeTrade : Cond.code yX11_takeTrade cX11_takeTrade 4 (some .int) ∈ mm_GW := mm_g6 144 (by decide +kernel) rfl
theorem ms_11_takeTrade : Cond.instanceMethod yX11_takeTrade ∈ mm_GW ∧ Cond.selects RX11 yX11_takeTrade yX11_takeTrade ∈ mm_GW ∧ Cond.initialized yX11_takeTrade.cls ∈ mm_GW ∧ Cond.code yX11_takeTrade cX11_takeTrade 4 (some .int) ∈ mm_GW ∧ (yX11_takeTrade.cls ≠ "java/lang/invoke/MethodHandle" ∧ yX11_takeTrade.cls ≠ "java/lang/invoke/VarHandle") ∧ (parseMethodDescriptor yX11_takeTrade.desc).map (fun d => d.parameters.length) = some 0 := ⟨mm_g6 143 (by decide +kernel) rfl, mm_g0 94 (by decide +kernel) rfl, mm_g1 13 (by decide +kernel) rfl, mc_11_takeTrade, ⟨by decide +kernel, by decide +kernel⟩, by decide +kernel⟩
def M11_yearNow : mm_M := (RX11, yX11_yearNow, cX11_yearNow, 5, (some .int), 3)
theorem mc_11_yearNow : Cond.code yX11_yearNow cX11_yearNow 5 (some .int) ∈ mm_GW := mm_g7 39 (by decide +kernel) rfl
theorem ms_11_yearNow : Cond.instanceMethod yX11_yearNow ∈ mm_GW ∧ Cond.selects RX11 yX11_yearNow yX11_yearNow ∈ mm_GW ∧ Cond.initialized yX11_yearNow.cls ∈ mm_GW ∧ Cond.code yX11_yearNow cX11_yearNow 5 (some .int) ∈ mm_GW ∧ (yX11_yearNow.cls ≠ "java/lang/invoke/MethodHandle" ∧ yX11_yearNow.cls ≠ "java/lang/invoke/VarHandle") ∧ (parseMethodDescriptor yX11_yearNow.desc).map (fun d => d.parameters.length) = some 0 := ⟨mm_g7 38 (by decide +kernel) rfl, mm_g0 113 (by decide +kernel) rfl, mm_g1 13 (by decide +kernel) rfl, mc_11_yearNow, ⟨by decide +kernel, by decide +kernel⟩, by decide +kernel⟩
def M2_bearChildren : mm_M := (RX2, yX2_bearChildren, cX2_bearChildren, 3, none, 3)
theorem mc_2_bearChildren : Cond.code yX2_bearChildren cX2_bearChildren 3 none ∈ mm_GW := mm_g4 193 (by decide +kernel) rfl
theorem ms_2_bearChildren : Cond.instanceMethod yX2_bearChildren ∈ mm_GW ∧ Cond.selects RX2 yX2_bearChildren yX2_bearChildren ∈ mm_GW ∧ Cond.initialized yX2_bearChildren.cls ∈ mm_GW ∧ Cond.code yX2_bearChildren cX2_bearChildren 3 none ∈ mm_GW ∧ (yX2_bearChildren.cls ≠ "java/lang/invoke/MethodHandle" ∧ yX2_bearChildren.cls ≠ "java/lang/invoke/VarHandle") ∧ (parseMethodDescriptor yX2_bearChildren.desc).map (fun d => d.parameters.length) = some 1 := ⟨mm_g4 192 (by decide +kernel) rfl, mm_g0 64 (by decide +kernel) rfl, mm_g1 10 (by decide +kernel) rfl, mc_2_bearChildren, ⟨by decide +kernel, by decide +kernel⟩, by decide +kernel⟩
def M2_beginChange : mm_M := (RX2, yX2_beginChange, cX2_beginChange, 7, (some .int), 3)
theorem mc_2_beginChange : Cond.code yX2_beginChange cX2_beginChange 7 (some .int) ∈ mm_GW := mm_g4 71 (by decide +kernel) rfl
theorem ms_2_beginChange : Cond.instanceMethod yX2_beginChange ∈ mm_GW ∧ Cond.selects RX2 yX2_beginChange yX2_beginChange ∈ mm_GW ∧ Cond.initialized yX2_beginChange.cls ∈ mm_GW ∧ Cond.code yX2_beginChange cX2_beginChange 7 (some .int) ∈ mm_GW ∧ (yX2_beginChange.cls ≠ "java/lang/invoke/MethodHandle" ∧ yX2_beginChange.cls ≠ "java/lang/invoke/VarHandle") ∧ (parseMethodDescriptor yX2_beginChange.desc).map (fun d => d.parameters.length) = some 4 := ⟨mm_g4 70 (by decide +kernel) rfl, mm_g0 44 (by decide +kernel) rfl, mm_g1 10 (by decide +kernel) rfl, mc_2_beginChange, ⟨by decide +kernel, by decide +kernel⟩, by decide +kernel⟩
def M2_deadTrades : mm_M := (RX2, yX2_deadTrades, cX2_deadTrades, 3, (some .int), 3)
theorem mc_2_deadTrades : Cond.code yX2_deadTrades cX2_deadTrades 3 (some .int) ∈ mm_GW := mm_g4 14 (by decide +kernel) rfl
theorem ms_2_deadTrades : Cond.instanceMethod yX2_deadTrades ∈ mm_GW ∧ Cond.selects RX2 yX2_deadTrades yX2_deadTrades ∈ mm_GW ∧ Cond.initialized yX2_deadTrades.cls ∈ mm_GW ∧ Cond.code yX2_deadTrades cX2_deadTrades 3 (some .int) ∈ mm_GW ∧ (yX2_deadTrades.cls ≠ "java/lang/invoke/MethodHandle" ∧ yX2_deadTrades.cls ≠ "java/lang/invoke/VarHandle") ∧ (parseMethodDescriptor yX2_deadTrades.desc).map (fun d => d.parameters.length) = some 0 := ⟨mm_g4 13 (by decide +kernel) rfl, mm_g0 37 (by decide +kernel) rfl, mm_g1 10 (by decide +kernel) rfl, mc_2_deadTrades, ⟨by decide +kernel, by decide +kernel⟩, by decide +kernel⟩
def M2_leaveAside : mm_M := (RX2, yX2_leaveAside, cX2_leaveAside, 3, none, 3)
theorem mc_2_leaveAside : Cond.code yX2_leaveAside cX2_leaveAside 3 none ∈ mm_GW := mm_g4 164 (by decide +kernel) rfl
theorem ms_2_leaveAside : Cond.instanceMethod yX2_leaveAside ∈ mm_GW ∧ Cond.selects RX2 yX2_leaveAside yX2_leaveAside ∈ mm_GW ∧ Cond.initialized yX2_leaveAside.cls ∈ mm_GW ∧ Cond.code yX2_leaveAside cX2_leaveAside 3 none ∈ mm_GW ∧ (yX2_leaveAside.cls ≠ "java/lang/invoke/MethodHandle" ∧ yX2_leaveAside.cls ≠ "java/lang/invoke/VarHandle") ∧ (parseMethodDescriptor yX2_leaveAside.desc).map (fun d => d.parameters.length) = some 2 := ⟨mm_g4 163 (by decide +kernel) rfl, mm_g0 59 (by decide +kernel) rfl, mm_g1 10 (by decide +kernel) rfl, mc_2_leaveAside, ⟨by decide +kernel, by decide +kernel⟩, by decide +kernel⟩
def M3_fillCosts : mm_M := (RX3, yX3_fillCosts, cX3_fillCosts, 3, none, 3)
theorem mc_3_fillCosts : Cond.code yX3_fillCosts cX3_fillCosts 3 none ∈ mm_GW := mm_g4 234 (by decide +kernel) rfl
theorem ms_3_fillCosts : Cond.instanceMethod yX3_fillCosts ∈ mm_GW ∧ Cond.selects RX3 yX3_fillCosts yX3_fillCosts ∈ mm_GW ∧ Cond.initialized yX3_fillCosts.cls ∈ mm_GW ∧ Cond.code yX3_fillCosts cX3_fillCosts 3 none ∈ mm_GW ∧ (yX3_fillCosts.cls ≠ "java/lang/invoke/MethodHandle" ∧ yX3_fillCosts.cls ≠ "java/lang/invoke/VarHandle") ∧ (parseMethodDescriptor yX3_fillCosts.desc).map (fun d => d.parameters.length) = some 0 := ⟨mm_g4 233 (by decide +kernel) rfl, mm_g0 69 (by decide +kernel) rfl, mm_g1 11 (by decide +kernel) rfl, mc_3_fillCosts, ⟨by decide +kernel, by decide +kernel⟩, by decide +kernel⟩
def M3_fillSums : mm_M := (RX3, yX3_fillSums, cX3_fillSums, 5, none, 3)
theorem mc_3_fillSums : Cond.code yX3_fillSums cX3_fillSums 5 none ∈ mm_GW := mm_g5 8 (by decide +kernel) rfl
theorem ms_3_fillSums : Cond.instanceMethod yX3_fillSums ∈ mm_GW ∧ Cond.selects RX3 yX3_fillSums yX3_fillSums ∈ mm_GW ∧ Cond.initialized yX3_fillSums.cls ∈ mm_GW ∧ Cond.code yX3_fillSums cX3_fillSums 5 none ∈ mm_GW ∧ (yX3_fillSums.cls ≠ "java/lang/invoke/MethodHandle" ∧ yX3_fillSums.cls ≠ "java/lang/invoke/VarHandle") ∧ (parseMethodDescriptor yX3_fillSums.desc).map (fun d => d.parameters.length) = some 0 := ⟨mm_g5 7 (by decide +kernel) rfl, mm_g0 71 (by decide +kernel) rfl, mm_g1 11 (by decide +kernel) rfl, mc_3_fillSums, ⟨by decide +kernel, by decide +kernel⟩, by decide +kernel⟩
def M3_giveTrades : mm_M := (RX3, yX3_giveTrades, cX3_giveTrades, 5, none, 3)
theorem mc_3_giveTrades : Cond.code yX3_giveTrades cX3_giveTrades 5 none ∈ mm_GW := mm_g5 22 (by decide +kernel) rfl
theorem ms_3_giveTrades : Cond.instanceMethod yX3_giveTrades ∈ mm_GW ∧ Cond.selects RX3 yX3_giveTrades yX3_giveTrades ∈ mm_GW ∧ Cond.initialized yX3_giveTrades.cls ∈ mm_GW ∧ Cond.code yX3_giveTrades cX3_giveTrades 5 none ∈ mm_GW ∧ (yX3_giveTrades.cls ≠ "java/lang/invoke/MethodHandle" ∧ yX3_giveTrades.cls ≠ "java/lang/invoke/VarHandle") ∧ (parseMethodDescriptor yX3_giveTrades.desc).map (fun d => d.parameters.length) = some 0 := ⟨mm_g5 21 (by decide +kernel) rfl, mm_g0 74 (by decide +kernel) rfl, mm_g1 11 (by decide +kernel) rfl, mc_3_giveTrades, ⟨by decide +kernel, by decide +kernel⟩, by decide +kernel⟩
def M5_fillGains : mm_M := (RX5, yX5_fillGains, cX5_fillGains, 3, none, 3)
theorem mc_5_fillGains : Cond.code yX5_fillGains cX5_fillGains 3 none ∈ mm_GW := mm_g5 34 (by decide +kernel) rfl
theorem ms_5_fillGains : Cond.instanceMethod yX5_fillGains ∈ mm_GW ∧ Cond.selects RX5 yX5_fillGains yX5_fillGains ∈ mm_GW ∧ Cond.initialized yX5_fillGains.cls ∈ mm_GW ∧ Cond.code yX5_fillGains cX5_fillGains 3 none ∈ mm_GW ∧ (yX5_fillGains.cls ≠ "java/lang/invoke/MethodHandle" ∧ yX5_fillGains.cls ≠ "java/lang/invoke/VarHandle") ∧ (parseMethodDescriptor yX5_fillGains.desc).map (fun d => d.parameters.length) = some 0 := ⟨mm_g5 33 (by decide +kernel) rfl, mm_g0 76 (by decide +kernel) rfl, mm_g1 12 (by decide +kernel) rfl, mc_5_fillGains, ⟨by decide +kernel, by decide +kernel⟩, by decide +kernel⟩
def M8_makersOf : mm_M := (RX8, yX8_makersOf, cX8_makersOf, 3, (some .int), 3)
theorem mc_8_makersOf : Cond.code yX8_makersOf cX8_makersOf 3 (some .int) ∈ mm_GW := mm_g5 91 (by decide +kernel) rfl
theorem ms_8_makersOf : Cond.instanceMethod yX8_makersOf ∈ mm_GW ∧ Cond.selects RX8 yX8_makersOf yX8_makersOf ∈ mm_GW ∧ Cond.initialized yX8_makersOf.cls ∈ mm_GW ∧ Cond.code yX8_makersOf cX8_makersOf 3 (some .int) ∈ mm_GW ∧ (yX8_makersOf.cls ≠ "java/lang/invoke/MethodHandle" ∧ yX8_makersOf.cls ≠ "java/lang/invoke/VarHandle") ∧ (parseMethodDescriptor yX8_makersOf.desc).map (fun d => d.parameters.length) = some 2 := ⟨mm_g5 90 (by decide +kernel) rfl, mm_g0 82 (by decide +kernel) rfl, mm_g1 8 (by decide +kernel) rfl, mc_8_makersOf, ⟨by decide +kernel, by decide +kernel⟩, by decide +kernel⟩
def M9_tellLike : mm_M := (RX9, yX9_tellLike, cX9_tellLike, 6, none, 3)
theorem mc_9_tellLike : Cond.code yX9_tellLike cX9_tellLike 6 none ∈ mm_GW := mm_g3 169 (by decide +kernel) rfl
theorem ms_9_tellLike : Cond.instanceMethod yX9_tellLike ∈ mm_GW ∧ Cond.selects RX9 yX9_tellLike yX9_tellLike ∈ mm_GW ∧ Cond.initialized yX9_tellLike.cls ∈ mm_GW ∧ Cond.code yX9_tellLike cX9_tellLike 6 none ∈ mm_GW ∧ (yX9_tellLike.cls ≠ "java/lang/invoke/MethodHandle" ∧ yX9_tellLike.cls ≠ "java/lang/invoke/VarHandle") ∧ (parseMethodDescriptor yX9_tellLike.desc).map (fun d => d.parameters.length) = some 0 := ⟨mm_g3 168 (by decide +kernel) rfl, mm_g0 25 (by decide +kernel) rfl, mm_g1 9 (by decide +kernel) rfl, mc_9_tellLike, ⟨by decide +kernel, by decide +kernel⟩, by decide +kernel⟩
def M9_tellSkill : mm_M := (RX9, yX9_tellSkill, cX9_tellSkill, 4, none, 3)
theorem mc_9_tellSkill : Cond.code yX9_tellSkill cX9_tellSkill 4 none ∈ mm_GW := mm_g3 147 (by decide +kernel) rfl
theorem ms_9_tellSkill : Cond.instanceMethod yX9_tellSkill ∈ mm_GW ∧ Cond.selects RX9 yX9_tellSkill yX9_tellSkill ∈ mm_GW ∧ Cond.initialized yX9_tellSkill.cls ∈ mm_GW ∧ Cond.code yX9_tellSkill cX9_tellSkill 4 none ∈ mm_GW ∧ (yX9_tellSkill.cls ≠ "java/lang/invoke/MethodHandle" ∧ yX9_tellSkill.cls ≠ "java/lang/invoke/VarHandle") ∧ (parseMethodDescriptor yX9_tellSkill.desc).map (fun d => d.parameters.length) = some 1 := ⟨mm_g3 146 (by decide +kernel) rfl, mm_g0 20 (by decide +kernel) rfl, mm_g1 9 (by decide +kernel) rfl, mc_9_tellSkill, ⟨by decide +kernel, by decide +kernel⟩, by decide +kernel⟩
def M10_change : mm_M := (RX10, yX10_change, cX10_change, 7, (some .int), 4)
theorem mc_10_change : Cond.code yX10_change cX10_change 7 (some .int) ∈ mm_GW := mm_g4 67 (by decide +kernel) rfl
theorem ms_10_change : Cond.instanceMethod yX10_change ∈ mm_GW ∧ Cond.selects RX10 yX10_change yX10_change ∈ mm_GW ∧ Cond.initialized yX10_change.cls ∈ mm_GW ∧ Cond.code yX10_change cX10_change 7 (some .int) ∈ mm_GW ∧ (yX10_change.cls ≠ "java/lang/invoke/MethodHandle" ∧ yX10_change.cls ≠ "java/lang/invoke/VarHandle") ∧ (parseMethodDescriptor yX10_change.desc).map (fun d => d.parameters.length) = some 4 := ⟨mm_g4 65 (by decide +kernel) rfl, mm_g4 66 (by decide +kernel) rfl, mm_g1 1 (by decide +kernel) rfl, mc_10_change, ⟨by decide +kernel, by decide +kernel⟩, by decide +kernel⟩
def M10_makers : mm_M := (RX10, yX10_makers, cX10_makers, 2, (some .int), 4)
theorem mc_10_makers : Cond.code yX10_makers cX10_makers 2 (some .int) ∈ mm_GW := mm_g5 87 (by decide +kernel) rfl
theorem ms_10_makers : Cond.instanceMethod yX10_makers ∈ mm_GW ∧ Cond.selects RX10 yX10_makers yX10_makers ∈ mm_GW ∧ Cond.initialized yX10_makers.cls ∈ mm_GW ∧ Cond.code yX10_makers cX10_makers 2 (some .int) ∈ mm_GW ∧ (yX10_makers.cls ≠ "java/lang/invoke/MethodHandle" ∧ yX10_makers.cls ≠ "java/lang/invoke/VarHandle") ∧ (parseMethodDescriptor yX10_makers.desc).map (fun d => d.parameters.length) = some 1 := ⟨mm_g5 85 (by decide +kernel) rfl, mm_g5 86 (by decide +kernel) rfl, mm_g1 1 (by decide +kernel) rfl, mc_10_makers, ⟨by decide +kernel, by decide +kernel⟩, by decide +kernel⟩
def M10_told : mm_M := (RX10, yX10_told, cX10_told, 2, (some .int), 4)
theorem mc_10_told : Cond.code yX10_told cX10_told 2 (some .int) ∈ mm_GW := mm_g4 10 (by decide +kernel) rfl
theorem ms_10_told : Cond.instanceMethod yX10_told ∈ mm_GW ∧ Cond.selects RX10 yX10_told yX10_told ∈ mm_GW ∧ Cond.initialized yX10_told.cls ∈ mm_GW ∧ Cond.code yX10_told cX10_told 2 (some .int) ∈ mm_GW ∧ (yX10_told.cls ≠ "java/lang/invoke/MethodHandle" ∧ yX10_told.cls ≠ "java/lang/invoke/VarHandle") ∧ (parseMethodDescriptor yX10_told.desc).map (fun d => d.parameters.length) = some 1 := ⟨mm_g4 8 (by decide +kernel) rfl, mm_g4 9 (by decide +kernel) rfl, mm_g1 1 (by decide +kernel) rfl, mc_10_told, ⟨by decide +kernel, by decide +kernel⟩, by decide +kernel⟩
def M11_change : mm_M := (RX11, yX11_change, cX11_change, 5, (some .int), 4)
theorem mc_11_change : Cond.code yX11_change cX11_change 5 (some .int) ∈ mm_GW := mm_g6 228 (by decide +kernel) rfl
theorem ms_11_change : Cond.instanceMethod yX11_change ∈ mm_GW ∧ Cond.selects RX11 yX11_change yX11_change ∈ mm_GW ∧ Cond.initialized yX11_change.cls ∈ mm_GW ∧ Cond.code yX11_change cX11_change 5 (some .int) ∈ mm_GW ∧ (yX11_change.cls ≠ "java/lang/invoke/MethodHandle" ∧ yX11_change.cls ≠ "java/lang/invoke/VarHandle") ∧ (parseMethodDescriptor yX11_change.desc).map (fun d => d.parameters.length) = some 4 := ⟨mm_g6 226 (by decide +kernel) rfl, mm_g6 227 (by decide +kernel) rfl, mm_g1 13 (by decide +kernel) rfl, mc_11_change, ⟨by decide +kernel, by decide +kernel⟩, by decide +kernel⟩
def M11_changed : mm_M := (RX11, yX11_changed, cX11_changed, 6, (some .int), 4)
theorem mc_11_changed : Cond.code yX11_changed cX11_changed 6 (some .int) ∈ mm_GW := mm_g7 93 (by decide +kernel) rfl
theorem ms_11_changed : Cond.instanceMethod yX11_changed ∈ mm_GW ∧ Cond.selects RX11 yX11_changed yX11_changed ∈ mm_GW ∧ Cond.initialized yX11_changed.cls ∈ mm_GW ∧ Cond.code yX11_changed cX11_changed 6 (some .int) ∈ mm_GW ∧ (yX11_changed.cls ≠ "java/lang/invoke/MethodHandle" ∧ yX11_changed.cls ≠ "java/lang/invoke/VarHandle") ∧ (parseMethodDescriptor yX11_changed.desc).map (fun d => d.parameters.length) = some 1 := ⟨mm_g7 91 (by decide +kernel) rfl, mm_g7 92 (by decide +kernel) rfl, mm_g1 13 (by decide +kernel) rfl, mc_11_changed, ⟨by decide +kernel, by decide +kernel⟩, by decide +kernel⟩
def M11_drawYear : mm_M := (RX11, yX11_drawYear, cX11_drawYear, 5, none, 4)
theorem mc_11_drawYear : Cond.code yX11_drawYear cX11_drawYear 5 none ∈ mm_GW := mm_g7 68 (by decide +kernel) rfl
theorem ms_11_drawYear : Cond.instanceMethod yX11_drawYear ∈ mm_GW ∧ Cond.selects RX11 yX11_drawYear yX11_drawYear ∈ mm_GW ∧ Cond.initialized yX11_drawYear.cls ∈ mm_GW ∧ Cond.code yX11_drawYear cX11_drawYear 5 none ∈ mm_GW ∧ (yX11_drawYear.cls ≠ "java/lang/invoke/MethodHandle" ∧ yX11_drawYear.cls ≠ "java/lang/invoke/VarHandle") ∧ (parseMethodDescriptor yX11_drawYear.desc).map (fun d => d.parameters.length) = some 1 := ⟨mm_g7 67 (by decide +kernel) rfl, mm_g0 118 (by decide +kernel) rfl, mm_g1 13 (by decide +kernel) rfl, mc_11_drawYear, ⟨by decide +kernel, by decide +kernel⟩, by decide +kernel⟩
def M11_findRing : mm_M := (RX11, yX11_findRing, cX11_findRing, 7, (some .int), 4)
theorem mc_11_findRing : Cond.code yX11_findRing cX11_findRing 7 (some .int) ∈ mm_GW := mm_g7 115 (by decide +kernel) rfl
theorem ms_11_findRing : Cond.instanceMethod yX11_findRing ∈ mm_GW ∧ Cond.selects RX11 yX11_findRing yX11_findRing ∈ mm_GW ∧ Cond.initialized yX11_findRing.cls ∈ mm_GW ∧ Cond.code yX11_findRing cX11_findRing 7 (some .int) ∈ mm_GW ∧ (yX11_findRing.cls ≠ "java/lang/invoke/MethodHandle" ∧ yX11_findRing.cls ≠ "java/lang/invoke/VarHandle") ∧ (parseMethodDescriptor yX11_findRing.desc).map (fun d => d.parameters.length) = some 0 := ⟨mm_g7 114 (by decide +kernel) rfl, mm_g0 125 (by decide +kernel) rfl, mm_g1 13 (by decide +kernel) rfl, mc_11_findRing, ⟨by decide +kernel, by decide +kernel⟩, by decide +kernel⟩
def M11_laws : mm_M := (RX11, yX11_laws, cX11_laws, 3, (some .int), 4)
theorem mc_11_laws : Cond.code yX11_laws cX11_laws 3 (some .int) ∈ mm_GW := mm_g6 170 (by decide +kernel) rfl
theorem ms_11_laws : Cond.instanceMethod yX11_laws ∈ mm_GW ∧ Cond.selects RX11 yX11_laws yX11_laws ∈ mm_GW ∧ Cond.initialized yX11_laws.cls ∈ mm_GW ∧ Cond.code yX11_laws cX11_laws 3 (some .int) ∈ mm_GW ∧ (yX11_laws.cls ≠ "java/lang/invoke/MethodHandle" ∧ yX11_laws.cls ≠ "java/lang/invoke/VarHandle") ∧ (parseMethodDescriptor yX11_laws.desc).map (fun d => d.parameters.length) = some 0 := ⟨mm_g6 168 (by decide +kernel) rfl, mm_g6 169 (by decide +kernel) rfl, mm_g1 13 (by decide +kernel) rfl, mc_11_laws, ⟨by decide +kernel, by decide +kernel⟩, by decide +kernel⟩
def M11_takeClause : mm_M := (RX11, yX11_takeClause, cX11_takeClause, 3, (some .int), 4)
theorem mc_11_takeClause : Cond.code yX11_takeClause cX11_takeClause 3 (some .int) ∈ mm_GW := mm_g6 120 (by decide +kernel) rfl
theorem ms_11_takeClause : Cond.instanceMethod yX11_takeClause ∈ mm_GW ∧ Cond.selects RX11 yX11_takeClause yX11_takeClause ∈ mm_GW ∧ Cond.initialized yX11_takeClause.cls ∈ mm_GW ∧ Cond.code yX11_takeClause cX11_takeClause 3 (some .int) ∈ mm_GW ∧ (yX11_takeClause.cls ≠ "java/lang/invoke/MethodHandle" ∧ yX11_takeClause.cls ≠ "java/lang/invoke/VarHandle") ∧ (parseMethodDescriptor yX11_takeClause.desc).map (fun d => d.parameters.length) = some 0 := ⟨mm_g6 119 (by decide +kernel) rfl, mm_g0 91 (by decide +kernel) rfl, mm_g1 13 (by decide +kernel) rfl, mc_11_takeClause, ⟨by decide +kernel, by decide +kernel⟩, by decide +kernel⟩
def M11_till : mm_M := (RX11, yX11_till, cX11_till, 4, (some .int), 4)
theorem mc_11_till : Cond.code yX11_till cX11_till 4 (some .int) ∈ mm_GW := mm_g7 139 (by decide +kernel) rfl
theorem ms_11_till : Cond.instanceMethod yX11_till ∈ mm_GW ∧ Cond.selects RX11 yX11_till yX11_till ∈ mm_GW ∧ Cond.initialized yX11_till.cls ∈ mm_GW ∧ Cond.code yX11_till cX11_till 4 (some .int) ∈ mm_GW ∧ (yX11_till.cls ≠ "java/lang/invoke/MethodHandle" ∧ yX11_till.cls ≠ "java/lang/invoke/VarHandle") ∧ (parseMethodDescriptor yX11_till.desc).map (fun d => d.parameters.length) = some 1 := ⟨mm_g7 137 (by decide +kernel) rfl, mm_g7 138 (by decide +kernel) rfl, mm_g1 13 (by decide +kernel) rfl, mc_11_till, ⟨by decide +kernel, by decide +kernel⟩, by decide +kernel⟩
def M11_year : mm_M := (RX11, yX11_year, cX11_year, 4, (some .int), 4)
theorem mc_11_year : Cond.code yX11_year cX11_year 4 (some .int) ∈ mm_GW := mm_g7 34 (by decide +kernel) rfl
theorem ms_11_year : Cond.instanceMethod yX11_year ∈ mm_GW ∧ Cond.selects RX11 yX11_year yX11_year ∈ mm_GW ∧ Cond.initialized yX11_year.cls ∈ mm_GW ∧ Cond.code yX11_year cX11_year 4 (some .int) ∈ mm_GW ∧ (yX11_year.cls ≠ "java/lang/invoke/MethodHandle" ∧ yX11_year.cls ≠ "java/lang/invoke/VarHandle") ∧ (parseMethodDescriptor yX11_year.desc).map (fun d => d.parameters.length) = some 1 := ⟨mm_g7 32 (by decide +kernel) rfl, mm_g7 33 (by decide +kernel) rfl, mm_g1 13 (by decide +kernel) rfl, mc_11_year, ⟨by decide +kernel, by decide +kernel⟩, by decide +kernel⟩
def M2_passYearOf : mm_M := (RX2, yX2_passYearOf, cX2_passYearOf, 7, none, 4)
theorem mc_2_passYearOf : Cond.code yX2_passYearOf cX2_passYearOf 7 none ∈ mm_GW := mm_g4 150 (by decide +kernel) rfl
theorem ms_2_passYearOf : Cond.instanceMethod yX2_passYearOf ∈ mm_GW ∧ Cond.selects RX2 yX2_passYearOf yX2_passYearOf ∈ mm_GW ∧ Cond.initialized yX2_passYearOf.cls ∈ mm_GW ∧ Cond.code yX2_passYearOf cX2_passYearOf 7 none ∈ mm_GW ∧ (yX2_passYearOf.cls ≠ "java/lang/invoke/MethodHandle" ∧ yX2_passYearOf.cls ≠ "java/lang/invoke/VarHandle") ∧ (parseMethodDescriptor yX2_passYearOf.desc).map (fun d => d.parameters.length) = some 1 := ⟨mm_g4 149 (by decide +kernel) rfl, mm_g0 56 (by decide +kernel) rfl, mm_g1 10 (by decide +kernel) rfl, mc_2_passYearOf, ⟨by decide +kernel, by decide +kernel⟩, by decide +kernel⟩
def M2_tryDrawnChange : mm_M := (RX2, yX2_tryDrawnChange, cX2_tryDrawnChange, 4, none, 4)
theorem mc_2_tryDrawnChange : Cond.code yX2_tryDrawnChange cX2_tryDrawnChange 4 none ∈ mm_GW := mm_g4 182 (by decide +kernel) rfl
theorem ms_2_tryDrawnChange : Cond.instanceMethod yX2_tryDrawnChange ∈ mm_GW ∧ Cond.selects RX2 yX2_tryDrawnChange yX2_tryDrawnChange ∈ mm_GW ∧ Cond.initialized yX2_tryDrawnChange.cls ∈ mm_GW ∧ Cond.code yX2_tryDrawnChange cX2_tryDrawnChange 4 none ∈ mm_GW ∧ (yX2_tryDrawnChange.cls ≠ "java/lang/invoke/MethodHandle" ∧ yX2_tryDrawnChange.cls ≠ "java/lang/invoke/VarHandle") ∧ (parseMethodDescriptor yX2_tryDrawnChange.desc).map (fun d => d.parameters.length) = some 1 := ⟨mm_g4 181 (by decide +kernel) rfl, mm_g0 62 (by decide +kernel) rfl, mm_g1 10 (by decide +kernel) rfl, mc_2_tryDrawnChange, ⟨by decide +kernel, by decide +kernel⟩, by decide +kernel⟩
def M3_solve : mm_M := (RX3, yX3_solve, cX3_solve, 2, (some .int), 4)
theorem mc_3_solve : Cond.code yX3_solve cX3_solve 2 (some .int) ∈ mm_GW := mm_g4 218 (by decide +kernel) rfl
theorem ms_3_solve : Cond.instanceMethod yX3_solve ∈ mm_GW ∧ Cond.selects RX3 yX3_solve yX3_solve ∈ mm_GW ∧ Cond.initialized yX3_solve.cls ∈ mm_GW ∧ Cond.code yX3_solve cX3_solve 2 (some .int) ∈ mm_GW ∧ (yX3_solve.cls ≠ "java/lang/invoke/MethodHandle" ∧ yX3_solve.cls ≠ "java/lang/invoke/VarHandle") ∧ (parseMethodDescriptor yX3_solve.desc).map (fun d => d.parameters.length) = some 0 := ⟨mm_g4 217 (by decide +kernel) rfl, mm_g0 66 (by decide +kernel) rfl, mm_g1 11 (by decide +kernel) rfl, mc_3_solve, ⟨by decide +kernel, by decide +kernel⟩, by decide +kernel⟩
def M4_sees : mm_M := (RX4, yX4_sees, cX4_sees, 3, (some .boolean), 4)
theorem mc_4_sees : Cond.code yX4_sees cX4_sees 3 (some .boolean) ∈ mm_GW := mm_g3 56 (by decide +kernel) rfl
theorem ms_4_sees : Cond.instanceMethod yX4_sees ∈ mm_GW ∧ Cond.selects RX4 yX4_sees yX4_sees ∈ mm_GW ∧ Cond.initialized yX4_sees.cls ∈ mm_GW ∧ Cond.code yX4_sees cX4_sees 3 (some .boolean) ∈ mm_GW ∧ (yX4_sees.cls ≠ "java/lang/invoke/MethodHandle" ∧ yX4_sees.cls ≠ "java/lang/invoke/VarHandle") ∧ (parseMethodDescriptor yX4_sees.desc).map (fun d => d.parameters.length) = some 1 := ⟨mm_g3 55 (by decide +kernel) rfl, mm_g0 12 (by decide +kernel) rfl, mm_g1 2 (by decide +kernel) rfl, mc_4_sees, ⟨by decide +kernel, by decide +kernel⟩, by decide +kernel⟩
def M8_countFits : mm_M := (RX8, yX8_countFits, cX8_countFits, 4, none, 4)
theorem mc_8_countFits : Cond.code yX8_countFits cX8_countFits 4 none ∈ mm_GW := mm_g5 101 (by decide +kernel) rfl
theorem ms_8_countFits : Cond.instanceMethod yX8_countFits ∈ mm_GW ∧ Cond.selects RX8 yX8_countFits yX8_countFits ∈ mm_GW ∧ Cond.initialized yX8_countFits.cls ∈ mm_GW ∧ Cond.code yX8_countFits cX8_countFits 4 none ∈ mm_GW ∧ (yX8_countFits.cls ≠ "java/lang/invoke/MethodHandle" ∧ yX8_countFits.cls ≠ "java/lang/invoke/VarHandle") ∧ (parseMethodDescriptor yX8_countFits.desc).map (fun d => d.parameters.length) = some 2 := ⟨mm_g5 100 (by decide +kernel) rfl, mm_g0 83 (by decide +kernel) rfl, mm_g1 8 (by decide +kernel) rfl, mc_8_countFits, ⟨by decide +kernel, by decide +kernel⟩, by decide +kernel⟩
def M9_tellPerson : mm_M := (RX9, yX9_tellPerson, cX9_tellPerson, 3, none, 4)
theorem mc_9_tellPerson : Cond.code yX9_tellPerson cX9_tellPerson 3 none ∈ mm_GW := mm_g3 143 (by decide +kernel) rfl
theorem ms_9_tellPerson : Cond.instanceMethod yX9_tellPerson ∈ mm_GW ∧ Cond.selects RX9 yX9_tellPerson yX9_tellPerson ∈ mm_GW ∧ Cond.initialized yX9_tellPerson.cls ∈ mm_GW ∧ Cond.code yX9_tellPerson cX9_tellPerson 3 none ∈ mm_GW ∧ (yX9_tellPerson.cls ≠ "java/lang/invoke/MethodHandle" ∧ yX9_tellPerson.cls ≠ "java/lang/invoke/VarHandle") ∧ (parseMethodDescriptor yX9_tellPerson.desc).map (fun d => d.parameters.length) = some 0 := ⟨mm_g3 142 (by decide +kernel) rfl, mm_g0 19 (by decide +kernel) rfl, mm_g1 9 (by decide +kernel) rfl, mc_9_tellPerson, ⟨by decide +kernel, by decide +kernel⟩, by decide +kernel⟩
def M10_changed : mm_M := (RX10, yX10_changed, cX10_changed, 3, (some .int), 5)
theorem mc_10_changed : Cond.code yX10_changed cX10_changed 3 (some .int) ∈ mm_GW := mm_g4 214 (by decide +kernel) rfl
theorem ms_10_changed : Cond.instanceMethod yX10_changed ∈ mm_GW ∧ Cond.selects RX10 yX10_changed yX10_changed ∈ mm_GW ∧ Cond.initialized yX10_changed.cls ∈ mm_GW ∧ Cond.code yX10_changed cX10_changed 3 (some .int) ∈ mm_GW ∧ (yX10_changed.cls ≠ "java/lang/invoke/MethodHandle" ∧ yX10_changed.cls ≠ "java/lang/invoke/VarHandle") ∧ (parseMethodDescriptor yX10_changed.desc).map (fun d => d.parameters.length) = some 1 := ⟨mm_g4 212 (by decide +kernel) rfl, mm_g4 213 (by decide +kernel) rfl, mm_g1 1 (by decide +kernel) rfl, mc_10_changed, ⟨by decide +kernel, by decide +kernel⟩, by decide +kernel⟩
def M10_fits : mm_M := (RX10, yX10_fits, cX10_fits, 3, (some .int), 5)
theorem mc_10_fits : Cond.code yX10_fits cX10_fits 3 (some .int) ∈ mm_GW := mm_g5 97 (by decide +kernel) rfl
theorem ms_10_fits : Cond.instanceMethod yX10_fits ∈ mm_GW ∧ Cond.selects RX10 yX10_fits yX10_fits ∈ mm_GW ∧ Cond.initialized yX10_fits.cls ∈ mm_GW ∧ Cond.code yX10_fits cX10_fits 3 (some .int) ∈ mm_GW ∧ (yX10_fits.cls ≠ "java/lang/invoke/MethodHandle" ∧ yX10_fits.cls ≠ "java/lang/invoke/VarHandle") ∧ (parseMethodDescriptor yX10_fits.desc).map (fun d => d.parameters.length) = some 2 := ⟨mm_g5 95 (by decide +kernel) rfl, mm_g5 96 (by decide +kernel) rfl, mm_g1 1 (by decide +kernel) rfl, mc_10_fits, ⟨by decide +kernel, by decide +kernel⟩, by decide +kernel⟩
def M11_compared : mm_M := (RX11, yX11_compared, cX11_compared, 6, (some .int), 5)
theorem mc_11_compared : Cond.code yX11_compared cX11_compared 6 (some .int) ∈ mm_GW := mm_g7 76 (by decide +kernel) rfl
theorem ms_11_compared : Cond.instanceMethod yX11_compared ∈ mm_GW ∧ Cond.selects RX11 yX11_compared yX11_compared ∈ mm_GW ∧ Cond.initialized yX11_compared.cls ∈ mm_GW ∧ Cond.code yX11_compared cX11_compared 6 (some .int) ∈ mm_GW ∧ (yX11_compared.cls ≠ "java/lang/invoke/MethodHandle" ∧ yX11_compared.cls ≠ "java/lang/invoke/VarHandle") ∧ (parseMethodDescriptor yX11_compared.desc).map (fun d => d.parameters.length) = some 3 := ⟨mm_g7 74 (by decide +kernel) rfl, mm_g7 75 (by decide +kernel) rfl, mm_g1 13 (by decide +kernel) rfl, mc_11_compared, ⟨by decide +kernel, by decide +kernel⟩, by decide +kernel⟩
def M11_drift : mm_M := (RX11, yX11_drift, cX11_drift, 4, (some .int), 5)
theorem mc_11_drift : Cond.code yX11_drift cX11_drift 4 (some .int) ∈ mm_GW := mm_g7 59 (by decide +kernel) rfl
theorem ms_11_drift : Cond.instanceMethod yX11_drift ∈ mm_GW ∧ Cond.selects RX11 yX11_drift yX11_drift ∈ mm_GW ∧ Cond.initialized yX11_drift.cls ∈ mm_GW ∧ Cond.code yX11_drift cX11_drift 4 (some .int) ∈ mm_GW ∧ (yX11_drift.cls ≠ "java/lang/invoke/MethodHandle" ∧ yX11_drift.cls ≠ "java/lang/invoke/VarHandle") ∧ (parseMethodDescriptor yX11_drift.desc).map (fun d => d.parameters.length) = some 2 := ⟨mm_g7 57 (by decide +kernel) rfl, mm_g7 58 (by decide +kernel) rfl, mm_g1 13 (by decide +kernel) rfl, mc_11_drift, ⟨by decide +kernel, by decide +kernel⟩, by decide +kernel⟩
def M11_ring : mm_M := (RX11, yX11_ring, cX11_ring, 3, (some .int), 5)
theorem mc_11_ring : Cond.code yX11_ring cX11_ring 3 (some .int) ∈ mm_GW := mm_g7 110 (by decide +kernel) rfl
theorem ms_11_ring : Cond.instanceMethod yX11_ring ∈ mm_GW ∧ Cond.selects RX11 yX11_ring yX11_ring ∈ mm_GW ∧ Cond.initialized yX11_ring.cls ∈ mm_GW ∧ Cond.code yX11_ring cX11_ring 3 (some .int) ∈ mm_GW ∧ (yX11_ring.cls ≠ "java/lang/invoke/MethodHandle" ∧ yX11_ring.cls ≠ "java/lang/invoke/VarHandle") ∧ (parseMethodDescriptor yX11_ring.desc).map (fun d => d.parameters.length) = some 1 := ⟨mm_g7 108 (by decide +kernel) rfl, mm_g7 109 (by decide +kernel) rfl, mm_g1 13 (by decide +kernel) rfl, mc_11_ring, ⟨by decide +kernel, by decide +kernel⟩, by decide +kernel⟩
def M11_town : mm_M := (RX11, yX11_town, cX11_town, 3, (some .int), 5)
theorem mc_11_town : Cond.code yX11_town cX11_town 3 (some .int) ∈ mm_GW := mm_g6 112 (by decide +kernel) rfl
theorem ms_11_town : Cond.instanceMethod yX11_town ∈ mm_GW ∧ Cond.selects RX11 yX11_town yX11_town ∈ mm_GW ∧ Cond.initialized yX11_town.cls ∈ mm_GW ∧ Cond.code yX11_town cX11_town 3 (some .int) ∈ mm_GW ∧ (yX11_town.cls ≠ "java/lang/invoke/MethodHandle" ∧ yX11_town.cls ≠ "java/lang/invoke/VarHandle") ∧ (parseMethodDescriptor yX11_town.desc).map (fun d => d.parameters.length) = some 0 := ⟨mm_g6 110 (by decide +kernel) rfl, mm_g6 111 (by decide +kernel) rfl, mm_g1 13 (by decide +kernel) rfl, mc_11_town, ⟨by decide +kernel, by decide +kernel⟩, by decide +kernel⟩
def M2_passYear : mm_M := (RX2, yX2_passYear, cX2_passYear, 2, none, 5)
theorem mc_2_passYear : Cond.code yX2_passYear cX2_passYear 2 none ∈ mm_GW := mm_g4 146 (by decide +kernel) rfl
theorem ms_2_passYear : Cond.instanceMethod yX2_passYear ∈ mm_GW ∧ Cond.selects RX2 yX2_passYear yX2_passYear ∈ mm_GW ∧ Cond.initialized yX2_passYear.cls ∈ mm_GW ∧ Cond.code yX2_passYear cX2_passYear 2 none ∈ mm_GW ∧ (yX2_passYear.cls ≠ "java/lang/invoke/MethodHandle" ∧ yX2_passYear.cls ≠ "java/lang/invoke/VarHandle") ∧ (parseMethodDescriptor yX2_passYear.desc).map (fun d => d.parameters.length) = some 0 := ⟨mm_g4 145 (by decide +kernel) rfl, mm_g0 55 (by decide +kernel) rfl, mm_g1 10 (by decide +kernel) rfl, mc_2_passYear, ⟨by decide +kernel, by decide +kernel⟩, by decide +kernel⟩
def M7_opens : mm_M := (RX7, yX7_opens, cX7_opens, 4, (some .boolean), 5)
theorem mc_7_opens : Cond.code yX7_opens cX7_opens 4 (some .boolean) ∈ mm_GW := mm_g3 222 (by decide +kernel) rfl
theorem ms_7_opens : Cond.instanceMethod yX7_opens ∈ mm_GW ∧ Cond.selects RX7 yX7_opens yX7_opens ∈ mm_GW ∧ Cond.initialized yX7_opens.cls ∈ mm_GW ∧ Cond.code yX7_opens cX7_opens 4 (some .boolean) ∈ mm_GW ∧ (yX7_opens.cls ≠ "java/lang/invoke/MethodHandle" ∧ yX7_opens.cls ≠ "java/lang/invoke/VarHandle") ∧ (parseMethodDescriptor yX7_opens.desc).map (fun d => d.parameters.length) = some 3 := ⟨mm_g3 221 (by decide +kernel) rfl, mm_g0 35 (by decide +kernel) rfl, mm_g1 6 (by decide +kernel) rfl, mc_7_opens, ⟨by decide +kernel, by decide +kernel⟩, by decide +kernel⟩
def M9_kindHere : mm_M := (RX9, yX9_kindHere, cX9_kindHere, 1, (some .int), 5)
theorem mc_9_kindHere : Cond.code yX9_kindHere cX9_kindHere 1 (some .int) ∈ mm_GW := mm_g3 121 (by decide +kernel) rfl
theorem ms_9_kindHere : Cond.instanceMethod yX9_kindHere ∈ mm_GW ∧ Cond.selects RX9 yX9_kindHere yX9_kindHere ∈ mm_GW ∧ Cond.initialized yX9_kindHere.cls ∈ mm_GW ∧ Cond.code yX9_kindHere cX9_kindHere 1 (some .int) ∈ mm_GW ∧ (yX9_kindHere.cls ≠ "java/lang/invoke/MethodHandle" ∧ yX9_kindHere.cls ≠ "java/lang/invoke/VarHandle") ∧ (parseMethodDescriptor yX9_kindHere.desc).map (fun d => d.parameters.length) = some 0 := ⟨mm_g3 120 (by decide +kernel) rfl, mm_g0 16 (by decide +kernel) rfl, mm_g1 9 (by decide +kernel) rfl, mc_9_kindHere, ⟨by decide +kernel, by decide +kernel⟩, by decide +kernel⟩
def M10_till : mm_M := (RX10, yX10_till, cX10_till, 3, (some .int), 6)
theorem mc_10_till : Cond.code yX10_till cX10_till 3 (some .int) ∈ mm_GW := mm_g5 74 (by decide +kernel) rfl
theorem ms_10_till : Cond.instanceMethod yX10_till ∈ mm_GW ∧ Cond.selects RX10 yX10_till yX10_till ∈ mm_GW ∧ Cond.initialized yX10_till.cls ∈ mm_GW ∧ Cond.code yX10_till cX10_till 3 (some .int) ∈ mm_GW ∧ (yX10_till.cls ≠ "java/lang/invoke/MethodHandle" ∧ yX10_till.cls ≠ "java/lang/invoke/VarHandle") ∧ (parseMethodDescriptor yX10_till.desc).map (fun d => d.parameters.length) = some 1 := ⟨mm_g5 72 (by decide +kernel) rfl, mm_g5 73 (by decide +kernel) rfl, mm_g1 1 (by decide +kernel) rfl, mc_10_till, ⟨by decide +kernel, by decide +kernel⟩, by decide +kernel⟩
def M10_year : mm_M := (RX10, yX10_year, cX10_year, 3, (some .int), 6)
theorem mc_10_year : Cond.code yX10_year cX10_year 3 (some .int) ∈ mm_GW := mm_g4 142 (by decide +kernel) rfl
theorem ms_10_year : Cond.instanceMethod yX10_year ∈ mm_GW ∧ Cond.selects RX10 yX10_year yX10_year ∈ mm_GW ∧ Cond.initialized yX10_year.cls ∈ mm_GW ∧ Cond.code yX10_year cX10_year 3 (some .int) ∈ mm_GW ∧ (yX10_year.cls ≠ "java/lang/invoke/MethodHandle" ∧ yX10_year.cls ≠ "java/lang/invoke/VarHandle") ∧ (parseMethodDescriptor yX10_year.desc).map (fun d => d.parameters.length) = some 1 := ⟨mm_g4 140 (by decide +kernel) rfl, mm_g4 141 (by decide +kernel) rfl, mm_g1 1 (by decide +kernel) rfl, mc_10_year, ⟨by decide +kernel, by decide +kernel⟩, by decide +kernel⟩
def M2_passDrawnYears : mm_M := (RX2, yX2_passDrawnYears, cX2_passDrawnYears, 5, none, 6)
theorem mc_2_passDrawnYears : Cond.code yX2_passDrawnYears cX2_passDrawnYears 5 none ∈ mm_GW := mm_g4 178 (by decide +kernel) rfl
theorem ms_2_passDrawnYears : Cond.instanceMethod yX2_passDrawnYears ∈ mm_GW ∧ Cond.selects RX2 yX2_passDrawnYears yX2_passDrawnYears ∈ mm_GW ∧ Cond.initialized yX2_passDrawnYears.cls ∈ mm_GW ∧ Cond.code yX2_passDrawnYears cX2_passDrawnYears 5 none ∈ mm_GW ∧ (yX2_passDrawnYears.cls ≠ "java/lang/invoke/MethodHandle" ∧ yX2_passDrawnYears.cls ≠ "java/lang/invoke/VarHandle") ∧ (parseMethodDescriptor yX2_passDrawnYears.desc).map (fun d => d.parameters.length) = some 2 := ⟨mm_g4 177 (by decide +kernel) rfl, mm_g0 61 (by decide +kernel) rfl, mm_g1 10 (by decide +kernel) rfl, mc_2_passDrawnYears, ⟨by decide +kernel, by decide +kernel⟩, by decide +kernel⟩
def M7_readClause : mm_M := (RX7, yX7_readClause, cX7_readClause, 2, none, 6)
theorem mc_7_readClause : Cond.code yX7_readClause cX7_readClause 2 none ∈ mm_GW := mm_g3 217 (by decide +kernel) rfl
theorem ms_7_readClause : Cond.instanceMethod yX7_readClause ∈ mm_GW ∧ Cond.selects RX7 yX7_readClause yX7_readClause ∈ mm_GW ∧ Cond.initialized yX7_readClause.cls ∈ mm_GW ∧ Cond.code yX7_readClause cX7_readClause 2 none ∈ mm_GW ∧ (yX7_readClause.cls ≠ "java/lang/invoke/MethodHandle" ∧ yX7_readClause.cls ≠ "java/lang/invoke/VarHandle") ∧ (parseMethodDescriptor yX7_readClause.desc).map (fun d => d.parameters.length) = some 1 := ⟨mm_g3 216 (by decide +kernel) rfl, mm_g0 34 (by decide +kernel) rfl, mm_g1 6 (by decide +kernel) rfl, mc_7_readClause, ⟨by decide +kernel, by decide +kernel⟩, by decide +kernel⟩
def M9_tellTrade : mm_M := (RX9, yX9_tellTrade, cX9_tellTrade, 2, none, 6)
theorem mc_9_tellTrade : Cond.code yX9_tellTrade cX9_tellTrade 2 none ∈ mm_GW := mm_g3 108 (by decide +kernel) rfl
theorem ms_9_tellTrade : Cond.instanceMethod yX9_tellTrade ∈ mm_GW ∧ Cond.selects RX9 yX9_tellTrade yX9_tellTrade ∈ mm_GW ∧ Cond.initialized yX9_tellTrade.cls ∈ mm_GW ∧ Cond.code yX9_tellTrade cX9_tellTrade 2 none ∈ mm_GW ∧ (yX9_tellTrade.cls ≠ "java/lang/invoke/MethodHandle" ∧ yX9_tellTrade.cls ≠ "java/lang/invoke/VarHandle") ∧ (parseMethodDescriptor yX9_tellTrade.desc).map (fun d => d.parameters.length) = some 0 := ⟨mm_g3 107 (by decide +kernel) rfl, mm_g0 13 (by decide +kernel) rfl, mm_g1 9 (by decide +kernel) rfl, mc_9_tellTrade, ⟨by decide +kernel, by decide +kernel⟩, by decide +kernel⟩
def M10_compared : mm_M := (RX10, yX10_compared, cX10_compared, 4, (some .int), 7)
theorem mc_10_compared : Cond.code yX10_compared cX10_compared 4 (some .int) ∈ mm_GW := mm_g4 201 (by decide +kernel) rfl
theorem ms_10_compared : Cond.instanceMethod yX10_compared ∈ mm_GW ∧ Cond.selects RX10 yX10_compared yX10_compared ∈ mm_GW ∧ Cond.initialized yX10_compared.cls ∈ mm_GW ∧ Cond.code yX10_compared cX10_compared 4 (some .int) ∈ mm_GW ∧ (yX10_compared.cls ≠ "java/lang/invoke/MethodHandle" ∧ yX10_compared.cls ≠ "java/lang/invoke/VarHandle") ∧ (parseMethodDescriptor yX10_compared.desc).map (fun d => d.parameters.length) = some 3 := ⟨mm_g4 199 (by decide +kernel) rfl, mm_g4 200 (by decide +kernel) rfl, mm_g1 1 (by decide +kernel) rfl, mc_10_compared, ⟨by decide +kernel, by decide +kernel⟩, by decide +kernel⟩
def M10_drift : mm_M := (RX10, yX10_drift, cX10_drift, 3, (some .int), 7)
theorem mc_10_drift : Cond.code yX10_drift cX10_drift 3 (some .int) ∈ mm_GW := mm_g4 174 (by decide +kernel) rfl
theorem ms_10_drift : Cond.instanceMethod yX10_drift ∈ mm_GW ∧ Cond.selects RX10 yX10_drift yX10_drift ∈ mm_GW ∧ Cond.initialized yX10_drift.cls ∈ mm_GW ∧ Cond.code yX10_drift cX10_drift 3 (some .int) ∈ mm_GW ∧ (yX10_drift.cls ≠ "java/lang/invoke/MethodHandle" ∧ yX10_drift.cls ≠ "java/lang/invoke/VarHandle") ∧ (parseMethodDescriptor yX10_drift.desc).map (fun d => d.parameters.length) = some 2 := ⟨mm_g4 172 (by decide +kernel) rfl, mm_g4 173 (by decide +kernel) rfl, mm_g1 1 (by decide +kernel) rfl, mc_10_drift, ⟨by decide +kernel, by decide +kernel⟩, by decide +kernel⟩
def M7_readFrom : mm_M := (RX7, yX7_readFrom, cX7_readFrom, 3, (some .int), 7)
theorem mc_7_readFrom : Cond.code yX7_readFrom cX7_readFrom 3 (some .int) ∈ mm_GW := mm_g3 212 (by decide +kernel) rfl
theorem ms_7_readFrom : Cond.instanceMethod yX7_readFrom ∈ mm_GW ∧ Cond.selects RX7 yX7_readFrom yX7_readFrom ∈ mm_GW ∧ Cond.initialized yX7_readFrom.cls ∈ mm_GW ∧ Cond.code yX7_readFrom cX7_readFrom 3 (some .int) ∈ mm_GW ∧ (yX7_readFrom.cls ≠ "java/lang/invoke/MethodHandle" ∧ yX7_readFrom.cls ≠ "java/lang/invoke/VarHandle") ∧ (parseMethodDescriptor yX7_readFrom.desc).map (fun d => d.parameters.length) = some 1 := ⟨mm_g3 211 (by decide +kernel) rfl, mm_g0 33 (by decide +kernel) rfl, mm_g1 6 (by decide +kernel) rfl, mc_7_readFrom, ⟨by decide +kernel, by decide +kernel⟩, by decide +kernel⟩
def M9_tellAll : mm_M := (RX9, yX9_tellAll, cX9_tellAll, 2, none, 7)
theorem mc_9_tellAll : Cond.code yX9_tellAll cX9_tellAll 2 none ∈ mm_GW := mm_g3 38 (by decide +kernel) rfl
theorem ms_9_tellAll : Cond.instanceMethod yX9_tellAll ∈ mm_GW ∧ Cond.selects RX9 yX9_tellAll yX9_tellAll ∈ mm_GW ∧ Cond.initialized yX9_tellAll.cls ∈ mm_GW ∧ Cond.code yX9_tellAll cX9_tellAll 2 none ∈ mm_GW ∧ (yX9_tellAll.cls ≠ "java/lang/invoke/MethodHandle" ∧ yX9_tellAll.cls ≠ "java/lang/invoke/VarHandle") ∧ (parseMethodDescriptor yX9_tellAll.desc).map (fun d => d.parameters.length) = some 0 := ⟨mm_g3 37 (by decide +kernel) rfl, mm_g0 8 (by decide +kernel) rfl, mm_g1 9 (by decide +kernel) rfl, mc_9_tellAll, ⟨by decide +kernel, by decide +kernel⟩, by decide +kernel⟩
def M10_laws : mm_M := (RX10, yX10_laws, cX10_laws, 2, (some .int), 8)
theorem mc_10_laws : Cond.code yX10_laws cX10_laws 2 (some .int) ∈ mm_GW := mm_g3 207 (by decide +kernel) rfl
theorem ms_10_laws : Cond.instanceMethod yX10_laws ∈ mm_GW ∧ Cond.selects RX10 yX10_laws yX10_laws ∈ mm_GW ∧ Cond.initialized yX10_laws.cls ∈ mm_GW ∧ Cond.code yX10_laws cX10_laws 2 (some .int) ∈ mm_GW ∧ (yX10_laws.cls ≠ "java/lang/invoke/MethodHandle" ∧ yX10_laws.cls ≠ "java/lang/invoke/VarHandle") ∧ (parseMethodDescriptor yX10_laws.desc).map (fun d => d.parameters.length) = some 0 := ⟨mm_g3 205 (by decide +kernel) rfl, mm_g3 206 (by decide +kernel) rfl, mm_g1 1 (by decide +kernel) rfl, mc_10_laws, ⟨by decide +kernel, by decide +kernel⟩, by decide +kernel⟩
def M10_town : mm_M := (RX10, yX10_town, cX10_town, 1, (some .int), 8)
theorem mc_10_town : Cond.code yX10_town cX10_town 1 (some .int) ∈ mm_GW := mm_g3 19 (by decide +kernel) rfl
theorem ms_10_town : Cond.instanceMethod yX10_town ∈ mm_GW ∧ Cond.selects RX10 yX10_town yX10_town ∈ mm_GW ∧ Cond.initialized yX10_town.cls ∈ mm_GW ∧ Cond.code yX10_town cX10_town 1 (some .int) ∈ mm_GW ∧ (yX10_town.cls ≠ "java/lang/invoke/MethodHandle" ∧ yX10_town.cls ≠ "java/lang/invoke/VarHandle") ∧ (parseMethodDescriptor yX10_town.desc).map (fun d => d.parameters.length) = some 0 := ⟨mm_g3 17 (by decide +kernel) rfl, mm_g3 18 (by decide +kernel) rfl, mm_g1 1 (by decide +kernel) rfl, mc_10_town, ⟨by decide +kernel, by decide +kernel⟩, by decide +kernel⟩
def M5_search : mm_M := (RX5, yX5_search, cX5_search, 3, none, 8)
theorem mc_5_search : Cond.code yX5_search cX5_search 3 none ∈ mm_GW := mm_g5 30 (by decide +kernel) rfl
theorem ms_5_search : Cond.instanceMethod yX5_search ∈ mm_GW ∧ Cond.selects RX5 yX5_search yX5_search ∈ mm_GW ∧ Cond.initialized yX5_search.cls ∈ mm_GW ∧ Cond.code yX5_search cX5_search 3 none ∈ mm_GW ∧ (yX5_search.cls ≠ "java/lang/invoke/MethodHandle" ∧ yX5_search.cls ≠ "java/lang/invoke/VarHandle") ∧ (parseMethodDescriptor yX5_search.desc).map (fun d => d.parameters.length) = some 0 := ⟨mm_g5 29 (by decide +kernel) rfl, mm_g0 75 (by decide +kernel) rfl, mm_g1 12 (by decide +kernel) rfl, mc_5_search, ⟨by decide +kernel, by decide +kernel⟩, by decide +kernel⟩
def M10_ring : mm_M := (RX10, yX10_ring, cX10_ring, 2, (some .int), 9)
theorem mc_10_ring : Cond.code yX10_ring cX10_ring 2 (some .int) ∈ mm_GW := mm_g5 26 (by decide +kernel) rfl
theorem ms_10_ring : Cond.instanceMethod yX10_ring ∈ mm_GW ∧ Cond.selects RX10 yX10_ring yX10_ring ∈ mm_GW ∧ Cond.initialized yX10_ring.cls ∈ mm_GW ∧ Cond.code yX10_ring cX10_ring 2 (some .int) ∈ mm_GW ∧ (yX10_ring.cls ≠ "java/lang/invoke/MethodHandle" ∧ yX10_ring.cls ≠ "java/lang/invoke/VarHandle") ∧ (parseMethodDescriptor yX10_ring.desc).map (fun d => d.parameters.length) = some 1 := ⟨mm_g5 24 (by decide +kernel) rfl, mm_g5 25 (by decide +kernel) rfl, mm_g1 1 (by decide +kernel) rfl, mc_10_ring, ⟨by decide +kernel, by decide +kernel⟩, by decide +kernel⟩
theorem lk_X10_120 : mm_LS RX10 120 M10_within 3 := ⟨Or.inl (mm_g3 5 (by decide +kernel) rfl), ms_10_within⟩
theorem lk_X10_131 : mm_LV RX10 131 M4_append 1 := ⟨Or.inr ⟨"ForgottenCrafts", mm_n3 11 (by decide +kernel) rfl⟩, ms_4_append⟩
theorem lk_X10_134 : mm_LV RX10 134 M4_open 0 := ⟨Or.inr ⟨"ForgottenCrafts", mm_n3 20 (by decide +kernel) rfl⟩, ms_4_open⟩
theorem lk_X10_137 : mm_LV RX10 137 M9_tellAll 0 := ⟨Or.inr ⟨"ForgottenCrafts", mm_n3 35 (by decide +kernel) rfl⟩, ms_9_tellAll⟩
theorem lk_X10_140 : mm_LV RX10 140 M4_clear 0 := ⟨Or.inr ⟨"ForgottenCrafts", mm_n3 176 (by decide +kernel) rfl⟩, ms_4_clear⟩
theorem lk_X10_143 : mm_LV RX10 143 M4_isSound 0 := ⟨Or.inr ⟨"ForgottenCrafts", mm_n3 180 (by decide +kernel) rfl⟩, ms_4_isSound⟩
theorem lk_X10_150 : mm_LV RX10 150 M0_copyFrom 1 := ⟨Or.inr ⟨"ForgottenCrafts", mm_n3 181 (by decide +kernel) rfl⟩, ms_0_copyFrom⟩
theorem lk_X10_154 : mm_LV RX10 154 M1_copyFrom 1 := ⟨Or.inr ⟨"ForgottenCrafts", mm_n3 189 (by decide +kernel) rfl⟩, ms_1_copyFrom⟩
theorem lk_X10_157 : mm_LV RX10 157 M10_startAnew 0 := ⟨Or.inl (mm_g3 194 (by decide +kernel) rfl), ms_10_startAnew⟩
theorem lk_X10_160 : mm_LV RX10 160 M6_fill 1 := ⟨Or.inr ⟨"ForgottenCrafts", mm_n3 198 (by decide +kernel) rfl⟩, ms_6_fill⟩
theorem lk_X10_163 : mm_LV RX10 163 M8_clear 0 := ⟨Or.inr ⟨"ForgottenCrafts", mm_n3 199 (by decide +kernel) rfl⟩, ms_8_clear⟩
theorem lk_X10_168 : mm_LV RX10 168 M7_readFrom 1 := ⟨Or.inr ⟨"ForgottenCrafts", mm_n3 209 (by decide +kernel) rfl⟩, ms_7_readFrom⟩
theorem lk_X10_172 : mm_LV RX10 172 M7_copyFrom 1 := ⟨Or.inr ⟨"ForgottenCrafts", mm_n3 239 (by decide +kernel) rfl⟩, ms_7_copyFrom⟩
theorem lk_X10_212 : mm_LV RX10 212 M2_deadTrades 0 := ⟨Or.inr ⟨"ForgottenCrafts", mm_n4 11 (by decide +kernel) rfl⟩, ms_2_deadTrades⟩
theorem lk_X10_216 : mm_LV RX10 216 M0_hasTrade 1 := ⟨Or.inr ⟨"ForgottenCrafts", mm_n4 23 (by decide +kernel) rfl⟩, ms_0_hasTrade⟩
theorem lk_X10_224 : mm_LV RX10 224 M6_at 1 := ⟨Or.inr ⟨"ForgottenCrafts", mm_n4 28 (by decide +kernel) rfl⟩, ms_6_at⟩
theorem lk_X10_237 : mm_LV RX10 237 M1_withSkill 2 := ⟨Or.inr ⟨"ForgottenCrafts", mm_n4 29 (by decide +kernel) rfl⟩, ms_1_withSkill⟩
theorem lk_X10_241 : mm_LV RX10 241 M0_hasPerson 1 := ⟨Or.inr ⟨"ForgottenCrafts", mm_n4 34 (by decide +kernel) rfl⟩, ms_0_hasPerson⟩
theorem lk_X10_256 : mm_LV RX10 256 M1_knownBy 1 := ⟨Or.inr ⟨"ForgottenCrafts", mm_n4 38 (by decide +kernel) rfl⟩, ms_1_knownBy⟩
theorem lk_X10_263 : mm_LS RX10 263 M10_has 2 := ⟨Or.inl (mm_g4 42 (by decide +kernel) rfl), ms_10_has⟩
theorem lk_X10_270 : mm_LV RX10 270 M10_isKnownPair 2 := ⟨Or.inl (mm_g4 49 (by decide +kernel) rfl), ms_10_isKnownPair⟩
theorem lk_X10_273 : mm_LV RX10 273 M1_skillOf 2 := ⟨Or.inr ⟨"ForgottenCrafts", mm_n4 53 (by decide +kernel) rfl⟩, ms_1_skillOf⟩
theorem lk_X10_276 : mm_LV RX10 276 M0_likeOf 2 := ⟨Or.inr ⟨"ForgottenCrafts", mm_n4 58 (by decide +kernel) rfl⟩, ms_0_likeOf⟩
theorem lk_X10_279 : mm_LV RX10 279 M2_beginChange 4 := ⟨Or.inr ⟨"ForgottenCrafts", mm_n4 68 (by decide +kernel) rfl⟩, ms_2_beginChange⟩
theorem lk_X10_283 : mm_LV RX10 283 M1_knows 2 := ⟨Or.inr ⟨"ForgottenCrafts", mm_n4 116 (by decide +kernel) rfl⟩, ms_1_knows⟩
theorem lk_X10_286 : mm_LV RX10 286 M6_put 2 := ⟨Or.inr ⟨"ForgottenCrafts", mm_n4 117 (by decide +kernel) rfl⟩, ms_6_put⟩
theorem lk_X10_290 : mm_LV RX10 290 M2_workByNight 2 := ⟨Or.inr ⟨"ForgottenCrafts", mm_n4 122 (by decide +kernel) rfl⟩, ms_2_workByNight⟩
theorem lk_X10_293 : mm_LV RX10 293 M2_passYear 0 := ⟨Or.inr ⟨"ForgottenCrafts", mm_n4 143 (by decide +kernel) rfl⟩, ms_2_passYear⟩
theorem lk_X10_296 : mm_LV RX10 296 M2_passDrawnYears 2 := ⟨Or.inr ⟨"ForgottenCrafts", mm_n4 175 (by decide +kernel) rfl⟩, ms_2_passDrawnYears⟩
theorem lk_X10_299 : mm_LS RX10 299 MJ6_bitCount 1 := ⟨Or.inl (mm_g4 202 (by decide +kernel) rfl), ms_J6_bitCount⟩
theorem lk_X10_304 : mm_LV RX10 304 M3_solve 0 := ⟨Or.inr ⟨"ForgottenCrafts", mm_n4 215 (by decide +kernel) rfl⟩, ms_3_solve⟩
theorem lk_X10_310 : mm_LV RX10 310 M5_search 0 := ⟨Or.inr ⟨"ForgottenCrafts", mm_n5 27 (by decide +kernel) rfl⟩, ms_5_search⟩
theorem lk_X10_322 : mm_LS RX10 322 M10_leastOf 1 := ⟨Or.inl (mm_g5 67 (by decide +kernel) rfl), ms_10_leastOf⟩
theorem lm_X10_325 : mm_LM RX10 325 Lib.Math.max.name Lib.Math.max.code := ⟨mm_g5 70 (by decide +kernel) rfl, mm_g1 40 (by decide +kernel) rfl, mm_g1 4 (by decide +kernel) rfl, mm_g1 41 (by decide +kernel) rfl⟩
theorem lk_X10_330 : mm_LV RX10 330 M8_addThing 2 := ⟨Or.inr ⟨"ForgottenCrafts", mm_n5 79 (by decide +kernel) rfl⟩, ms_8_addThing⟩
theorem lk_X10_333 : mm_LV RX10 333 M8_makersOf 2 := ⟨Or.inr ⟨"ForgottenCrafts", mm_n5 88 (by decide +kernel) rfl⟩, ms_8_makersOf⟩
theorem lk_X10_337 : mm_LV RX10 337 M8_countFits 2 := ⟨Or.inr ⟨"ForgottenCrafts", mm_n5 98 (by decide +kernel) rfl⟩, ms_8_countFits⟩
theorem lk_X10_351 : mm_LV RX10 351 M8_addEntry 3 := ⟨Or.inr ⟨"ForgottenCrafts", mm_n5 113 (by decide +kernel) rfl⟩, ms_8_addEntry⟩
theorem lk_X10_355 : mm_LV RX10 355 M8_firstWrong 1 := ⟨Or.inr ⟨"ForgottenCrafts", mm_n5 125 (by decide +kernel) rfl⟩, ms_8_firstWrong⟩
theorem lk_X10_362 : mm_LV RX10 362 M10_image 1 := ⟨Or.inl (mm_g5 138 (by decide +kernel) rfl), ms_10_image⟩
theorem lk_X0_39 : mm_LS RX0 39 M10_cell 2 := ⟨Or.inr ⟨"ForgottenCrafts", mm_n4 62 (by decide +kernel) rfl⟩, ms_10_cell⟩
theorem lk_X0_43 : mm_LV RX0 43 M6_at 1 := ⟨Or.inr ⟨"ForgottenCrafts", mm_n4 63 (by decide +kernel) rfl⟩, ms_6_at⟩
theorem lk_X0_47 : mm_LV RX0 47 M6_fill 1 := ⟨Or.inr ⟨"ForgottenCrafts", mm_n3 43 (by decide +kernel) rfl⟩, ms_6_fill⟩
theorem lk_X0_50 : mm_LV RX0 50 M6_copyFrom 1 := ⟨Or.inr ⟨"ForgottenCrafts", mm_n3 185 (by decide +kernel) rfl⟩, ms_6_copyFrom⟩
theorem lk_X1_60 : mm_LV RX1 60 M1_empty 1 := ⟨Or.inl (mm_g1 186 (by decide +kernel) rfl), ms_1_empty⟩
theorem lk_X1_63 : mm_LV RX1 63 M6_put 2 := ⟨Or.inr ⟨"ForgottenCrafts", mm_n1 193 (by decide +kernel) rfl⟩, ms_6_put⟩
theorem lk_X1_67 : mm_LV RX1 67 M6_copyFrom 1 := ⟨Or.inr ⟨"ForgottenCrafts", mm_n3 193 (by decide +kernel) rfl⟩, ms_6_copyFrom⟩
theorem lk_X1_71 : mm_LS RX1 71 M10_cell 2 := ⟨Or.inr ⟨"ForgottenCrafts", mm_n1 190 (by decide +kernel) rfl⟩, ms_10_cell⟩
theorem lk_X1_75 : mm_LS RX1 75 M10_has 2 := ⟨Or.inr ⟨"ForgottenCrafts", mm_n4 80 (by decide +kernel) rfl⟩, ms_10_has⟩
theorem lk_X1_79 : mm_LV RX1 79 M6_at 1 := ⟨Or.inr ⟨"ForgottenCrafts", mm_n3 152 (by decide +kernel) rfl⟩, ms_6_at⟩
theorem lk_X1_83 : mm_LV RX1 83 M1_skillOf 2 := ⟨Or.inl (mm_g3 161 (by decide +kernel) rfl), ms_1_skillOf⟩
theorem lk_X2_29 : mm_LV RX2 29 M1_withSkill 2 := ⟨Or.inr ⟨"ForgottenCrafts", mm_n4 15 (by decide +kernel) rfl⟩, ms_1_withSkill⟩
theorem lk_X2_35 : mm_LV RX2 35 M1_knownBy 1 := ⟨Or.inr ⟨"ForgottenCrafts", mm_n4 92 (by decide +kernel) rfl⟩, ms_1_knownBy⟩
theorem lk_X2_39 : mm_LS RX2 39 MJ6_bitCount 1 := ⟨Or.inl (mm_g4 93 (by decide +kernel) rfl), ms_J6_bitCount⟩
theorem lk_X2_49 : mm_LV RX2 49 M1_knows 2 := ⟨Or.inr ⟨"ForgottenCrafts", mm_n4 82 (by decide +kernel) rfl⟩, ms_1_knows⟩
theorem lk_X2_53 : mm_LV RX2 53 M0_likeOf 2 := ⟨Or.inr ⟨"ForgottenCrafts", mm_n4 187 (by decide +kernel) rfl⟩, ms_0_likeOf⟩
theorem lk_X2_56 : mm_LV RX2 56 M2_mayLearn 2 := ⟨Or.inl (mm_g4 72 (by decide +kernel) rfl), ms_2_mayLearn⟩
theorem lk_X2_60 : mm_LV RX2 60 M2_hasRoom 1 := ⟨Or.inl (mm_g4 88 (by decide +kernel) rfl), ms_2_hasRoom⟩
theorem lk_X2_64 : mm_LV RX2 64 M2_startLearning 2 := ⟨Or.inl (mm_g4 94 (by decide +kernel) rfl), ms_2_startLearning⟩
theorem lk_X2_68 : mm_LV RX2 68 M2_mayGiveUp 3 := ⟨Or.inl (mm_g4 99 (by decide +kernel) rfl), ms_2_mayGiveUp⟩
theorem lk_X2_72 : mm_LV RX2 72 M2_mayLend 2 := ⟨Or.inl (mm_g4 103 (by decide +kernel) rfl), ms_2_mayLend⟩
theorem lk_X2_75 : mm_LV RX2 75 M2_witnessesFor 2 := ⟨Or.inl (mm_g4 107 (by decide +kernel) rfl), ms_2_witnessesFor⟩
theorem lk_X2_85 : mm_LV RX2 85 M6_put 2 := ⟨Or.inr ⟨"ForgottenCrafts", mm_n4 98 (by decide +kernel) rfl⟩, ms_6_put⟩
theorem lk_X2_90 : mm_LV RX2 90 M1_lives 1 := ⟨Or.inr ⟨"ForgottenCrafts", mm_n4 76 (by decide +kernel) rfl⟩, ms_1_lives⟩
theorem lk_X2_96 : mm_LV RX2 96 M6_at 1 := ⟨Or.inr ⟨"ForgottenCrafts", mm_n4 81 (by decide +kernel) rfl⟩, ms_6_at⟩
theorem lk_X2_99 : mm_LV RX2 99 M0_isForbidden 1 := ⟨Or.inr ⟨"ForgottenCrafts", mm_n4 83 (by decide +kernel) rfl⟩, ms_0_isForbidden⟩
theorem lk_X2_113 : mm_LS RX2 113 M10_has 2 := ⟨Or.inr ⟨"ForgottenCrafts", mm_n4 111 (by decide +kernel) rfl⟩, ms_10_has⟩
theorem lk_X2_119 : mm_LV RX2 119 M1_skillOf 2 := ⟨Or.inr ⟨"ForgottenCrafts", mm_n4 126 (by decide +kernel) rfl⟩, ms_1_skillOf⟩
theorem lm_X2_122 : mm_LM RX2 122 Lib.Math.min.name Lib.Math.min.code := ⟨mm_g4 127 (by decide +kernel) rfl, mm_g4 128 (by decide +kernel) rfl, mm_g1 4 (by decide +kernel) rfl, mm_g4 129 (by decide +kernel) rfl⟩
theorem lk_X2_127 : mm_LV RX2 127 M1_setSkill 3 := ⟨Or.inr ⟨"ForgottenCrafts", mm_n4 130 (by decide +kernel) rfl⟩, ms_1_setSkill⟩
theorem lk_X2_137 : mm_LV RX2 137 M1_draw 1 := ⟨Or.inr ⟨"ForgottenCrafts", mm_n4 131 (by decide +kernel) rfl⟩, ms_1_draw⟩
theorem lk_X2_140 : mm_LV RX2 140 M2_passYearOf 1 := ⟨Or.inl (mm_g4 147 (by decide +kernel) rfl), ms_2_passYearOf⟩
theorem lk_X2_156 : mm_LV RX2 156 M2_fade 2 := ⟨Or.inl (mm_g4 151 (by decide +kernel) rfl), ms_2_fade⟩
theorem lk_X2_159 : mm_LV RX2 159 M2_learnOn 2 := ⟨Or.inl (mm_g4 157 (by decide +kernel) rfl), ms_2_learnOn⟩
theorem lk_X2_162 : mm_LV RX2 162 M2_leaveAside 2 := ⟨Or.inl (mm_g4 161 (by decide +kernel) rfl), ms_2_leaveAside⟩
theorem lk_X2_171 : mm_LV RX2 171 M1_empty 1 := ⟨Or.inr ⟨"ForgottenCrafts", mm_n4 169 (by decide +kernel) rfl⟩, ms_1_empty⟩
theorem lk_X2_174 : mm_LV RX2 174 M1_bestOf 1 := ⟨Or.inr ⟨"ForgottenCrafts", mm_n4 170 (by decide +kernel) rfl⟩, ms_1_bestOf⟩
theorem lm_X2_183 : mm_LM RX2 183 Lib.Math.max.name Lib.Math.max.code := ⟨mm_g4 155 (by decide +kernel) rfl, mm_g1 40 (by decide +kernel) rfl, mm_g1 4 (by decide +kernel) rfl, mm_g1 41 (by decide +kernel) rfl⟩
theorem lk_X2_189 : mm_LS RX2 189 M10_cell 2 := ⟨Or.inr ⟨"ForgottenCrafts", mm_n4 156 (by decide +kernel) rfl⟩, ms_10_cell⟩
theorem lk_X2_195 : mm_LV RX2 195 M2_isBackDue 2 := ⟨Or.inl (mm_g4 165 (by decide +kernel) rfl), ms_2_isBackDue⟩
theorem lk_X2_201 : mm_LV RX2 201 M2_tryDrawnChange 1 := ⟨Or.inl (mm_g4 179 (by decide +kernel) rfl), ms_2_tryDrawnChange⟩
theorem lk_X2_204 : mm_LV RX2 204 M2_passYear 0 := ⟨Or.inl (mm_g4 189 (by decide +kernel) rfl), ms_2_passYear⟩
theorem lk_X2_207 : mm_LV RX2 207 M2_bearChildren 1 := ⟨Or.inl (mm_g4 190 (by decide +kernel) rfl), ms_2_bearChildren⟩
theorem lk_X2_210 : mm_LV RX2 210 M2_leastLiked 1 := ⟨Or.inl (mm_g4 183 (by decide +kernel) rfl), ms_2_leastLiked⟩
theorem lk_X2_213 : mm_LV RX2 213 M2_beginChange 4 := ⟨Or.inl (mm_g4 188 (by decide +kernel) rfl), ms_2_beginChange⟩
theorem lk_X2_217 : mm_LV RX2 217 M2_bearChild 1 := ⟨Or.inl (mm_g4 194 (by decide +kernel) rfl), ms_2_bearChild⟩
theorem lk_X3_44 : mm_LV RX3 44 M6_fill 1 := ⟨Or.inr ⟨"ForgottenCrafts", mm_n4 219 (by decide +kernel) rfl⟩, ms_6_fill⟩
theorem lk_X3_47 : mm_LV RX3 47 M3_wantedInAll 0 := ⟨Or.inl (mm_g4 220 (by decide +kernel) rfl), ms_3_wantedInAll⟩
theorem lk_X3_56 : mm_LS RX3 56 MJ6_bitCount 1 := ⟨Or.inl (mm_g4 225 (by decide +kernel) rfl), ms_J6_bitCount⟩
theorem lk_X3_62 : mm_LV RX3 62 M3_countStates 0 := ⟨Or.inl (mm_g4 226 (by decide +kernel) rfl), ms_3_countStates⟩
theorem lk_X3_65 : mm_LV RX3 65 M3_fillCosts 0 := ⟨Or.inl (mm_g4 231 (by decide +kernel) rfl), ms_3_fillCosts⟩
theorem lk_X3_68 : mm_LV RX3 68 M3_fillSums 0 := ⟨Or.inl (mm_g5 5 (by decide +kernel) rfl), ms_3_fillSums⟩
theorem lk_X3_71 : mm_LV RX3 71 M6_at 1 := ⟨Or.inr ⟨"ForgottenCrafts", mm_n4 224 (by decide +kernel) rfl⟩, ms_6_at⟩
theorem lk_X3_75 : mm_LV RX3 75 M3_giveTrades 0 := ⟨Or.inl (mm_g5 19 (by decide +kernel) rfl), ms_3_giveTrades⟩
theorem lk_X3_83 : mm_LV RX3 83 M6_put 2 := ⟨Or.inr ⟨"ForgottenCrafts", mm_n4 230 (by decide +kernel) rfl⟩, ms_6_put⟩
theorem lk_X3_90 : mm_LS RX3 90 M10_cell 2 := ⟨Or.inr ⟨"ForgottenCrafts", mm_n4 235 (by decide +kernel) rfl⟩, ms_10_cell⟩
theorem lk_X3_94 : mm_LV RX3 94 M3_costOf 2 := ⟨Or.inl (mm_g4 236 (by decide +kernel) rfl), ms_3_costOf⟩
theorem lk_X3_97 : mm_LV RX3 97 M1_skillOf 2 := ⟨Or.inr ⟨"ForgottenCrafts", mm_n5 0 (by decide +kernel) rfl⟩, ms_1_skillOf⟩
theorem lk_X3_106 : mm_LV RX3 106 M1_lives 1 := ⟨Or.inr ⟨"ForgottenCrafts", mm_n5 1 (by decide +kernel) rfl⟩, ms_1_lives⟩
theorem lk_X3_110 : mm_LV RX3 110 M0_isForbidden 1 := ⟨Or.inr ⟨"ForgottenCrafts", mm_n5 2 (by decide +kernel) rfl⟩, ms_0_isForbidden⟩
theorem lk_X3_113 : mm_LV RX3 113 M1_knows 2 := ⟨Or.inr ⟨"ForgottenCrafts", mm_n5 3 (by decide +kernel) rfl⟩, ms_1_knows⟩
theorem lk_X3_117 : mm_LV RX3 117 M3_sumWith 3 := ⟨Or.inl (mm_g5 9 (by decide +kernel) rfl), ms_3_sumWith⟩
theorem lm_X3_121 : mm_LM RX3 121 Lib.Math.min.name Lib.Math.min.code := ⟨mm_g5 18 (by decide +kernel) rfl, mm_g4 128 (by decide +kernel) rfl, mm_g1 4 (by decide +kernel) rfl, mm_g4 129 (by decide +kernel) rfl⟩
theorem lk_X3_126 : mm_LV RX3 126 M3_stillWanted 2 := ⟨Or.inl (mm_g5 13 (by decide +kernel) rfl), ms_3_stillWanted⟩
theorem lm_X3_129 : mm_LM RX3 129 Lib.Math.max.name Lib.Math.max.code := ⟨mm_g5 17 (by decide +kernel) rfl, mm_g1 40 (by decide +kernel) rfl, mm_g1 4 (by decide +kernel) rfl, mm_g1 41 (by decide +kernel) rfl⟩
theorem lk_X4_39 : mm_LV RX4 39 M6_put 2 := ⟨Or.inr ⟨"ForgottenCrafts", mm_n3 15 (by decide +kernel) rfl⟩, ms_6_put⟩
theorem lk_X4_43 : mm_LV RX4 43 M4_advance 0 := ⟨Or.inl (mm_g3 24 (by decide +kernel) rfl), ms_4_advance⟩
theorem lk_X4_46 : mm_LV RX4 46 M6_at 1 := ⟨Or.inr ⟨"ForgottenCrafts", mm_n3 28 (by decide +kernel) rfl⟩, ms_6_at⟩
theorem lk_X4_50 : mm_LS RX4 50 M4_tokenOf 1 := ⟨Or.inl (mm_g3 32 (by decide +kernel) rfl), ms_4_tokenOf⟩
theorem lk_X4_53 : mm_LV RX4 53 MJ0_length 0 := ⟨Or.inl (mm_g3 57 (by decide +kernel) rfl), ms_J0_length⟩
theorem lk_X4_58 : mm_LV RX4 58 MJ0_charAt 1 := ⟨Or.inl (mm_g3 67 (by decide +kernel) rfl), ms_J0_charAt⟩
theorem lk_X4_62 : mm_LV RX4 62 M4_blame 2 := ⟨Or.inl (mm_g3 131 (by decide +kernel) rfl), ms_4_blame⟩
theorem lk_X4_65 : mm_LV RX4 65 M4_figures 0 := ⟨Or.inl (mm_g3 132 (by decide +kernel) rfl), ms_4_figures⟩
theorem lk_X4_68 : mm_LS RX4 68 M10_within 3 := ⟨Or.inr ⟨"ForgottenCrafts", mm_n3 136 (by decide +kernel) rfl⟩, ms_10_within⟩
theorem lk_X4_72 : mm_LV RX4 72 M4_isSound 0 := ⟨Or.inl (mm_g3 137 (by decide +kernel) rfl), ms_4_isSound⟩
theorem lk_X5_40 : mm_LV RX5 40 M5_fillGains 0 := ⟨Or.inl (mm_g5 31 (by decide +kernel) rfl), ms_5_fillGains⟩
theorem lk_X5_54 : mm_LV RX5 54 M6_put 2 := ⟨Or.inr ⟨"ForgottenCrafts", mm_n5 38 (by decide +kernel) rfl⟩, ms_6_put⟩
theorem lk_X5_58 (d : Nat) : mm_LS RX5 58 (M5_walkOn d) 4 := (⟨Or.inl (mm_g5 47 (by decide +kernel) rfl), ms_5_walkOn⟩ : mm_LS RX5 58 (M5_walkOn 0) 4)
theorem lk_X5_66 : mm_LV RX5 66 M1_lives 1 := ⟨Or.inr ⟨"ForgottenCrafts", mm_n5 35 (by decide +kernel) rfl⟩, ms_1_lives⟩
theorem lk_X5_75 : mm_LV RX5 75 M6_at 1 := ⟨Or.inr ⟨"ForgottenCrafts", mm_n5 36 (by decide +kernel) rfl⟩, ms_6_at⟩
theorem lk_X5_79 : mm_LV RX5 79 M2_leastLiked 1 := ⟨Or.inr ⟨"ForgottenCrafts", mm_n5 37 (by decide +kernel) rfl⟩, ms_2_leastLiked⟩
theorem lk_X5_82 : mm_LV RX5 82 M5_gainOf 3 := ⟨Or.inl (mm_g5 39 (by decide +kernel) rfl), ms_5_gainOf⟩
theorem lk_X5_86 : mm_LV RX5 86 M1_knows 2 := ⟨Or.inr ⟨"ForgottenCrafts", mm_n5 43 (by decide +kernel) rfl⟩, ms_1_knows⟩
theorem lk_X5_90 : mm_LV RX5 90 M0_isForbidden 1 := ⟨Or.inr ⟨"ForgottenCrafts", mm_n5 44 (by decide +kernel) rfl⟩, ms_0_isForbidden⟩
theorem lk_X5_93 : mm_LV RX5 93 M0_likeOf 2 := ⟨Or.inr ⟨"ForgottenCrafts", mm_n5 45 (by decide +kernel) rfl⟩, ms_0_likeOf⟩
theorem lm_X5_97 : mm_LM RX5 97 Lib.Math.max.name Lib.Math.max.code := ⟨mm_g5 46 (by decide +kernel) rfl, mm_g1 40 (by decide +kernel) rfl, mm_g1 4 (by decide +kernel) rfl, mm_g1 41 (by decide +kernel) rfl⟩
theorem lk_X5_102 : mm_LV RX5 102 M5_gainFrom 2 := ⟨Or.inl (mm_g5 50 (by decide +kernel) rfl), ms_5_gainFrom⟩
theorem lk_X5_105 : mm_LV RX5 105 M5_closeRing 3 := ⟨Or.inl (mm_g5 54 (by decide +kernel) rfl), ms_5_closeRing⟩
theorem lk_X5_109 : mm_LV RX5 109 M5_isOnPath 2 := ⟨Or.inl (mm_g5 59 (by decide +kernel) rfl), ms_5_isOnPath⟩
theorem lk_X5_112 : mm_LV RX5 112 M6_copyFrom 1 := ⟨Or.inr ⟨"ForgottenCrafts", mm_n5 58 (by decide +kernel) rfl⟩, ms_6_copyFrom⟩
theorem lk_X7_9 : mm_LV RX7 9 M7_clear 0 := ⟨Or.inl (mm_g1 136 (by decide +kernel) rfl), ms_7_clear⟩
theorem lk_X7_37 : mm_LV RX7 37 M4_isSound 0 := ⟨Or.inr ⟨"ForgottenCrafts", mm_n3 213 (by decide +kernel) rfl⟩, ms_4_isSound⟩
theorem lk_X7_46 : mm_LV RX7 46 M7_readClause 1 := ⟨Or.inl (mm_g3 214 (by decide +kernel) rfl), ms_7_readClause⟩
theorem lk_X7_50 : mm_LS RX7 50 MJ6_bitCount 1 := ⟨Or.inl (mm_g3 233 (by decide +kernel) rfl), ms_J6_bitCount⟩
theorem lk_X7_57 : mm_LV RX7 57 M7_opens 3 := ⟨Or.inl (mm_g3 219 (by decide +kernel) rfl), ms_7_opens⟩
theorem lk_X7_61 : mm_LV RX7 61 M4_number 2 := ⟨Or.inr ⟨"ForgottenCrafts", mm_n3 226 (by decide +kernel) rfl⟩, ms_4_number⟩
theorem lk_X7_73 : mm_LV RX7 73 M4_blame 2 := ⟨Or.inr ⟨"ForgottenCrafts", mm_n3 224 (by decide +kernel) rfl⟩, ms_4_blame⟩
theorem lk_X7_77 : mm_LV RX7 77 M4_closeClause 0 := ⟨Or.inr ⟨"ForgottenCrafts", mm_n3 232 (by decide +kernel) rfl⟩, ms_4_closeClause⟩
theorem lk_X7_80 : mm_LV RX7 80 M4_sees 1 := ⟨Or.inr ⟨"ForgottenCrafts", mm_n3 223 (by decide +kernel) rfl⟩, ms_4_sees⟩
theorem lk_X7_84 : mm_LV RX7 84 M4_advance 0 := ⟨Or.inr ⟨"ForgottenCrafts", mm_n3 225 (by decide +kernel) rfl⟩, ms_4_advance⟩
theorem lk_X8_51 : mm_LV RX8 51 M6_put 2 := ⟨Or.inr ⟨"ForgottenCrafts", mm_n5 83 (by decide +kernel) rfl⟩, ms_6_put⟩
theorem lk_X8_55 : mm_LV RX8 55 M6_at 1 := ⟨Or.inr ⟨"ForgottenCrafts", mm_n5 92 (by decide +kernel) rfl⟩, ms_6_at⟩
theorem lk_X8_59 : mm_LV RX8 59 M1_withSkill 2 := ⟨Or.inr ⟨"ForgottenCrafts", mm_n5 93 (by decide +kernel) rfl⟩, ms_1_withSkill⟩
theorem lk_X8_65 : mm_LV RX8 65 M8_makersOf 2 := ⟨Or.inl (mm_g5 102 (by decide +kernel) rfl), ms_8_makersOf⟩
theorem lk_X8_72 : mm_LS RX8 72 MJ6_bitCount 1 := ⟨Or.inl (mm_g5 103 (by decide +kernel) rfl), ms_J6_bitCount⟩
theorem lk_X8_77 : mm_LV RX8 77 M8_countIfFit 1 := ⟨Or.inl (mm_g5 104 (by decide +kernel) rfl), ms_8_countIfFit⟩
theorem lk_X8_80 : mm_LV RX8 80 M1_skillOf 2 := ⟨Or.inr ⟨"ForgottenCrafts", mm_n5 129 (by decide +kernel) rfl⟩, ms_1_skillOf⟩
theorem lk_X9_31 : mm_LV RX9 31 M0_clear 0 := ⟨Or.inr ⟨"ForgottenCrafts", mm_n3 39 (by decide +kernel) rfl⟩, ms_0_clear⟩
theorem lk_X9_36 : mm_LV RX9 36 M1_clear 0 := ⟨Or.inr ⟨"ForgottenCrafts", mm_n3 47 (by decide +kernel) rfl⟩, ms_1_clear⟩
theorem lk_X9_39 : mm_LV RX9 39 M4_isSound 0 := ⟨Or.inr ⟨"ForgottenCrafts", mm_n3 48 (by decide +kernel) rfl⟩, ms_4_isSound⟩
theorem lk_X9_50 : mm_LV RX9 50 M4_sees 1 := ⟨Or.inr ⟨"ForgottenCrafts", mm_n3 53 (by decide +kernel) rfl⟩, ms_4_sees⟩
theorem lk_X9_57 : mm_LV RX9 57 M9_tellTrade 0 := ⟨Or.inl (mm_g3 105 (by decide +kernel) rfl), ms_9_tellTrade⟩
theorem lk_X9_62 : mm_LV RX9 62 M9_tellPerson 0 := ⟨Or.inl (mm_g3 140 (by decide +kernel) rfl), ms_9_tellPerson⟩
theorem lk_X9_67 : mm_LV RX9 67 M9_tellLike 0 := ⟨Or.inl (mm_g3 166 (by decide +kernel) rfl), ms_9_tellLike⟩
theorem lk_X9_73 : mm_LV RX9 73 M4_blame 2 := ⟨Or.inr ⟨"ForgottenCrafts", mm_n3 113 (by decide +kernel) rfl⟩, ms_4_blame⟩
theorem lk_X9_77 : mm_LV RX9 77 M4_closeClause 0 := ⟨Or.inr ⟨"ForgottenCrafts", mm_n3 172 (by decide +kernel) rfl⟩, ms_4_closeClause⟩
theorem lk_X9_83 : mm_LV RX9 83 M9_openClause 1 := ⟨Or.inl (mm_g3 109 (by decide +kernel) rfl), ms_9_openClause⟩
theorem lk_X9_91 : mm_LV RX9 91 M9_kindHere 0 := ⟨Or.inl (mm_g3 118 (by decide +kernel) rfl), ms_9_kindHere⟩
theorem lk_X9_95 : mm_LV RX9 95 M6_put 2 := ⟨Or.inr ⟨"ForgottenCrafts", mm_n3 126 (by decide +kernel) rfl⟩, ms_6_put⟩
theorem lk_X9_100 : mm_LV RX9 100 M4_advance 0 := ⟨Or.inr ⟨"ForgottenCrafts", mm_n3 117 (by decide +kernel) rfl⟩, ms_4_advance⟩
theorem lk_X9_106 : mm_LV RX9 106 M4_number 2 := ⟨Or.inr ⟨"ForgottenCrafts", mm_n3 127 (by decide +kernel) rfl⟩, ms_4_number⟩
theorem lk_X9_128 : mm_LV RX9 128 M9_tellSkill 1 := ⟨Or.inl (mm_g3 144 (by decide +kernel) rfl), ms_9_tellSkill⟩
theorem lk_X9_138 : mm_LV RX9 138 M1_bestOf 1 := ⟨Or.inr ⟨"ForgottenCrafts", mm_n3 157 (by decide +kernel) rfl⟩, ms_1_bestOf⟩
theorem lk_X9_142 : mm_LV RX9 142 M1_knows 2 := ⟨Or.inr ⟨"ForgottenCrafts", mm_n3 148 (by decide +kernel) rfl⟩, ms_1_knows⟩
theorem lk_X9_146 : mm_LV RX9 146 M1_setSkill 3 := ⟨Or.inr ⟨"ForgottenCrafts", mm_n3 153 (by decide +kernel) rfl⟩, ms_1_setSkill⟩
theorem lk_X9_150 : mm_LS RX9 150 M10_cell 2 := ⟨Or.inr ⟨"ForgottenCrafts", mm_n3 170 (by decide +kernel) rfl⟩, ms_10_cell⟩
theorem lm_X9_153 : mm_LM RX9 153 Lib.Math.max.name Lib.Math.max.code := ⟨mm_g3 171 (by decide +kernel) rfl, mm_g1 40 (by decide +kernel) rfl, mm_g1 4 (by decide +kernel) rfl, mm_g1 41 (by decide +kernel) rfl⟩
theorem lk_X11_129 : mm_LV RX11 129 M11_begin 0 := ⟨Or.inl (mm_g5 152 (by decide +kernel) rfl), ms_11_begin⟩
theorem lk_X11_136 : mm_LS RX11 136 M11_in 3 := ⟨Or.inl (mm_g6 103 (by decide +kernel) rfl), ms_11_in⟩
theorem lk_X11_143 : mm_LV RX11 143 M11_knows 2 := ⟨Or.inl (mm_g5 160 (by decide +kernel) rfl), ms_11_knows⟩
theorem lk_X11_150 : mm_LV RX11 150 M11_bestOf 1 := ⟨Or.inl (mm_g5 156 (by decide +kernel) rfl), ms_11_bestOf⟩
theorem lk_X11_166 : mm_LV RX11 166 M11_here 0 := ⟨Or.inl (mm_g6 113 (by decide +kernel) rfl), ms_11_here⟩
theorem lk_X11_192 : mm_LV RX11 192 M11_fails 2 := ⟨Or.inl (mm_g6 137 (by decide +kernel) rfl), ms_11_fails⟩
theorem lk_X11_202 : mm_LV RX11 202 M11_takeNumber 2 := ⟨Or.inl (mm_g6 149 (by decide +kernel) rfl), ms_11_takeNumber⟩
theorem lk_X11_205 : mm_LV RX11 205 M11_readWord 0 := ⟨Or.inl (mm_g6 121 (by decide +kernel) rfl), ms_11_readWord⟩
theorem lk_X11_211 : mm_LS RX11 211 M11_code 4 := ⟨Or.inl (mm_g6 131 (by decide +kernel) rfl), ms_11_code⟩
theorem lk_X11_215 : mm_LS RX11 215 M11_longer 2 := ⟨Or.inl (mm_g6 134 (by decide +kernel) rfl), ms_11_longer⟩
theorem lk_X11_219 : mm_LV RX11 219 M11_into 4 := ⟨Or.inl (mm_g6 145 (by decide +kernel) rfl), ms_11_into⟩
theorem lk_X11_229 : mm_LV RX11 229 M11_takeTrade 0 := ⟨Or.inl (mm_g6 141 (by decide +kernel) rfl), ms_11_takeTrade⟩
theorem lk_X11_232 : mm_LV RX11 232 M11_takePerson 0 := ⟨Or.inl (mm_g6 155 (by decide +kernel) rfl), ms_11_takePerson⟩
theorem lk_X11_235 : mm_LV RX11 235 M11_takeLikes 0 := ⟨Or.inl (mm_g6 159 (by decide +kernel) rfl), ms_11_takeLikes⟩
theorem lk_X11_238 : mm_LV RX11 238 M11_takeStop 0 := ⟨Or.inl (mm_g6 163 (by decide +kernel) rfl), ms_11_takeStop⟩
theorem lk_X11_241 : mm_LV RX11 241 M11_takeClause 0 := ⟨Or.inl (mm_g6 117 (by decide +kernel) rfl), ms_11_takeClause⟩
theorem lk_X11_251 : mm_LV RX11 251 M11_takeLaw 0 := ⟨Or.inl (mm_g6 172 (by decide +kernel) rfl), ms_11_takeLaw⟩
theorem lk_X11_258 : mm_LV RX11 258 M11_knowers 2 := ⟨Or.inl (mm_g6 192 (by decide +kernel) rfl), ms_11_knowers⟩
theorem lk_X11_261 : mm_LV RX11 261 M11_livesSet 0 := ⟨Or.inl (mm_g6 184 (by decide +kernel) rfl), ms_11_livesSet⟩
theorem lk_X11_264 : mm_LV RX11 264 M11_deadSet 0 := ⟨Or.inl (mm_g6 188 (by decide +kernel) rfl), ms_11_deadSet⟩
theorem lk_X11_267 : mm_LV RX11 267 M11_isTrade 1 := ⟨Or.inl (mm_g6 200 (by decide +kernel) rfl), ms_11_isTrade⟩
theorem lk_X11_272 : mm_LV RX11 272 M11_isPerson 1 := ⟨Or.inl (mm_g6 209 (by decide +kernel) rfl), ms_11_isPerson⟩
theorem lk_X11_275 : mm_LV RX11 275 M11_knownSet 1 := ⟨Or.inl (mm_g6 213 (by decide +kernel) rfl), ms_11_knownSet⟩
theorem lk_X11_278 : mm_LS RX11 278 M11_bits 1 := ⟨Or.inl (mm_g7 9 (by decide +kernel) rfl), ms_11_bits⟩
theorem lk_X11_281 : mm_LV RX11 281 M11_knownMany 1 := ⟨Or.inl (mm_g7 1 (by decide +kernel) rfl), ms_11_knownMany⟩
theorem lk_X11_284 : mm_LV RX11 284 M11_mayLearn 2 := ⟨Or.inl (mm_g6 233 (by decide +kernel) rfl), ms_11_mayLearn⟩
theorem lk_X11_287 : mm_LV RX11 287 M11_mayGive 4 := ⟨Or.inl (mm_g6 237 (by decide +kernel) rfl), ms_11_mayGive⟩
theorem lk_X11_291 : mm_LV RX11 291 M11_findWitnesses 2 := ⟨Or.inl (mm_g7 5 (by decide +kernel) rfl), ms_11_findWitnesses⟩
theorem lk_X11_294 : mm_LS RX11 294 M11_has 2 := ⟨Or.inl (mm_g7 12 (by decide +kernel) rfl), ms_11_has⟩
theorem lk_X11_297 : mm_LV RX11 297 M11_changeNow 4 := ⟨Or.inl (mm_g6 229 (by decide +kernel) rfl), ms_11_changeNow⟩
theorem lk_X11_311 : mm_LV RX11 311 M11_draw 1 := ⟨Or.inl (mm_g7 23 (by decide +kernel) rfl), ms_11_draw⟩
theorem lk_X11_314 : mm_LV RX11 314 M11_forgetOn 2 := ⟨Or.inl (mm_g7 44 (by decide +kernel) rfl), ms_11_forgetOn⟩
theorem lk_X11_318 : mm_LV RX11 318 M11_learnOn 2 := ⟨Or.inl (mm_g7 48 (by decide +kernel) rfl), ms_11_learnOn⟩
theorem lk_X11_321 : mm_LV RX11 321 M11_tradeYear 2 := ⟨Or.inl (mm_g7 40 (by decide +kernel) rfl), ms_11_tradeYear⟩
theorem lk_X11_324 : mm_LV RX11 324 M11_die 1 := ⟨Or.inl (mm_g7 52 (by decide +kernel) rfl), ms_11_die⟩
theorem lk_X11_330 : mm_LV RX11 330 M11_yearNow 0 := ⟨Or.inl (mm_g7 36 (by decide +kernel) rfl), ms_11_yearNow⟩
theorem lk_X11_333 : mm_LV RX11 333 M11_leastLiked 1 := ⟨Or.inl (mm_g7 69 (by decide +kernel) rfl), ms_11_leastLiked⟩
theorem lk_X11_340 : mm_LS RX11 340 M11_isDrift 2 := ⟨Or.inl (mm_g7 60 (by decide +kernel) rfl), ms_11_isDrift⟩
theorem lk_X11_343 : mm_LV RX11 343 M11_drawYear 1 := ⟨Or.inl (mm_g7 65 (by decide +kernel) rfl), ms_11_drawYear⟩
theorem lk_X11_348 : mm_LV RX11 348 M11_save 1 := ⟨Or.inl (mm_g7 78 (by decide +kernel) rfl), ms_11_save⟩
theorem lk_X11_351 : mm_LV RX11 351 M11_load 1 := ⟨Or.inl (mm_g7 82 (by decide +kernel) rfl), ms_11_load⟩
theorem lk_X11_358 : mm_LV RX11 358 M11_byGiving 3 := ⟨Or.inl (mm_g7 99 (by decide +kernel) rfl), ms_11_byGiving⟩
theorem lk_X11_362 : mm_LV RX11 362 M11_costOf 2 := ⟨Or.inl (mm_g7 103 (by decide +kernel) rfl), ms_11_costOf⟩
theorem lk_X11_365 : mm_LV RX11 365 M11_findLeast 0 := ⟨Or.inl (mm_g7 94 (by decide +kernel) rfl), ms_11_findLeast⟩
theorem lk_X11_369 : mm_LV RX11 369 M11_maySwap 1 := ⟨Or.inl (mm_g7 124 (by decide +kernel) rfl), ms_11_maySwap⟩
theorem lk_X11_372 : mm_LV RX11 372 M11_gainBy 2 := ⟨Or.inl (mm_g7 128 (by decide +kernel) rfl), ms_11_gainBy⟩
theorem lk_X11_378 : mm_LV RX11 378 M11_isRing 2 := ⟨Or.inl (mm_g7 116 (by decide +kernel) rfl), ms_11_isRing⟩
theorem lk_X11_381 : mm_LV RX11 381 M11_ringSum 1 := ⟨Or.inl (mm_g7 120 (by decide +kernel) rfl), ms_11_ringSum⟩
theorem lk_X11_386 : mm_LV RX11 386 M11_findRing 0 := ⟨Or.inl (mm_g7 112 (by decide +kernel) rfl), ms_11_findRing⟩
theorem lk_J0_335 : mm_LV RJ0 335 MJ0_coder 0 := ⟨Or.inl (mm_g3 61 (by decide +kernel) rfl), ms_J0_coder⟩
theorem lk_J0_492 : mm_LV RJ0 492 MJ0_isLatin1 0 := ⟨Or.inl (mm_g3 71 (by decide +kernel) rfl), ms_J0_isLatin1⟩
theorem lk_J0_495 : mm_LS RJ0 495 MJ1_charAt 2 := ⟨Or.inl (mm_g3 75 (by decide +kernel) rfl), ms_J1_charAt⟩
theorem lk_J0_1059 : mm_LS RJ0 1059 MJ3_checkIndex 3 := ⟨Or.inl (mm_g3 83 (by decide +kernel) rfl), ms_J3_checkIndex⟩
theorem lk_J1_9 : mm_LS RJ1 9 MJ0_checkIndex 2 := ⟨Or.inl (mm_g3 78 (by decide +kernel) rfl), ms_J0_checkIndex⟩
