/-! FACTS of the tables, by their places in lw_tbl (written by program) -/
theorem g_tb (i : Nat) {q : Cond} (h : lw_tbl[i]? = some q) (hg : goodWord q = true) : q ∈ gTb := List.mem_filter.mpr ⟨List.mem_of_getElem? h, hg⟩
theorem g_nb (i : Nat) {q : Cond} (h : lw_tbl[i]? = some q) (hg : g_isN q = true) : q ∈ gNb := List.mem_filter.mpr ⟨List.mem_of_getElem? h, hg⟩
theorem g_tbl (ps : List Nat) (ws : List Cond) (h : ws = ps.filterMap (fun i => lw_tbl[i]?)) (hg : ws.all goodWord = true) : ∀ q ∈ ws, q ∈ gTb := by
  intro q hq
  have h1 := List.all_eq_true.mp hg q hq
  rw [h] at hq
  obtain ⟨i, -, hi⟩ := List.mem_filterMap.mp hq
  exact g_tb i hi h1
theorem clX0 : gCls 0 RX0 TX0 5 := ⟨rfl, rfl, g_tbl [151, 153, 155, 157, 159] _ (by decide +kernel) (by decide +kernel), tyX0_ok, nmX0⟩
theorem clX1 : gCls 1 RX1 TX1 4 := ⟨rfl, rfl, g_tbl [253, 255, 257, 259] _ (by decide +kernel) (by decide +kernel), tyX1_ok, nmX1⟩
theorem clX2 : gCls 2 RX2 TX2 13 := ⟨rfl, rfl, g_tbl [209, 211, 213, 215, 217, 219, 221, 223, 225, 227, 229, 231, 233] _ (by decide +kernel) (by decide +kernel), tyX2_ok, nmX2⟩
theorem clX3 : gCls 3 RX3 TX3 10 := ⟨rfl, rfl, g_tbl [311, 313, 315, 317, 319, 321, 323, 325, 327, 329] _ (by decide +kernel) (by decide +kernel), tyX3_ok, nmX3⟩
theorem clX4 : gCls 4 RX4 TX4 5 := ⟨rfl, rfl, g_tbl [343, 345, 347, 349, 351] _ (by decide +kernel) (by decide +kernel), tyX4_ok, nmX4⟩
theorem clX5 : gCls 5 RX5 TX5 2 := ⟨rfl, rfl, g_tbl [117, 119] _ (by decide +kernel) (by decide +kernel), tyX5_ok, nmX5⟩
theorem clX6 : gCls 6 RX6 TX6 5 := ⟨rfl, rfl, g_tbl [289, 291, 293, 295, 297] _ (by decide +kernel) (by decide +kernel), tyX6_ok, nmX6⟩
theorem clX7 : gCls 7 RX7 TX7 9 := ⟨rfl, rfl, g_tbl [363, 365, 367, 369, 371, 373, 375, 377, 379] _ (by decide +kernel) (by decide +kernel), tyX7_ok, nmX7⟩
theorem clX8 : gCls 8 RX8 TX8 74 := ⟨rfl, rfl, g_tbl [1060, 1062, 1064, 1066, 1068, 1070, 1072, 1074, 1076, 1078, 1080, 1082, 1084, 1086, 1088, 1090, 1092, 1094, 1096, 1098, 1100, 1102, 1104, 1106, 1108, 1110, 1112, 1114, 1116, 1118, 1120, 1122, 1124, 1126, 1128, 1130, 1132, 1134, 1136, 1138, 1140, 1142, 1144, 1146, 1148, 1150, 1152, 1154, 1156, 1158, 1160, 1162, 1164, 1166, 1168, 1170, 1172, 1174, 1176, 1178, 1180, 1182, 1184, 1186, 1188, 1190, 1192, 1194, 1196, 1198, 1200, 1202, 1204, 1206] _ (by decide +kernel) (by decide +kernel), tyX8_ok, nmX8⟩
set_option maxRecDepth 100000 in
theorem lf_ScopeGraph_10 : gFw RX7 10 7 0 := ⟨_, _, _, clX7, by decide, rfl, Or.inl (g_tb 354 rfl rfl)⟩
set_option maxRecDepth 100000 in
theorem lf_ScopeGraph_16 : gFw RX7 16 7 1 := ⟨_, _, _, clX7, by decide, rfl, Or.inl (g_tb 355 rfl rfl)⟩
set_option maxRecDepth 100000 in
theorem lf_ScopeGraph_22 : gFw RX7 22 7 2 := ⟨_, _, _, clX7, by decide, rfl, Or.inl (g_tb 356 rfl rfl)⟩
set_option maxRecDepth 100000 in
theorem lf_ScopeGraph_26 : gFw RX7 26 7 3 := ⟨_, _, _, clX7, by decide, rfl, Or.inl (g_tb 357 rfl rfl)⟩
set_option maxRecDepth 100000 in
theorem lf_ScopeGraph_32 : gFw RX7 32 7 4 := ⟨_, _, _, clX7, by decide, rfl, Or.inl (g_tb 358 rfl rfl)⟩
set_option maxRecDepth 100000 in
theorem lf_ScopeGraph_36 : gFw RX7 36 7 5 := ⟨_, _, _, clX7, by decide, rfl, Or.inl (g_tb 359 rfl rfl)⟩
set_option maxRecDepth 100000 in
theorem lf_ScopeGraph_44 : gF RX7 44 7 6 := ⟨_, _, _, clX7, by decide, Or.inl (g_tb 360 rfl rfl)⟩
set_option maxRecDepth 100000 in
theorem lf_ScopeGraph_53 : gF RX7 53 7 7 := ⟨_, _, _, clX7, by decide, Or.inl (g_tb 361 rfl rfl)⟩
set_option maxRecDepth 100000 in
theorem lf_ScopeGraph_57 : gFw RX7 57 7 8 := ⟨_, _, _, clX7, by decide, rfl, Or.inl (g_tb 362 rfl rfl)⟩
theorem lf_ScopeGraph_61 : gFw RX7 61 5 1 := ⟨_, _, _, clX5, by decide, rfl, Or.inr ⟨"ScopeGraph", g_nb 114 (by decide +kernel) rfl⟩⟩
theorem lf_ScopeGraph_93 : gFw RX7 93 2 11 := ⟨_, _, _, clX2, by decide, rfl, Or.inr ⟨"ScopeGraph", g_nb 205 (by decide +kernel) rfl⟩⟩
theorem lf_ScopeGraph_100 : gF RX7 100 2 0 := ⟨_, _, _, clX2, by decide, Or.inr ⟨"ScopeGraph", g_nb 174 (by decide +kernel) rfl⟩⟩
theorem lf_ScopeGraph_104 : gFw RX7 104 0 4 := ⟨_, _, _, clX0, by decide, rfl, Or.inr ⟨"ScopeGraph", g_nb 149 (by decide +kernel) rfl⟩⟩
theorem lf_ScopeGraph_107 : gF RX7 107 2 1 := ⟨_, _, _, clX2, by decide, Or.inr ⟨"ScopeGraph", g_nb 179 (by decide +kernel) rfl⟩⟩
theorem lf_ScopeGraph_124 : gF RX7 124 2 2 := ⟨_, _, _, clX2, by decide, Or.inr ⟨"ScopeGraph", g_nb 183 (by decide +kernel) rfl⟩⟩
theorem lf_ScopeGraph_128 : gF RX7 128 2 3 := ⟨_, _, _, clX2, by decide, Or.inr ⟨"ScopeGraph", g_nb 186 (by decide +kernel) rfl⟩⟩
theorem lf_ScopeGraph_131 : gF RX7 131 2 4 := ⟨_, _, _, clX2, by decide, Or.inr ⟨"ScopeGraph", g_nb 189 (by decide +kernel) rfl⟩⟩
theorem lf_ScopeGraph_154 : gF RX7 154 0 0 := ⟨_, _, _, clX0, by decide, Or.inr ⟨"ScopeGraph", g_nb 137 (by decide +kernel) rfl⟩⟩
theorem lf_ScopeGraph_156 : gF RX7 156 0 1 := ⟨_, _, _, clX0, by decide, Or.inr ⟨"ScopeGraph", g_nb 140 (by decide +kernel) rfl⟩⟩
theorem lf_ScopeGraph_159 : gF RX7 159 2 6 := ⟨_, _, _, clX2, by decide, Or.inr ⟨"ScopeGraph", g_nb 193 (by decide +kernel) rfl⟩⟩
theorem lf_ScopeGraph_172 : gF RX7 172 2 7 := ⟨_, _, _, clX2, by decide, Or.inr ⟨"ScopeGraph", g_nb 196 (by decide +kernel) rfl⟩⟩
theorem lf_ScopeGraph_175 : gF RX7 175 1 1 := ⟨_, _, _, clX1, by decide, Or.inr ⟨"ScopeGraph", g_nb 246 (by decide +kernel) rfl⟩⟩
theorem lf_ScopeGraph_178 : gF RX7 178 1 2 := ⟨_, _, _, clX1, by decide, Or.inr ⟨"ScopeGraph", g_nb 249 (by decide +kernel) rfl⟩⟩
theorem lf_ScopeGraph_181 : gF RX7 181 1 3 := ⟨_, _, _, clX1, by decide, Or.inr ⟨"ScopeGraph", g_nb 252 (by decide +kernel) rfl⟩⟩
theorem lf_ScopeGraph_189 : gF RX7 189 3 0 := ⟨_, _, _, clX3, by decide, Or.inr ⟨"ScopeGraph", g_nb 301 (by decide +kernel) rfl⟩⟩
theorem lf_ScopeGraph_210 : gFw RX7 210 6 2 := ⟨_, _, _, clX6, by decide, rfl, Or.inr ⟨"ScopeGraph", g_nb 280 (by decide +kernel) rfl⟩⟩
theorem lf_ScopeGraph_230 : gFw RX7 230 6 3 := ⟨_, _, _, clX6, by decide, rfl, Or.inr ⟨"ScopeGraph", g_nb 284 (by decide +kernel) rfl⟩⟩
theorem lf_ScopeGraph_234 : gFw RX7 234 6 4 := ⟨_, _, _, clX6, by decide, rfl, Or.inr ⟨"ScopeGraph", g_nb 288 (by decide +kernel) rfl⟩⟩
set_option maxRecDepth 100000 in
theorem lf_ScopeGraph_Marks_9 : gF RX0 9 0 0 := ⟨_, _, _, clX0, by decide, Or.inl (g_tb 135 rfl rfl)⟩
set_option maxRecDepth 100000 in
theorem lf_ScopeGraph_Marks_15 : gF RX0 15 0 1 := ⟨_, _, _, clX0, by decide, Or.inl (g_tb 139 rfl rfl)⟩
set_option maxRecDepth 100000 in
theorem lf_ScopeGraph_Marks_18 : gF RX0 18 0 2 := ⟨_, _, _, clX0, by decide, Or.inl (g_tb 141 rfl rfl)⟩
set_option maxRecDepth 100000 in
theorem lf_ScopeGraph_Marks_22 : gF RX0 22 0 3 := ⟨_, _, _, clX0, by decide, Or.inl (g_tb 143 rfl rfl)⟩
set_option maxRecDepth 100000 in
theorem lf_ScopeGraph_Marks_25 : gFw RX0 25 0 4 := ⟨_, _, _, clX0, by decide, rfl, Or.inl (g_tb 145 rfl rfl)⟩
theorem lf_ScopeGraph_Marks_29 : gFw RX0 29 6 1 := ⟨_, _, _, clX6, by decide, rfl, Or.inr ⟨"ScopeGraph", g_nb 278 (by decide +kernel) rfl⟩⟩
theorem lf_ScopeGraph_Marks_34 : gFw RX0 34 6 3 := ⟨_, _, _, clX6, by decide, rfl, Or.inr ⟨"ScopeGraph", g_nb 282 (by decide +kernel) rfl⟩⟩
theorem lf_ScopeGraph_Marks_38 : gFw RX0 38 6 4 := ⟨_, _, _, clX6, by decide, rfl, Or.inr ⟨"ScopeGraph", g_nb 286 (by decide +kernel) rfl⟩⟩
set_option maxRecDepth 100000 in
theorem lf_ScopeGraph_Meaning_9 : gF RX1 9 1 0 := ⟨_, _, _, clX1, by decide, Or.inl (g_tb 242 rfl rfl)⟩
set_option maxRecDepth 100000 in
theorem lf_ScopeGraph_Meaning_15 : gF RX1 15 1 1 := ⟨_, _, _, clX1, by decide, Or.inl (g_tb 244 rfl rfl)⟩
set_option maxRecDepth 100000 in
theorem lf_ScopeGraph_Meaning_18 : gF RX1 18 1 2 := ⟨_, _, _, clX1, by decide, Or.inl (g_tb 247 rfl rfl)⟩
set_option maxRecDepth 100000 in
theorem lf_ScopeGraph_Meaning_22 : gF RX1 22 1 3 := ⟨_, _, _, clX1, by decide, Or.inl (g_tb 250 rfl rfl)⟩
theorem lf_ScopeGraph_Meaning_25 : gF RX1 25 2 1 := ⟨_, _, _, clX2, by decide, Or.inr ⟨"ScopeGraph", g_nb 177 (by decide +kernel) rfl⟩⟩
theorem lf_ScopeGraph_Meaning_31 : gFw RX1 31 0 4 := ⟨_, _, _, clX0, by decide, rfl, Or.inr ⟨"ScopeGraph", g_nb 146 (by decide +kernel) rfl⟩⟩
theorem lf_ScopeGraph_Meaning_37 : gF RX1 37 2 0 := ⟨_, _, _, clX2, by decide, Or.inr ⟨"ScopeGraph", g_nb 173 (by decide +kernel) rfl⟩⟩
theorem lf_ScopeGraph_Meaning_40 : gF RX1 40 0 2 := ⟨_, _, _, clX0, by decide, Or.inr ⟨"ScopeGraph", g_nb 142 (by decide +kernel) rfl⟩⟩
theorem lf_ScopeGraph_Meaning_43 : gF RX1 43 0 3 := ⟨_, _, _, clX0, by decide, Or.inr ⟨"ScopeGraph", g_nb 144 (by decide +kernel) rfl⟩⟩
theorem lf_ScopeGraph_Meaning_50 : gFw RX1 50 6 3 := ⟨_, _, _, clX6, by decide, rfl, Or.inr ⟨"ScopeGraph", g_nb 281 (by decide +kernel) rfl⟩⟩
theorem lf_ScopeGraph_Meaning_56 : gFw RX1 56 6 4 := ⟨_, _, _, clX6, by decide, rfl, Or.inr ⟨"ScopeGraph", g_nb 285 (by decide +kernel) rfl⟩⟩
set_option maxRecDepth 100000 in
theorem lf_ScopeGraph_Program_14 : gF RX2 14 2 0 := ⟨_, _, _, clX2, by decide, Or.inl (g_tb 172 rfl rfl)⟩
set_option maxRecDepth 100000 in
theorem lf_ScopeGraph_Program_20 : gF RX2 20 2 1 := ⟨_, _, _, clX2, by decide, Or.inl (g_tb 176 rfl rfl)⟩
set_option maxRecDepth 100000 in
theorem lf_ScopeGraph_Program_23 : gF RX2 23 2 2 := ⟨_, _, _, clX2, by decide, Or.inl (g_tb 181 rfl rfl)⟩
set_option maxRecDepth 100000 in
theorem lf_ScopeGraph_Program_27 : gF RX2 27 2 3 := ⟨_, _, _, clX2, by decide, Or.inl (g_tb 184 rfl rfl)⟩
set_option maxRecDepth 100000 in
theorem lf_ScopeGraph_Program_30 : gF RX2 30 2 4 := ⟨_, _, _, clX2, by decide, Or.inl (g_tb 187 rfl rfl)⟩
set_option maxRecDepth 100000 in
theorem lf_ScopeGraph_Program_34 : gF RX2 34 2 5 := ⟨_, _, _, clX2, by decide, Or.inl (g_tb 190 rfl rfl)⟩
set_option maxRecDepth 100000 in
theorem lf_ScopeGraph_Program_37 : gF RX2 37 2 6 := ⟨_, _, _, clX2, by decide, Or.inl (g_tb 192 rfl rfl)⟩
set_option maxRecDepth 100000 in
theorem lf_ScopeGraph_Program_40 : gF RX2 40 2 7 := ⟨_, _, _, clX2, by decide, Or.inl (g_tb 195 rfl rfl)⟩
set_option maxRecDepth 100000 in
theorem lf_ScopeGraph_Program_43 : gF RX2 43 2 8 := ⟨_, _, _, clX2, by decide, Or.inl (g_tb 198 rfl rfl)⟩
set_option maxRecDepth 100000 in
theorem lf_ScopeGraph_Program_46 : gF RX2 46 2 9 := ⟨_, _, _, clX2, by decide, Or.inl (g_tb 200 rfl rfl)⟩
set_option maxRecDepth 100000 in
theorem lf_ScopeGraph_Program_49 : gF RX2 49 2 10 := ⟨_, _, _, clX2, by decide, Or.inl (g_tb 202 rfl rfl)⟩
set_option maxRecDepth 100000 in
theorem lf_ScopeGraph_Program_55 : gFw RX2 55 2 11 := ⟨_, _, _, clX2, by decide, rfl, Or.inl (g_tb 204 rfl rfl)⟩
set_option maxRecDepth 100000 in
theorem lf_ScopeGraph_Program_59 : gFw RX2 59 2 12 := ⟨_, _, _, clX2, by decide, rfl, Or.inl (g_tb 206 rfl rfl)⟩
theorem lf_ScopeGraph_Program_62 : gFw RX2 62 0 4 := ⟨_, _, _, clX0, by decide, rfl, Or.inr ⟨"ScopeGraph", g_nb 147 (by decide +kernel) rfl⟩⟩
theorem lf_ScopeGraph_Program_73 : gF RX2 73 0 0 := ⟨_, _, _, clX0, by decide, Or.inr ⟨"ScopeGraph", g_nb 138 (by decide +kernel) rfl⟩⟩
set_option maxRecDepth 100000 in
theorem lf_ScopeGraph_Reader_12 : gF RX3 12 3 0 := ⟨_, _, _, clX3, by decide, Or.inl (g_tb 300 rfl rfl)⟩
set_option maxRecDepth 100000 in
theorem lf_ScopeGraph_Reader_18 : gF RX3 18 3 1 := ⟨_, _, _, clX3, by decide, Or.inl (g_tb 302 rfl rfl)⟩
set_option maxRecDepth 100000 in
theorem lf_ScopeGraph_Reader_22 : gF RX3 22 3 2 := ⟨_, _, _, clX3, by decide, Or.inl (g_tb 303 rfl rfl)⟩
set_option maxRecDepth 100000 in
theorem lf_ScopeGraph_Reader_25 : gF RX3 25 3 3 := ⟨_, _, _, clX3, by decide, Or.inl (g_tb 304 rfl rfl)⟩
set_option maxRecDepth 100000 in
theorem lf_ScopeGraph_Reader_28 : gFw RX3 28 3 4 := ⟨_, _, _, clX3, by decide, rfl, Or.inl (g_tb 305 rfl rfl)⟩
set_option maxRecDepth 100000 in
theorem lf_ScopeGraph_Reader_40 : gFw RX3 40 3 5 := ⟨_, _, _, clX3, by decide, rfl, Or.inl (g_tb 306 rfl rfl)⟩
set_option maxRecDepth 100000 in
theorem lf_ScopeGraph_Reader_44 : gFw RX3 44 3 6 := ⟨_, _, _, clX3, by decide, rfl, Or.inl (g_tb 307 rfl rfl)⟩
set_option maxRecDepth 100000 in
theorem lf_ScopeGraph_Reader_47 : gFw RX3 47 3 7 := ⟨_, _, _, clX3, by decide, rfl, Or.inl (g_tb 308 rfl rfl)⟩
set_option maxRecDepth 100000 in
theorem lf_ScopeGraph_Reader_50 : gFw RX3 50 3 8 := ⟨_, _, _, clX3, by decide, rfl, Or.inl (g_tb 309 rfl rfl)⟩
theorem lf_ScopeGraph_Reader_57 : gFw RX3 57 6 0 := ⟨_, _, _, clX6, by decide, rfl, Or.inr ⟨"ScopeGraph", g_nb 274 (by decide +kernel) rfl⟩⟩
theorem lf_ScopeGraph_Reader_64 : gFw RX3 64 6 1 := ⟨_, _, _, clX6, by decide, rfl, Or.inr ⟨"ScopeGraph", g_nb 277 (by decide +kernel) rfl⟩⟩
theorem lf_ScopeGraph_Reader_141 : gF RX3 141 2 6 := ⟨_, _, _, clX2, by decide, Or.inr ⟨"ScopeGraph", g_nb 194 (by decide +kernel) rfl⟩⟩
theorem lf_ScopeGraph_Reader_144 : gFw RX3 144 2 12 := ⟨_, _, _, clX2, by decide, rfl, Or.inr ⟨"ScopeGraph", g_nb 208 (by decide +kernel) rfl⟩⟩
theorem lf_ScopeGraph_Reader_147 : gF RX3 147 2 1 := ⟨_, _, _, clX2, by decide, Or.inr ⟨"ScopeGraph", g_nb 180 (by decide +kernel) rfl⟩⟩
theorem lf_ScopeGraph_Reader_151 : gFw RX3 151 0 4 := ⟨_, _, _, clX0, by decide, rfl, Or.inr ⟨"ScopeGraph", g_nb 150 (by decide +kernel) rfl⟩⟩
set_option maxRecDepth 100000 in
theorem lf_ScopeGraph_Reader_156 : gFw RX3 156 3 9 := ⟨_, _, _, clX3, by decide, rfl, Or.inl (g_tb 310 rfl rfl)⟩
theorem lf_ScopeGraph_Reader_165 : gF RX3 165 2 0 := ⟨_, _, _, clX2, by decide, Or.inr ⟨"ScopeGraph", g_nb 175 (by decide +kernel) rfl⟩⟩
theorem lf_ScopeGraph_Reader_174 : gF RX3 174 2 7 := ⟨_, _, _, clX2, by decide, Or.inr ⟨"ScopeGraph", g_nb 197 (by decide +kernel) rfl⟩⟩
set_option maxRecDepth 100000 in
theorem lf_ScopeGraph_Resolver_11 : gF RX4 11 4 0 := ⟨_, _, _, clX4, by decide, Or.inl (g_tb 338 rfl rfl)⟩
set_option maxRecDepth 100000 in
theorem lf_ScopeGraph_Resolver_15 : gFw RX4 15 4 1 := ⟨_, _, _, clX4, by decide, rfl, Or.inl (g_tb 339 rfl rfl)⟩
set_option maxRecDepth 100000 in
theorem lf_ScopeGraph_Resolver_19 : gFw RX4 19 4 2 := ⟨_, _, _, clX4, by decide, rfl, Or.inl (g_tb 340 rfl rfl)⟩
theorem lf_ScopeGraph_Resolver_23 : gFw RX4 23 2 12 := ⟨_, _, _, clX2, by decide, rfl, Or.inr ⟨"ScopeGraph", g_nb 207 (by decide +kernel) rfl⟩⟩
theorem lf_ScopeGraph_Resolver_33 : gF RX4 33 2 1 := ⟨_, _, _, clX2, by decide, Or.inr ⟨"ScopeGraph", g_nb 178 (by decide +kernel) rfl⟩⟩
theorem lf_ScopeGraph_Resolver_37 : gFw RX4 37 0 4 := ⟨_, _, _, clX0, by decide, rfl, Or.inr ⟨"ScopeGraph", g_nb 148 (by decide +kernel) rfl⟩⟩
theorem lf_ScopeGraph_Resolver_42 : gF RX4 42 2 8 := ⟨_, _, _, clX2, by decide, Or.inr ⟨"ScopeGraph", g_nb 199 (by decide +kernel) rfl⟩⟩
theorem lf_ScopeGraph_Resolver_54 : gF RX4 54 1 1 := ⟨_, _, _, clX1, by decide, Or.inr ⟨"ScopeGraph", g_nb 245 (by decide +kernel) rfl⟩⟩
theorem lf_ScopeGraph_Resolver_59 : gF RX4 59 1 2 := ⟨_, _, _, clX1, by decide, Or.inr ⟨"ScopeGraph", g_nb 248 (by decide +kernel) rfl⟩⟩
set_option maxRecDepth 100000 in
theorem lf_ScopeGraph_Resolver_62 : gFw RX4 62 4 3 := ⟨_, _, _, clX4, by decide, rfl, Or.inl (g_tb 341 rfl rfl)⟩
theorem lf_ScopeGraph_Resolver_65 : gF RX4 65 1 0 := ⟨_, _, _, clX1, by decide, Or.inr ⟨"ScopeGraph", g_nb 243 (by decide +kernel) rfl⟩⟩
theorem lf_ScopeGraph_Resolver_68 : gF RX4 68 2 4 := ⟨_, _, _, clX2, by decide, Or.inr ⟨"ScopeGraph", g_nb 188 (by decide +kernel) rfl⟩⟩
set_option maxRecDepth 100000 in
theorem lf_ScopeGraph_Resolver_71 : gFw RX4 71 4 4 := ⟨_, _, _, clX4, by decide, rfl, Or.inl (g_tb 342 rfl rfl)⟩
theorem lf_ScopeGraph_Resolver_74 : gF RX4 74 1 3 := ⟨_, _, _, clX1, by decide, Or.inr ⟨"ScopeGraph", g_nb 251 (by decide +kernel) rfl⟩⟩
theorem lf_ScopeGraph_Resolver_77 : gF RX4 77 2 9 := ⟨_, _, _, clX2, by decide, Or.inr ⟨"ScopeGraph", g_nb 201 (by decide +kernel) rfl⟩⟩
theorem lf_ScopeGraph_Resolver_80 : gF RX4 80 2 10 := ⟨_, _, _, clX2, by decide, Or.inr ⟨"ScopeGraph", g_nb 203 (by decide +kernel) rfl⟩⟩
theorem lf_ScopeGraph_Resolver_87 : gF RX4 87 0 0 := ⟨_, _, _, clX0, by decide, Or.inr ⟨"ScopeGraph", g_nb 136 (by decide +kernel) rfl⟩⟩
theorem lf_ScopeGraph_Resolver_90 : gF RX4 90 2 3 := ⟨_, _, _, clX2, by decide, Or.inr ⟨"ScopeGraph", g_nb 185 (by decide +kernel) rfl⟩⟩
theorem lf_ScopeGraph_Resolver_97 : gF RX4 97 2 2 := ⟨_, _, _, clX2, by decide, Or.inr ⟨"ScopeGraph", g_nb 182 (by decide +kernel) rfl⟩⟩
theorem lf_ScopeGraph_Resolver_110 : gF RX4 110 2 5 := ⟨_, _, _, clX2, by decide, Or.inr ⟨"ScopeGraph", g_nb 191 (by decide +kernel) rfl⟩⟩
set_option maxRecDepth 100000 in
theorem lf_ScopeGraph_Tape_9 : gF RX5 9 5 0 := ⟨_, _, _, clX5, by decide, Or.inl (g_tb 113 rfl rfl)⟩
set_option maxRecDepth 100000 in
theorem lf_ScopeGraph_Tape_15 : gFw RX5 15 5 1 := ⟨_, _, _, clX5, by decide, rfl, Or.inl (g_tb 115 rfl rfl)⟩
set_option maxRecDepth 100000 in
theorem lf_ScopeGraph_Tokens_9 : gFw RX6 9 6 1 := ⟨_, _, _, clX6, by decide, rfl, Or.inl (g_tb 276 rfl rfl)⟩
set_option maxRecDepth 100000 in
theorem lf_ScopeGraph_Tokens_15 : gFw RX6 15 6 2 := ⟨_, _, _, clX6, by decide, rfl, Or.inl (g_tb 279 rfl rfl)⟩
set_option maxRecDepth 100000 in
theorem lf_ScopeGraph_Tokens_28 : gFw RX6 28 6 0 := ⟨_, _, _, clX6, by decide, rfl, Or.inl (g_tb 275 rfl rfl)⟩
theorem lf_ScopeGraph_Tokens_58 : gFw RX6 58 5 1 := ⟨_, _, _, clX5, by decide, rfl, Or.inr ⟨"ScopeGraph", g_nb 116 (by decide +kernel) rfl⟩⟩
set_option maxRecDepth 100000 in
theorem lf_ScopeGraph_Tokens_61 : gFw RX6 61 6 3 := ⟨_, _, _, clX6, by decide, rfl, Or.inl (g_tb 283 rfl rfl)⟩
set_option maxRecDepth 100000 in
theorem lf_ScopeGraph_Tokens_65 : gFw RX6 65 6 4 := ⟨_, _, _, clX6, by decide, rfl, Or.inl (g_tb 287 rfl rfl)⟩
set_option maxRecDepth 100000 in
theorem lf_ScopeGraphModel_7 : gF RX8 7 8 1 := ⟨_, _, _, clX8, by decide, Or.inl (g_tb 987 rfl rfl)⟩
set_option maxRecDepth 100000 in
theorem lf_ScopeGraphModel_13 : gF RX8 13 8 3 := ⟨_, _, _, clX8, by decide, Or.inl (g_tb 989 rfl rfl)⟩
set_option maxRecDepth 100000 in
theorem lf_ScopeGraphModel_16 : gF RX8 16 8 5 := ⟨_, _, _, clX8, by decide, Or.inl (g_tb 991 rfl rfl)⟩
set_option maxRecDepth 100000 in
theorem lf_ScopeGraphModel_19 : gF RX8 19 8 8 := ⟨_, _, _, clX8, by decide, Or.inl (g_tb 994 rfl rfl)⟩
set_option maxRecDepth 100000 in
theorem lf_ScopeGraphModel_22 : gF RX8 22 8 9 := ⟨_, _, _, clX8, by decide, Or.inl (g_tb 995 rfl rfl)⟩
set_option maxRecDepth 100000 in
theorem lf_ScopeGraphModel_25 : gFw RX8 25 8 10 := ⟨_, _, _, clX8, by decide, rfl, Or.inl (g_tb 996 rfl rfl)⟩
set_option maxRecDepth 100000 in
theorem lf_ScopeGraphModel_29 : gF RX8 29 8 11 := ⟨_, _, _, clX8, by decide, Or.inl (g_tb 997 rfl rfl)⟩
set_option maxRecDepth 100000 in
theorem lf_ScopeGraphModel_32 : gF RX8 32 8 12 := ⟨_, _, _, clX8, by decide, Or.inl (g_tb 998 rfl rfl)⟩
set_option maxRecDepth 100000 in
theorem lf_ScopeGraphModel_35 : gF RX8 35 8 13 := ⟨_, _, _, clX8, by decide, Or.inl (g_tb 999 rfl rfl)⟩
set_option maxRecDepth 100000 in
theorem lf_ScopeGraphModel_38 : gF RX8 38 8 14 := ⟨_, _, _, clX8, by decide, Or.inl (g_tb 1000 rfl rfl)⟩
set_option maxRecDepth 100000 in
theorem lf_ScopeGraphModel_41 : gF RX8 41 8 16 := ⟨_, _, _, clX8, by decide, Or.inl (g_tb 1002 rfl rfl)⟩
set_option maxRecDepth 100000 in
theorem lf_ScopeGraphModel_44 : gF RX8 44 8 17 := ⟨_, _, _, clX8, by decide, Or.inl (g_tb 1003 rfl rfl)⟩
set_option maxRecDepth 100000 in
theorem lf_ScopeGraphModel_47 : gF RX8 47 8 18 := ⟨_, _, _, clX8, by decide, Or.inl (g_tb 1004 rfl rfl)⟩
set_option maxRecDepth 100000 in
theorem lf_ScopeGraphModel_50 : gF RX8 50 8 19 := ⟨_, _, _, clX8, by decide, Or.inl (g_tb 1005 rfl rfl)⟩
set_option maxRecDepth 100000 in
theorem lf_ScopeGraphModel_53 : gF RX8 53 8 22 := ⟨_, _, _, clX8, by decide, Or.inl (g_tb 1008 rfl rfl)⟩
set_option maxRecDepth 100000 in
theorem lf_ScopeGraphModel_56 : gF RX8 56 8 23 := ⟨_, _, _, clX8, by decide, Or.inl (g_tb 1009 rfl rfl)⟩
set_option maxRecDepth 100000 in
theorem lf_ScopeGraphModel_59 : gF RX8 59 8 25 := ⟨_, _, _, clX8, by decide, Or.inl (g_tb 1011 rfl rfl)⟩
set_option maxRecDepth 100000 in
theorem lf_ScopeGraphModel_62 : gF RX8 62 8 26 := ⟨_, _, _, clX8, by decide, Or.inl (g_tb 1012 rfl rfl)⟩
set_option maxRecDepth 100000 in
theorem lf_ScopeGraphModel_65 : gF RX8 65 8 27 := ⟨_, _, _, clX8, by decide, Or.inl (g_tb 1013 rfl rfl)⟩
set_option maxRecDepth 100000 in
theorem lf_ScopeGraphModel_68 : gF RX8 68 8 28 := ⟨_, _, _, clX8, by decide, Or.inl (g_tb 1014 rfl rfl)⟩
set_option maxRecDepth 100000 in
theorem lf_ScopeGraphModel_71 : gF RX8 71 8 30 := ⟨_, _, _, clX8, by decide, Or.inl (g_tb 1016 rfl rfl)⟩
set_option maxRecDepth 100000 in
theorem lf_ScopeGraphModel_74 : gF RX8 74 8 31 := ⟨_, _, _, clX8, by decide, Or.inl (g_tb 1017 rfl rfl)⟩
set_option maxRecDepth 100000 in
theorem lf_ScopeGraphModel_77 : gF RX8 77 8 32 := ⟨_, _, _, clX8, by decide, Or.inl (g_tb 1018 rfl rfl)⟩
set_option maxRecDepth 100000 in
theorem lf_ScopeGraphModel_80 : gF RX8 80 8 33 := ⟨_, _, _, clX8, by decide, Or.inl (g_tb 1019 rfl rfl)⟩
set_option maxRecDepth 100000 in
theorem lf_ScopeGraphModel_83 : gF RX8 83 8 35 := ⟨_, _, _, clX8, by decide, Or.inl (g_tb 1021 rfl rfl)⟩
set_option maxRecDepth 100000 in
theorem lf_ScopeGraphModel_86 : gF RX8 86 8 36 := ⟨_, _, _, clX8, by decide, Or.inl (g_tb 1022 rfl rfl)⟩
set_option maxRecDepth 100000 in
theorem lf_ScopeGraphModel_89 : gF RX8 89 8 43 := ⟨_, _, _, clX8, by decide, Or.inl (g_tb 1029 rfl rfl)⟩
set_option maxRecDepth 100000 in
theorem lf_ScopeGraphModel_92 : gF RX8 92 8 44 := ⟨_, _, _, clX8, by decide, Or.inl (g_tb 1030 rfl rfl)⟩
set_option maxRecDepth 100000 in
theorem lf_ScopeGraphModel_95 : gF RX8 95 8 45 := ⟨_, _, _, clX8, by decide, Or.inl (g_tb 1031 rfl rfl)⟩
set_option maxRecDepth 100000 in
theorem lf_ScopeGraphModel_98 : gF RX8 98 8 46 := ⟨_, _, _, clX8, by decide, Or.inl (g_tb 1032 rfl rfl)⟩
set_option maxRecDepth 100000 in
theorem lf_ScopeGraphModel_101 : gF RX8 101 8 52 := ⟨_, _, _, clX8, by decide, Or.inl (g_tb 1038 rfl rfl)⟩
set_option maxRecDepth 100000 in
theorem lf_ScopeGraphModel_104 : gF RX8 104 8 53 := ⟨_, _, _, clX8, by decide, Or.inl (g_tb 1039 rfl rfl)⟩
set_option maxRecDepth 100000 in
theorem lf_ScopeGraphModel_107 : gF RX8 107 8 54 := ⟨_, _, _, clX8, by decide, Or.inl (g_tb 1040 rfl rfl)⟩
set_option maxRecDepth 100000 in
theorem lf_ScopeGraphModel_110 : gF RX8 110 8 55 := ⟨_, _, _, clX8, by decide, Or.inl (g_tb 1041 rfl rfl)⟩
set_option maxRecDepth 100000 in
theorem lf_ScopeGraphModel_113 : gF RX8 113 8 56 := ⟨_, _, _, clX8, by decide, Or.inl (g_tb 1042 rfl rfl)⟩
set_option maxRecDepth 100000 in
theorem lf_ScopeGraphModel_116 : gF RX8 116 8 57 := ⟨_, _, _, clX8, by decide, Or.inl (g_tb 1043 rfl rfl)⟩
set_option maxRecDepth 100000 in
theorem lf_ScopeGraphModel_119 : gF RX8 119 8 58 := ⟨_, _, _, clX8, by decide, Or.inl (g_tb 1044 rfl rfl)⟩
set_option maxRecDepth 100000 in
theorem lf_ScopeGraphModel_123 : gF RX8 123 8 59 := ⟨_, _, _, clX8, by decide, Or.inl (g_tb 1045 rfl rfl)⟩
set_option maxRecDepth 100000 in
theorem lf_ScopeGraphModel_126 : gF RX8 126 8 60 := ⟨_, _, _, clX8, by decide, Or.inl (g_tb 1046 rfl rfl)⟩
set_option maxRecDepth 100000 in
theorem lf_ScopeGraphModel_129 : gF RX8 129 8 61 := ⟨_, _, _, clX8, by decide, Or.inl (g_tb 1047 rfl rfl)⟩
set_option maxRecDepth 100000 in
theorem lf_ScopeGraphModel_132 : gF RX8 132 8 62 := ⟨_, _, _, clX8, by decide, Or.inl (g_tb 1048 rfl rfl)⟩
set_option maxRecDepth 100000 in
theorem lf_ScopeGraphModel_135 : gF RX8 135 8 63 := ⟨_, _, _, clX8, by decide, Or.inl (g_tb 1049 rfl rfl)⟩
set_option maxRecDepth 100000 in
theorem lf_ScopeGraphModel_138 : gF RX8 138 8 68 := ⟨_, _, _, clX8, by decide, Or.inl (g_tb 1054 rfl rfl)⟩
set_option maxRecDepth 100000 in
theorem lf_ScopeGraphModel_141 : gF RX8 141 8 69 := ⟨_, _, _, clX8, by decide, Or.inl (g_tb 1055 rfl rfl)⟩
set_option maxRecDepth 100000 in
theorem lf_ScopeGraphModel_144 : gF RX8 144 8 70 := ⟨_, _, _, clX8, by decide, Or.inl (g_tb 1056 rfl rfl)⟩
set_option maxRecDepth 100000 in
theorem lf_ScopeGraphModel_148 : gF RX8 148 8 71 := ⟨_, _, _, clX8, by decide, Or.inl (g_tb 1057 rfl rfl)⟩
set_option maxRecDepth 100000 in
theorem lf_ScopeGraphModel_151 : gF RX8 151 8 72 := ⟨_, _, _, clX8, by decide, Or.inl (g_tb 1058 rfl rfl)⟩
set_option maxRecDepth 100000 in
theorem lf_ScopeGraphModel_154 : gFw RX8 154 8 0 := ⟨_, _, _, clX8, by decide, rfl, Or.inl (g_tb 986 rfl rfl)⟩
set_option maxRecDepth 100000 in
theorem lf_ScopeGraphModel_157 : gFw RX8 157 8 2 := ⟨_, _, _, clX8, by decide, rfl, Or.inl (g_tb 988 rfl rfl)⟩
set_option maxRecDepth 100000 in
theorem lf_ScopeGraphModel_168 : gFw RX8 168 8 7 := ⟨_, _, _, clX8, by decide, rfl, Or.inl (g_tb 993 rfl rfl)⟩
set_option maxRecDepth 100000 in
theorem lf_ScopeGraphModel_171 : gFw RX8 171 8 42 := ⟨_, _, _, clX8, by decide, rfl, Or.inl (g_tb 1028 rfl rfl)⟩
set_option maxRecDepth 100000 in
theorem lf_ScopeGraphModel_174 : gFw RX8 174 8 6 := ⟨_, _, _, clX8, by decide, rfl, Or.inl (g_tb 992 rfl rfl)⟩
set_option maxRecDepth 100000 in
theorem lf_ScopeGraphModel_177 : gFw RX8 177 8 37 := ⟨_, _, _, clX8, by decide, rfl, Or.inl (g_tb 1023 rfl rfl)⟩
set_option maxRecDepth 100000 in
theorem lf_ScopeGraphModel_184 : gFw RX8 184 8 40 := ⟨_, _, _, clX8, by decide, rfl, Or.inl (g_tb 1026 rfl rfl)⟩
set_option maxRecDepth 100000 in
theorem lf_ScopeGraphModel_187 : gFw RX8 187 8 38 := ⟨_, _, _, clX8, by decide, rfl, Or.inl (g_tb 1024 rfl rfl)⟩
set_option maxRecDepth 100000 in
theorem lf_ScopeGraphModel_197 : gFw RX8 197 8 41 := ⟨_, _, _, clX8, by decide, rfl, Or.inl (g_tb 1027 rfl rfl)⟩
set_option maxRecDepth 100000 in
theorem lf_ScopeGraphModel_208 : gFw RX8 208 8 39 := ⟨_, _, _, clX8, by decide, rfl, Or.inl (g_tb 1025 rfl rfl)⟩
set_option maxRecDepth 100000 in
theorem lf_ScopeGraphModel_211 : gFw RX8 211 8 15 := ⟨_, _, _, clX8, by decide, rfl, Or.inl (g_tb 1001 rfl rfl)⟩
set_option maxRecDepth 100000 in
theorem lf_ScopeGraphModel_214 : gFw RX8 214 8 48 := ⟨_, _, _, clX8, by decide, rfl, Or.inl (g_tb 1034 rfl rfl)⟩
set_option maxRecDepth 100000 in
theorem lf_ScopeGraphModel_217 : gFw RX8 217 8 47 := ⟨_, _, _, clX8, by decide, rfl, Or.inl (g_tb 1033 rfl rfl)⟩
set_option maxRecDepth 100000 in
theorem lf_ScopeGraphModel_220 : gFw RX8 220 8 49 := ⟨_, _, _, clX8, by decide, rfl, Or.inl (g_tb 1035 rfl rfl)⟩
set_option maxRecDepth 100000 in
theorem lf_ScopeGraphModel_223 : gFw RX8 223 8 20 := ⟨_, _, _, clX8, by decide, rfl, Or.inl (g_tb 1006 rfl rfl)⟩
set_option maxRecDepth 100000 in
theorem lf_ScopeGraphModel_226 : gFw RX8 226 8 21 := ⟨_, _, _, clX8, by decide, rfl, Or.inl (g_tb 1007 rfl rfl)⟩
set_option maxRecDepth 100000 in
theorem lf_ScopeGraphModel_261 : gFw RX8 261 8 51 := ⟨_, _, _, clX8, by decide, rfl, Or.inl (g_tb 1037 rfl rfl)⟩
set_option maxRecDepth 100000 in
theorem lf_ScopeGraphModel_264 : gFw RX8 264 8 50 := ⟨_, _, _, clX8, by decide, rfl, Or.inl (g_tb 1036 rfl rfl)⟩
set_option maxRecDepth 100000 in
theorem lf_ScopeGraphModel_283 : gFw RX8 283 8 24 := ⟨_, _, _, clX8, by decide, rfl, Or.inl (g_tb 1010 rfl rfl)⟩
set_option maxRecDepth 100000 in
theorem lf_ScopeGraphModel_286 : gFw RX8 286 8 29 := ⟨_, _, _, clX8, by decide, rfl, Or.inl (g_tb 1015 rfl rfl)⟩
set_option maxRecDepth 100000 in
theorem lf_ScopeGraphModel_289 : gFw RX8 289 8 34 := ⟨_, _, _, clX8, by decide, rfl, Or.inl (g_tb 1020 rfl rfl)⟩
set_option maxRecDepth 100000 in
theorem lf_ScopeGraphModel_304 : gFw RX8 304 8 4 := ⟨_, _, _, clX8, by decide, rfl, Or.inl (g_tb 990 rfl rfl)⟩
set_option maxRecDepth 100000 in
theorem lf_ScopeGraphModel_321 : gFw RX8 321 8 64 := ⟨_, _, _, clX8, by decide, rfl, Or.inl (g_tb 1050 rfl rfl)⟩
set_option maxRecDepth 100000 in
theorem lf_ScopeGraphModel_324 : gFw RX8 324 8 65 := ⟨_, _, _, clX8, by decide, rfl, Or.inl (g_tb 1051 rfl rfl)⟩
set_option maxRecDepth 100000 in
theorem lf_ScopeGraphModel_328 : gFw RX8 328 8 66 := ⟨_, _, _, clX8, by decide, rfl, Or.inl (g_tb 1052 rfl rfl)⟩
set_option maxRecDepth 100000 in
theorem lf_ScopeGraphModel_331 : gFw RX8 331 8 67 := ⟨_, _, _, clX8, by decide, rfl, Or.inl (g_tb 1053 rfl rfl)⟩
set_option maxRecDepth 100000 in
theorem lf_ScopeGraphModel_386 : gFw RX8 386 8 73 := ⟨_, _, _, clX8, by decide, rfl, Or.inl (g_tb 1059 rfl rfl)⟩
set_option maxRecDepth 100000 in
theorem mf_X0_init : gMf yX0_init cX0_init 2 none 1 := ⟨g_tb 133 rfl (by decide +kernel), g_tb 80 rfl rfl, by decide +kernel, by decide +kernel, by decide +kernel, by decide +kernel, by decide⟩
set_option maxRecDepth 100000 in
theorem mf_X0_has : gMf yX0_has cX0_has 2 (some .boolean) 1 := ⟨g_tb 887 rfl (by decide +kernel), g_tb 80 rfl rfl, by decide +kernel, by decide +kernel, by decide +kernel, by decide +kernel, by decide⟩
set_option maxRecDepth 100000 in
theorem im_X0_has : Cond.instanceMethod yX0_has ∈ gTb ∧ Cond.selects yX0_has.cls yX0_has yX0_has ∈ gTb := ⟨g_tb 885 rfl rfl, g_tb 886 rfl rfl⟩
set_option maxRecDepth 100000 in
theorem mf_X0_add : gMf yX0_add cX0_add 3 (some .int) 2 := ⟨g_tb 597 rfl (by decide +kernel), g_tb 80 rfl rfl, by decide +kernel, by decide +kernel, by decide +kernel, by decide +kernel, by decide⟩
set_option maxRecDepth 100000 in
theorem im_X0_add : Cond.instanceMethod yX0_add ∈ gTb ∧ Cond.selects yX0_add.cls yX0_add yX0_add ∈ gTb := ⟨g_tb 595 rfl rfl, g_tb 596 rfl rfl⟩
set_option maxRecDepth 100000 in
theorem mf_X0_standsAt : gMf yX0_standsAt cX0_standsAt 3 (some .boolean) 2 := ⟨g_tb 960 rfl (by decide +kernel), g_tb 80 rfl rfl, by decide +kernel, by decide +kernel, by decide +kernel, by decide +kernel, by decide⟩
set_option maxRecDepth 100000 in
theorem im_X0_standsAt : Cond.instanceMethod yX0_standsAt ∈ gTb ∧ Cond.selects yX0_standsAt.cls yX0_standsAt yX0_standsAt ∈ gTb := ⟨g_tb 958 rfl rfl, g_tb 959 rfl rfl⟩
set_option maxRecDepth 100000 in
theorem mf_X0_move : gMf yX0_move cX0_move 5 none 4 := ⟨g_tb 964 rfl (by decide +kernel), g_tb 80 rfl rfl, by decide +kernel, by decide +kernel, by decide +kernel, by decide +kernel, by decide⟩
set_option maxRecDepth 100000 in
theorem im_X0_move : Cond.instanceMethod yX0_move ∈ gTb ∧ Cond.selects yX0_move.cls yX0_move yX0_move ∈ gTb := ⟨g_tb 962 rfl rfl, g_tb 963 rfl rfl⟩
set_option maxRecDepth 100000 in
theorem mf_X0_lengthOf : gMf yX0_lengthOf cX0_lengthOf 3 (some .int) 1 := ⟨g_tb 951 rfl (by decide +kernel), g_tb 80 rfl rfl, by decide +kernel, by decide +kernel, by decide +kernel, by decide +kernel, by decide⟩
set_option maxRecDepth 100000 in
theorem im_X0_lengthOf : Cond.instanceMethod yX0_lengthOf ∈ gTb ∧ Cond.selects yX0_lengthOf.cls yX0_lengthOf yX0_lengthOf ∈ gTb := ⟨g_tb 949 rfl rfl, g_tb 950 rfl rfl⟩
set_option maxRecDepth 100000 in
theorem mf_X0_isNamed : gMf yX0_isNamed cX0_isNamed 6 (some .boolean) 3 := ⟨g_tb 941 rfl (by decide +kernel), g_tb 80 rfl rfl, by decide +kernel, by decide +kernel, by decide +kernel, by decide +kernel, by decide⟩
set_option maxRecDepth 100000 in
theorem im_X0_isNamed : Cond.instanceMethod yX0_isNamed ∈ gTb ∧ Cond.selects yX0_isNamed.cls yX0_isNamed yX0_isNamed ∈ gTb := ⟨g_tb 939 rfl rfl, g_tb 940 rfl rfl⟩
set_option maxRecDepth 100000 in
theorem mf_X0_named : gMf yX0_named cX0_named 8 (some .long) 2 := ⟨g_tb 673 rfl (by decide +kernel), g_tb 80 rfl rfl, by decide +kernel, by decide +kernel, by decide +kernel, by decide +kernel, by decide⟩
set_option maxRecDepth 100000 in
theorem im_X0_named : Cond.instanceMethod yX0_named ∈ gTb ∧ Cond.selects yX0_named.cls yX0_named yX0_named ∈ gTb := ⟨g_tb 671 rfl rfl, g_tb 672 rfl rfl⟩
set_option maxRecDepth 100000 in
theorem mf_X1_init : gMf yX1_init cX1_init 1 none 0 := ⟨g_tb 240 rfl (by decide +kernel), g_tb 81 rfl rfl, by decide +kernel, by decide +kernel, by decide +kernel, by decide +kernel, by decide⟩
set_option maxRecDepth 100000 in
theorem mf_X1_compareNames : gMf yX1_compareNames cX1_compareNames 4 none 1 := ⟨g_tb 669 rfl (by decide +kernel), g_tb 81 rfl rfl, by decide +kernel, by decide +kernel, by decide +kernel, by decide +kernel, by decide⟩
set_option maxRecDepth 100000 in
theorem im_X1_compareNames : Cond.instanceMethod yX1_compareNames ∈ gTb ∧ Cond.selects yX1_compareNames.cls yX1_compareNames yX1_compareNames ∈ gTb := ⟨g_tb 667 rfl rfl, g_tb 668 rfl rfl⟩
set_option maxRecDepth 100000 in
theorem mf_X1_supposeName : gMf yX1_supposeName cX1_supposeName 10 none 4 := ⟨g_tb 937 rfl (by decide +kernel), g_tb 81 rfl rfl, by decide +kernel, by decide +kernel, by decide +kernel, by decide +kernel, by decide⟩
set_option maxRecDepth 100000 in
theorem im_X1_supposeName : Cond.instanceMethod yX1_supposeName ∈ gTb ∧ Cond.selects yX1_supposeName.cls yX1_supposeName yX1_supposeName ∈ gTb := ⟨g_tb 935 rfl rfl, g_tb 936 rfl rfl⟩
set_option maxRecDepth 100000 in
theorem mf_X1_agreesWith : gMf yX1_agreesWith cX1_agreesWith 4 (some .boolean) 2 := ⟨g_tb 947 rfl (by decide +kernel), g_tb 81 rfl rfl, by decide +kernel, by decide +kernel, by decide +kernel, by decide +kernel, by decide⟩
set_option maxRecDepth 100000 in
theorem im_X1_agreesWith : Cond.instanceMethod yX1_agreesWith ∈ gTb ∧ Cond.selects yX1_agreesWith.cls yX1_agreesWith yX1_agreesWith ∈ gTb := ⟨g_tb 945 rfl rfl, g_tb 946 rfl rfl⟩
set_option maxRecDepth 100000 in
theorem mf_X1_howManyMean : gMf yX1_howManyMean cX1_howManyMean 7 (some .int) 3 := ⟨g_tb 843 rfl (by decide +kernel), g_tb 81 rfl rfl, by decide +kernel, by decide +kernel, by decide +kernel, by decide +kernel, by decide⟩
set_option maxRecDepth 100000 in
theorem im_X1_howManyMean : Cond.instanceMethod yX1_howManyMean ∈ gTb ∧ Cond.selects yX1_howManyMean.cls yX1_howManyMean yX1_howManyMean ∈ gTb := ⟨g_tb 841 rfl rfl, g_tb 842 rfl rfl⟩
set_option maxRecDepth 100000 in
theorem mf_X1_usersOf : gMf yX1_usersOf cX1_usersOf 6 (some .int) 2 := ⟨g_tb 896 rfl (by decide +kernel), g_tb 81 rfl rfl, by decide +kernel, by decide +kernel, by decide +kernel, by decide +kernel, by decide⟩
set_option maxRecDepth 100000 in
theorem im_X1_usersOf : Cond.instanceMethod yX1_usersOf ∈ gTb ∧ Cond.selects yX1_usersOf.cls yX1_usersOf yX1_usersOf ∈ gTb := ⟨g_tb 894 rfl rfl, g_tb 895 rfl rfl⟩
set_option maxRecDepth 100000 in
theorem mf_X1_friendsOf : gMf yX1_friendsOf cX1_friendsOf 9 (some .long) 2 := ⟨g_tb 892 rfl (by decide +kernel), g_tb 81 rfl rfl, by decide +kernel, by decide +kernel, by decide +kernel, by decide +kernel, by decide⟩
set_option maxRecDepth 100000 in
theorem im_X1_friendsOf : Cond.instanceMethod yX1_friendsOf ∈ gTb ∧ Cond.selects yX1_friendsOf.cls yX1_friendsOf yX1_friendsOf ∈ gTb := ⟨g_tb 890 rfl rfl, g_tb 891 rfl rfl⟩
set_option maxRecDepth 100000 in
theorem mf_X2_init : gMf yX2_init cX2_init 1 none 0 := ⟨g_tb 127 rfl (by decide +kernel), g_tb 79 rfl rfl, by decide +kernel, by decide +kernel, by decide +kernel, by decide +kernel, by decide⟩
set_option maxRecDepth 100000 in
theorem mf_X2_empty : gMf yX2_empty cX2_empty 1 none 0 := ⟨g_tb 167 rfl (by decide +kernel), g_tb 79 rfl rfl, by decide +kernel, by decide +kernel, by decide +kernel, by decide +kernel, by decide⟩
set_option maxRecDepth 100000 in
theorem im_X2_empty : Cond.instanceMethod yX2_empty ∈ gTb ∧ Cond.selects yX2_empty.cls yX2_empty yX2_empty ∈ gTb := ⟨g_tb 165 rfl rfl, g_tb 166 rfl rfl⟩
set_option maxRecDepth 100000 in
theorem mf_X2_makeScope : gMf yX2_makeScope cX2_makeScope 3 (some .int) 2 := ⟨g_tb 171 rfl (by decide +kernel), g_tb 79 rfl rfl, by decide +kernel, by decide +kernel, by decide +kernel, by decide +kernel, by decide⟩
set_option maxRecDepth 100000 in
theorem im_X2_makeScope : Cond.instanceMethod yX2_makeScope ∈ gTb ∧ Cond.selects yX2_makeScope.cls yX2_makeScope yX2_makeScope ∈ gTb := ⟨g_tb 169 rfl rfl, g_tb 170 rfl rfl⟩
set_option maxRecDepth 100000 in
theorem mf_X2_declare : gMf yX2_declare cX2_declare 4 (some .int) 2 := ⟨g_tb 645 rfl (by decide +kernel), g_tb 79 rfl rfl, by decide +kernel, by decide +kernel, by decide +kernel, by decide +kernel, by decide⟩
set_option maxRecDepth 100000 in
theorem im_X2_declare : Cond.instanceMethod yX2_declare ∈ gTb ∧ Cond.selects yX2_declare.cls yX2_declare yX2_declare ∈ gTb := ⟨g_tb 643 rfl rfl, g_tb 644 rfl rfl⟩
set_option maxRecDepth 100000 in
theorem mf_X2_refer : gMf yX2_refer cX2_refer 4 (some .int) 2 := ⟨g_tb 593 rfl (by decide +kernel), g_tb 79 rfl rfl, by decide +kernel, by decide +kernel, by decide +kernel, by decide +kernel, by decide⟩
set_option maxRecDepth 100000 in
theorem im_X2_refer : Cond.instanceMethod yX2_refer ∈ gTb ∧ Cond.selects yX2_refer.cls yX2_refer yX2_refer ∈ gTb := ⟨g_tb 591 rfl rfl, g_tb 592 rfl rfl⟩
set_option maxRecDepth 100000 in
theorem mf_X2_importFrom : gMf yX2_importFrom cX2_importFrom 5 none 2 := ⟨g_tb 618 rfl (by decide +kernel), g_tb 79 rfl rfl, by decide +kernel, by decide +kernel, by decide +kernel, by decide +kernel, by decide⟩
set_option maxRecDepth 100000 in
theorem im_X2_importFrom : Cond.instanceMethod yX2_importFrom ∈ gTb ∧ Cond.selects yX2_importFrom.cls yX2_importFrom yX2_importFrom ∈ gTb := ⟨g_tb 616 rfl rfl, g_tb 617 rfl rfl⟩
set_option maxRecDepth 100000 in
theorem mf_X2_importsInAll : gMf yX2_importsInAll cX2_importsInAll 3 (some .int) 0 := ⟨g_tb 839 rfl (by decide +kernel), g_tb 79 rfl rfl, by decide +kernel, by decide +kernel, by decide +kernel, by decide +kernel, by decide⟩
set_option maxRecDepth 100000 in
theorem im_X2_importsInAll : Cond.instanceMethod yX2_importsInAll ∈ gTb ∧ Cond.selects yX2_importsInAll.cls yX2_importsInAll yX2_importsInAll ∈ gTb := ⟨g_tb 837 rfl rfl, g_tb 838 rfl rfl⟩
set_option maxRecDepth 100000 in
theorem mf_X2_importsOf : gMf yX2_importsOf cX2_importsOf 4 (some .int) 1 := ⟨g_tb 876 rfl (by decide +kernel), g_tb 79 rfl rfl, by decide +kernel, by decide +kernel, by decide +kernel, by decide +kernel, by decide⟩
set_option maxRecDepth 100000 in
theorem im_X2_importsOf : Cond.instanceMethod yX2_importsOf ∈ gTb ∧ Cond.selects yX2_importsOf.cls yX2_importsOf yX2_importsOf ∈ gTb := ⟨g_tb 874 rfl rfl, g_tb 875 rfl rfl⟩
set_option maxRecDepth 100000 in
theorem mf_X2_referencesIn : gMf yX2_referencesIn cX2_referencesIn 4 (some .int) 1 := ⟨g_tb 872 rfl (by decide +kernel), g_tb 79 rfl rfl, by decide +kernel, by decide +kernel, by decide +kernel, by decide +kernel, by decide⟩
set_option maxRecDepth 100000 in
theorem im_X2_referencesIn : Cond.instanceMethod yX2_referencesIn ∈ gTb ∧ Cond.selects yX2_referencesIn.cls yX2_referencesIn yX2_referencesIn ∈ gTb := ⟨g_tb 870 rfl rfl, g_tb 871 rfl rfl⟩
set_option maxRecDepth 100000 in
theorem mf_X2_ownedBy : gMf yX2_ownedBy cX2_ownedBy 9 (some .long) 1 := ⟨g_tb 689 rfl (by decide +kernel), g_tb 79 rfl rfl, by decide +kernel, by decide +kernel, by decide +kernel, by decide +kernel, by decide⟩
set_option maxRecDepth 100000 in
theorem im_X2_ownedBy : Cond.instanceMethod yX2_ownedBy ∈ gTb ∧ Cond.selects yX2_ownedBy.cls yX2_ownedBy yX2_ownedBy ∈ gTb := ⟨g_tb 687 rfl rfl, g_tb 688 rfl rfl⟩
set_option maxRecDepth 100000 in
theorem mf_X3_init : gMf yX3_init cX3_init 2 none 1 := ⟨g_tb 266 rfl (by decide +kernel), g_tb 82 rfl rfl, by decide +kernel, by decide +kernel, by decide +kernel, by decide +kernel, by decide⟩
set_option maxRecDepth 100000 in
theorem mf_X3_parse : gMf yX3_parse cX3_parse 5 (some .int) 2 := ⟨g_tb 389 rfl (by decide +kernel), g_tb 82 rfl rfl, by decide +kernel, by decide +kernel, by decide +kernel, by decide +kernel, by decide⟩
set_option maxRecDepth 100000 in
theorem im_X3_parse : Cond.instanceMethod yX3_parse ∈ gTb ∧ Cond.selects yX3_parse.cls yX3_parse yX3_parse ∈ gTb := ⟨g_tb 387 rfl rfl, g_tb 388 rfl rfl⟩
set_option maxRecDepth 100000 in
theorem mf_X3_place : gMf yX3_place cX3_place 1 (some .int) 0 := ⟨g_tb 716 rfl (by decide +kernel), g_tb 82 rfl rfl, by decide +kernel, by decide +kernel, by decide +kernel, by decide +kernel, by decide⟩
set_option maxRecDepth 100000 in
theorem im_X3_place : Cond.instanceMethod yX3_place ∈ gTb ∧ Cond.selects yX3_place.cls yX3_place yX3_place ∈ gTb := ⟨g_tb 714 rfl rfl, g_tb 715 rfl rfl⟩
set_option maxRecDepth 100000 in
theorem mf_X3_take : gMf yX3_take cX3_take 2 (some .int) 1 := ⟨g_tb 553 rfl (by decide +kernel), g_tb 82 rfl rfl, by decide +kernel, by decide +kernel, by decide +kernel, by decide +kernel, by decide⟩
set_option maxRecDepth 100000 in
theorem im_X3_take : Cond.instanceMethod yX3_take ∈ gTb ∧ Cond.selects yX3_take.cls yX3_take yX3_take ∈ gTb := ⟨g_tb 552 rfl rfl, g_tb 5 rfl rfl⟩
set_option maxRecDepth 100000 in
theorem mf_X3_takeDec : gMf yX3_takeDec cX3_takeDec 2 (some .int) 1 := ⟨g_tb 557 rfl (by decide +kernel), g_tb 82 rfl rfl, by decide +kernel, by decide +kernel, by decide +kernel, by decide +kernel, by decide⟩
set_option maxRecDepth 100000 in
theorem im_X3_takeDec : Cond.instanceMethod yX3_takeDec ∈ gTb ∧ Cond.selects yX3_takeDec.cls yX3_takeDec yX3_takeDec ∈ gTb := ⟨g_tb 556 rfl rfl, g_tb 6 rfl rfl⟩
