theorem kds_nt {La : gz_L} {w : Nat} (h : w = 53 ∨ w = 54) : gz_kd La w = (1, 231) := by rcases h with rfl | rfl <;> rfl
theorem kds_tx {La : gz_L} {w : Nat} (h : w = 40 ∨ w = 41) : gz_kd La w = (2, (gz_ln w)) := by rcases h with rfl | rfl <;> rfl
theorem kds_in7 {La : gz_L} {w : Nat} (h : w = 15 ∨ w = 16) : gz_kd La w = (1, (gz_ln w)) := by rcases h with rfl | rfl <;> rfl
theorem kds_fill {La : gz_L} {w : Nat} (h : w = 17 ∨ w = 18 ∨ w = 21 ∨ w = 37) : gz_kd La w = (1, (gz_ln w)) := by rcases h with rfl | rfl | rfl | rfl <;> rfl
theorem kds_in12 {La : gz_L} {w : Nat} (h : w = 45 ∨ w = 47) : gz_kd La w = (1, (gz_ln w)) := by rcases h with rfl | rfl <;> rfl
theorem flX0_7 : gz_fl RX0 7 0 1 := ⟨by decide, by decide +kernel, gz_mem 672 (by decide +kernel) (by decide +kernel)⟩
theorem flX0_42 : gz_fl RX0 42 6 0 := ⟨by decide, by decide +kernel, gz_mem 250 (by decide +kernel) (by decide +kernel)⟩
theorem flX1_11 : gz_fl RX1 11 1 1 := ⟨by decide, by decide +kernel, gz_mem 226 (by decide +kernel) (by decide +kernel)⟩
theorem flX1_17 : gz_fl RX1 17 1 0 := ⟨by decide, by decide +kernel, gz_mem 225 (by decide +kernel) (by decide +kernel)⟩
theorem flX1_21 : gz_fl RX1 21 1 2 := ⟨by decide, by decide +kernel, gz_mem 227 (by decide +kernel) (by decide +kernel)⟩
theorem flX1_50 : gz_fl RX1 50 9 2 := ⟨by decide, by decide +kernel, gz_mem 151 (by decide +kernel) (by decide +kernel)⟩
theorem flX1_68 : gz_fl RX1 68 9 4 := ⟨by decide, by decide +kernel, gz_mem 156 (by decide +kernel) (by decide +kernel)⟩
theorem flX10_11 : gz_fl RX10 11 10 3 := ⟨by decide, by decide +kernel, gz_mem 268 (by decide +kernel) (by decide +kernel)⟩
theorem flX10_19 : gz_fl RX10 19 10 4 := ⟨by decide, by decide +kernel, gz_mem 269 (by decide +kernel) (by decide +kernel)⟩
theorem flX10_22 : gz_fl RX10 22 10 1 := ⟨by decide, by decide +kernel, gz_mem 264 (by decide +kernel) (by decide +kernel)⟩
theorem flX10_26 : gz_fl RX10 26 6 0 := ⟨by decide, by decide +kernel, gz_mem 246 (by decide +kernel) (by decide +kernel)⟩
theorem flX10_60 : gz_fl RX10 60 10 0 := ⟨by decide, by decide +kernel, gz_mem 262 (by decide +kernel) (by decide +kernel)⟩
theorem flX10_78 : gz_fl RX10 78 10 2 := ⟨by decide, by decide +kernel, gz_mem 267 (by decide +kernel) (by decide +kernel)⟩
theorem flX11_10 : gz_fl RX11 10 11 0 := ⟨by decide, by decide +kernel, gz_mem 381 (by decide +kernel) (by decide +kernel)⟩
theorem flX11_21 : gz_fl RX11 21 11 1 := ⟨by decide, by decide +kernel, gz_mem 382 (by decide +kernel) (by decide +kernel)⟩
theorem flX11_28 : gz_fl RX11 28 11 2 := ⟨by decide, by decide +kernel, gz_mem 383 (by decide +kernel) (by decide +kernel)⟩
theorem flX11_35 : gz_fl RX11 35 11 3 := ⟨by decide, by decide +kernel, gz_mem 384 (by decide +kernel) (by decide +kernel)⟩
theorem flX11_41 : gz_fl RX11 41 11 4 := ⟨by decide, by decide +kernel, gz_mem 385 (by decide +kernel) (by decide +kernel)⟩
theorem flX11_47 : gz_fl RX11 47 11 5 := ⟨by decide, by decide +kernel, gz_mem 386 (by decide +kernel) (by decide +kernel)⟩
theorem flX11_54 : gz_fl RX11 54 11 6 := ⟨by decide, by decide +kernel, gz_mem 387 (by decide +kernel) (by decide +kernel)⟩
theorem flX11_58 : gz_fl RX11 58 11 7 := ⟨by decide, by decide +kernel, gz_mem 388 (by decide +kernel) (by decide +kernel)⟩
theorem flX11_61 : gz_fl RX11 61 11 8 := ⟨by decide, by decide +kernel, gz_mem 389 (by decide +kernel) (by decide +kernel)⟩
theorem flX11_67 : gz_fl RX11 67 11 9 := ⟨by decide, by decide +kernel, gz_mem 390 (by decide +kernel) (by decide +kernel)⟩
theorem flX11_74 : gz_fl RX11 74 11 10 := ⟨by decide, by decide +kernel, gz_mem 391 (by decide +kernel) (by decide +kernel)⟩
theorem flX11_83 : gz_fl RX11 83 11 11 := ⟨by decide, by decide +kernel, gz_mem 392 (by decide +kernel) (by decide +kernel)⟩
theorem flX11_90 : gz_fl RX11 90 11 12 := ⟨by decide, by decide +kernel, gz_mem 393 (by decide +kernel) (by decide +kernel)⟩
theorem flX11_94 : gz_fl RX11 94 11 15 := ⟨by decide, by decide +kernel, gz_mem 396 (by decide +kernel) (by decide +kernel)⟩
theorem flX11_98 : gz_fl RX11 98 11 16 := ⟨by decide, by decide +kernel, gz_mem 397 (by decide +kernel) (by decide +kernel)⟩
theorem flX11_105 : gz_fl RX11 105 9 1 := ⟨by decide, by decide +kernel, gz_mem 148 (by decide +kernel) (by decide +kernel)⟩
theorem flX11_116 : gz_fl RX11 116 9 3 := ⟨by decide, by decide +kernel, gz_mem 155 (by decide +kernel) (by decide +kernel)⟩
theorem flX11_129 : gz_fl RX11 129 11 13 := ⟨by decide, by decide +kernel, gz_mem 394 (by decide +kernel) (by decide +kernel)⟩
theorem flX11_136 : gz_fl RX11 136 11 14 := ⟨by decide, by decide +kernel, gz_mem 395 (by decide +kernel) (by decide +kernel)⟩
theorem flX11_176 : gz_fl RX11 176 6 0 := ⟨by decide, by decide +kernel, gz_mem 251 (by decide +kernel) (by decide +kernel)⟩
theorem flX11_182 : gz_fl RX11 182 10 0 := ⟨by decide, by decide +kernel, gz_mem 263 (by decide +kernel) (by decide +kernel)⟩
theorem flX11_199 : gz_fl RX11 199 10 1 := ⟨by decide, by decide +kernel, gz_mem 265 (by decide +kernel) (by decide +kernel)⟩
theorem flX11_235 : gz_fl RX11 235 11 17 := ⟨by decide, by decide +kernel, gz_mem 398 (by decide +kernel) (by decide +kernel)⟩
theorem flX11_253 : gz_fl RX11 253 5 0 := ⟨by decide, by decide +kernel, gz_mem 288 (by decide +kernel) (by decide +kernel)⟩
theorem flX11_267 : gz_fl RX11 267 0 0 := ⟨by decide, by decide +kernel, gz_mem 671 (by decide +kernel) (by decide +kernel)⟩
theorem flX11_319 : gz_fl RX11 319 8 0 := ⟨by decide, by decide +kernel, gz_mem 353 (by decide +kernel) (by decide +kernel)⟩
theorem flX11_343 : gz_fl RX11 343 2 0 := ⟨by decide, by decide +kernel, gz_mem 317 (by decide +kernel) (by decide +kernel)⟩
theorem flX11_346 : gz_fl RX11 346 2 1 := ⟨by decide, by decide +kernel, gz_mem 319 (by decide +kernel) (by decide +kernel)⟩
theorem flX12_9 : gz_fl RX12 9 12 1 := ⟨by decide, by decide +kernel, gz_mem 1276 (by decide +kernel) (by decide +kernel)⟩
theorem flX12_13 : gz_fl RX12 13 12 2 := ⟨by decide, by decide +kernel, gz_mem 1277 (by decide +kernel) (by decide +kernel)⟩
theorem flX12_16 : gz_fl RX12 16 12 3 := ⟨by decide, by decide +kernel, gz_mem 1278 (by decide +kernel) (by decide +kernel)⟩
theorem flX12_20 : gz_fl RX12 20 12 4 := ⟨by decide, by decide +kernel, gz_mem 1279 (by decide +kernel) (by decide +kernel)⟩
theorem flX12_23 : gz_fl RX12 23 12 5 := ⟨by decide, by decide +kernel, gz_mem 1280 (by decide +kernel) (by decide +kernel)⟩
theorem flX12_37 : gz_fl RX12 37 12 18 := ⟨by decide, by decide +kernel, gz_mem 1293 (by decide +kernel) (by decide +kernel)⟩
theorem flX12_40 : gz_fl RX12 40 12 19 := ⟨by decide, by decide +kernel, gz_mem 1294 (by decide +kernel) (by decide +kernel)⟩
theorem flX12_43 : gz_fl RX12 43 12 20 := ⟨by decide, by decide +kernel, gz_mem 1295 (by decide +kernel) (by decide +kernel)⟩
theorem flX12_46 : gz_fl RX12 46 12 21 := ⟨by decide, by decide +kernel, gz_mem 1296 (by decide +kernel) (by decide +kernel)⟩
theorem flX12_49 : gz_fl RX12 49 12 22 := ⟨by decide, by decide +kernel, gz_mem 1297 (by decide +kernel) (by decide +kernel)⟩
theorem flX12_52 : gz_fl RX12 52 12 23 := ⟨by decide, by decide +kernel, gz_mem 1298 (by decide +kernel) (by decide +kernel)⟩
theorem flX12_55 : gz_fl RX12 55 12 24 := ⟨by decide, by decide +kernel, gz_mem 1299 (by decide +kernel) (by decide +kernel)⟩
theorem flX12_58 : gz_fl RX12 58 12 25 := ⟨by decide, by decide +kernel, gz_mem 1300 (by decide +kernel) (by decide +kernel)⟩
theorem flX12_61 : gz_fl RX12 61 12 26 := ⟨by decide, by decide +kernel, gz_mem 1301 (by decide +kernel) (by decide +kernel)⟩
theorem flX12_64 : gz_fl RX12 64 12 32 := ⟨by decide, by decide +kernel, gz_mem 1307 (by decide +kernel) (by decide +kernel)⟩
theorem flX12_67 : gz_fl RX12 67 12 33 := ⟨by decide, by decide +kernel, gz_mem 1308 (by decide +kernel) (by decide +kernel)⟩
theorem flX12_70 : gz_fl RX12 70 12 34 := ⟨by decide, by decide +kernel, gz_mem 1309 (by decide +kernel) (by decide +kernel)⟩
theorem flX12_74 : gz_fl RX12 74 12 35 := ⟨by decide, by decide +kernel, gz_mem 1310 (by decide +kernel) (by decide +kernel)⟩
theorem flX12_77 : gz_fl RX12 77 12 36 := ⟨by decide, by decide +kernel, gz_mem 1311 (by decide +kernel) (by decide +kernel)⟩
theorem flX12_80 : gz_fl RX12 80 12 37 := ⟨by decide, by decide +kernel, gz_mem 1312 (by decide +kernel) (by decide +kernel)⟩
theorem flX12_83 : gz_fl RX12 83 12 40 := ⟨by decide, by decide +kernel, gz_mem 1315 (by decide +kernel) (by decide +kernel)⟩
theorem flX12_86 : gz_fl RX12 86 12 43 := ⟨by decide, by decide +kernel, gz_mem 1318 (by decide +kernel) (by decide +kernel)⟩
theorem flX12_89 : gz_fl RX12 89 12 44 := ⟨by decide, by decide +kernel, gz_mem 1319 (by decide +kernel) (by decide +kernel)⟩
theorem flX12_92 : gz_fl RX12 92 12 45 := ⟨by decide, by decide +kernel, gz_mem 1320 (by decide +kernel) (by decide +kernel)⟩
theorem flX12_95 : gz_fl RX12 95 12 46 := ⟨by decide, by decide +kernel, gz_mem 1321 (by decide +kernel) (by decide +kernel)⟩
theorem flX12_98 : gz_fl RX12 98 12 48 := ⟨by decide, by decide +kernel, gz_mem 1323 (by decide +kernel) (by decide +kernel)⟩
theorem flX12_101 : gz_fl RX12 101 12 49 := ⟨by decide, by decide +kernel, gz_mem 1324 (by decide +kernel) (by decide +kernel)⟩
theorem flX12_104 : gz_fl RX12 104 12 0 := ⟨by decide, by decide +kernel, gz_mem 1275 (by decide +kernel) (by decide +kernel)⟩
theorem flX12_117 : gz_fl RX12 117 12 6 := ⟨by decide, by decide +kernel, gz_mem 1281 (by decide +kernel) (by decide +kernel)⟩
theorem flX12_127 : gz_fl RX12 127 12 10 := ⟨by decide, by decide +kernel, gz_mem 1285 (by decide +kernel) (by decide +kernel)⟩
theorem flX12_130 : gz_fl RX12 130 12 9 := ⟨by decide, by decide +kernel, gz_mem 1284 (by decide +kernel) (by decide +kernel)⟩
theorem flX12_133 : gz_fl RX12 133 12 8 := ⟨by decide, by decide +kernel, gz_mem 1283 (by decide +kernel) (by decide +kernel)⟩
theorem flX12_136 : gz_fl RX12 136 12 11 := ⟨by decide, by decide +kernel, gz_mem 1286 (by decide +kernel) (by decide +kernel)⟩
theorem flX12_139 : gz_fl RX12 139 12 12 := ⟨by decide, by decide +kernel, gz_mem 1287 (by decide +kernel) (by decide +kernel)⟩
theorem flX12_205 : gz_fl RX12 205 12 17 := ⟨by decide, by decide +kernel, gz_mem 1292 (by decide +kernel) (by decide +kernel)⟩
theorem flX12_209 : gz_fl RX12 209 12 13 := ⟨by decide, by decide +kernel, gz_mem 1288 (by decide +kernel) (by decide +kernel)⟩
theorem flX12_212 : gz_fl RX12 212 12 14 := ⟨by decide, by decide +kernel, gz_mem 1289 (by decide +kernel) (by decide +kernel)⟩
theorem flX12_250 : gz_fl RX12 250 12 29 := ⟨by decide, by decide +kernel, gz_mem 1304 (by decide +kernel) (by decide +kernel)⟩
theorem flX12_253 : gz_fl RX12 253 12 31 := ⟨by decide, by decide +kernel, gz_mem 1306 (by decide +kernel) (by decide +kernel)⟩
theorem flX12_256 : gz_fl RX12 256 12 28 := ⟨by decide, by decide +kernel, gz_mem 1303 (by decide +kernel) (by decide +kernel)⟩
theorem flX12_295 : gz_fl RX12 295 12 7 := ⟨by decide, by decide +kernel, gz_mem 1282 (by decide +kernel) (by decide +kernel)⟩
theorem flX12_298 : gz_fl RX12 298 12 30 := ⟨by decide, by decide +kernel, gz_mem 1305 (by decide +kernel) (by decide +kernel)⟩
theorem flX12_303 : gz_fl RX12 303 12 27 := ⟨by decide, by decide +kernel, gz_mem 1302 (by decide +kernel) (by decide +kernel)⟩
theorem flX12_310 : gz_fl RX12 310 12 47 := ⟨by decide, by decide +kernel, gz_mem 1322 (by decide +kernel) (by decide +kernel)⟩
theorem flX12_313 : gz_fl RX12 313 12 41 := ⟨by decide, by decide +kernel, gz_mem 1316 (by decide +kernel) (by decide +kernel)⟩
theorem flX12_316 : gz_fl RX12 316 12 50 := ⟨by decide, by decide +kernel, gz_mem 1325 (by decide +kernel) (by decide +kernel)⟩
theorem flX12_353 : gz_fl RX12 353 12 38 := ⟨by decide, by decide +kernel, gz_mem 1313 (by decide +kernel) (by decide +kernel)⟩
theorem flX12_356 : gz_fl RX12 356 12 39 := ⟨by decide, by decide +kernel, gz_mem 1314 (by decide +kernel) (by decide +kernel)⟩
theorem flX12_417 : gz_fl RX12 417 12 42 := ⟨by decide, by decide +kernel, gz_mem 1317 (by decide +kernel) (by decide +kernel)⟩
theorem flX2_11 : gz_fl RX2 11 2 6 := ⟨by decide, by decide +kernel, gz_mem 324 (by decide +kernel) (by decide +kernel)⟩
theorem flX2_17 : gz_fl RX2 17 2 7 := ⟨by decide, by decide +kernel, gz_mem 325 (by decide +kernel) (by decide +kernel)⟩
theorem flX2_20 : gz_fl RX2 20 2 8 := ⟨by decide, by decide +kernel, gz_mem 326 (by decide +kernel) (by decide +kernel)⟩
theorem flX2_23 : gz_fl RX2 23 2 2 := ⟨by decide, by decide +kernel, gz_mem 320 (by decide +kernel) (by decide +kernel)⟩
theorem flX2_27 : gz_fl RX2 27 2 3 := ⟨by decide, by decide +kernel, gz_mem 321 (by decide +kernel) (by decide +kernel)⟩
theorem flX2_30 : gz_fl RX2 30 2 4 := ⟨by decide, by decide +kernel, gz_mem 322 (by decide +kernel) (by decide +kernel)⟩
theorem flX2_44 : gz_fl RX2 44 6 0 := ⟨by decide, by decide +kernel, gz_mem 247 (by decide +kernel) (by decide +kernel)⟩
theorem flX2_62 : gz_fl RX2 62 10 2 := ⟨by decide, by decide +kernel, gz_mem 266 (by decide +kernel) (by decide +kernel)⟩
theorem flX2_66 : gz_fl RX2 66 2 5 := ⟨by decide, by decide +kernel, gz_mem 323 (by decide +kernel) (by decide +kernel)⟩
theorem flX2_92 : gz_fl RX2 92 2 0 := ⟨by decide, by decide +kernel, gz_mem 316 (by decide +kernel) (by decide +kernel)⟩
theorem flX2_95 : gz_fl RX2 95 2 1 := ⟨by decide, by decide +kernel, gz_mem 318 (by decide +kernel) (by decide +kernel)⟩
theorem flX3_9 : gz_fl RX3 9 3 0 := ⟨by decide, by decide +kernel, gz_mem 655 (by decide +kernel) (by decide +kernel)⟩
theorem flX4_11 : gz_fl RX4 11 4 1 := ⟨by decide, by decide +kernel, gz_mem 210 (by decide +kernel) (by decide +kernel)⟩
theorem flX4_17 : gz_fl RX4 17 4 0 := ⟨by decide, by decide +kernel, gz_mem 209 (by decide +kernel) (by decide +kernel)⟩
theorem flX4_23 : gz_fl RX4 23 4 2 := ⟨by decide, by decide +kernel, gz_mem 211 (by decide +kernel) (by decide +kernel)⟩
theorem flX4_55 : gz_fl RX4 55 9 2 := ⟨by decide, by decide +kernel, gz_mem 152 (by decide +kernel) (by decide +kernel)⟩
theorem flX4_90 : gz_fl RX4 90 9 4 := ⟨by decide, by decide +kernel, gz_mem 159 (by decide +kernel) (by decide +kernel)⟩
theorem flX5_11 : gz_fl RX5 11 5 1 := ⟨by decide, by decide +kernel, gz_mem 289 (by decide +kernel) (by decide +kernel)⟩
theorem flX5_15 : gz_fl RX5 15 5 2 := ⟨by decide, by decide +kernel, gz_mem 290 (by decide +kernel) (by decide +kernel)⟩
theorem flX5_18 : gz_fl RX5 18 5 3 := ⟨by decide, by decide +kernel, gz_mem 291 (by decide +kernel) (by decide +kernel)⟩
theorem flX5_21 : gz_fl RX5 21 5 4 := ⟨by decide, by decide +kernel, gz_mem 292 (by decide +kernel) (by decide +kernel)⟩
theorem flX5_24 : gz_fl RX5 24 5 0 := ⟨by decide, by decide +kernel, gz_mem 287 (by decide +kernel) (by decide +kernel)⟩
theorem flX5_28 : gz_fl RX5 28 5 5 := ⟨by decide, by decide +kernel, gz_mem 293 (by decide +kernel) (by decide +kernel)⟩
theorem flX5_32 : gz_fl RX5 32 6 0 := ⟨by decide, by decide +kernel, gz_mem 248 (by decide +kernel) (by decide +kernel)⟩
theorem flX5_35 : gz_fl RX5 35 5 6 := ⟨by decide, by decide +kernel, gz_mem 294 (by decide +kernel) (by decide +kernel)⟩
theorem flX6_11 : gz_fl RX6 11 6 0 := ⟨by decide, by decide +kernel, gz_mem 245 (by decide +kernel) (by decide +kernel)⟩
theorem flX7_11 : gz_fl RX7 11 7 1 := ⟨by decide, by decide +kernel, gz_mem 179 (by decide +kernel) (by decide +kernel)⟩
theorem flX7_15 : gz_fl RX7 15 7 2 := ⟨by decide, by decide +kernel, gz_mem 180 (by decide +kernel) (by decide +kernel)⟩
theorem flX7_18 : gz_fl RX7 18 7 3 := ⟨by decide, by decide +kernel, gz_mem 181 (by decide +kernel) (by decide +kernel)⟩
theorem flX7_21 : gz_fl RX7 21 7 4 := ⟨by decide, by decide +kernel, gz_mem 182 (by decide +kernel) (by decide +kernel)⟩
theorem flX7_24 : gz_fl RX7 24 7 0 := ⟨by decide, by decide +kernel, gz_mem 178 (by decide +kernel) (by decide +kernel)⟩
theorem flX7_44 : gz_fl RX7 44 9 2 := ⟨by decide, by decide +kernel, gz_mem 150 (by decide +kernel) (by decide +kernel)⟩
theorem flX7_58 : gz_fl RX7 58 7 5 := ⟨by decide, by decide +kernel, gz_mem 183 (by decide +kernel) (by decide +kernel)⟩
theorem flX7_62 : gz_fl RX7 62 7 6 := ⟨by decide, by decide +kernel, gz_mem 184 (by decide +kernel) (by decide +kernel)⟩
theorem flX7_65 : gz_fl RX7 65 7 7 := ⟨by decide, by decide +kernel, gz_mem 185 (by decide +kernel) (by decide +kernel)⟩
theorem flX7_99 : gz_fl RX7 99 9 4 := ⟨by decide, by decide +kernel, gz_mem 157 (by decide +kernel) (by decide +kernel)⟩
theorem flX7_105 : gz_fl RX7 105 6 0 := ⟨by decide, by decide +kernel, gz_mem 252 (by decide +kernel) (by decide +kernel)⟩
theorem flX8_11 : gz_fl RX8 11 8 4 := ⟨by decide, by decide +kernel, gz_mem 357 (by decide +kernel) (by decide +kernel)⟩
theorem flX8_15 : gz_fl RX8 15 8 5 := ⟨by decide, by decide +kernel, gz_mem 358 (by decide +kernel) (by decide +kernel)⟩
theorem flX8_18 : gz_fl RX8 18 8 6 := ⟨by decide, by decide +kernel, gz_mem 359 (by decide +kernel) (by decide +kernel)⟩
theorem flX8_21 : gz_fl RX8 21 8 7 := ⟨by decide, by decide +kernel, gz_mem 360 (by decide +kernel) (by decide +kernel)⟩
theorem flX8_26 : gz_fl RX8 26 8 8 := ⟨by decide, by decide +kernel, gz_mem 361 (by decide +kernel) (by decide +kernel)⟩
theorem flX8_29 : gz_fl RX8 29 8 1 := ⟨by decide, by decide +kernel, gz_mem 354 (by decide +kernel) (by decide +kernel)⟩
theorem flX8_33 : gz_fl RX8 33 8 2 := ⟨by decide, by decide +kernel, gz_mem 355 (by decide +kernel) (by decide +kernel)⟩
theorem flX8_36 : gz_fl RX8 36 8 3 := ⟨by decide, by decide +kernel, gz_mem 356 (by decide +kernel) (by decide +kernel)⟩
theorem flX8_40 : gz_fl RX8 40 8 0 := ⟨by decide, by decide +kernel, gz_mem 352 (by decide +kernel) (by decide +kernel)⟩
theorem flX8_56 : gz_fl RX8 56 6 0 := ⟨by decide, by decide +kernel, gz_mem 249 (by decide +kernel) (by decide +kernel)⟩
theorem flX9_11 : gz_fl RX9 11 9 0 := ⟨by decide, by decide +kernel, gz_mem 147 (by decide +kernel) (by decide +kernel)⟩
theorem flX9_15 : gz_fl RX9 15 9 1 := ⟨by decide, by decide +kernel, gz_mem 149 (by decide +kernel) (by decide +kernel)⟩
theorem flX9_19 : gz_fl RX9 19 9 2 := ⟨by decide, by decide +kernel, gz_mem 153 (by decide +kernel) (by decide +kernel)⟩
theorem flX9_22 : gz_fl RX9 22 9 3 := ⟨by decide, by decide +kernel, gz_mem 154 (by decide +kernel) (by decide +kernel)⟩
theorem flX9_39 : gz_fl RX9 39 9 4 := ⟨by decide, by decide +kernel, gz_mem 158 (by decide +kernel) (by decide +kernel)⟩
theorem mkJ0_charAt_5068e : gz_mk mJ0_charAt_5068e 1 := ⟨by decide +kernel, ⟨by decide +kernel, by decide +kernel, by decide +kernel⟩, gz_mem 1500 (by decide +kernel) (by decide +kernel), by decide, gz_mem 121 (by decide +kernel) (by decide +kernel)⟩
theorem mkJ0_checkIndex_df160 : gz_mk mJ0_checkIndex_df160 2 := ⟨by decide +kernel, ⟨by decide +kernel, by decide +kernel, by decide +kernel⟩, gz_mem 1510 (by decide +kernel) (by decide +kernel), by decide, gz_mem 121 (by decide +kernel) (by decide +kernel)⟩
theorem mkJ0_coder_7d493 : gz_mk mJ0_coder_7d493 0 := ⟨by decide +kernel, ⟨by decide +kernel, by decide +kernel, by decide +kernel⟩, gz_mem 1491 (by decide +kernel) (by decide +kernel), by decide, gz_mem 121 (by decide +kernel) (by decide +kernel)⟩
theorem mkJ0_isLatin1_aae02 : gz_mk mJ0_isLatin1_aae02 0 := ⟨by decide +kernel, ⟨by decide +kernel, by decide +kernel, by decide +kernel⟩, gz_mem 1504 (by decide +kernel) (by decide +kernel), by decide, gz_mem 121 (by decide +kernel) (by decide +kernel)⟩
theorem mkJ0_length_8abf5 : gz_mk mJ0_length_8abf5 0 := ⟨by decide +kernel, ⟨by decide +kernel, by decide +kernel, by decide +kernel⟩, gz_mem 1487 (by decide +kernel) (by decide +kernel), by decide, gz_mem 121 (by decide +kernel) (by decide +kernel)⟩
theorem mkJ1_charAt_3b067 : gz_mk mJ1_charAt_3b067 2 := ⟨by decide +kernel, ⟨by decide +kernel, by decide +kernel, by decide +kernel⟩, gz_mem 1507 (by decide +kernel) (by decide +kernel), by decide, gz_mem 122 (by decide +kernel) (by decide +kernel)⟩
theorem mkJ3_checkIndex_8e157 : gz_mk mJ3_checkIndex_8e157 3 := ⟨by decide +kernel, ⟨by decide +kernel, by decide +kernel, by decide +kernel⟩, gz_mem 1515 (by decide +kernel) (by decide +kernel), by decide, gz_mem 123 (by decide +kernel) (by decide +kernel)⟩
theorem mkJ6_bitCount_0f7a4 : gz_mk mJ6_bitCount_0f7a4 1 := ⟨by decide +kernel, ⟨by decide +kernel, by decide +kernel, by decide +kernel⟩, gz_mem 1047 (by decide +kernel) (by decide +kernel), by decide, gz_mem 132 (by decide +kernel) (by decide +kernel)⟩
theorem mkJ7_fill_53178 : gz_mk mJ7_fill_53178 2 := ⟨by decide +kernel, ⟨by decide +kernel, by decide +kernel, by decide +kernel⟩, gz_mem 469 (by decide +kernel) (by decide +kernel), by decide, gz_mem 119 (by decide +kernel) (by decide +kernel)⟩
theorem mkJ9_floorMod_7cf53 : gz_mk mJ9_floorMod_7cf53 2 := ⟨by decide +kernel, ⟨by decide +kernel, by decide +kernel, by decide +kernel⟩, gz_mem 768 (by decide +kernel) (by decide +kernel), by decide, gz_mem 125 (by decide +kernel) (by decide +kernel)⟩
theorem mkJ9_max_7cf53 : gz_mk mJ9_max_7cf53 2 := ⟨by decide +kernel, ⟨by decide +kernel, by decide +kernel, by decide +kernel⟩, gz_mem 1073 (by decide +kernel) (by decide +kernel), by decide, gz_mem 125 (by decide +kernel) (by decide +kernel)⟩
theorem mkJ9_max_f86c9 : gz_mk mJ9_max_f86c9 2 := ⟨by decide +kernel, ⟨by decide +kernel, by decide +kernel, by decide +kernel⟩, gz_mem 1618 (by decide +kernel) (by decide +kernel), by decide, gz_mem 125 (by decide +kernel) (by decide +kernel)⟩
theorem mkJ9_min_7cf53 : gz_mk mJ9_min_7cf53 2 := ⟨by decide +kernel, ⟨by decide +kernel, by decide +kernel, by decide +kernel⟩, gz_mem 649 (by decide +kernel) (by decide +kernel), by decide, gz_mem 125 (by decide +kernel) (by decide +kernel)⟩
theorem mkJ9_min_f86c9 : gz_mk mJ9_min_f86c9 2 := ⟨by decide +kernel, ⟨by decide +kernel, by decide +kernel, by decide +kernel⟩, gz_mem 1615 (by decide +kernel) (by decide +kernel), by decide, gz_mem 125 (by decide +kernel) (by decide +kernel)⟩
theorem mkX0_doByHand : gz_mk mX0_doByHand 2 := ⟨by decide +kernel, ⟨by decide +kernel, by decide +kernel, by decide +kernel⟩, gz_mem 917 (by decide +kernel) (by decide +kernel), by decide, gz_mem 127 (by decide +kernel) (by decide +kernel)⟩
theorem mkX0_isHour : gz_mk mX0_isHour 1 := ⟨by decide +kernel, ⟨by decide +kernel, by decide +kernel, by decide +kernel⟩, gz_mem 913 (by decide +kernel) (by decide +kernel), by decide, gz_mem 127 (by decide +kernel) (by decide +kernel)⟩
theorem mkX0_mayBe : gz_mk mX0_mayBe 2 := ⟨by decide +kernel, ⟨by decide +kernel, by decide +kernel, by decide +kernel⟩, gz_mem 904 (by decide +kernel) (by decide +kernel), by decide, gz_mem 127 (by decide +kernel) (by decide +kernel)⟩
theorem mkX0_part : gz_mk mX0_part 2 := ⟨by decide +kernel, ⟨by decide +kernel, by decide +kernel, by decide +kernel⟩, gz_mem 896 (by decide +kernel) (by decide +kernel), by decide, gz_mem 127 (by decide +kernel) (by decide +kernel)⟩
theorem mkX10_lawfulLook : gz_mk mX10_lawfulLook 4 := ⟨by decide +kernel, ⟨by decide +kernel, by decide +kernel, by decide +kernel⟩, gz_mem 754 (by decide +kernel) (by decide +kernel), by decide, gz_mem 114 (by decide +kernel) (by decide +kernel)⟩
theorem mkX10_liesAhead : gz_mk mX10_liesAhead 3 := ⟨by decide +kernel, ⟨by decide +kernel, by decide +kernel, by decide +kernel⟩, gz_mem 741 (by decide +kernel) (by decide +kernel), by decide, gz_mem 114 (by decide +kernel) (by decide +kernel)⟩
theorem mkX10_passHour : gz_mk mX10_passHour 1 := ⟨by decide +kernel, ⟨by decide +kernel, by decide +kernel, by decide +kernel⟩, gz_mem 728 (by decide +kernel) (by decide +kernel), by decide, gz_mem 114 (by decide +kernel) (by decide +kernel)⟩
theorem mkX10_takeStep : gz_mk mX10_takeStep 2 := ⟨by decide +kernel, ⟨by decide +kernel, by decide +kernel, by decide +kernel⟩, gz_mem 737 (by decide +kernel) (by decide +kernel), by decide, gz_mem 114 (by decide +kernel) (by decide +kernel)⟩
theorem mkX10_turnThoseMet : gz_mk mX10_turnThoseMet 1 := ⟨by decide +kernel, ⟨by decide +kernel, by decide +kernel, by decide +kernel⟩, gz_mem 772 (by decide +kernel) (by decide +kernel), by decide, gz_mem 114 (by decide +kernel) (by decide +kernel)⟩
theorem mkX11_draw : gz_mk mX11_draw 1 := ⟨by decide +kernel, ⟨by decide +kernel, by decide +kernel, by decide +kernel⟩, gz_mem 861 (by decide +kernel) (by decide +kernel), by decide, gz_mem 108 (by decide +kernel) (by decide +kernel)⟩
theorem mkX11_eveningOf : gz_mk mX11_eveningOf 1 := ⟨by decide +kernel, ⟨by decide +kernel, by decide +kernel, by decide +kernel⟩, gz_mem 891 (by decide +kernel) (by decide +kernel), by decide, gz_mem 108 (by decide +kernel) (by decide +kernel)⟩
theorem mkX11_passNow : gz_mk mX11_passNow 0 := ⟨by decide +kernel, ⟨by decide +kernel, by decide +kernel, by decide +kernel⟩, gz_mem 724 (by decide +kernel) (by decide +kernel), by decide, gz_mem 108 (by decide +kernel) (by decide +kernel)⟩
theorem mkX12_aheadOf : gz_mk mX12_aheadOf 3 := ⟨by decide +kernel, ⟨by decide +kernel, by decide +kernel, by decide +kernel⟩, gz_mem 1724 (by decide +kernel) (by decide +kernel), by decide, gz_mem 118 (by decide +kernel) (by decide +kernel)⟩
theorem mkX12_areTwo : gz_mk mX12_areTwo 2 := ⟨by decide +kernel, ⟨by decide +kernel, by decide +kernel, by decide +kernel⟩, gz_mem 1841 (by decide +kernel) (by decide +kernel), by decide, gz_mem 118 (by decide +kernel) (by decide +kernel)⟩
theorem mkX12_atom : gz_mk mX12_atom 0 := ⟨by decide +kernel, ⟨by decide +kernel, by decide +kernel, by decide +kernel⟩, gz_mem 1603 (by decide +kernel) (by decide +kernel), by decide, gz_mem 118 (by decide +kernel) (by decide +kernel)⟩
theorem mkX12_begins0 : gz_mk mX12_begins0 3 := ⟨by decide +kernel, ⟨by decide +kernel, by decide +kernel, by decide +kernel⟩, gz_mem 1776 (by decide +kernel) (by decide +kernel), by decide, gz_mem 118 (by decide +kernel) (by decide +kernel)⟩
theorem mkX12_busy : gz_mk mX12_busy 0 := ⟨by decide +kernel, ⟨by decide +kernel, by decide +kernel, by decide +kernel⟩, gz_mem 1969 (by decide +kernel) (by decide +kernel), by decide, gz_mem 118 (by decide +kernel) (by decide +kernel)⟩
theorem mkX12_bytesIn : gz_mk mX12_bytesIn 1 := ⟨by decide +kernel, ⟨by decide +kernel, by decide +kernel, by decide +kernel⟩, gz_mem 1439 (by decide +kernel) (by decide +kernel), by decide, gz_mem 118 (by decide +kernel) (by decide +kernel)⟩
theorem mkX12_canBegin : gz_mk mX12_canBegin 3 := ⟨by decide +kernel, ⟨by decide +kernel, by decide +kernel, by decide +kernel⟩, gz_mem 1771 (by decide +kernel) (by decide +kernel), by decide, gz_mem 118 (by decide +kernel) (by decide +kernel)⟩
theorem mkX12_canLay : gz_mk mX12_canLay 1 := ⟨by decide +kernel, ⟨by decide +kernel, by decide +kernel, by decide +kernel⟩, gz_mem 1887 (by decide +kernel) (by decide +kernel), by decide, gz_mem 118 (by decide +kernel) (by decide +kernel)⟩
theorem mkX12_canPlay : gz_mk mX12_canPlay 2 := ⟨by decide +kernel, ⟨by decide +kernel, by decide +kernel, by decide +kernel⟩, gz_mem 1917 (by decide +kernel) (by decide +kernel), by decide, gz_mem 118 (by decide +kernel) (by decide +kernel)⟩
theorem mkX12_canStep : gz_mk mX12_canStep 2 := ⟨by decide +kernel, ⟨by decide +kernel, by decide +kernel, by decide +kernel⟩, gz_mem 1820 (by decide +kernel) (by decide +kernel), by decide, gz_mem 118 (by decide +kernel) (by decide +kernel)⟩
theorem mkX12_canSweep : gz_mk mX12_canSweep 2 := ⟨by decide +kernel, ⟨by decide +kernel, by decide +kernel, by decide +kernel⟩, gz_mem 1758 (by decide +kernel) (by decide +kernel), by decide, gz_mem 118 (by decide +kernel) (by decide +kernel)⟩
theorem mkX12_canTide : gz_mk mX12_canTide 2 := ⟨by decide +kernel, ⟨by decide +kernel, by decide +kernel, by decide +kernel⟩, gz_mem 1741 (by decide +kernel) (by decide +kernel), by decide, gz_mem 118 (by decide +kernel) (by decide +kernel)⟩
theorem mkX12_cells : gz_mk mX12_cells 0 := ⟨by decide +kernel, ⟨by decide +kernel, by decide +kernel, by decide +kernel⟩, gz_mem 1651 (by decide +kernel) (by decide +kernel), by decide, gz_mem 118 (by decide +kernel) (by decide +kernel)⟩
theorem mkX12_clause : gz_mk mX12_clause 0 := ⟨by decide +kernel, ⟨by decide +kernel, by decide +kernel, by decide +kernel⟩, gz_mem 1572 (by decide +kernel) (by decide +kernel), by decide, gz_mem 118 (by decide +kernel) (by decide +kernel)⟩
theorem mkX12_compares : gz_mk mX12_compares 2 := ⟨by decide +kernel, ⟨by decide +kernel, by decide +kernel, by decide +kernel⟩, gz_mem 1591 (by decide +kernel) (by decide +kernel), by decide, gz_mem 118 (by decide +kernel) (by decide +kernel)⟩
theorem mkX12_condition : gz_mk mX12_condition 2 := ⟨by decide +kernel, ⟨by decide +kernel, by decide +kernel, by decide +kernel⟩, gz_mem 1583 (by decide +kernel) (by decide +kernel), by decide, gz_mem 118 (by decide +kernel) (by decide +kernel)⟩
theorem mkX12_copy : gz_mk mX12_copy 2 := ⟨by decide +kernel, ⟨by decide +kernel, by decide +kernel, by decide +kernel⟩, gz_mem 1816 (by decide +kernel) (by decide +kernel), by decide, gz_mem 118 (by decide +kernel) (by decide +kernel)⟩
theorem mkX12_crowd : gz_mk mX12_crowd 0 := ⟨by decide +kernel, ⟨by decide +kernel, by decide +kernel, by decide +kernel⟩, gz_mem 1965 (by decide +kernel) (by decide +kernel), by decide, gz_mem 118 (by decide +kernel) (by decide +kernel)⟩
theorem mkX12_digit : gz_mk mX12_digit 0 := ⟨by decide +kernel, ⟨by decide +kernel, by decide +kernel, by decide +kernel⟩, gz_mem 1638 (by decide +kernel) (by decide +kernel), by decide, gz_mem 118 (by decide +kernel) (by decide +kernel)⟩
theorem mkX12_does : gz_mk mX12_does 2 := ⟨by decide +kernel, ⟨by decide +kernel, by decide +kernel, by decide +kernel⟩, gz_mem 1708 (by decide +kernel) (by decide +kernel), by decide, gz_mem 118 (by decide +kernel) (by decide +kernel)⟩
theorem mkX12_doesFace : gz_mk mX12_doesFace 2 := ⟨by decide +kernel, ⟨by decide +kernel, by decide +kernel, by decide +kernel⟩, gz_mem 1977 (by decide +kernel) (by decide +kernel), by decide, gz_mem 118 (by decide +kernel) (by decide +kernel)⟩
theorem mkX12_doesKeep : gz_mk mX12_doesKeep 5 := ⟨by decide +kernel, ⟨by decide +kernel, by decide +kernel, by decide +kernel⟩, gz_mem 1883 (by decide +kernel) (by decide +kernel), by decide, gz_mem 118 (by decide +kernel) (by decide +kernel)⟩
theorem mkX12_draw : gz_mk mX12_draw 1 := ⟨by decide +kernel, ⟨by decide +kernel, by decide +kernel, by decide +kernel⟩, gz_mem 1790 (by decide +kernel) (by decide +kernel), by decide, gz_mem 118 (by decide +kernel) (by decide +kernel)⟩
theorem mkX12_dry : gz_mk mX12_dry 1 := ⟨by decide +kernel, ⟨by decide +kernel, by decide +kernel, by decide +kernel⟩, gz_mem 1961 (by decide +kernel) (by decide +kernel), by decide, gz_mem 118 (by decide +kernel) (by decide +kernel)⟩
theorem mkX12_faced : gz_mk mX12_faced 0 := ⟨by decide +kernel, ⟨by decide +kernel, by decide +kernel, by decide +kernel⟩, gz_mem 1973 (by decide +kernel) (by decide +kernel), by decide, gz_mem 118 (by decide +kernel) (by decide +kernel)⟩
theorem mkX12_fails : gz_mk mX12_fails 0 := ⟨by decide +kernel, ⟨by decide +kernel, by decide +kernel, by decide +kernel⟩, gz_mem 1478 (by decide +kernel) (by decide +kernel), by decide, gz_mem 118 (by decide +kernel) (by decide +kernel)⟩
theorem mkX12_fault : gz_mk mX12_fault 1 := ⟨by decide +kernel, ⟨by decide +kernel, by decide +kernel, by decide +kernel⟩, gz_mem 1451 (by decide +kernel) (by decide +kernel), by decide, gz_mem 118 (by decide +kernel) (by decide +kernel)⟩
theorem mkX12_gameOf : gz_mk mX12_gameOf 5 := ⟨by decide +kernel, ⟨by decide +kernel, by decide +kernel, by decide +kernel⟩, gz_mem 1921 (by decide +kernel) (by decide +kernel), by decide, gz_mem 118 (by decide +kernel) (by decide +kernel)⟩
theorem mkX12_goHour : gz_mk mX12_goHour 1 := ⟨by decide +kernel, ⟨by decide +kernel, by decide +kernel, by decide +kernel⟩, gz_mem 1701 (by decide +kernel) (by decide +kernel), by decide, gz_mem 118 (by decide +kernel) (by decide +kernel)⟩
theorem mkX12_goPlan : gz_mk mX12_goPlan 2 := ⟨by decide +kernel, ⟨by decide +kernel, by decide +kernel, by decide +kernel⟩, gz_mem 1824 (by decide +kernel) (by decide +kernel), by decide, gz_mem 118 (by decide +kernel) (by decide +kernel)⟩
theorem mkX12_goStep : gz_mk mX12_goStep 3 := ⟨by decide +kernel, ⟨by decide +kernel, by decide +kernel, by decide +kernel⟩, gz_mem 1716 (by decide +kernel) (by decide +kernel), by decide, gz_mem 118 (by decide +kernel) (by decide +kernel)⟩
theorem mkX12_goSteps : gz_mk mX12_goSteps 1 := ⟨by decide +kernel, ⟨by decide +kernel, by decide +kernel, by decide +kernel⟩, gz_mem 1866 (by decide +kernel) (by decide +kernel), by decide, gz_mem 118 (by decide +kernel) (by decide +kernel)⟩
theorem mkX12_goThrough : gz_mk mX12_goThrough 3 := ⟨by decide +kernel, ⟨by decide +kernel, by decide +kernel, by decide +kernel⟩, gz_mem 1568 (by decide +kernel) (by decide +kernel), by decide, gz_mem 118 (by decide +kernel) (by decide +kernel)⟩
theorem mkX12_goesIn : gz_mk mX12_goesIn 0 := ⟨by decide +kernel, ⟨by decide +kernel, by decide +kernel, by decide +kernel⟩, gz_mem 1607 (by decide +kernel) (by decide +kernel), by decide, gz_mem 118 (by decide +kernel) (by decide +kernel)⟩
theorem mkX12_goesOn : gz_mk mX12_goesOn 3 := ⟨by decide +kernel, ⟨by decide +kernel, by decide +kernel, by decide +kernel⟩, gz_mem 1712 (by decide +kernel) (by decide +kernel), by decide, gz_mem 118 (by decide +kernel) (by decide +kernel)⟩
theorem mkX12_goingOn : gz_mk mX12_goingOn 2 := ⟨by decide +kernel, ⟨by decide +kernel, by decide +kernel, by decide +kernel⟩, gz_mem 1750 (by decide +kernel) (by decide +kernel), by decide, gz_mem 118 (by decide +kernel) (by decide +kernel)⟩
theorem mkX12_greatest : gz_mk mX12_greatest 1 := ⟨by decide +kernel, ⟨by decide +kernel, by decide +kernel, by decide +kernel⟩, gz_mem 1953 (by decide +kernel) (by decide +kernel), by decide, gz_mem 118 (by decide +kernel) (by decide +kernel)⟩
theorem mkX12_has : gz_mk mX12_has 2 := ⟨by decide +kernel, ⟨by decide +kernel, by decide +kernel, by decide +kernel⟩, gz_mem 1537 (by decide +kernel) (by decide +kernel), by decide, gz_mem 118 (by decide +kernel) (by decide +kernel)⟩
theorem mkX12_haveMet : gz_mk mX12_haveMet 2 := ⟨by decide +kernel, ⟨by decide +kernel, by decide +kernel, by decide +kernel⟩, gz_mem 1849 (by decide +kernel) (by decide +kernel), by decide, gz_mem 118 (by decide +kernel) (by decide +kernel)⟩
theorem mkX12_here : gz_mk mX12_here 0 := ⟨by decide +kernel, ⟨by decide +kernel, by decide +kernel, by decide +kernel⟩, gz_mem 1555 (by decide +kernel) (by decide +kernel), by decide, gz_mem 118 (by decide +kernel) (by decide +kernel)⟩
theorem mkX12_isAmong : gz_mk mX12_isAmong 2 := ⟨by decide +kernel, ⟨by decide +kernel, by decide +kernel, by decide +kernel⟩, gz_mem 1575 (by decide +kernel) (by decide +kernel), by decide, gz_mem 118 (by decide +kernel) (by decide +kernel)⟩
theorem mkX12_isCell : gz_mk mX12_isCell 1 := ⟨by decide +kernel, ⟨by decide +kernel, by decide +kernel, by decide +kernel⟩, gz_mem 1663 (by decide +kernel) (by decide +kernel), by decide, gz_mem 118 (by decide +kernel) (by decide +kernel)⟩
theorem mkX12_isDigit : gz_mk mX12_isDigit 0 := ⟨by decide +kernel, ⟨by decide +kernel, by decide +kernel, by decide +kernel⟩, gz_mem 1551 (by decide +kernel) (by decide +kernel), by decide, gz_mem 118 (by decide +kernel) (by decide +kernel)⟩
theorem mkX12_isDry : gz_mk mX12_isDry 1 := ⟨by decide +kernel, ⟨by decide +kernel, by decide +kernel, by decide +kernel⟩, gz_mem 1870 (by decide +kernel) (by decide +kernel), by decide, gz_mem 118 (by decide +kernel) (by decide +kernel)⟩
theorem mkX12_isFit : gz_mk mX12_isFit 2 := ⟨by decide +kernel, ⟨by decide +kernel, by decide +kernel, by decide +kernel⟩, gz_mem 1905 (by decide +kernel) (by decide +kernel), by decide, gz_mem 118 (by decide +kernel) (by decide +kernel)⟩
theorem mkX12_isGoer : gz_mk mX12_isGoer 1 := ⟨by decide +kernel, ⟨by decide +kernel, by decide +kernel, by decide +kernel⟩, gz_mem 1675 (by decide +kernel) (by decide +kernel), by decide, gz_mem 118 (by decide +kernel) (by decide +kernel)⟩
theorem mkX12_isIn : gz_mk mX12_isIn 3 := ⟨by decide +kernel, ⟨by decide +kernel, by decide +kernel, by decide +kernel⟩, gz_mem 1455 (by decide +kernel) (by decide +kernel), by decide, gz_mem 118 (by decide +kernel) (by decide +kernel)⟩
theorem mkX12_isPlan : gz_mk mX12_isPlan 1 := ⟨by decide +kernel, ⟨by decide +kernel, by decide +kernel, by decide +kernel⟩, gz_mem 1808 (by decide +kernel) (by decide +kernel), by decide, gz_mem 118 (by decide +kernel) (by decide +kernel)⟩
theorem mkX12_isSign : gz_mk mX12_isSign 1 := ⟨by decide +kernel, ⟨by decide +kernel, by decide +kernel, by decide +kernel⟩, gz_mem 1621 (by decide +kernel) (by decide +kernel), by decide, gz_mem 118 (by decide +kernel) (by decide +kernel)⟩
theorem mkX12_isUnder : gz_mk mX12_isUnder 2 := ⟨by decide +kernel, ⟨by decide +kernel, by decide +kernel, by decide +kernel⟩, gz_mem 1667 (by decide +kernel) (by decide +kernel), by decide, gz_mem 118 (by decide +kernel) (by decide +kernel)⟩
theorem mkX12_isWhole : gz_mk mX12_isWhole 0 := ⟨by decide +kernel, ⟨by decide +kernel, by decide +kernel, by decide +kernel⟩, gz_mem 1564 (by decide +kernel) (by decide +kernel), by decide, gz_mem 118 (by decide +kernel) (by decide +kernel)⟩
theorem mkX12_lays : gz_mk mX12_lays 1 := ⟨by decide +kernel, ⟨by decide +kernel, by decide +kernel, by decide +kernel⟩, gz_mem 1647 (by decide +kernel) (by decide +kernel), by decide, gz_mem 118 (by decide +kernel) (by decide +kernel)⟩
theorem mkX12_laysPaths : gz_mk mX12_laysPaths 1 := ⟨by decide +kernel, ⟨by decide +kernel, by decide +kernel, by decide +kernel⟩, gz_mem 1901 (by decide +kernel) (by decide +kernel), by decide, gz_mem 118 (by decide +kernel) (by decide +kernel)⟩
theorem mkX12_leastOf : gz_mk mX12_leastOf 2 := ⟨by decide +kernel, ⟨by decide +kernel, by decide +kernel, by decide +kernel⟩, gz_mem 1540 (by decide +kernel) (by decide +kernel), by decide, gz_mem 118 (by decide +kernel) (by decide +kernel)⟩
theorem mkX12_look : gz_mk mX12_look 0 := ⟨by decide +kernel, ⟨by decide +kernel, by decide +kernel, by decide +kernel⟩, gz_mem 1474 (by decide +kernel) (by decide +kernel), by decide, gz_mem 118 (by decide +kernel) (by decide +kernel)⟩
theorem mkX12_meetsWithin : gz_mk mX12_meetsWithin 3 := ⟨by decide +kernel, ⟨by decide +kernel, by decide +kernel, by decide +kernel⟩, gz_mem 1845 (by decide +kernel) (by decide +kernel), by decide, gz_mem 118 (by decide +kernel) (by decide +kernel)⟩
theorem mkX12_mostOf : gz_mk mX12_mostOf 2 := ⟨by decide +kernel, ⟨by decide +kernel, by decide +kernel, by decide +kernel⟩, gz_mem 1543 (by decide +kernel) (by decide +kernel), by decide, gz_mem 118 (by decide +kernel) (by decide +kernel)⟩
theorem mkX12_nextCell : gz_mk mX12_nextCell 2 := ⟨by decide +kernel, ⟨by decide +kernel, by decide +kernel, by decide +kernel⟩, gz_mem 1728 (by decide +kernel) (by decide +kernel), by decide, gz_mem 118 (by decide +kernel) (by decide +kernel)⟩
theorem mkX12_number : gz_mk mX12_number 2 := ⟨by decide +kernel, ⟨by decide +kernel, by decide +kernel, by decide +kernel⟩, gz_mem 1547 (by decide +kernel) (by decide +kernel), by decide, gz_mem 118 (by decide +kernel) (by decide +kernel)⟩
theorem mkX12_oddsFrom : gz_mk mX12_oddsFrom 5 := ⟨by decide +kernel, ⟨by decide +kernel, by decide +kernel, by decide +kernel⟩, gz_mem 1936 (by decide +kernel) (by decide +kernel), by decide, gz_mem 118 (by decide +kernel) (by decide +kernel)⟩
theorem mkX12_paceOf : gz_mk mX12_paceOf 1 := ⟨by decide +kernel, ⟨by decide +kernel, by decide +kernel, by decide +kernel⟩, gz_mem 1680 (by decide +kernel) (by decide +kernel), by decide, gz_mem 118 (by decide +kernel) (by decide +kernel)⟩
theorem mkX12_part : gz_mk mX12_part 2 := ⟨by decide +kernel, ⟨by decide +kernel, by decide +kernel, by decide +kernel⟩, gz_mem 1587 (by decide +kernel) (by decide +kernel), by decide, gz_mem 118 (by decide +kernel) (by decide +kernel)⟩
theorem mkX12_passes : gz_mk mX12_passes 1 := ⟨by decide +kernel, ⟨by decide +kernel, by decide +kernel, by decide +kernel⟩, gz_mem 1705 (by decide +kernel) (by decide +kernel), by decide, gz_mem 118 (by decide +kernel) (by decide +kernel)⟩
theorem mkX12_put : gz_mk mX12_put 1 := ⟨by decide +kernel, ⟨by decide +kernel, by decide +kernel, by decide +kernel⟩, gz_mem 1443 (by decide +kernel) (by decide +kernel), by decide, gz_mem 118 (by decide +kernel) (by decide +kernel)⟩
theorem mkX12_readClause : gz_mk mX12_readClause 0 := ⟨by decide +kernel, ⟨by decide +kernel, by decide +kernel, by decide +kernel⟩, gz_mem 1470 (by decide +kernel) (by decide +kernel), by decide, gz_mem 118 (by decide +kernel) (by decide +kernel)⟩
theorem mkX12_readItems : gz_mk mX12_readItems 4 := ⟨by decide +kernel, ⟨by decide +kernel, by decide +kernel, by decide +kernel⟩, gz_mem 1483 (by decide +kernel) (by decide +kernel), by decide, gz_mem 118 (by decide +kernel) (by decide +kernel)⟩
theorem mkX12_readPlan : gz_mk mX12_readPlan 0 := ⟨by decide +kernel, ⟨by decide +kernel, by decide +kernel, by decide +kernel⟩, gz_mem 1629 (by decide +kernel) (by decide +kernel), by decide, gz_mem 118 (by decide +kernel) (by decide +kernel)⟩
theorem mkX12_readRow : gz_mk mX12_readRow 0 := ⟨by decide +kernel, ⟨by decide +kernel, by decide +kernel, by decide +kernel⟩, gz_mem 1559 (by decide +kernel) (by decide +kernel), by decide, gz_mem 118 (by decide +kernel) (by decide +kernel)⟩
theorem mkX12_readShore : gz_mk mX12_readShore 0 := ⟨by decide +kernel, ⟨by decide +kernel, by decide +kernel, by decide +kernel⟩, gz_mem 1459 (by decide +kernel) (by decide +kernel), by decide, gz_mem 118 (by decide +kernel) (by decide +kernel)⟩
theorem mkX12_readStep : gz_mk mX12_readStep 1 := ⟨by decide +kernel, ⟨by decide +kernel, by decide +kernel, by decide +kernel⟩, gz_mem 1633 (by decide +kernel) (by decide +kernel), by decide, gz_mem 118 (by decide +kernel) (by decide +kernel)⟩
theorem mkX12_remember : gz_mk mX12_remember 0 := ⟨by decide +kernel, ⟨by decide +kernel, by decide +kernel, by decide +kernel⟩, gz_mem 1697 (by decide +kernel) (by decide +kernel), by decide, gz_mem 118 (by decide +kernel) (by decide +kernel)⟩
theorem mkX12_spotOf : gz_mk mX12_spotOf 2 := ⟨by decide +kernel, ⟨by decide +kernel, by decide +kernel, by decide +kernel⟩, gz_mem 1496 (by decide +kernel) (by decide +kernel), by decide, gz_mem 118 (by decide +kernel) (by decide +kernel)⟩
theorem mkX12_startOf : gz_mk mX12_startOf 1 := ⟨by decide +kernel, ⟨by decide +kernel, by decide +kernel, by decide +kernel⟩, gz_mem 1655 (by decide +kernel) (by decide +kernel), by decide, gz_mem 118 (by decide +kernel) (by decide +kernel)⟩
theorem mkX12_starts : gz_mk mX12_starts 3 := ⟨by decide +kernel, ⟨by decide +kernel, by decide +kernel, by decide +kernel⟩, gz_mem 1463 (by decide +kernel) (by decide +kernel), by decide, gz_mem 118 (by decide +kernel) (by decide +kernel)⟩
theorem mkX12_stonesOf : gz_mk mX12_stonesOf 3 := ⟨by decide +kernel, ⟨by decide +kernel, by decide +kernel, by decide +kernel⟩, gz_mem 1879 (by decide +kernel) (by decide +kernel), by decide, gz_mem 118 (by decide +kernel) (by decide +kernel)⟩
theorem mkX12_sum : gz_mk mX12_sum 0 := ⟨by decide +kernel, ⟨by decide +kernel, by decide +kernel, by decide +kernel⟩, gz_mem 1595 (by decide +kernel) (by decide +kernel), by decide, gz_mem 118 (by decide +kernel) (by decide +kernel)⟩
theorem mkX12_sweeps : gz_mk mX12_sweeps 2 := ⟨by decide +kernel, ⟨by decide +kernel, by decide +kernel, by decide +kernel⟩, gz_mem 1762 (by decide +kernel) (by decide +kernel), by decide, gz_mem 118 (by decide +kernel) (by decide +kernel)⟩
theorem mkX12_takes : gz_mk mX12_takes 1 := ⟨by decide +kernel, ⟨by decide +kernel, by decide +kernel, by decide +kernel⟩, gz_mem 1579 (by decide +kernel) (by decide +kernel), by decide, gz_mem 118 (by decide +kernel) (by decide +kernel)⟩
theorem mkX12_term : gz_mk mX12_term 0 := ⟨by decide +kernel, ⟨by decide +kernel, by decide +kernel, by decide +kernel⟩, gz_mem 1599 (by decide +kernel) (by decide +kernel), by decide, gz_mem 118 (by decide +kernel) (by decide +kernel)⟩
theorem mkX12_thoseWho : gz_mk mX12_thoseWho 1 := ⟨by decide +kernel, ⟨by decide +kernel, by decide +kernel, by decide +kernel⟩, gz_mem 1957 (by decide +kernel) (by decide +kernel), by decide, gz_mem 118 (by decide +kernel) (by decide +kernel)⟩
theorem mkX12_turnOf : gz_mk mX12_turnOf 3 := ⟨by decide +kernel, ⟨by decide +kernel, by decide +kernel, by decide +kernel⟩, gz_mem 1720 (by decide +kernel) (by decide +kernel), by decide, gz_mem 118 (by decide +kernel) (by decide +kernel)⟩
theorem mkX12_unit : gz_mk mX12_unit 0 := ⟨by decide +kernel, ⟨by decide +kernel, by decide +kernel, by decide +kernel⟩, gz_mem 1625 (by decide +kernel) (by decide +kernel), by decide, gz_mem 118 (by decide +kernel) (by decide +kernel)⟩
theorem mkX12_usual : gz_mk mX12_usual 2 := ⟨by decide +kernel, ⟨by decide +kernel, by decide +kernel, by decide +kernel⟩, gz_mem 1466 (by decide +kernel) (by decide +kernel), by decide, gz_mem 118 (by decide +kernel) (by decide +kernel)⟩
theorem mkX12_within : gz_mk mX12_within 1 := ⟨by decide +kernel, ⟨by decide +kernel, by decide +kernel, by decide +kernel⟩, gz_mem 1610 (by decide +kernel) (by decide +kernel), by decide, gz_mem 118 (by decide +kernel) (by decide +kernel)⟩
theorem mkX12_worthOf : gz_mk mX12_worthOf 6 := ⟨by decide +kernel, ⟨by decide +kernel, by decide +kernel, by decide +kernel⟩, gz_mem 1732 (by decide +kernel) (by decide +kernel), by decide, gz_mem 118 (by decide +kernel) (by decide +kernel)⟩
theorem mkX1_putStep : gz_mk mX1_putStep 4 := ⟨by decide +kernel, ⟨by decide +kernel, by decide +kernel, by decide +kernel⟩, gz_mem 588 (by decide +kernel) (by decide +kernel), by decide, gz_mem 112 (by decide +kernel) (by decide +kernel)⟩
theorem mkX1_readDigits : gz_mk mX1_readDigits 3 := ⟨by decide +kernel, ⟨by decide +kernel, by decide +kernel, by decide +kernel⟩, gz_mem 592 (by decide +kernel) (by decide +kernel), by decide, gz_mem 112 (by decide +kernel) (by decide +kernel)⟩
theorem mkX1_readEvening : gz_mk mX1_readEvening 0 := ⟨by decide +kernel, ⟨by decide +kernel, by decide +kernel, by decide +kernel⟩, gz_mem 578 (by decide +kernel) (by decide +kernel), by decide, gz_mem 112 (by decide +kernel) (by decide +kernel)⟩
theorem mkX1_readStep : gz_mk mX1_readStep 1 := ⟨by decide +kernel, ⟨by decide +kernel, by decide +kernel, by decide +kernel⟩, gz_mem 583 (by decide +kernel) (by decide +kernel), by decide, gz_mem 112 (by decide +kernel) (by decide +kernel)⟩
theorem mkX2_apartAnyway : gz_mk mX2_apartAnyway 3 := ⟨by decide +kernel, ⟨by decide +kernel, by decide +kernel, by decide +kernel⟩, gz_mem 995 (by decide +kernel) (by decide +kernel), by decide, gz_mem 116 (by decide +kernel) (by decide +kernel)⟩
theorem mkX2_cellBehind : gz_mk mX2_cellBehind 2 := ⟨by decide +kernel, ⟨by decide +kernel, by decide +kernel, by decide +kernel⟩, gz_mem 932 (by decide +kernel) (by decide +kernel), by decide, gz_mem 116 (by decide +kernel) (by decide +kernel)⟩
theorem mkX2_endOf : gz_mk mX2_endOf 2 := ⟨by decide +kernel, ⟨by decide +kernel, by decide +kernel, by decide +kernel⟩, gz_mem 959 (by decide +kernel) (by decide +kernel), by decide, gz_mem 116 (by decide +kernel) (by decide +kernel)⟩
theorem mkX2_firstMeeting : gz_mk mX2_firstMeeting 2 := ⟨by decide +kernel, ⟨by decide +kernel, by decide +kernel, by decide +kernel⟩, gz_mem 946 (by decide +kernel) (by decide +kernel), by decide, gz_mem 116 (by decide +kernel) (by decide +kernel)⟩
theorem mkX2_isFree : gz_mk mX2_isFree 1 := ⟨by decide +kernel, ⟨by decide +kernel, by decide +kernel, by decide +kernel⟩, gz_mem 1012 (by decide +kernel) (by decide +kernel), by decide, gz_mem 116 (by decide +kernel) (by decide +kernel)⟩
theorem mkX2_isRest : gz_mk mX2_isRest 2 := ⟨by decide +kernel, ⟨by decide +kernel, by decide +kernel, by decide +kernel⟩, gz_mem 1101 (by decide +kernel) (by decide +kernel), by decide, gz_mem 116 (by decide +kernel) (by decide +kernel)⟩
theorem mkX2_keepsApart : gz_mk mX2_keepsApart 5 := ⟨by decide +kernel, ⟨by decide +kernel, by decide +kernel, by decide +kernel⟩, gz_mem 999 (by decide +kernel) (by decide +kernel), by decide, gz_mem 116 (by decide +kernel) (by decide +kernel)⟩
theorem mkX2_layRock : gz_mk mX2_layRock 1 := ⟨by decide +kernel, ⟨by decide +kernel, by decide +kernel, by decide +kernel⟩, gz_mem 1003 (by decide +kernel) (by decide +kernel), by decide, gz_mem 116 (by decide +kernel) (by decide +kernel)⟩
theorem mkX2_nthBit : gz_mk mX2_nthBit 2 := ⟨by decide +kernel, ⟨by decide +kernel, by decide +kernel, by decide +kernel⟩, gz_mem 1057 (by decide +kernel) (by decide +kernel), by decide, gz_mem 116 (by decide +kernel) (by decide +kernel)⟩
theorem mkX2_oneStone : gz_mk mX2_oneStone 3 := ⟨by decide +kernel, ⟨by decide +kernel, by decide +kernel, by decide +kernel⟩, gz_mem 1007 (by decide +kernel) (by decide +kernel), by decide, gz_mem 116 (by decide +kernel) (by decide +kernel)⟩
theorem mkX2_partsOf : gz_mk mX2_partsOf 4 := ⟨by decide +kernel, ⟨by decide +kernel, by decide +kernel, by decide +kernel⟩, gz_mem 1118 (by decide +kernel) (by decide +kernel), by decide, gz_mem 116 (by decide +kernel) (by decide +kernel)⟩
theorem mkX2_partsOn : gz_mk mX2_partsOn 4 := ⟨by decide +kernel, ⟨by decide +kernel, by decide +kernel, by decide +kernel⟩, gz_mem 1114 (by decide +kernel) (by decide +kernel), by decide, gz_mem 116 (by decide +kernel) (by decide +kernel)⟩
theorem mkX2_play : gz_mk mX2_play 4 := ⟨by decide +kernel, ⟨by decide +kernel, by decide +kernel, by decide +kernel⟩, gz_mem 1087 (by decide +kernel) (by decide +kernel), by decide, gz_mem 116 (by decide +kernel) (by decide +kernel)⟩
theorem mkX2_rest : gz_mk mX2_rest 2 := ⟨by decide +kernel, ⟨by decide +kernel, by decide +kernel, by decide +kernel⟩, gz_mem 1105 (by decide +kernel) (by decide +kernel), by decide, gz_mem 116 (by decide +kernel) (by decide +kernel)⟩
theorem mkX2_restsOf : gz_mk mX2_restsOf 2 := ⟨by decide +kernel, ⟨by decide +kernel, by decide +kernel, by decide +kernel⟩, gz_mem 1096 (by decide +kernel) (by decide +kernel), by decide, gz_mem 116 (by decide +kernel) (by decide +kernel)⟩
theorem mkX2_sameAgain : gz_mk mX2_sameAgain 1 := ⟨by decide +kernel, ⟨by decide +kernel, by decide +kernel, by decide +kernel⟩, gz_mem 969 (by decide +kernel) (by decide +kernel), by decide, gz_mem 116 (by decide +kernel) (by decide +kernel)⟩
theorem mkX2_twoStones : gz_mk mX2_twoStones 3 := ⟨by decide +kernel, ⟨by decide +kernel, by decide +kernel, by decide +kernel⟩, gz_mem 1018 (by decide +kernel) (by decide +kernel), by decide, gz_mem 116 (by decide +kernel) (by decide +kernel)⟩
theorem mkX3_joined : gz_mk mX3_joined 3 := ⟨by decide +kernel, ⟨by decide +kernel, by decide +kernel, by decide +kernel⟩, gz_mem 761 (by decide +kernel) (by decide +kernel), by decide, gz_mem 120 (by decide +kernel) (by decide +kernel)⟩
theorem mkX3_letterOf : gz_mk mX3_letterOf 1 := ⟨by decide +kernel, ⟨by decide +kernel, by decide +kernel, by decide +kernel⟩, gz_mem 549 (by decide +kernel) (by decide +kernel), by decide, gz_mem 120 (by decide +kernel) (by decide +kernel)⟩
theorem mkX3_worth : gz_mk mX3_worth 2 := ⟨by decide +kernel, ⟨by decide +kernel, by decide +kernel, by decide +kernel⟩, gz_mem 758 (by decide +kernel) (by decide +kernel), by decide, gz_mem 120 (by decide +kernel) (by decide +kernel)⟩
theorem mkX4_comparing : gz_mk mX4_comparing 1 := ⟨by decide +kernel, ⟨by decide +kernel, by decide +kernel, by decide +kernel⟩, gz_mem 558 (by decide +kernel) (by decide +kernel), by decide, gz_mem 111 (by decide +kernel) (by decide +kernel)⟩
theorem mkX4_joining : gz_mk mX4_joining 1 := ⟨by decide +kernel, ⟨by decide +kernel, by decide +kernel, by decide +kernel⟩, gz_mem 555 (by decide +kernel) (by decide +kernel), by decide, gz_mem 111 (by decide +kernel) (by decide +kernel)⟩
theorem mkX4_put : gz_mk mX4_put 1 := ⟨by decide +kernel, ⟨by decide +kernel, by decide +kernel, by decide +kernel⟩, gz_mem 546 (by decide +kernel) (by decide +kernel), by decide, gz_mem 111 (by decide +kernel) (by decide +kernel)⟩
theorem mkX4_readAtom : gz_mk mX4_readAtom 1 := ⟨by decide +kernel, ⟨by decide +kernel, by decide +kernel, by decide +kernel⟩, gz_mem 541 (by decide +kernel) (by decide +kernel), by decide, gz_mem 111 (by decide +kernel) (by decide +kernel)⟩
theorem mkX4_readClause : gz_mk mX4_readClause 0 := ⟨by decide +kernel, ⟨by decide +kernel, by decide +kernel, by decide +kernel⟩, gz_mem 532 (by decide +kernel) (by decide +kernel), by decide, gz_mem 111 (by decide +kernel) (by decide +kernel)⟩
theorem mkX4_readCompared : gz_mk mX4_readCompared 1 := ⟨by decide +kernel, ⟨by decide +kernel, by decide +kernel, by decide +kernel⟩, gz_mem 566 (by decide +kernel) (by decide +kernel), by decide, gz_mem 111 (by decide +kernel) (by decide +kernel)⟩
theorem mkX4_readCondition : gz_mk mX4_readCondition 2 := ⟨by decide +kernel, ⟨by decide +kernel, by decide +kernel, by decide +kernel⟩, gz_mem 562 (by decide +kernel) (by decide +kernel), by decide, gz_mem 111 (by decide +kernel) (by decide +kernel)⟩
theorem mkX4_readLaw : gz_mk mX4_readLaw 0 := ⟨by decide +kernel, ⟨by decide +kernel, by decide +kernel, by decide +kernel⟩, gz_mem 526 (by decide +kernel) (by decide +kernel), by decide, gz_mem 111 (by decide +kernel) (by decide +kernel)⟩
theorem mkX4_readSum : gz_mk mX4_readSum 1 := ⟨by decide +kernel, ⟨by decide +kernel, by decide +kernel, by decide +kernel⟩, gz_mem 537 (by decide +kernel) (by decide +kernel), by decide, gz_mem 111 (by decide +kernel) (by decide +kernel)⟩
theorem mkX4_readUnit : gz_mk mX4_readUnit 1 := ⟨by decide +kernel, ⟨by decide +kernel, by decide +kernel, by decide +kernel⟩, gz_mem 570 (by decide +kernel) (by decide +kernel), by decide, gz_mem 111 (by decide +kernel) (by decide +kernel)⟩
theorem mkX5_bringBack : gz_mk mX5_bringBack 1 := ⟨by decide +kernel, ⟨by decide +kernel, by decide +kernel, by decide +kernel⟩, gz_mem 1187 (by decide +kernel) (by decide +kernel), by decide, gz_mem 115 (by decide +kernel) (by decide +kernel)⟩
theorem mkX5_forget : gz_mk mX5_forget 0 := ⟨by decide +kernel, ⟨by decide +kernel, by decide +kernel, by decide +kernel⟩, gz_mem 622 (by decide +kernel) (by decide +kernel), by decide, gz_mem 115 (by decide +kernel) (by decide +kernel)⟩
theorem mkX5_keep : gz_mk mX5_keep 1 := ⟨by decide +kernel, ⟨by decide +kernel, by decide +kernel, by decide +kernel⟩, gz_mem 718 (by decide +kernel) (by decide +kernel), by decide, gz_mem 115 (by decide +kernel) (by decide +kernel)⟩
theorem mkX5_keepImage : gz_mk mX5_keepImage 1 := ⟨by decide +kernel, ⟨by decide +kernel, by decide +kernel, by decide +kernel⟩, gz_mem 1179 (by decide +kernel) (by decide +kernel), by decide, gz_mem 115 (by decide +kernel) (by decide +kernel)⟩
theorem mkX5_logLength : gz_mk mX5_logLength 1 := ⟨by decide +kernel, ⟨by decide +kernel, by decide +kernel, by decide +kernel⟩, gz_mem 879 (by decide +kernel) (by decide +kernel), by decide, gz_mem 115 (by decide +kernel) (by decide +kernel)⟩
theorem mkX5_note : gz_mk mX5_note 4 := ⟨by decide +kernel, ⟨by decide +kernel, by decide +kernel, by decide +kernel⟩, gz_mem 785 (by decide +kernel) (by decide +kernel), by decide, gz_mem 115 (by decide +kernel) (by decide +kernel)⟩
theorem mkX5_noted : gz_mk mX5_noted 2 := ⟨by decide +kernel, ⟨by decide +kernel, by decide +kernel, by decide +kernel⟩, gz_mem 883 (by decide +kernel) (by decide +kernel), by decide, gz_mem 115 (by decide +kernel) (by decide +kernel)⟩
theorem mkX5_takeBack : gz_mk mX5_takeBack 1 := ⟨by decide +kernel, ⟨by decide +kernel, by decide +kernel, by decide +kernel⟩, gz_mem 872 (by decide +kernel) (by decide +kernel), by decide, gz_mem 115 (by decide +kernel) (by decide +kernel)⟩
theorem mkX6_begin : gz_mk mX6_begin 2 := ⟨by decide +kernel, ⟨by decide +kernel, by decide +kernel, by decide +kernel⟩, gz_mem 844 (by decide +kernel) (by decide +kernel), by decide, gz_mem 113 (by decide +kernel) (by decide +kernel)⟩
theorem mkX6_beside : gz_mk mX6_beside 2 := ⟨by decide +kernel, ⟨by decide +kernel, by decide +kernel, by decide +kernel⟩, gz_mem 745 (by decide +kernel) (by decide +kernel), by decide, gz_mem 113 (by decide +kernel) (by decide +kernel)⟩
theorem mkX6_busyCells : gz_mk mX6_busyCells 0 := ⟨by decide +kernel, ⟨by decide +kernel, by decide +kernel, by decide +kernel⟩, gz_mem 1163 (by decide +kernel) (by decide +kernel), by decide, gz_mem 113 (by decide +kernel) (by decide +kernel)⟩
theorem mkX6_cells : gz_mk mX6_cells 0 := ⟨by decide +kernel, ⟨by decide +kernel, by decide +kernel, by decide +kernel⟩, gz_mem 630 (by decide +kernel) (by decide +kernel), by decide, gz_mem 113 (by decide +kernel) (by decide +kernel)⟩
theorem mkX6_copy : gz_mk mX6_copy 1 := ⟨by decide +kernel, ⟨by decide +kernel, by decide +kernel, by decide +kernel⟩, gz_mem 615 (by decide +kernel) (by decide +kernel), by decide, gz_mem 113 (by decide +kernel) (by decide +kernel)⟩
theorem mkX6_crowd : gz_mk mX6_crowd 0 := ⟨by decide +kernel, ⟨by decide +kernel, by decide +kernel, by decide +kernel⟩, gz_mem 1158 (by decide +kernel) (by decide +kernel), by decide, gz_mem 113 (by decide +kernel) (by decide +kernel)⟩
theorem mkX6_dryCells : gz_mk mX6_dryCells 0 := ⟨by decide +kernel, ⟨by decide +kernel, by decide +kernel, by decide +kernel⟩, gz_mem 982 (by decide +kernel) (by decide +kernel), by decide, gz_mem 113 (by decide +kernel) (by decide +kernel)⟩
theorem mkX6_dryParts : gz_mk mX6_dryParts 0 := ⟨by decide +kernel, ⟨by decide +kernel, by decide +kernel, by decide +kernel⟩, gz_mem 1150 (by decide +kernel) (by decide +kernel), by decide, gz_mem 113 (by decide +kernel) (by decide +kernel)⟩
theorem mkX6_faced : gz_mk mX6_faced 0 := ⟨by decide +kernel, ⟨by decide +kernel, by decide +kernel, by decide +kernel⟩, gz_mem 1167 (by decide +kernel) (by decide +kernel), by decide, gz_mem 113 (by decide +kernel) (by decide +kernel)⟩
theorem mkX6_fewestSteps : gz_mk mX6_fewestSteps 2 := ⟨by decide +kernel, ⟨by decide +kernel, by decide +kernel, by decide +kernel⟩, gz_mem 978 (by decide +kernel) (by decide +kernel), by decide, gz_mem 113 (by decide +kernel) (by decide +kernel)⟩
theorem mkX6_goerWithMost : gz_mk mX6_goerWithMost 1 := ⟨by decide +kernel, ⟨by decide +kernel, by decide +kernel, by decide +kernel⟩, gz_mem 1141 (by decide +kernel) (by decide +kernel), by decide, gz_mem 113 (by decide +kernel) (by decide +kernel)⟩
theorem mkX6_goersWith : gz_mk mX6_goersWith 1 := ⟨by decide +kernel, ⟨by decide +kernel, by decide +kernel, by decide +kernel⟩, gz_mem 1145 (by decide +kernel) (by decide +kernel), by decide, gz_mem 113 (by decide +kernel) (by decide +kernel)⟩
theorem mkX6_goes : gz_mk mX6_goes 1 := ⟨by decide +kernel, ⟨by decide +kernel, by decide +kernel, by decide +kernel⟩, gz_mem 732 (by decide +kernel) (by decide +kernel), by decide, gz_mem 113 (by decide +kernel) (by decide +kernel)⟩
theorem mkX6_goesOn : gz_mk mX6_goesOn 2 := ⟨by decide +kernel, ⟨by decide +kernel, by decide +kernel, by decide +kernel⟩, gz_mem 780 (by decide +kernel) (by decide +kernel), by decide, gz_mem 113 (by decide +kernel) (by decide +kernel)⟩
theorem mkX6_goingOn : gz_mk mX6_goingOn 1 := ⟨by decide +kernel, ⟨by decide +kernel, by decide +kernel, by decide +kernel⟩, gz_mem 776 (by decide +kernel) (by decide +kernel), by decide, gz_mem 113 (by decide +kernel) (by decide +kernel)⟩
theorem mkX6_hasCell : gz_mk mX6_hasCell 1 := ⟨by decide +kernel, ⟨by decide +kernel, by decide +kernel, by decide +kernel⟩, gz_mem 685 (by decide +kernel) (by decide +kernel), by decide, gz_mem 113 (by decide +kernel) (by decide +kernel)⟩
theorem mkX6_hasGoer : gz_mk mX6_hasGoer 1 := ⟨by decide +kernel, ⟨by decide +kernel, by decide +kernel, by decide +kernel⟩, gz_mem 833 (by decide +kernel) (by decide +kernel), by decide, gz_mem 113 (by decide +kernel) (by decide +kernel)⟩
theorem mkX6_hasGoingPair : gz_mk mX6_hasGoingPair 2 := ⟨by decide +kernel, ⟨by decide +kernel, by decide +kernel, by decide +kernel⟩, gz_mem 1081 (by decide +kernel) (by decide +kernel), by decide, gz_mem 113 (by decide +kernel) (by decide +kernel)⟩
theorem mkX6_hasPair : gz_mk mX6_hasPair 2 := ⟨by decide +kernel, ⟨by decide +kernel, by decide +kernel, by decide +kernel⟩, gz_mem 942 (by decide +kernel) (by decide +kernel), by decide, gz_mem 113 (by decide +kernel) (by decide +kernel)⟩
theorem mkX6_hasShore : gz_mk mX6_hasShore 0 := ⟨by decide +kernel, ⟨by decide +kernel, by decide +kernel, by decide +kernel⟩, gz_mem 714 (by decide +kernel) (by decide +kernel), by decide, gz_mem 113 (by decide +kernel) (by decide +kernel)⟩
theorem mkX6_isLook : gz_mk mX6_isLook 1 := ⟨by decide +kernel, ⟨by decide +kernel, by decide +kernel, by decide +kernel⟩, gz_mem 836 (by decide +kernel) (by decide +kernel), by decide, gz_mem 113 (by decide +kernel) (by decide +kernel)⟩
theorem mkX6_kind : gz_mk mX6_kind 1 := ⟨by decide +kernel, ⟨by decide +kernel, by decide +kernel, by decide +kernel⟩, gz_mem 690 (by decide +kernel) (by decide +kernel), by decide, gz_mem 113 (by decide +kernel) (by decide +kernel)⟩
theorem mkX6_lies : gz_mk mX6_lies 1 := ⟨by decide +kernel, ⟨by decide +kernel, by decide +kernel, by decide +kernel⟩, gz_mem 749 (by decide +kernel) (by decide +kernel), by decide, gz_mem 113 (by decide +kernel) (by decide +kernel)⟩
theorem mkX6_looksAt : gz_mk mX6_looksAt 2 := ⟨by decide +kernel, ⟨by decide +kernel, by decide +kernel, by decide +kernel⟩, gz_mem 1171 (by decide +kernel) (by decide +kernel), by decide, gz_mem 113 (by decide +kernel) (by decide +kernel)⟩
theorem mkX6_mayBeGiven : gz_mk mX6_mayBeGiven 1 := ⟨by decide +kernel, ⟨by decide +kernel, by decide +kernel, by decide +kernel⟩, gz_mem 852 (by decide +kernel) (by decide +kernel), by decide, gz_mem 113 (by decide +kernel) (by decide +kernel)⟩
theorem mkX6_mayBegin : gz_mk mX6_mayBegin 2 := ⟨by decide +kernel, ⟨by decide +kernel, by decide +kernel, by decide +kernel⟩, gz_mem 829 (by decide +kernel) (by decide +kernel), by decide, gz_mem 113 (by decide +kernel) (by decide +kernel)⟩
theorem mkX6_mayPassHour : gz_mk mX6_mayPassHour 0 := ⟨by decide +kernel, ⟨by decide +kernel, by decide +kernel, by decide +kernel⟩, gz_mem 710 (by decide +kernel) (by decide +kernel), by decide, gz_mem 113 (by decide +kernel) (by decide +kernel)⟩
theorem mkX6_maySweep : gz_mk mX6_maySweep 1 := ⟨by decide +kernel, ⟨by decide +kernel, by decide +kernel, by decide +kernel⟩, gz_mem 817 (by decide +kernel) (by decide +kernel), by decide, gz_mem 113 (by decide +kernel) (by decide +kernel)⟩
theorem mkX6_mayTurnStone : gz_mk mX6_mayTurnStone 1 := ⟨by decide +kernel, ⟨by decide +kernel, by decide +kernel, by decide +kernel⟩, gz_mem 802 (by decide +kernel) (by decide +kernel), by decide, gz_mem 113 (by decide +kernel) (by decide +kernel)⟩
theorem mkX6_mayTurnTide : gz_mk mX6_mayTurnTide 1 := ⟨by decide +kernel, ⟨by decide +kernel, by decide +kernel, by decide +kernel⟩, gz_mem 794 (by decide +kernel) (by decide +kernel), by decide, gz_mem 113 (by decide +kernel) (by decide +kernel)⟩
theorem mkX6_payAndBegin : gz_mk mX6_payAndBegin 2 := ⟨by decide +kernel, ⟨by decide +kernel, by decide +kernel, by decide +kernel⟩, gz_mem 840 (by decide +kernel) (by decide +kernel), by decide, gz_mem 113 (by decide +kernel) (by decide +kernel)⟩
theorem mkX6_reached : gz_mk mX6_reached 2 := ⟨by decide +kernel, ⟨by decide +kernel, by decide +kernel, by decide +kernel⟩, gz_mem 1154 (by decide +kernel) (by decide +kernel), by decide, gz_mem 113 (by decide +kernel) (by decide +kernel)⟩
theorem mkX6_sweepOff : gz_mk mX6_sweepOff 1 := ⟨by decide +kernel, ⟨by decide +kernel, by decide +kernel, by decide +kernel⟩, gz_mem 821 (by decide +kernel) (by decide +kernel), by decide, gz_mem 113 (by decide +kernel) (by decide +kernel)⟩
theorem mkX6_together : gz_mk mX6_together 2 := ⟨by decide +kernel, ⟨by decide +kernel, by decide +kernel, by decide +kernel⟩, gz_mem 950 (by decide +kernel) (by decide +kernel), by decide, gz_mem 113 (by decide +kernel) (by decide +kernel)⟩
theorem mkX6_turnStone : gz_mk mX6_turnStone 1 := ⟨by decide +kernel, ⟨by decide +kernel, by decide +kernel, by decide +kernel⟩, gz_mem 809 (by decide +kernel) (by decide +kernel), by decide, gz_mem 113 (by decide +kernel) (by decide +kernel)⟩
theorem mkX6_under : gz_mk mX6_under 1 := ⟨by decide +kernel, ⟨by decide +kernel, by decide +kernel, by decide +kernel⟩, gz_mem 694 (by decide +kernel) (by decide +kernel), by decide, gz_mem 113 (by decide +kernel) (by decide +kernel)⟩
theorem mkX6_wentInAll : gz_mk mX6_wentInAll 0 := ⟨by decide +kernel, ⟨by decide +kernel, by decide +kernel, by decide +kernel⟩, gz_mem 1128 (by decide +kernel) (by decide +kernel), by decide, gz_mem 113 (by decide +kernel) (by decide +kernel)⟩
theorem mkX6_widened : gz_mk mX6_widened 2 := ⟨by decide +kernel, ⟨by decide +kernel, by decide +kernel, by decide +kernel⟩, gz_mem 986 (by decide +kernel) (by decide +kernel), by decide, gz_mem 113 (by decide +kernel) (by decide +kernel)⟩
theorem mkX7_agrees : gz_mk mX7_agrees 0 := ⟨by decide +kernel, ⟨by decide +kernel, by decide +kernel, by decide +kernel⟩, gz_mem 518 (by decide +kernel) (by decide +kernel), by decide, gz_mem 110 (by decide +kernel) (by decide +kernel)⟩
theorem mkX7_clear : gz_mk mX7_clear 0 := ⟨by decide +kernel, ⟨by decide +kernel, by decide +kernel, by decide +kernel⟩, gz_mem 462 (by decide +kernel) (by decide +kernel), by decide, gz_mem 110 (by decide +kernel) (by decide +kernel)⟩
theorem mkX7_endsClause : gz_mk mX7_endsClause 0 := ⟨by decide +kernel, ⟨by decide +kernel, by decide +kernel, by decide +kernel⟩, gz_mem 490 (by decide +kernel) (by decide +kernel), by decide, gz_mem 110 (by decide +kernel) (by decide +kernel)⟩
theorem mkX7_itemOf : gz_mk mX7_itemOf 2 := ⟨by decide +kernel, ⟨by decide +kernel, by decide +kernel, by decide +kernel⟩, gz_mem 486 (by decide +kernel) (by decide +kernel), by decide, gz_mem 110 (by decide +kernel) (by decide +kernel)⟩
theorem mkX7_readClause : gz_mk mX7_readClause 0 := ⟨by decide +kernel, ⟨by decide +kernel, by decide +kernel, by decide +kernel⟩, gz_mem 475 (by decide +kernel) (by decide +kernel), by decide, gz_mem 110 (by decide +kernel) (by decide +kernel)⟩
theorem mkX7_readItems : gz_mk mX7_readItems 3 := ⟨by decide +kernel, ⟨by decide +kernel, by decide +kernel, by decide +kernel⟩, gz_mem 483 (by decide +kernel) (by decide +kernel), by decide, gz_mem 110 (by decide +kernel) (by decide +kernel)⟩
theorem mkX7_readRow : gz_mk mX7_readRow 1 := ⟨by decide +kernel, ⟨by decide +kernel, by decide +kernel, by decide +kernel⟩, gz_mem 508 (by decide +kernel) (by decide +kernel), by decide, gz_mem 110 (by decide +kernel) (by decide +kernel)⟩
theorem mkX7_readShore : gz_mk mX7_readShore 0 := ⟨by decide +kernel, ⟨by decide +kernel, by decide +kernel, by decide +kernel⟩, gz_mem 458 (by decide +kernel) (by decide +kernel), by decide, gz_mem 110 (by decide +kernel) (by decide +kernel)⟩
theorem mkX7_tell : gz_mk mX7_tell 1 := ⟨by decide +kernel, ⟨by decide +kernel, by decide +kernel, by decide +kernel⟩, gz_mem 611 (by decide +kernel) (by decide +kernel), by decide, gz_mem 110 (by decide +kernel) (by decide +kernel)⟩
theorem mkX8_add : gz_mk mX8_add 3 := ⟨by decide +kernel, ⟨by decide +kernel, by decide +kernel, by decide +kernel⟩, gz_mem 1026 (by decide +kernel) (by decide +kernel), by decide, gz_mem 117 (by decide +kernel) (by decide +kernel)⟩
theorem mkX8_agrees : gz_mk mX8_agrees 2 := ⟨by decide +kernel, ⟨by decide +kernel, by decide +kernel, by decide +kernel⟩, gz_mem 1044 (by decide +kernel) (by decide +kernel), by decide, gz_mem 117 (by decide +kernel) (by decide +kernel)⟩
theorem mkX8_bestHour : gz_mk mX8_bestHour 1 := ⟨by decide +kernel, ⟨by decide +kernel, by decide +kernel, by decide +kernel⟩, gz_mem 1065 (by decide +kernel) (by decide +kernel), by decide, gz_mem 117 (by decide +kernel) (by decide +kernel)⟩
theorem mkX8_fit : gz_mk mX8_fit 2 := ⟨by decide +kernel, ⟨by decide +kernel, by decide +kernel, by decide +kernel⟩, gz_mem 1054 (by decide +kernel) (by decide +kernel), by decide, gz_mem 117 (by decide +kernel) (by decide +kernel)⟩
theorem mkX8_fitting : gz_mk mX8_fitting 1 := ⟨by decide +kernel, ⟨by decide +kernel, by decide +kernel, by decide +kernel⟩, gz_mem 1034 (by decide +kernel) (by decide +kernel), by decide, gz_mem 117 (by decide +kernel) (by decide +kernel)⟩
theorem mkX8_forget : gz_mk mX8_forget 0 := ⟨by decide +kernel, ⟨by decide +kernel, by decide +kernel, by decide +kernel⟩, gz_mem 626 (by decide +kernel) (by decide +kernel), by decide, gz_mem 117 (by decide +kernel) (by decide +kernel)⟩
theorem mkX8_mostAlike : gz_mk mX8_mostAlike 2 := ⟨by decide +kernel, ⟨by decide +kernel, by decide +kernel, by decide +kernel⟩, gz_mem 1069 (by decide +kernel) (by decide +kernel), by decide, gz_mem 117 (by decide +kernel) (by decide +kernel)⟩
theorem mkX8_trace : gz_mk mX8_trace 2 := ⟨by decide +kernel, ⟨by decide +kernel, by decide +kernel, by decide +kernel⟩, gz_mem 1038 (by decide +kernel) (by decide +kernel), by decide, gz_mem 117 (by decide +kernel) (by decide +kernel)⟩
theorem mkX9_accept : gz_mk mX9_accept 1 := ⟨by decide +kernel, ⟨by decide +kernel, by decide +kernel, by decide +kernel⟩, gz_mem 574 (by decide +kernel) (by decide +kernel), by decide, gz_mem 109 (by decide +kernel) (by decide +kernel)⟩
theorem mkX9_add : gz_mk mX9_add 1 := ⟨by decide +kernel, ⟨by decide +kernel, by decide +kernel, by decide +kernel⟩, gz_mem 446 (by decide +kernel) (by decide +kernel), by decide, gz_mem 109 (by decide +kernel) (by decide +kernel)⟩
theorem mkX9_digitHere : gz_mk mX9_digitHere 0 := ⟨by decide +kernel, ⟨by decide +kernel, by decide +kernel, by decide +kernel⟩, gz_mem 503 (by decide +kernel) (by decide +kernel), by decide, gz_mem 109 (by decide +kernel) (by decide +kernel)⟩
theorem mkX9_expect : gz_mk mX9_expect 1 := ⟨by decide +kernel, ⟨by decide +kernel, by decide +kernel, by decide +kernel⟩, gz_mem 522 (by decide +kernel) (by decide +kernel), by decide, gz_mem 109 (by decide +kernel) (by decide +kernel)⟩
theorem mkX9_filled : gz_mk mX9_filled 1 := ⟨by decide +kernel, ⟨by decide +kernel, by decide +kernel, by decide +kernel⟩, gz_mem 442 (by decide +kernel) (by decide +kernel), by decide, gz_mem 109 (by decide +kernel) (by decide +kernel)⟩
theorem mkX9_next : gz_mk mX9_next 0 := ⟨by decide +kernel, ⟨by decide +kernel, by decide +kernel, by decide +kernel⟩, gz_mem 479 (by decide +kernel) (by decide +kernel), by decide, gz_mem 109 (by decide +kernel) (by decide +kernel)⟩
theorem mkX9_nextDigit : gz_mk mX9_nextDigit 0 := ⟨by decide +kernel, ⟨by decide +kernel, by decide +kernel, by decide +kernel⟩, gz_mem 512 (by decide +kernel) (by decide +kernel), by decide, gz_mem 109 (by decide +kernel) (by decide +kernel)⟩
theorem mkX9_readDigit : gz_mk mX9_readDigit 0 := ⟨by decide +kernel, ⟨by decide +kernel, by decide +kernel, by decide +kernel⟩, gz_mem 596 (by decide +kernel) (by decide +kernel), by decide, gz_mem 109 (by decide +kernel) (by decide +kernel)⟩
theorem mkX9_readNumber : gz_mk mX9_readNumber 1 := ⟨by decide +kernel, ⟨by decide +kernel, by decide +kernel, by decide +kernel⟩, gz_mem 498 (by decide +kernel) (by decide +kernel), by decide, gz_mem 109 (by decide +kernel) (by decide +kernel)⟩
theorem mkX9_refuse : gz_mk mX9_refuse 1 := ⟨by decide +kernel, ⟨by decide +kernel, by decide +kernel, by decide +kernel⟩, gz_mem 494 (by decide +kernel) (by decide +kernel), by decide, gz_mem 109 (by decide +kernel) (by decide +kernel)⟩
theorem mkX9_rewind : gz_mk mX9_rewind 0 := ⟨by decide +kernel, ⟨by decide +kernel, by decide +kernel, by decide +kernel⟩, gz_mem 466 (by decide +kernel) (by decide +kernel), by decide, gz_mem 109 (by decide +kernel) (by decide +kernel)⟩
theorem mvJ0_335 : gz_mv RJ0 335 mJ0_coder_7d493 0 := ⟨mkJ0_coder_7d493, gz_mem 1488 (by decide +kernel) (by decide +kernel), gz_mem 1489 (by decide +kernel) (by decide +kernel), gz_mem 1490 (by decide +kernel) (by decide +kernel)⟩
theorem mvJ0_492 : gz_mv RJ0 492 mJ0_isLatin1_aae02 0 := ⟨mkJ0_isLatin1_aae02, gz_mem 1501 (by decide +kernel) (by decide +kernel), gz_mem 1502 (by decide +kernel) (by decide +kernel), gz_mem 1503 (by decide +kernel) (by decide +kernel)⟩
theorem mvX0_17 : gz_mv RX0 17 mX0_part 2 := ⟨mkX0_part, gz_mem 905 (by decide +kernel) (by decide +kernel), gz_mem 894 (by decide +kernel) (by decide +kernel), gz_mem 895 (by decide +kernel) (by decide +kernel)⟩
theorem mvX0_21 : gz_mv RX0 21 mX6_mayPassHour 0 := ⟨mkX6_mayPassHour, gz_mem 906 (by decide +kernel) (by decide +kernel), gz_mem 708 (by decide +kernel) (by decide +kernel), gz_mem 709 (by decide +kernel) (by decide +kernel)⟩
theorem mvX0_27 : gz_mv RX0 27 mX6_mayBegin 2 := ⟨mkX6_mayBegin, gz_mem 907 (by decide +kernel) (by decide +kernel), gz_mem 827 (by decide +kernel) (by decide +kernel), gz_mem 828 (by decide +kernel) (by decide +kernel)⟩
theorem mvX0_31 : gz_mv RX0 31 mX6_mayTurnTide 1 := ⟨mkX6_mayTurnTide, gz_mem 908 (by decide +kernel) (by decide +kernel), gz_mem 792 (by decide +kernel) (by decide +kernel), gz_mem 793 (by decide +kernel) (by decide +kernel)⟩
theorem mvX0_35 : gz_mv RX0 35 mX6_maySweep 1 := ⟨mkX6_maySweep, gz_mem 909 (by decide +kernel) (by decide +kernel), gz_mem 815 (by decide +kernel) (by decide +kernel), gz_mem 816 (by decide +kernel) (by decide +kernel)⟩
theorem mvX0_38 : gz_mv RX0 38 mX6_payAndBegin 2 := ⟨mkX6_payAndBegin, gz_mem 918 (by decide +kernel) (by decide +kernel), gz_mem 838 (by decide +kernel) (by decide +kernel), gz_mem 839 (by decide +kernel) (by decide +kernel)⟩
theorem mvX0_45 : gz_mv RX0 45 mX6_sweepOff 1 := ⟨mkX6_sweepOff, gz_mem 919 (by decide +kernel) (by decide +kernel), gz_mem 819 (by decide +kernel) (by decide +kernel), gz_mem 820 (by decide +kernel) (by decide +kernel)⟩
theorem mvX1_34 : gz_mv RX1 34 mX9_rewind 0 := ⟨mkX9_rewind, gz_mem 579 (by decide +kernel) (by decide +kernel), gz_mem 464 (by decide +kernel) (by decide +kernel), gz_mem 465 (by decide +kernel) (by decide +kernel)⟩
theorem mvX1_39 : gz_mv RX1 39 mX1_readStep 1 := ⟨mkX1_readStep, gz_mem 580 (by decide +kernel) (by decide +kernel), gz_mem 582 (by decide +kernel) (by decide +kernel), gz_mem 13 (by decide +kernel) (by decide +kernel)⟩
theorem mvX1_43 : gz_mv RX1 43 mX9_next 0 := ⟨mkX9_next, gz_mem 584 (by decide +kernel) (by decide +kernel), gz_mem 477 (by decide +kernel) (by decide +kernel), gz_mem 478 (by decide +kernel) (by decide +kernel)⟩
theorem mvX1_47 : gz_mv RX1 47 mX9_expect 1 := ⟨mkX9_expect, gz_mem 599 (by decide +kernel) (by decide +kernel), gz_mem 520 (by decide +kernel) (by decide +kernel), gz_mem 521 (by decide +kernel) (by decide +kernel)⟩
theorem mvX1_53 : gz_mv RX1 53 mX9_refuse 1 := ⟨mkX9_refuse, gz_mem 598 (by decide +kernel) (by decide +kernel), gz_mem 492 (by decide +kernel) (by decide +kernel), gz_mem 493 (by decide +kernel) (by decide +kernel)⟩
theorem mvX1_56 : gz_mv RX1 56 mX1_putStep 4 := ⟨mkX1_putStep, gz_mem 585 (by decide +kernel) (by decide +kernel), gz_mem 587 (by decide +kernel) (by decide +kernel), gz_mem 14 (by decide +kernel) (by decide +kernel)⟩
theorem mvX1_60 : gz_mv RX1 60 mX1_readDigits 3 := ⟨mkX1_readDigits, gz_mem 589 (by decide +kernel) (by decide +kernel), gz_mem 591 (by decide +kernel) (by decide +kernel), gz_mem 15 (by decide +kernel) (by decide +kernel)⟩
theorem mvX1_64 : gz_mv RX1 64 mX9_readDigit 0 := ⟨mkX9_readDigit, gz_mem 593 (by decide +kernel) (by decide +kernel), gz_mem 594 (by decide +kernel) (by decide +kernel), gz_mem 595 (by decide +kernel) (by decide +kernel)⟩
theorem mvX10_31 : gz_mv RX10 31 mX6_goes 1 := ⟨mkX6_goes, gz_mem 729 (by decide +kernel) (by decide +kernel), gz_mem 730 (by decide +kernel) (by decide +kernel), gz_mem 731 (by decide +kernel) (by decide +kernel)⟩
theorem mvX10_35 : gz_mv RX10 35 mX6_under 1 := ⟨mkX6_under, gz_mem 733 (by decide +kernel) (by decide +kernel), gz_mem 692 (by decide +kernel) (by decide +kernel), gz_mem 693 (by decide +kernel) (by decide +kernel)⟩
theorem mvX10_38 : gz_mv RX10 38 mX10_takeStep 2 := ⟨mkX10_takeStep, gz_mem 734 (by decide +kernel) (by decide +kernel), gz_mem 735 (by decide +kernel) (by decide +kernel), gz_mem 736 (by decide +kernel) (by decide +kernel)⟩
theorem mvX10_42 : gz_mv RX10 42 mX10_turnThoseMet 1 := ⟨mkX10_turnThoseMet, gz_mem 769 (by decide +kernel) (by decide +kernel), gz_mem 771 (by decide +kernel) (by decide +kernel), gz_mem 20 (by decide +kernel) (by decide +kernel)⟩
theorem mvX10_52 : gz_mv RX10 52 mX6_goingOn 1 := ⟨mkX6_goingOn, gz_mem 773 (by decide +kernel) (by decide +kernel), gz_mem 774 (by decide +kernel) (by decide +kernel), gz_mem 775 (by decide +kernel) (by decide +kernel)⟩
theorem mvX10_56 : gz_mv RX10 56 mX10_liesAhead 3 := ⟨mkX10_liesAhead, gz_mem 738 (by decide +kernel) (by decide +kernel), gz_mem 740 (by decide +kernel) (by decide +kernel), gz_mem 18 (by decide +kernel) (by decide +kernel)⟩
theorem mvX10_64 : gz_mv RX10 64 mX10_lawfulLook 4 := ⟨mkX10_lawfulLook, gz_mem 751 (by decide +kernel) (by decide +kernel), gz_mem 753 (by decide +kernel) (by decide +kernel), gz_mem 19 (by decide +kernel) (by decide +kernel)⟩
theorem mvX10_68 : gz_mv RX10 68 mX6_beside 2 := ⟨mkX6_beside, gz_mem 742 (by decide +kernel) (by decide +kernel), gz_mem 743 (by decide +kernel) (by decide +kernel), gz_mem 744 (by decide +kernel) (by decide +kernel)⟩
theorem mvX10_71 : gz_mv RX10 71 mX3_worth 2 := ⟨mkX3_worth, gz_mem 755 (by decide +kernel) (by decide +kernel), gz_mem 756 (by decide +kernel) (by decide +kernel), gz_mem 757 (by decide +kernel) (by decide +kernel)⟩
theorem mvX10_81 : gz_mv RX10 81 mX6_lies 1 := ⟨mkX6_lies, gz_mem 746 (by decide +kernel) (by decide +kernel), gz_mem 747 (by decide +kernel) (by decide +kernel), gz_mem 748 (by decide +kernel) (by decide +kernel)⟩
theorem mvX11_108 : gz_mv RX11 108 mX9_add 1 := ⟨mkX9_add, gz_mem 443 (by decide +kernel) (by decide +kernel), gz_mem 444 (by decide +kernel) (by decide +kernel), gz_mem 445 (by decide +kernel) (by decide +kernel)⟩
theorem mvX11_112 : gz_mv RX11 112 mX7_readShore 0 := ⟨mkX7_readShore, gz_mem 455 (by decide +kernel) (by decide +kernel), gz_mem 456 (by decide +kernel) (by decide +kernel), gz_mem 457 (by decide +kernel) (by decide +kernel)⟩
theorem mvX11_119 : gz_mv RX11 119 mX4_readLaw 0 := ⟨mkX4_readLaw, gz_mem 523 (by decide +kernel) (by decide +kernel), gz_mem 524 (by decide +kernel) (by decide +kernel), gz_mem 525 (by decide +kernel) (by decide +kernel)⟩
theorem mvX11_122 : gz_mv RX11 122 mX1_readEvening 0 := ⟨mkX1_readEvening, gz_mem 575 (by decide +kernel) (by decide +kernel), gz_mem 576 (by decide +kernel) (by decide +kernel), gz_mem 577 (by decide +kernel) (by decide +kernel)⟩
theorem mvX11_142 : gz_mv RX11 142 mX7_tell 1 := ⟨mkX7_tell, gz_mem 608 (by decide +kernel) (by decide +kernel), gz_mem 609 (by decide +kernel) (by decide +kernel), gz_mem 610 (by decide +kernel) (by decide +kernel)⟩
theorem mvX11_146 : gz_mv RX11 146 mX6_copy 1 := ⟨mkX6_copy, gz_mem 612 (by decide +kernel) (by decide +kernel), gz_mem 613 (by decide +kernel) (by decide +kernel), gz_mem 614 (by decide +kernel) (by decide +kernel)⟩
theorem mvX11_149 : gz_mv RX11 149 mX5_forget 0 := ⟨mkX5_forget, gz_mem 619 (by decide +kernel) (by decide +kernel), gz_mem 620 (by decide +kernel) (by decide +kernel), gz_mem 621 (by decide +kernel) (by decide +kernel)⟩
theorem mvX11_152 : gz_mv RX11 152 mX8_forget 0 := ⟨mkX8_forget, gz_mem 623 (by decide +kernel) (by decide +kernel), gz_mem 624 (by decide +kernel) (by decide +kernel), gz_mem 625 (by decide +kernel) (by decide +kernel)⟩
theorem mvX11_153 : gz_mv RX11 153 mX6_cells 0 := ⟨mkX6_cells, gz_mem 627 (by decide +kernel) (by decide +kernel), gz_mem 628 (by decide +kernel) (by decide +kernel), gz_mem 629 (by decide +kernel) (by decide +kernel)⟩
theorem mvX11_156 : gz_mv RX11 156 mX6_hasCell 1 := ⟨mkX6_hasCell, gz_mem 682 (by decide +kernel) (by decide +kernel), gz_mem 683 (by decide +kernel) (by decide +kernel), gz_mem 684 (by decide +kernel) (by decide +kernel)⟩
theorem mvX11_160 : gz_mv RX11 160 mX6_kind 1 := ⟨mkX6_kind, gz_mem 687 (by decide +kernel) (by decide +kernel), gz_mem 688 (by decide +kernel) (by decide +kernel), gz_mem 689 (by decide +kernel) (by decide +kernel)⟩
theorem mvX11_163 : gz_mv RX11 163 mX6_under 1 := ⟨mkX6_under, gz_mem 691 (by decide +kernel) (by decide +kernel), gz_mem 692 (by decide +kernel) (by decide +kernel), gz_mem 693 (by decide +kernel) (by decide +kernel)⟩
theorem mvX11_166 : gz_mv RX11 166 mX6_hasGoer 1 := ⟨mkX6_hasGoer, gz_mem 928 (by decide +kernel) (by decide +kernel), gz_mem 831 (by decide +kernel) (by decide +kernel), gz_mem 832 (by decide +kernel) (by decide +kernel)⟩
theorem mvX11_186 : gz_mv RX11 186 mX6_mayPassHour 0 := ⟨mkX6_mayPassHour, gz_mem 707 (by decide +kernel) (by decide +kernel), gz_mem 708 (by decide +kernel) (by decide +kernel), gz_mem 709 (by decide +kernel) (by decide +kernel)⟩
theorem mvX11_189 : gz_mv RX11 189 mX5_keep 1 := ⟨mkX5_keep, gz_mem 715 (by decide +kernel) (by decide +kernel), gz_mem 716 (by decide +kernel) (by decide +kernel), gz_mem 717 (by decide +kernel) (by decide +kernel)⟩
theorem mvX11_192 : gz_mv RX11 192 mX11_passNow 0 := ⟨mkX11_passNow, gz_mem 721 (by decide +kernel) (by decide +kernel), gz_mem 723 (by decide +kernel) (by decide +kernel), gz_mem 17 (by decide +kernel) (by decide +kernel)⟩
theorem mvX11_195 : gz_mv RX11 195 mX10_passHour 1 := ⟨mkX10_passHour, gz_mem 725 (by decide +kernel) (by decide +kernel), gz_mem 726 (by decide +kernel) (by decide +kernel), gz_mem 727 (by decide +kernel) (by decide +kernel)⟩
theorem mvX11_202 : gz_mv RX11 202 mX5_note 4 := ⟨mkX5_note, gz_mem 782 (by decide +kernel) (by decide +kernel), gz_mem 783 (by decide +kernel) (by decide +kernel), gz_mem 784 (by decide +kernel) (by decide +kernel)⟩
theorem mvX11_206 : gz_mv RX11 206 mX6_mayTurnTide 1 := ⟨mkX6_mayTurnTide, gz_mem 791 (by decide +kernel) (by decide +kernel), gz_mem 792 (by decide +kernel) (by decide +kernel), gz_mem 793 (by decide +kernel) (by decide +kernel)⟩
theorem mvX11_209 : gz_mv RX11 209 mX6_mayTurnStone 1 := ⟨mkX6_mayTurnStone, gz_mem 799 (by decide +kernel) (by decide +kernel), gz_mem 800 (by decide +kernel) (by decide +kernel), gz_mem 801 (by decide +kernel) (by decide +kernel)⟩
theorem mvX11_212 : gz_mv RX11 212 mX6_turnStone 1 := ⟨mkX6_turnStone, gz_mem 806 (by decide +kernel) (by decide +kernel), gz_mem 807 (by decide +kernel) (by decide +kernel), gz_mem 808 (by decide +kernel) (by decide +kernel)⟩
theorem mvX11_215 : gz_mv RX11 215 mX6_maySweep 1 := ⟨mkX6_maySweep, gz_mem 814 (by decide +kernel) (by decide +kernel), gz_mem 815 (by decide +kernel) (by decide +kernel), gz_mem 816 (by decide +kernel) (by decide +kernel)⟩
theorem mvX11_218 : gz_mv RX11 218 mX6_sweepOff 1 := ⟨mkX6_sweepOff, gz_mem 818 (by decide +kernel) (by decide +kernel), gz_mem 819 (by decide +kernel) (by decide +kernel), gz_mem 820 (by decide +kernel) (by decide +kernel)⟩
theorem mvX11_221 : gz_mv RX11 221 mX6_mayBegin 2 := ⟨mkX6_mayBegin, gz_mem 826 (by decide +kernel) (by decide +kernel), gz_mem 827 (by decide +kernel) (by decide +kernel), gz_mem 828 (by decide +kernel) (by decide +kernel)⟩
theorem mvX11_225 : gz_mv RX11 225 mX6_payAndBegin 2 := ⟨mkX6_payAndBegin, gz_mem 837 (by decide +kernel) (by decide +kernel), gz_mem 838 (by decide +kernel) (by decide +kernel), gz_mem 839 (by decide +kernel) (by decide +kernel)⟩
theorem mvX11_229 : gz_mv RX11 229 mX6_mayBeGiven 1 := ⟨mkX6_mayBeGiven, gz_mem 849 (by decide +kernel) (by decide +kernel), gz_mem 850 (by decide +kernel) (by decide +kernel), gz_mem 851 (by decide +kernel) (by decide +kernel)⟩
theorem mvX11_232 : gz_mv RX11 232 mX6_hasShore 0 := ⟨mkX6_hasShore, gz_mem 857 (by decide +kernel) (by decide +kernel), gz_mem 712 (by decide +kernel) (by decide +kernel), gz_mem 713 (by decide +kernel) (by decide +kernel)⟩
theorem mvX11_239 : gz_mv RX11 239 mX11_draw 1 := ⟨mkX11_draw, gz_mem 858 (by decide +kernel) (by decide +kernel), gz_mem 860 (by decide +kernel) (by decide +kernel), gz_mem 21 (by decide +kernel) (by decide +kernel)⟩
theorem mvX11_242 : gz_mv RX11 242 mX6_begin 2 := ⟨mkX6_begin, gz_mem 864 (by decide +kernel) (by decide +kernel), gz_mem 842 (by decide +kernel) (by decide +kernel), gz_mem 843 (by decide +kernel) (by decide +kernel)⟩
theorem mvX11_249 : gz_mv RX11 249 mX5_takeBack 1 := ⟨mkX5_takeBack, gz_mem 869 (by decide +kernel) (by decide +kernel), gz_mem 870 (by decide +kernel) (by decide +kernel), gz_mem 871 (by decide +kernel) (by decide +kernel)⟩
theorem mvX11_259 : gz_mv RX11 259 mX5_noted 2 := ⟨mkX5_noted, gz_mem 880 (by decide +kernel) (by decide +kernel), gz_mem 881 (by decide +kernel) (by decide +kernel), gz_mem 882 (by decide +kernel) (by decide +kernel)⟩
theorem mvX11_263 : gz_mv RX11 263 mX11_eveningOf 1 := ⟨mkX11_eveningOf, gz_mem 888 (by decide +kernel) (by decide +kernel), gz_mem 890 (by decide +kernel) (by decide +kernel), gz_mem 22 (by decide +kernel) (by decide +kernel)⟩
theorem mvX11_271 : gz_mv RX11 271 mX0_part 2 := ⟨mkX0_part, gz_mem 893 (by decide +kernel) (by decide +kernel), gz_mem 894 (by decide +kernel) (by decide +kernel), gz_mem 895 (by decide +kernel) (by decide +kernel)⟩
theorem mvX11_274 : gz_mv RX11 274 mX0_mayBe 2 := ⟨mkX0_mayBe, gz_mem 901 (by decide +kernel) (by decide +kernel), gz_mem 902 (by decide +kernel) (by decide +kernel), gz_mem 903 (by decide +kernel) (by decide +kernel)⟩
theorem mvX11_278 : gz_mv RX11 278 mX0_isHour 1 := ⟨mkX0_isHour, gz_mem 910 (by decide +kernel) (by decide +kernel), gz_mem 911 (by decide +kernel) (by decide +kernel), gz_mem 912 (by decide +kernel) (by decide +kernel)⟩
theorem mvX11_281 : gz_mv RX11 281 mX0_doByHand 2 := ⟨mkX0_doByHand, gz_mem 914 (by decide +kernel) (by decide +kernel), gz_mem 915 (by decide +kernel) (by decide +kernel), gz_mem 916 (by decide +kernel) (by decide +kernel)⟩
theorem mvX11_285 : gz_mv RX11 285 mX2_cellBehind 2 := ⟨mkX2_cellBehind, gz_mem 929 (by decide +kernel) (by decide +kernel), gz_mem 930 (by decide +kernel) (by decide +kernel), gz_mem 931 (by decide +kernel) (by decide +kernel)⟩
theorem mvX11_288 : gz_mv RX11 288 mX6_hasPair 2 := ⟨mkX6_hasPair, gz_mem 939 (by decide +kernel) (by decide +kernel), gz_mem 940 (by decide +kernel) (by decide +kernel), gz_mem 941 (by decide +kernel) (by decide +kernel)⟩
theorem mvX11_291 : gz_mv RX11 291 mX2_firstMeeting 2 := ⟨mkX2_firstMeeting, gz_mem 943 (by decide +kernel) (by decide +kernel), gz_mem 944 (by decide +kernel) (by decide +kernel), gz_mem 945 (by decide +kernel) (by decide +kernel)⟩
theorem mvX11_294 : gz_mv RX11 294 mX2_endOf 2 := ⟨mkX2_endOf, gz_mem 956 (by decide +kernel) (by decide +kernel), gz_mem 957 (by decide +kernel) (by decide +kernel), gz_mem 958 (by decide +kernel) (by decide +kernel)⟩
theorem mvX11_297 : gz_mv RX11 297 mX6_goes 1 := ⟨mkX6_goes, gz_mem 965 (by decide +kernel) (by decide +kernel), gz_mem 730 (by decide +kernel) (by decide +kernel), gz_mem 731 (by decide +kernel) (by decide +kernel)⟩
theorem mvX11_300 : gz_mv RX11 300 mX2_sameAgain 1 := ⟨mkX2_sameAgain, gz_mem 966 (by decide +kernel) (by decide +kernel), gz_mem 967 (by decide +kernel) (by decide +kernel), gz_mem 968 (by decide +kernel) (by decide +kernel)⟩
theorem mvX11_303 : gz_mv RX11 303 mX6_fewestSteps 2 := ⟨mkX6_fewestSteps, gz_mem 975 (by decide +kernel) (by decide +kernel), gz_mem 976 (by decide +kernel) (by decide +kernel), gz_mem 977 (by decide +kernel) (by decide +kernel)⟩
theorem mvX11_306 : gz_mv RX11 306 mX2_apartAnyway 3 := ⟨mkX2_apartAnyway, gz_mem 992 (by decide +kernel) (by decide +kernel), gz_mem 993 (by decide +kernel) (by decide +kernel), gz_mem 994 (by decide +kernel) (by decide +kernel)⟩
theorem mvX11_310 : gz_mv RX11 310 mX2_oneStone 3 := ⟨mkX2_oneStone, gz_mem 1004 (by decide +kernel) (by decide +kernel), gz_mem 1005 (by decide +kernel) (by decide +kernel), gz_mem 1006 (by decide +kernel) (by decide +kernel)⟩
theorem mvX11_314 : gz_mv RX11 314 mX2_twoStones 3 := ⟨mkX2_twoStones, gz_mem 1015 (by decide +kernel) (by decide +kernel), gz_mem 1016 (by decide +kernel) (by decide +kernel), gz_mem 1017 (by decide +kernel) (by decide +kernel)⟩
theorem mvX11_317 : gz_mv RX11 317 mX8_add 3 := ⟨mkX8_add, gz_mem 1023 (by decide +kernel) (by decide +kernel), gz_mem 1024 (by decide +kernel) (by decide +kernel), gz_mem 1025 (by decide +kernel) (by decide +kernel)⟩
theorem mvX11_320 : gz_mv RX11 320 mX8_fitting 1 := ⟨mkX8_fitting, gz_mem 1031 (by decide +kernel) (by decide +kernel), gz_mem 1032 (by decide +kernel) (by decide +kernel), gz_mem 1033 (by decide +kernel) (by decide +kernel)⟩
theorem mvX11_328 : gz_mv RX11 328 mX8_fit 2 := ⟨mkX8_fit, gz_mem 1051 (by decide +kernel) (by decide +kernel), gz_mem 1052 (by decide +kernel) (by decide +kernel), gz_mem 1053 (by decide +kernel) (by decide +kernel)⟩
theorem mvX11_331 : gz_mv RX11 331 mX8_bestHour 1 := ⟨mkX8_bestHour, gz_mem 1062 (by decide +kernel) (by decide +kernel), gz_mem 1063 (by decide +kernel) (by decide +kernel), gz_mem 1064 (by decide +kernel) (by decide +kernel)⟩
theorem mvX11_334 : gz_mv RX11 334 mX6_hasGoingPair 2 := ⟨mkX6_hasGoingPair, gz_mem 1078 (by decide +kernel) (by decide +kernel), gz_mem 1079 (by decide +kernel) (by decide +kernel), gz_mem 1080 (by decide +kernel) (by decide +kernel)⟩
theorem mvX11_340 : gz_mv RX11 340 mX2_play 4 := ⟨mkX2_play, gz_mem 1084 (by decide +kernel) (by decide +kernel), gz_mem 1085 (by decide +kernel) (by decide +kernel), gz_mem 1086 (by decide +kernel) (by decide +kernel)⟩
theorem mvX11_349 : gz_mv RX11 349 mX2_restsOf 2 := ⟨mkX2_restsOf, gz_mem 1093 (by decide +kernel) (by decide +kernel), gz_mem 1094 (by decide +kernel) (by decide +kernel), gz_mem 1095 (by decide +kernel) (by decide +kernel)⟩
theorem mvX11_352 : gz_mv RX11 352 mX2_rest 2 := ⟨mkX2_rest, gz_mem 1102 (by decide +kernel) (by decide +kernel), gz_mem 1103 (by decide +kernel) (by decide +kernel), gz_mem 1104 (by decide +kernel) (by decide +kernel)⟩
theorem mvX11_355 : gz_mv RX11 355 mX2_partsOn 4 := ⟨mkX2_partsOn, gz_mem 1111 (by decide +kernel) (by decide +kernel), gz_mem 1112 (by decide +kernel) (by decide +kernel), gz_mem 1113 (by decide +kernel) (by decide +kernel)⟩
theorem mvX11_359 : gz_mv RX11 359 mX6_wentInAll 0 := ⟨mkX6_wentInAll, gz_mem 1125 (by decide +kernel) (by decide +kernel), gz_mem 1126 (by decide +kernel) (by decide +kernel), gz_mem 1127 (by decide +kernel) (by decide +kernel)⟩
theorem mvX11_362 : gz_mv RX11 362 mX10_takeStep 2 := ⟨mkX10_takeStep, gz_mem 1133 (by decide +kernel) (by decide +kernel), gz_mem 735 (by decide +kernel) (by decide +kernel), gz_mem 736 (by decide +kernel) (by decide +kernel)⟩
theorem mvX11_366 : gz_mv RX11 366 mX6_goerWithMost 1 := ⟨mkX6_goerWithMost, gz_mem 1138 (by decide +kernel) (by decide +kernel), gz_mem 1139 (by decide +kernel) (by decide +kernel), gz_mem 1140 (by decide +kernel) (by decide +kernel)⟩
theorem mvX11_369 : gz_mv RX11 369 mX6_goersWith 1 := ⟨mkX6_goersWith, gz_mem 1142 (by decide +kernel) (by decide +kernel), gz_mem 1143 (by decide +kernel) (by decide +kernel), gz_mem 1144 (by decide +kernel) (by decide +kernel)⟩
theorem mvX11_372 : gz_mv RX11 372 mX6_dryCells 0 := ⟨mkX6_dryCells, gz_mem 1146 (by decide +kernel) (by decide +kernel), gz_mem 980 (by decide +kernel) (by decide +kernel), gz_mem 981 (by decide +kernel) (by decide +kernel)⟩
theorem mvX11_375 : gz_mv RX11 375 mX6_dryParts 0 := ⟨mkX6_dryParts, gz_mem 1147 (by decide +kernel) (by decide +kernel), gz_mem 1148 (by decide +kernel) (by decide +kernel), gz_mem 1149 (by decide +kernel) (by decide +kernel)⟩
theorem mvX11_378 : gz_mv RX11 378 mX6_crowd 0 := ⟨mkX6_crowd, gz_mem 1155 (by decide +kernel) (by decide +kernel), gz_mem 1156 (by decide +kernel) (by decide +kernel), gz_mem 1157 (by decide +kernel) (by decide +kernel)⟩
theorem mvX11_381 : gz_mv RX11 381 mX6_busyCells 0 := ⟨mkX6_busyCells, gz_mem 1160 (by decide +kernel) (by decide +kernel), gz_mem 1161 (by decide +kernel) (by decide +kernel), gz_mem 1162 (by decide +kernel) (by decide +kernel)⟩
theorem mvX11_384 : gz_mv RX11 384 mX6_faced 0 := ⟨mkX6_faced, gz_mem 1164 (by decide +kernel) (by decide +kernel), gz_mem 1165 (by decide +kernel) (by decide +kernel), gz_mem 1166 (by decide +kernel) (by decide +kernel)⟩
theorem mvX11_387 : gz_mv RX11 387 mX5_keepImage 1 := ⟨mkX5_keepImage, gz_mem 1176 (by decide +kernel) (by decide +kernel), gz_mem 1177 (by decide +kernel) (by decide +kernel), gz_mem 1178 (by decide +kernel) (by decide +kernel)⟩
theorem mvX11_390 : gz_mv RX11 390 mX5_bringBack 1 := ⟨mkX5_bringBack, gz_mem 1184 (by decide +kernel) (by decide +kernel), gz_mem 1185 (by decide +kernel) (by decide +kernel), gz_mem 1186 (by decide +kernel) (by decide +kernel)⟩
theorem mvX12_107 : gz_mv RX12 107 mJ0_length_8abf5 0 := ⟨mkJ0_length_8abf5, gz_mem 1484 (by decide +kernel) (by decide +kernel), gz_mem 1485 (by decide +kernel) (by decide +kernel), gz_mem 1486 (by decide +kernel) (by decide +kernel)⟩
theorem mvX12_113 : gz_mv RX12 113 mJ0_charAt_5068e 1 := ⟨mkJ0_charAt_5068e, gz_mem 1497 (by decide +kernel) (by decide +kernel), gz_mem 1498 (by decide +kernel) (by decide +kernel), gz_mem 1499 (by decide +kernel) (by decide +kernel)⟩
theorem mvX12_123 : gz_mv RX12 123 mX12_put 1 := ⟨mkX12_put, gz_mem 1440 (by decide +kernel) (by decide +kernel), gz_mem 1442 (by decide +kernel) (by decide +kernel), gz_mem 35 (by decide +kernel) (by decide +kernel)⟩
theorem mvX12_142 : gz_mv RX12 142 mX12_fails 0 := ⟨mkX12_fails, gz_mem 1475 (by decide +kernel) (by decide +kernel), gz_mem 1477 (by decide +kernel) (by decide +kernel), gz_mem 40 (by decide +kernel) (by decide +kernel)⟩
theorem mvX12_146 : gz_mv RX12 146 mX12_look 0 := ⟨mkX12_look, gz_mem 1471 (by decide +kernel) (by decide +kernel), gz_mem 1473 (by decide +kernel) (by decide +kernel), gz_mem 39 (by decide +kernel) (by decide +kernel)⟩
theorem mvX12_166 : gz_mv RX12 166 mX12_goesIn 0 := ⟨mkX12_goesIn, gz_mem 1604 (by decide +kernel) (by decide +kernel), gz_mem 1606 (by decide +kernel) (by decide +kernel), gz_mem 56 (by decide +kernel) (by decide +kernel)⟩
theorem mvX12_169 : gz_mv RX12 169 mX12_sum 0 := ⟨mkX12_sum, gz_mem 1592 (by decide +kernel) (by decide +kernel), gz_mem 1594 (by decide +kernel) (by decide +kernel), gz_mem 53 (by decide +kernel) (by decide +kernel)⟩
theorem mvX12_172 : gz_mv RX12 172 mX12_takes 1 := ⟨mkX12_takes, gz_mem 1576 (by decide +kernel) (by decide +kernel), gz_mem 1578 (by decide +kernel) (by decide +kernel), gz_mem 49 (by decide +kernel) (by decide +kernel)⟩
theorem mvX12_176 : gz_mv RX12 176 mX12_isDigit 0 := ⟨mkX12_isDigit, gz_mem 1548 (by decide +kernel) (by decide +kernel), gz_mem 1550 (by decide +kernel) (by decide +kernel), gz_mem 43 (by decide +kernel) (by decide +kernel)⟩
theorem mvX12_179 : gz_mv RX12 179 mX12_atom 0 := ⟨mkX12_atom, gz_mem 1600 (by decide +kernel) (by decide +kernel), gz_mem 1602 (by decide +kernel) (by decide +kernel), gz_mem 55 (by decide +kernel) (by decide +kernel)⟩
theorem mvX12_186 : gz_mv RX12 186 mX12_term 0 := ⟨mkX12_term, gz_mem 1596 (by decide +kernel) (by decide +kernel), gz_mem 1598 (by decide +kernel) (by decide +kernel), gz_mem 54 (by decide +kernel) (by decide +kernel)⟩
theorem mvX12_192 : gz_mv RX12 192 mX12_unit 0 := ⟨mkX12_unit, gz_mem 1622 (by decide +kernel) (by decide +kernel), gz_mem 1624 (by decide +kernel) (by decide +kernel), gz_mem 57 (by decide +kernel) (by decide +kernel)⟩
theorem mvX12_195 : gz_mv RX12 195 mX12_condition 2 := ⟨mkX12_condition, gz_mem 1580 (by decide +kernel) (by decide +kernel), gz_mem 1582 (by decide +kernel) (by decide +kernel), gz_mem 50 (by decide +kernel) (by decide +kernel)⟩
theorem mvX12_199 : gz_mv RX12 199 mX12_compares 2 := ⟨mkX12_compares, gz_mem 1588 (by decide +kernel) (by decide +kernel), gz_mem 1590 (by decide +kernel) (by decide +kernel), gz_mem 52 (by decide +kernel) (by decide +kernel)⟩
theorem mvX12_202 : gz_mv RX12 202 mX12_part 2 := ⟨mkX12_part, gz_mem 1584 (by decide +kernel) (by decide +kernel), gz_mem 1586 (by decide +kernel) (by decide +kernel), gz_mem 51 (by decide +kernel) (by decide +kernel)⟩
theorem mvX12_215 : gz_mv RX12 215 mX12_starts 3 := ⟨mkX12_starts, gz_mem 1460 (by decide +kernel) (by decide +kernel), gz_mem 1462 (by decide +kernel) (by decide +kernel), gz_mem 37 (by decide +kernel) (by decide +kernel)⟩
theorem mvX12_219 : gz_mv RX12 219 mX12_clause 0 := ⟨mkX12_clause, gz_mem 1569 (by decide +kernel) (by decide +kernel), gz_mem 1571 (by decide +kernel) (by decide +kernel), gz_mem 48 (by decide +kernel) (by decide +kernel)⟩
theorem mvX12_222 : gz_mv RX12 222 mX12_here 0 := ⟨mkX12_here, gz_mem 1552 (by decide +kernel) (by decide +kernel), gz_mem 1554 (by decide +kernel) (by decide +kernel), gz_mem 44 (by decide +kernel) (by decide +kernel)⟩
theorem mvX12_247 : gz_mv RX12 247 mX12_number 2 := ⟨mkX12_number, gz_mem 1544 (by decide +kernel) (by decide +kernel), gz_mem 1546 (by decide +kernel) (by decide +kernel), gz_mem 42 (by decide +kernel) (by decide +kernel)⟩
theorem mvX12_261 : gz_mv RX12 261 mX12_readItems 4 := ⟨mkX12_readItems, gz_mem 1480 (by decide +kernel) (by decide +kernel), gz_mem 1482 (by decide +kernel) (by decide +kernel), gz_mem 41 (by decide +kernel) (by decide +kernel)⟩
theorem mvX12_265 : gz_mv RX12 265 mX12_readRow 0 := ⟨mkX12_readRow, gz_mem 1556 (by decide +kernel) (by decide +kernel), gz_mem 1558 (by decide +kernel) (by decide +kernel), gz_mem 45 (by decide +kernel) (by decide +kernel)⟩
theorem mvX12_270 : gz_mv RX12 270 mX12_readClause 0 := ⟨mkX12_readClause, gz_mem 1467 (by decide +kernel) (by decide +kernel), gz_mem 1469 (by decide +kernel) (by decide +kernel), gz_mem 38 (by decide +kernel) (by decide +kernel)⟩
theorem mvX12_273 : gz_mv RX12 273 mX12_isWhole 0 := ⟨mkX12_isWhole, gz_mem 1561 (by decide +kernel) (by decide +kernel), gz_mem 1563 (by decide +kernel) (by decide +kernel), gz_mem 46 (by decide +kernel) (by decide +kernel)⟩
theorem mvX12_278 : gz_mv RX12 278 mX12_digit 0 := ⟨mkX12_digit, gz_mem 1635 (by decide +kernel) (by decide +kernel), gz_mem 1637 (by decide +kernel) (by decide +kernel), gz_mem 60 (by decide +kernel) (by decide +kernel)⟩
theorem mvX12_281 : gz_mv RX12 281 mX12_readStep 1 := ⟨mkX12_readStep, gz_mem 1630 (by decide +kernel) (by decide +kernel), gz_mem 1632 (by decide +kernel) (by decide +kernel), gz_mem 59 (by decide +kernel) (by decide +kernel)⟩
theorem mvX12_286 : gz_mv RX12 286 mX12_readShore 0 := ⟨mkX12_readShore, gz_mem 1456 (by decide +kernel) (by decide +kernel), gz_mem 1458 (by decide +kernel) (by decide +kernel), gz_mem 36 (by decide +kernel) (by decide +kernel)⟩
theorem mvX12_289 : gz_mv RX12 289 mX12_goThrough 3 := ⟨mkX12_goThrough, gz_mem 1565 (by decide +kernel) (by decide +kernel), gz_mem 1567 (by decide +kernel) (by decide +kernel), gz_mem 47 (by decide +kernel) (by decide +kernel)⟩
theorem mvX12_292 : gz_mv RX12 292 mX12_readPlan 0 := ⟨mkX12_readPlan, gz_mem 1626 (by decide +kernel) (by decide +kernel), gz_mem 1628 (by decide +kernel) (by decide +kernel), gz_mem 58 (by decide +kernel) (by decide +kernel)⟩
theorem mvX12_301 : gz_mv RX12 301 mX12_fault 1 := ⟨mkX12_fault, gz_mem 1643 (by decide +kernel) (by decide +kernel), gz_mem 1449 (by decide +kernel) (by decide +kernel), gz_mem 1450 (by decide +kernel) (by decide +kernel)⟩
theorem mvX12_306 : gz_mv RX12 306 mX12_lays 1 := ⟨mkX12_lays, gz_mem 1644 (by decide +kernel) (by decide +kernel), gz_mem 1646 (by decide +kernel) (by decide +kernel), gz_mem 61 (by decide +kernel) (by decide +kernel)⟩
theorem mvX12_319 : gz_mv RX12 319 mX12_cells 0 := ⟨mkX12_cells, gz_mem 1648 (by decide +kernel) (by decide +kernel), gz_mem 1650 (by decide +kernel) (by decide +kernel), gz_mem 62 (by decide +kernel) (by decide +kernel)⟩
theorem mvX12_322 : gz_mv RX12 322 mX12_startOf 1 := ⟨mkX12_startOf, gz_mem 1652 (by decide +kernel) (by decide +kernel), gz_mem 1654 (by decide +kernel) (by decide +kernel), gz_mem 63 (by decide +kernel) (by decide +kernel)⟩
theorem mvX12_325 : gz_mv RX12 325 mX12_isGoer 1 := ⟨mkX12_isGoer, gz_mem 1672 (by decide +kernel) (by decide +kernel), gz_mem 1674 (by decide +kernel) (by decide +kernel), gz_mem 66 (by decide +kernel) (by decide +kernel)⟩
theorem mvX12_328 : gz_mv RX12 328 mX12_nextCell 2 := ⟨mkX12_nextCell, gz_mem 1725 (by decide +kernel) (by decide +kernel), gz_mem 1727 (by decide +kernel) (by decide +kernel), gz_mem 75 (by decide +kernel) (by decide +kernel)⟩
theorem mvX12_331 : gz_mv RX12 331 mX12_isUnder 2 := ⟨mkX12_isUnder, gz_mem 1664 (by decide +kernel) (by decide +kernel), gz_mem 1666 (by decide +kernel) (by decide +kernel), gz_mem 65 (by decide +kernel) (by decide +kernel)⟩
theorem mvX12_335 : gz_mv RX12 335 mX12_aheadOf 3 := ⟨mkX12_aheadOf, gz_mem 1721 (by decide +kernel) (by decide +kernel), gz_mem 1723 (by decide +kernel) (by decide +kernel), gz_mem 74 (by decide +kernel) (by decide +kernel)⟩
theorem mvX12_339 : gz_mv RX12 339 mX12_worthOf 6 := ⟨mkX12_worthOf, gz_mem 1729 (by decide +kernel) (by decide +kernel), gz_mem 1731 (by decide +kernel) (by decide +kernel), gz_mem 76 (by decide +kernel) (by decide +kernel)⟩
theorem mvX12_343 : gz_mv RX12 343 mX12_turnOf 3 := ⟨mkX12_turnOf, gz_mem 1717 (by decide +kernel) (by decide +kernel), gz_mem 1719 (by decide +kernel) (by decide +kernel), gz_mem 73 (by decide +kernel) (by decide +kernel)⟩
theorem mvX12_349 : gz_mv RX12 349 mX12_goStep 3 := ⟨mkX12_goStep, gz_mem 1713 (by decide +kernel) (by decide +kernel), gz_mem 1715 (by decide +kernel) (by decide +kernel), gz_mem 72 (by decide +kernel) (by decide +kernel)⟩
theorem mvX12_359 : gz_mv RX12 359 mX12_paceOf 1 := ⟨mkX12_paceOf, gz_mem 1677 (by decide +kernel) (by decide +kernel), gz_mem 1679 (by decide +kernel) (by decide +kernel), gz_mem 67 (by decide +kernel) (by decide +kernel)⟩
theorem mvX12_362 : gz_mv RX12 362 mX12_goesOn 3 := ⟨mkX12_goesOn, gz_mem 1709 (by decide +kernel) (by decide +kernel), gz_mem 1711 (by decide +kernel) (by decide +kernel), gz_mem 71 (by decide +kernel) (by decide +kernel)⟩
theorem mvX12_367 : gz_mv RX12 367 mX12_passes 1 := ⟨mkX12_passes, gz_mem 1702 (by decide +kernel) (by decide +kernel), gz_mem 1704 (by decide +kernel) (by decide +kernel), gz_mem 70 (by decide +kernel) (by decide +kernel)⟩
theorem mvX12_373 : gz_mv RX12 373 mX12_isCell 1 := ⟨mkX12_isCell, gz_mem 1660 (by decide +kernel) (by decide +kernel), gz_mem 1662 (by decide +kernel) (by decide +kernel), gz_mem 64 (by decide +kernel) (by decide +kernel)⟩
theorem mvX12_380 : gz_mv RX12 380 mX12_remember 0 := ⟨mkX12_remember, gz_mem 1694 (by decide +kernel) (by decide +kernel), gz_mem 1696 (by decide +kernel) (by decide +kernel), gz_mem 68 (by decide +kernel) (by decide +kernel)⟩
theorem mvX12_383 : gz_mv RX12 383 mX12_goHour 1 := ⟨mkX12_goHour, gz_mem 1698 (by decide +kernel) (by decide +kernel), gz_mem 1700 (by decide +kernel) (by decide +kernel), gz_mem 69 (by decide +kernel) (by decide +kernel)⟩
theorem mvX12_388 : gz_mv RX12 388 mX12_canTide 2 := ⟨mkX12_canTide, gz_mem 1738 (by decide +kernel) (by decide +kernel), gz_mem 1740 (by decide +kernel) (by decide +kernel), gz_mem 77 (by decide +kernel) (by decide +kernel)⟩
theorem mvX12_391 : gz_mv RX12 391 mX12_goingOn 2 := ⟨mkX12_goingOn, gz_mem 1747 (by decide +kernel) (by decide +kernel), gz_mem 1749 (by decide +kernel) (by decide +kernel), gz_mem 78 (by decide +kernel) (by decide +kernel)⟩
theorem mvX12_400 : gz_mv RX12 400 mX12_canSweep 2 := ⟨mkX12_canSweep, gz_mem 1755 (by decide +kernel) (by decide +kernel), gz_mem 1757 (by decide +kernel) (by decide +kernel), gz_mem 79 (by decide +kernel) (by decide +kernel)⟩
theorem mvX12_403 : gz_mv RX12 403 mX12_sweeps 2 := ⟨mkX12_sweeps, gz_mem 1759 (by decide +kernel) (by decide +kernel), gz_mem 1761 (by decide +kernel) (by decide +kernel), gz_mem 80 (by decide +kernel) (by decide +kernel)⟩
theorem mvX12_408 : gz_mv RX12 408 mX12_canBegin 3 := ⟨mkX12_canBegin, gz_mem 1768 (by decide +kernel) (by decide +kernel), gz_mem 1770 (by decide +kernel) (by decide +kernel), gz_mem 81 (by decide +kernel) (by decide +kernel)⟩
theorem mvX12_412 : gz_mv RX12 412 mX12_begins0 3 := ⟨mkX12_begins0, gz_mem 1773 (by decide +kernel) (by decide +kernel), gz_mem 1775 (by decide +kernel) (by decide +kernel), gz_mem 82 (by decide +kernel) (by decide +kernel)⟩
theorem mvX12_427 : gz_mv RX12 427 mX12_draw 1 := ⟨mkX12_draw, gz_mem 1787 (by decide +kernel) (by decide +kernel), gz_mem 1789 (by decide +kernel) (by decide +kernel), gz_mem 83 (by decide +kernel) (by decide +kernel)⟩
theorem mvX12_430 : gz_mv RX12 430 mX12_isPlan 1 := ⟨mkX12_isPlan, gz_mem 1805 (by decide +kernel) (by decide +kernel), gz_mem 1807 (by decide +kernel) (by decide +kernel), gz_mem 84 (by decide +kernel) (by decide +kernel)⟩
theorem mvX12_438 : gz_mv RX12 438 mX12_canStep 2 := ⟨mkX12_canStep, gz_mem 1817 (by decide +kernel) (by decide +kernel), gz_mem 1819 (by decide +kernel) (by decide +kernel), gz_mem 85 (by decide +kernel) (by decide +kernel)⟩
theorem mvX12_441 : gz_mv RX12 441 mX12_goPlan 2 := ⟨mkX12_goPlan, gz_mem 1821 (by decide +kernel) (by decide +kernel), gz_mem 1823 (by decide +kernel) (by decide +kernel), gz_mem 86 (by decide +kernel) (by decide +kernel)⟩
theorem mvX12_446 : gz_mv RX12 446 mX12_haveMet 2 := ⟨mkX12_haveMet, gz_mem 1846 (by decide +kernel) (by decide +kernel), gz_mem 1848 (by decide +kernel) (by decide +kernel), gz_mem 89 (by decide +kernel) (by decide +kernel)⟩
theorem mvX12_449 : gz_mv RX12 449 mX12_areTwo 2 := ⟨mkX12_areTwo, gz_mem 1838 (by decide +kernel) (by decide +kernel), gz_mem 1840 (by decide +kernel) (by decide +kernel), gz_mem 87 (by decide +kernel) (by decide +kernel)⟩
theorem mvX12_452 : gz_mv RX12 452 mX12_meetsWithin 3 := ⟨mkX12_meetsWithin, gz_mem 1842 (by decide +kernel) (by decide +kernel), gz_mem 1844 (by decide +kernel) (by decide +kernel), gz_mem 88 (by decide +kernel) (by decide +kernel)⟩
theorem mvX12_456 : gz_mv RX12 456 mX12_isDry 1 := ⟨mkX12_isDry, gz_mem 1867 (by decide +kernel) (by decide +kernel), gz_mem 1869 (by decide +kernel) (by decide +kernel), gz_mem 91 (by decide +kernel) (by decide +kernel)⟩
theorem mvX12_459 : gz_mv RX12 459 mX12_goSteps 1 := ⟨mkX12_goSteps, gz_mem 1863 (by decide +kernel) (by decide +kernel), gz_mem 1865 (by decide +kernel) (by decide +kernel), gz_mem 90 (by decide +kernel) (by decide +kernel)⟩
theorem mvX12_462 : gz_mv RX12 462 mX12_doesKeep 5 := ⟨mkX12_doesKeep, gz_mem 1880 (by decide +kernel) (by decide +kernel), gz_mem 1882 (by decide +kernel) (by decide +kernel), gz_mem 93 (by decide +kernel) (by decide +kernel)⟩
theorem mvX12_466 : gz_mv RX12 466 mX12_canLay 1 := ⟨mkX12_canLay, gz_mem 1884 (by decide +kernel) (by decide +kernel), gz_mem 1886 (by decide +kernel) (by decide +kernel), gz_mem 94 (by decide +kernel) (by decide +kernel)⟩
theorem mvX12_473 : gz_mv RX12 473 mX12_stonesOf 3 := ⟨mkX12_stonesOf, gz_mem 1876 (by decide +kernel) (by decide +kernel), gz_mem 1878 (by decide +kernel) (by decide +kernel), gz_mem 92 (by decide +kernel) (by decide +kernel)⟩
theorem mvX12_476 : gz_mv RX12 476 mX12_laysPaths 1 := ⟨mkX12_laysPaths, gz_mem 1898 (by decide +kernel) (by decide +kernel), gz_mem 1900 (by decide +kernel) (by decide +kernel), gz_mem 95 (by decide +kernel) (by decide +kernel)⟩
theorem mvX12_479 : gz_mv RX12 479 mX12_isFit 2 := ⟨mkX12_isFit, gz_mem 1902 (by decide +kernel) (by decide +kernel), gz_mem 1904 (by decide +kernel) (by decide +kernel), gz_mem 96 (by decide +kernel) (by decide +kernel)⟩
theorem mvX12_482 : gz_mv RX12 482 mX12_canPlay 2 := ⟨mkX12_canPlay, gz_mem 1914 (by decide +kernel) (by decide +kernel), gz_mem 1916 (by decide +kernel) (by decide +kernel), gz_mem 97 (by decide +kernel) (by decide +kernel)⟩
theorem mvX12_485 : gz_mv RX12 485 mX12_gameOf 5 := ⟨mkX12_gameOf, gz_mem 1918 (by decide +kernel) (by decide +kernel), gz_mem 1920 (by decide +kernel) (by decide +kernel), gz_mem 98 (by decide +kernel) (by decide +kernel)⟩
theorem mvX12_491 : gz_mv RX12 491 mX12_oddsFrom 5 := ⟨mkX12_oddsFrom, gz_mem 1933 (by decide +kernel) (by decide +kernel), gz_mem 1935 (by decide +kernel) (by decide +kernel), gz_mem 99 (by decide +kernel) (by decide +kernel)⟩
theorem mvX12_499 : gz_mv RX12 499 mX12_doesFace 2 := ⟨mkX12_doesFace, gz_mem 1974 (by decide +kernel) (by decide +kernel), gz_mem 1976 (by decide +kernel) (by decide +kernel), gz_mem 106 (by decide +kernel) (by decide +kernel)⟩
theorem mvX12_502 : gz_mv RX12 502 mX12_greatest 1 := ⟨mkX12_greatest, gz_mem 1950 (by decide +kernel) (by decide +kernel), gz_mem 1952 (by decide +kernel) (by decide +kernel), gz_mem 100 (by decide +kernel) (by decide +kernel)⟩
theorem mvX12_505 : gz_mv RX12 505 mX12_thoseWho 1 := ⟨mkX12_thoseWho, gz_mem 1954 (by decide +kernel) (by decide +kernel), gz_mem 1956 (by decide +kernel) (by decide +kernel), gz_mem 101 (by decide +kernel) (by decide +kernel)⟩
theorem mvX12_508 : gz_mv RX12 508 mX12_dry 1 := ⟨mkX12_dry, gz_mem 1958 (by decide +kernel) (by decide +kernel), gz_mem 1960 (by decide +kernel) (by decide +kernel), gz_mem 102 (by decide +kernel) (by decide +kernel)⟩
theorem mvX12_512 : gz_mv RX12 512 mX12_crowd 0 := ⟨mkX12_crowd, gz_mem 1962 (by decide +kernel) (by decide +kernel), gz_mem 1964 (by decide +kernel) (by decide +kernel), gz_mem 103 (by decide +kernel) (by decide +kernel)⟩
theorem mvX12_515 : gz_mv RX12 515 mX12_busy 0 := ⟨mkX12_busy, gz_mem 1966 (by decide +kernel) (by decide +kernel), gz_mem 1968 (by decide +kernel) (by decide +kernel), gz_mem 104 (by decide +kernel) (by decide +kernel)⟩
theorem mvX12_518 : gz_mv RX12 518 mX12_faced 0 := ⟨mkX12_faced, gz_mem 1970 (by decide +kernel) (by decide +kernel), gz_mem 1972 (by decide +kernel) (by decide +kernel), gz_mem 105 (by decide +kernel) (by decide +kernel)⟩
theorem mvX2_34 : gz_mv RX2 34 mX6_copy 1 := ⟨mkX6_copy, gz_mem 933 (by decide +kernel) (by decide +kernel), gz_mem 613 (by decide +kernel) (by decide +kernel), gz_mem 614 (by decide +kernel) (by decide +kernel)⟩
theorem mvX2_38 : gz_mv RX2 38 mX10_passHour 1 := ⟨mkX10_passHour, gz_mem 934 (by decide +kernel) (by decide +kernel), gz_mem 726 (by decide +kernel) (by decide +kernel), gz_mem 727 (by decide +kernel) (by decide +kernel)⟩
theorem mvX2_47 : gz_mv RX2 47 mX6_together 2 := ⟨mkX6_together, gz_mem 947 (by decide +kernel) (by decide +kernel), gz_mem 948 (by decide +kernel) (by decide +kernel), gz_mem 949 (by decide +kernel) (by decide +kernel)⟩
theorem mvX2_51 : gz_mv RX2 51 mX6_goes 1 := ⟨mkX6_goes, gz_mem 960 (by decide +kernel) (by decide +kernel), gz_mem 730 (by decide +kernel) (by decide +kernel), gz_mem 731 (by decide +kernel) (by decide +kernel)⟩
theorem mvX2_55 : gz_mv RX2 55 mX6_goesOn 2 := ⟨mkX6_goesOn, gz_mem 970 (by decide +kernel) (by decide +kernel), gz_mem 778 (by decide +kernel) (by decide +kernel), gz_mem 779 (by decide +kernel) (by decide +kernel)⟩
theorem mvX2_58 : gz_mv RX2 58 mX2_keepsApart 5 := ⟨mkX2_keepsApart, gz_mem 996 (by decide +kernel) (by decide +kernel), gz_mem 998 (by decide +kernel) (by decide +kernel), gz_mem 24 (by decide +kernel) (by decide +kernel)⟩
theorem mvX2_69 : gz_mv RX2 69 mX6_cells 0 := ⟨mkX6_cells, gz_mem 1008 (by decide +kernel) (by decide +kernel), gz_mem 628 (by decide +kernel) (by decide +kernel), gz_mem 629 (by decide +kernel) (by decide +kernel)⟩
theorem mvX2_73 : gz_mv RX2 73 mX2_isFree 1 := ⟨mkX2_isFree, gz_mem 1009 (by decide +kernel) (by decide +kernel), gz_mem 1011 (by decide +kernel) (by decide +kernel), gz_mem 26 (by decide +kernel) (by decide +kernel)⟩
theorem mvX2_76 : gz_mv RX2 76 mX6_kind 1 := ⟨mkX6_kind, gz_mem 1013 (by decide +kernel) (by decide +kernel), gz_mem 688 (by decide +kernel) (by decide +kernel), gz_mem 689 (by decide +kernel) (by decide +kernel)⟩
theorem mvX2_80 : gz_mv RX2 80 mX6_goingOn 1 := ⟨mkX6_goingOn, gz_mem 1014 (by decide +kernel) (by decide +kernel), gz_mem 774 (by decide +kernel) (by decide +kernel), gz_mem 775 (by decide +kernel) (by decide +kernel)⟩
theorem mvX2_83 : gz_mv RX2 83 mX2_layRock 1 := ⟨mkX2_layRock, gz_mem 1000 (by decide +kernel) (by decide +kernel), gz_mem 1002 (by decide +kernel) (by decide +kernel), gz_mem 25 (by decide +kernel) (by decide +kernel)⟩
theorem mvX2_98 : gz_mv RX2 98 mX2_play 4 := ⟨mkX2_play, gz_mem 1097 (by decide +kernel) (by decide +kernel), gz_mem 1085 (by decide +kernel) (by decide +kernel), gz_mem 1086 (by decide +kernel) (by decide +kernel)⟩
theorem mvX2_102 : gz_mv RX2 102 mX2_isRest 2 := ⟨mkX2_isRest, gz_mem 1098 (by decide +kernel) (by decide +kernel), gz_mem 1100 (by decide +kernel) (by decide +kernel), gz_mem 30 (by decide +kernel) (by decide +kernel)⟩
theorem mvX2_109 : gz_mv RX2 109 mX2_partsOf 4 := ⟨mkX2_partsOf, gz_mem 1115 (by decide +kernel) (by decide +kernel), gz_mem 1117 (by decide +kernel) (by decide +kernel), gz_mem 31 (by decide +kernel) (by decide +kernel)⟩
theorem mvX4_36 : gz_mv RX4 36 mX9_rewind 0 := ⟨mkX9_rewind, gz_mem 527 (by decide +kernel) (by decide +kernel), gz_mem 464 (by decide +kernel) (by decide +kernel), gz_mem 465 (by decide +kernel) (by decide +kernel)⟩
theorem mvX4_39 : gz_mv RX4 39 mX9_expect 1 := ⟨mkX9_expect, gz_mem 528 (by decide +kernel) (by decide +kernel), gz_mem 520 (by decide +kernel) (by decide +kernel), gz_mem 521 (by decide +kernel) (by decide +kernel)⟩
theorem mvX4_43 : gz_mv RX4 43 mX4_readClause 0 := ⟨mkX4_readClause, gz_mem 529 (by decide +kernel) (by decide +kernel), gz_mem 531 (by decide +kernel) (by decide +kernel), gz_mem 6 (by decide +kernel) (by decide +kernel)⟩
theorem mvX4_47 : gz_mv RX4 47 mX4_put 1 := ⟨mkX4_put, gz_mem 543 (by decide +kernel) (by decide +kernel), gz_mem 545 (by decide +kernel) (by decide +kernel), gz_mem 9 (by decide +kernel) (by decide +kernel)⟩
theorem mvX4_51 : gz_mv RX4 51 mX9_next 0 := ⟨mkX9_next, gz_mem 533 (by decide +kernel) (by decide +kernel), gz_mem 477 (by decide +kernel) (by decide +kernel), gz_mem 478 (by decide +kernel) (by decide +kernel)⟩
theorem mvX4_58 : gz_mv RX4 58 mX9_refuse 1 := ⟨mkX9_refuse, gz_mem 552 (by decide +kernel) (by decide +kernel), gz_mem 492 (by decide +kernel) (by decide +kernel), gz_mem 493 (by decide +kernel) (by decide +kernel)⟩
theorem mvX4_61 : gz_mv RX4 61 mX4_readSum 1 := ⟨mkX4_readSum, gz_mem 534 (by decide +kernel) (by decide +kernel), gz_mem 536 (by decide +kernel) (by decide +kernel), gz_mem 7 (by decide +kernel) (by decide +kernel)⟩
theorem mvX4_68 : gz_mv RX4 68 mX4_readCondition 2 := ⟨mkX4_readCondition, gz_mem 559 (by decide +kernel) (by decide +kernel), gz_mem 561 (by decide +kernel) (by decide +kernel), gz_mem 10 (by decide +kernel) (by decide +kernel)⟩
theorem mvX4_72 : gz_mv RX4 72 mX4_readCompared 1 := ⟨mkX4_readCompared, gz_mem 563 (by decide +kernel) (by decide +kernel), gz_mem 565 (by decide +kernel) (by decide +kernel), gz_mem 11 (by decide +kernel) (by decide +kernel)⟩
theorem mvX4_75 : gz_mv RX4 75 mX4_readUnit 1 := ⟨mkX4_readUnit, gz_mem 567 (by decide +kernel) (by decide +kernel), gz_mem 569 (by decide +kernel) (by decide +kernel), gz_mem 12 (by decide +kernel) (by decide +kernel)⟩
theorem mvX4_78 : gz_mv RX4 78 mX9_accept 1 := ⟨mkX9_accept, gz_mem 571 (by decide +kernel) (by decide +kernel), gz_mem 572 (by decide +kernel) (by decide +kernel), gz_mem 573 (by decide +kernel) (by decide +kernel)⟩
theorem mvX4_81 : gz_mv RX4 81 mX4_readAtom 1 := ⟨mkX4_readAtom, gz_mem 538 (by decide +kernel) (by decide +kernel), gz_mem 540 (by decide +kernel) (by decide +kernel), gz_mem 8 (by decide +kernel) (by decide +kernel)⟩
theorem mvX4_87 : gz_mv RX4 87 mX9_readNumber 1 := ⟨mkX9_readNumber, gz_mem 542 (by decide +kernel) (by decide +kernel), gz_mem 496 (by decide +kernel) (by decide +kernel), gz_mem 497 (by decide +kernel) (by decide +kernel)⟩
theorem mvX6_21 : gz_mv RX6 21 mX6_cells 0 := ⟨mkX6_cells, gz_mem 686 (by decide +kernel) (by decide +kernel), gz_mem 628 (by decide +kernel) (by decide +kernel), gz_mem 629 (by decide +kernel) (by decide +kernel)⟩
theorem mvX6_25 : gz_mv RX6 25 mX6_hasGoer 1 := ⟨mkX6_hasGoer, gz_mem 830 (by decide +kernel) (by decide +kernel), gz_mem 831 (by decide +kernel) (by decide +kernel), gz_mem 832 (by decide +kernel) (by decide +kernel)⟩
theorem mvX6_29 : gz_mv RX6 29 mX6_hasPair 2 := ⟨mkX6_hasPair, gz_mem 1082 (by decide +kernel) (by decide +kernel), gz_mem 940 (by decide +kernel) (by decide +kernel), gz_mem 941 (by decide +kernel) (by decide +kernel)⟩
theorem mvX6_33 : gz_mv RX6 33 mX6_goes 1 := ⟨mkX6_goes, gz_mem 951 (by decide +kernel) (by decide +kernel), gz_mem 730 (by decide +kernel) (by decide +kernel), gz_mem 731 (by decide +kernel) (by decide +kernel)⟩
theorem mvX6_36 : gz_mv RX6 36 mX6_goesOn 2 := ⟨mkX6_goesOn, gz_mem 777 (by decide +kernel) (by decide +kernel), gz_mem 778 (by decide +kernel) (by decide +kernel), gz_mem 779 (by decide +kernel) (by decide +kernel)⟩
theorem mvX6_39 : gz_mv RX6 39 mX6_under 1 := ⟨mkX6_under, gz_mem 750 (by decide +kernel) (by decide +kernel), gz_mem 692 (by decide +kernel) (by decide +kernel), gz_mem 693 (by decide +kernel) (by decide +kernel)⟩
theorem mvX6_42 : gz_mv RX6 42 mX6_hasShore 0 := ⟨mkX6_hasShore, gz_mem 711 (by decide +kernel) (by decide +kernel), gz_mem 712 (by decide +kernel) (by decide +kernel), gz_mem 713 (by decide +kernel) (by decide +kernel)⟩
theorem mvX6_46 : gz_mv RX6 46 mX6_hasCell 1 := ⟨mkX6_hasCell, gz_mem 803 (by decide +kernel) (by decide +kernel), gz_mem 683 (by decide +kernel) (by decide +kernel), gz_mem 684 (by decide +kernel) (by decide +kernel)⟩
theorem mvX6_49 : gz_mv RX6 49 mX6_kind 1 := ⟨mkX6_kind, gz_mem 804 (by decide +kernel) (by decide +kernel), gz_mem 688 (by decide +kernel) (by decide +kernel), gz_mem 689 (by decide +kernel) (by decide +kernel)⟩
theorem mvX6_53 : gz_mv RX6 53 mX6_goingOn 1 := ⟨mkX6_goingOn, gz_mem 805 (by decide +kernel) (by decide +kernel), gz_mem 774 (by decide +kernel) (by decide +kernel), gz_mem 775 (by decide +kernel) (by decide +kernel)⟩
theorem mvX6_59 : gz_mv RX6 59 mX6_begin 2 := ⟨mkX6_begin, gz_mem 841 (by decide +kernel) (by decide +kernel), gz_mem 842 (by decide +kernel) (by decide +kernel), gz_mem 843 (by decide +kernel) (by decide +kernel)⟩
theorem mvX6_69 : gz_mv RX6 69 mX6_looksAt 2 := ⟨mkX6_looksAt, gz_mem 1168 (by decide +kernel) (by decide +kernel), gz_mem 1170 (by decide +kernel) (by decide +kernel), gz_mem 33 (by decide +kernel) (by decide +kernel)⟩
theorem mvX6_72 : gz_mv RX6 72 mX6_beside 2 := ⟨mkX6_beside, gz_mem 987 (by decide +kernel) (by decide +kernel), gz_mem 743 (by decide +kernel) (by decide +kernel), gz_mem 744 (by decide +kernel) (by decide +kernel)⟩
theorem mvX6_75 : gz_mv RX6 75 mX6_dryCells 0 := ⟨mkX6_dryCells, gz_mem 979 (by decide +kernel) (by decide +kernel), gz_mem 980 (by decide +kernel) (by decide +kernel), gz_mem 981 (by decide +kernel) (by decide +kernel)⟩
theorem mvX6_78 : gz_mv RX6 78 mX6_reached 2 := ⟨mkX6_reached, gz_mem 1151 (by decide +kernel) (by decide +kernel), gz_mem 1153 (by decide +kernel) (by decide +kernel), gz_mem 32 (by decide +kernel) (by decide +kernel)⟩
theorem mvX6_81 : gz_mv RX6 81 mX6_widened 2 := ⟨mkX6_widened, gz_mem 983 (by decide +kernel) (by decide +kernel), gz_mem 985 (by decide +kernel) (by decide +kernel), gz_mem 23 (by decide +kernel) (by decide +kernel)⟩
theorem mvX7_28 : gz_mv RX7 28 mX7_clear 0 := ⟨mkX7_clear, gz_mem 459 (by decide +kernel) (by decide +kernel), gz_mem 461 (by decide +kernel) (by decide +kernel), gz_mem 0 (by decide +kernel) (by decide +kernel)⟩
theorem mvX7_31 : gz_mv RX7 31 mX7_readClause 0 := ⟨mkX7_readClause, gz_mem 472 (by decide +kernel) (by decide +kernel), gz_mem 474 (by decide +kernel) (by decide +kernel), gz_mem 1 (by decide +kernel) (by decide +kernel)⟩
theorem mvX7_35 : gz_mv RX7 35 mX9_next 0 := ⟨mkX9_next, gz_mem 476 (by decide +kernel) (by decide +kernel), gz_mem 477 (by decide +kernel) (by decide +kernel), gz_mem 478 (by decide +kernel) (by decide +kernel)⟩
theorem mvX7_41 : gz_mv RX7 41 mX7_agrees 0 := ⟨mkX7_agrees, gz_mem 515 (by decide +kernel) (by decide +kernel), gz_mem 517 (by decide +kernel) (by decide +kernel), gz_mem 5 (by decide +kernel) (by decide +kernel)⟩
theorem mvX7_48 : gz_mv RX7 48 mX9_refuse 1 := ⟨mkX9_refuse, gz_mem 491 (by decide +kernel) (by decide +kernel), gz_mem 492 (by decide +kernel) (by decide +kernel), gz_mem 493 (by decide +kernel) (by decide +kernel)⟩
theorem mvX7_52 : gz_mv RX7 52 mX9_expect 1 := ⟨mkX9_expect, gz_mem 519 (by decide +kernel) (by decide +kernel), gz_mem 520 (by decide +kernel) (by decide +kernel), gz_mem 521 (by decide +kernel) (by decide +kernel)⟩
theorem mvX7_55 : gz_mv RX7 55 mX9_rewind 0 := ⟨mkX9_rewind, gz_mem 463 (by decide +kernel) (by decide +kernel), gz_mem 464 (by decide +kernel) (by decide +kernel), gz_mem 465 (by decide +kernel) (by decide +kernel)⟩
theorem mvX7_79 : gz_mv RX7 79 mX7_readItems 3 := ⟨mkX7_readItems, gz_mem 480 (by decide +kernel) (by decide +kernel), gz_mem 482 (by decide +kernel) (by decide +kernel), gz_mem 2 (by decide +kernel) (by decide +kernel)⟩
theorem mvX7_83 : gz_mv RX7 83 mX7_readRow 1 := ⟨mkX7_readRow, gz_mem 505 (by decide +kernel) (by decide +kernel), gz_mem 507 (by decide +kernel) (by decide +kernel), gz_mem 4 (by decide +kernel) (by decide +kernel)⟩
theorem mvX7_93 : gz_mv RX7 93 mX7_endsClause 0 := ⟨mkX7_endsClause, gz_mem 487 (by decide +kernel) (by decide +kernel), gz_mem 489 (by decide +kernel) (by decide +kernel), gz_mem 3 (by decide +kernel) (by decide +kernel)⟩
theorem mvX7_96 : gz_mv RX7 96 mX9_readNumber 1 := ⟨mkX9_readNumber, gz_mem 495 (by decide +kernel) (by decide +kernel), gz_mem 496 (by decide +kernel) (by decide +kernel), gz_mem 497 (by decide +kernel) (by decide +kernel)⟩
theorem mvX7_102 : gz_mv RX7 102 mX9_nextDigit 0 := ⟨mkX9_nextDigit, gz_mem 509 (by decide +kernel) (by decide +kernel), gz_mem 510 (by decide +kernel) (by decide +kernel), gz_mem 511 (by decide +kernel) (by decide +kernel)⟩
theorem mvX8_44 : gz_mv RX8 44 mX8_trace 2 := ⟨mkX8_trace, gz_mem 1035 (by decide +kernel) (by decide +kernel), gz_mem 1037 (by decide +kernel) (by decide +kernel), gz_mem 27 (by decide +kernel) (by decide +kernel)⟩
theorem mvX8_48 : gz_mv RX8 48 mX8_agrees 2 := ⟨mkX8_agrees, gz_mem 1041 (by decide +kernel) (by decide +kernel), gz_mem 1043 (by decide +kernel) (by decide +kernel), gz_mem 28 (by decide +kernel) (by decide +kernel)⟩
theorem mvX8_52 : gz_mv RX8 52 mX6_copy 1 := ⟨mkX6_copy, gz_mem 1039 (by decide +kernel) (by decide +kernel), gz_mem 613 (by decide +kernel) (by decide +kernel), gz_mem 614 (by decide +kernel) (by decide +kernel)⟩
theorem mvX8_59 : gz_mv RX8 59 mX10_passHour 1 := ⟨mkX10_passHour, gz_mem 1040 (by decide +kernel) (by decide +kernel), gz_mem 726 (by decide +kernel) (by decide +kernel), gz_mem 727 (by decide +kernel) (by decide +kernel)⟩
theorem mvX8_71 : gz_mv RX8 71 mX8_mostAlike 2 := ⟨mkX8_mostAlike, gz_mem 1066 (by decide +kernel) (by decide +kernel), gz_mem 1068 (by decide +kernel) (by decide +kernel), gz_mem 29 (by decide +kernel) (by decide +kernel)⟩
theorem mvX9_25 : gz_mv RX9 25 mX9_next 0 := ⟨mkX9_next, gz_mem 499 (by decide +kernel) (by decide +kernel), gz_mem 477 (by decide +kernel) (by decide +kernel), gz_mem 478 (by decide +kernel) (by decide +kernel)⟩
theorem mvX9_29 : gz_mv RX9 29 mX9_refuse 1 := ⟨mkX9_refuse, gz_mem 504 (by decide +kernel) (by decide +kernel), gz_mem 492 (by decide +kernel) (by decide +kernel), gz_mem 493 (by decide +kernel) (by decide +kernel)⟩
theorem mvX9_33 : gz_mv RX9 33 mX9_digitHere 0 := ⟨mkX9_digitHere, gz_mem 500 (by decide +kernel) (by decide +kernel), gz_mem 501 (by decide +kernel) (by decide +kernel), gz_mem 502 (by decide +kernel) (by decide +kernel)⟩
theorem mvX9_36 : gz_mv RX9 36 mX9_nextDigit 0 := ⟨mkX9_nextDigit, gz_mem 597 (by decide +kernel) (by decide +kernel), gz_mem 510 (by decide +kernel) (by decide +kernel), gz_mem 511 (by decide +kernel) (by decide +kernel)⟩
theorem msJ0_495 : gz_ms RJ0 495 mJ1_charAt_3b067 2 := ⟨mkJ1_charAt_3b067, gz_mem 1505 (by decide +kernel) (by decide +kernel), gz_mem 1506 (by decide +kernel) (by decide +kernel)⟩
theorem msJ0_1059 : gz_ms RJ0 1059 mJ3_checkIndex_8e157 3 := ⟨mkJ3_checkIndex_8e157, gz_mem 1513 (by decide +kernel) (by decide +kernel), gz_mem 1514 (by decide +kernel) (by decide +kernel)⟩
theorem msJ1_9 : gz_ms RJ1 9 mJ0_checkIndex_df160 2 := ⟨mkJ0_checkIndex_df160, gz_mem 1508 (by decide +kernel) (by decide +kernel), gz_mem 1509 (by decide +kernel) (by decide +kernel)⟩
theorem msX10_46 : gz_ms RX10 46 mJ9_min_7cf53 2 := ⟨mkJ9_min_7cf53, gz_mem 781 (by decide +kernel) (by decide +kernel), gz_mem 648 (by decide +kernel) (by decide +kernel)⟩
theorem msX10_75 : gz_ms RX10 75 mJ9_floorMod_7cf53 2 := ⟨mkJ9_floorMod_7cf53, gz_mem 766 (by decide +kernel) (by decide +kernel), gz_mem 767 (by decide +kernel) (by decide +kernel)⟩
theorem msX11_101 : gz_ms RX11 101 mX9_filled 1 := ⟨mkX9_filled, gz_mem 440 (by decide +kernel) (by decide +kernel), gz_mem 441 (by decide +kernel) (by decide +kernel)⟩
theorem msX11_256 : gz_ms RX11 256 mX5_logLength 1 := ⟨mkX5_logLength, gz_mem 877 (by decide +kernel) (by decide +kernel), gz_mem 878 (by decide +kernel) (by decide +kernel)⟩
theorem msX11_323 : gz_ms RX11 323 mJ6_bitCount_0f7a4 1 := ⟨mkJ6_bitCount_0f7a4, gz_mem 1045 (by decide +kernel) (by decide +kernel), gz_mem 1046 (by decide +kernel) (by decide +kernel)⟩
theorem msX11_337 : gz_ms RX11 337 mX6_isLook 1 := ⟨mkX6_isLook, gz_mem 1083 (by decide +kernel) (by decide +kernel), gz_mem 835 (by decide +kernel) (by decide +kernel)⟩
theorem msX12_119 : gz_ms RX12 119 mX12_bytesIn 1 := ⟨mkX12_bytesIn, gz_mem 1437 (by decide +kernel) (by decide +kernel), gz_mem 1438 (by decide +kernel) (by decide +kernel)⟩
theorem msX12_153 : gz_ms RX12 153 mJ9_min_f86c9 2 := ⟨mkJ9_min_f86c9, gz_mem 1613 (by decide +kernel) (by decide +kernel), gz_mem 1614 (by decide +kernel) (by decide +kernel)⟩
theorem msX12_159 : gz_ms RX12 159 mJ9_max_f86c9 2 := ⟨mkJ9_max_f86c9, gz_mem 1616 (by decide +kernel) (by decide +kernel), gz_mem 1617 (by decide +kernel) (by decide +kernel)⟩
theorem msX12_162 : gz_ms RX12 162 mX12_isAmong 2 := ⟨mkX12_isAmong, gz_mem 1573 (by decide +kernel) (by decide +kernel), gz_mem 1574 (by decide +kernel) (by decide +kernel)⟩
theorem msX12_182 : gz_ms RX12 182 mX12_within 1 := ⟨mkX12_within, gz_mem 1608 (by decide +kernel) (by decide +kernel), gz_mem 1609 (by decide +kernel) (by decide +kernel)⟩
theorem msX12_189 : gz_ms RX12 189 mX12_isSign 1 := ⟨mkX12_isSign, gz_mem 1619 (by decide +kernel) (by decide +kernel), gz_mem 1620 (by decide +kernel) (by decide +kernel)⟩
theorem msX12_225 : gz_ms RX12 225 mX12_isIn 3 := ⟨mkX12_isIn, gz_mem 1453 (by decide +kernel) (by decide +kernel), gz_mem 1454 (by decide +kernel) (by decide +kernel)⟩
theorem msX12_229 : gz_ms RX12 229 mX12_usual 2 := ⟨mkX12_usual, gz_mem 1464 (by decide +kernel) (by decide +kernel), gz_mem 1465 (by decide +kernel) (by decide +kernel)⟩
theorem msX12_233 : gz_ms RX12 233 mX12_spotOf 2 := ⟨mkX12_spotOf, gz_mem 1494 (by decide +kernel) (by decide +kernel), gz_mem 1495 (by decide +kernel) (by decide +kernel)⟩
theorem msX12_237 : gz_ms RX12 237 mX12_has 2 := ⟨mkX12_has, gz_mem 1535 (by decide +kernel) (by decide +kernel), gz_mem 1536 (by decide +kernel) (by decide +kernel)⟩
theorem msX12_241 : gz_ms RX12 241 mX12_leastOf 2 := ⟨mkX12_leastOf, gz_mem 1538 (by decide +kernel) (by decide +kernel), gz_mem 1539 (by decide +kernel) (by decide +kernel)⟩
theorem msX12_244 : gz_ms RX12 244 mX12_mostOf 2 := ⟨mkX12_mostOf, gz_mem 1541 (by decide +kernel) (by decide +kernel), gz_mem 1542 (by decide +kernel) (by decide +kernel)⟩
theorem msX12_346 : gz_ms RX12 346 mX12_does 2 := ⟨mkX12_does, gz_mem 1706 (by decide +kernel) (by decide +kernel), gz_mem 1707 (by decide +kernel) (by decide +kernel)⟩
theorem msX12_365 : gz_ms RX12 365 mJ9_min_7cf53 2 := ⟨mkJ9_min_7cf53, gz_mem 1733 (by decide +kernel) (by decide +kernel), gz_mem 648 (by decide +kernel) (by decide +kernel)⟩
theorem msX12_371 : gz_ms RX12 371 mJ9_max_7cf53 2 := ⟨mkJ9_max_7cf53, gz_mem 1850 (by decide +kernel) (by decide +kernel), gz_mem 1072 (by decide +kernel) (by decide +kernel)⟩
theorem msX12_395 : gz_ms RX12 395 mJ6_bitCount_0f7a4 1 := ⟨mkJ6_bitCount_0f7a4, gz_mem 1763 (by decide +kernel) (by decide +kernel), gz_mem 1046 (by decide +kernel) (by decide +kernel)⟩
theorem msX12_434 : gz_ms RX12 434 mX12_copy 2 := ⟨mkX12_copy, gz_mem 1814 (by decide +kernel) (by decide +kernel), gz_mem 1815 (by decide +kernel) (by decide +kernel)⟩
theorem msX2_87 : gz_ms RX2 87 mJ6_bitCount_0f7a4 1 := ⟨mkJ6_bitCount_0f7a4, gz_mem 1088 (by decide +kernel) (by decide +kernel), gz_mem 1046 (by decide +kernel) (by decide +kernel)⟩
theorem msX2_105 : gz_ms RX2 105 mX2_nthBit 2 := ⟨mkX2_nthBit, gz_mem 1106 (by decide +kernel) (by decide +kernel), gz_mem 1056 (by decide +kernel) (by decide +kernel)⟩
theorem msX3_19 : gz_ms RX3 19 mX3_joined 3 := ⟨mkX3_joined, gz_mem 759 (by decide +kernel) (by decide +kernel), gz_mem 760 (by decide +kernel) (by decide +kernel)⟩
theorem msX4_64 : gz_ms RX4 64 mX4_comparing 1 := ⟨mkX4_comparing, gz_mem 556 (by decide +kernel) (by decide +kernel), gz_mem 557 (by decide +kernel) (by decide +kernel)⟩
theorem msX4_84 : gz_ms RX4 84 mX4_joining 1 := ⟨mkX4_joining, gz_mem 553 (by decide +kernel) (by decide +kernel), gz_mem 554 (by decide +kernel) (by decide +kernel)⟩
theorem msX4_93 : gz_ms RX4 93 mX3_letterOf 1 := ⟨mkX3_letterOf, gz_mem 547 (by decide +kernel) (by decide +kernel), gz_mem 548 (by decide +kernel) (by decide +kernel)⟩
theorem msX5_44 : gz_ms RX5 44 mJ9_min_7cf53 2 := ⟨mkJ9_min_7cf53, gz_mem 720 (by decide +kernel) (by decide +kernel), gz_mem 648 (by decide +kernel) (by decide +kernel)⟩
theorem msX5_50 : gz_ms RX5 50 mJ9_floorMod_7cf53 2 := ⟨mkJ9_floorMod_7cf53, gz_mem 786 (by decide +kernel) (by decide +kernel), gz_mem 767 (by decide +kernel) (by decide +kernel)⟩
theorem msX6_56 : gz_ms RX6 56 mX6_isLook 1 := ⟨mkX6_isLook, gz_mem 834 (by decide +kernel) (by decide +kernel), gz_mem 835 (by decide +kernel) (by decide +kernel)⟩
theorem msX6_63 : gz_ms RX6 63 mJ9_max_7cf53 2 := ⟨mkJ9_max_7cf53, gz_mem 1159 (by decide +kernel) (by decide +kernel), gz_mem 1072 (by decide +kernel) (by decide +kernel)⟩
theorem msX7_70 : gz_ms RX7 70 mJ7_fill_53178 2 := ⟨mkJ7_fill_53178, gz_mem 467 (by decide +kernel) (by decide +kernel), gz_mem 468 (by decide +kernel) (by decide +kernel)⟩
theorem msX7_89 : gz_ms RX7 89 mX7_itemOf 2 := ⟨mkX7_itemOf, gz_mem 484 (by decide +kernel) (by decide +kernel), gz_mem 485 (by decide +kernel) (by decide +kernel)⟩
theorem msX8_65 : gz_ms RX8 65 mX2_nthBit 2 := ⟨mkX2_nthBit, gz_mem 1055 (by decide +kernel) (by decide +kernel), gz_mem 1056 (by decide +kernel) (by decide +kernel)⟩
theorem msX8_74 : gz_ms RX8 74 mJ7_fill_53178 2 := ⟨mkJ7_fill_53178, gz_mem 1070 (by decide +kernel) (by decide +kernel), gz_mem 468 (by decide +kernel) (by decide +kernel)⟩
theorem msX8_80 : gz_ms RX8 80 mJ9_max_7cf53 2 := ⟨mkJ9_max_7cf53, gz_mem 1071 (by decide +kernel) (by decide +kernel), gz_mem 1072 (by decide +kernel) (by decide +kernel)⟩
theorem kd0 {La : gz_L} : gz_kd La 0 = (0, 11) := rfl
theorem kd1 {La : gz_L} : gz_kd La 1 = (0, 9) := rfl
theorem kd2 {La : gz_L} : gz_kd La 2 = (0, 7) := rfl
theorem kd3 {La : gz_L} : gz_kd La 3 = (0, 4) := rfl
theorem kd4 {La : gz_L} : gz_kd La 4 = (0, 1) := rfl
theorem kd5 {La : gz_L} : gz_kd La 5 = (0, 6) := rfl
theorem kd6 {La : gz_L} : gz_kd La 6 = (0, 6) := rfl
theorem kd7 {La : gz_L} : gz_kd La 7 = (0, 6) := rfl
theorem kd8 {La : gz_L} : gz_kd La 8 = (0, 10) := rfl
theorem kd9 {La : gz_L} : gz_kd La 9 = (0, 5) := rfl
theorem kd10 {La : gz_L} : gz_kd La 10 = (0, 2) := rfl
theorem kd11 {La : gz_L} : gz_kd La 11 = (0, 8) := rfl
theorem kd12 {La : gz_L} : gz_kd La 12 = (4, 4) := rfl
theorem kd13 {La : gz_L} : gz_kd La 13 = (5, 4) := rfl
theorem kd14 {La : gz_L} : gz_kd La 14 = (1, 240) := rfl
theorem kd15 {La : gz_L} : gz_kd La 15 = (1, 4) := rfl
theorem kd16 {La : gz_L} : gz_kd La 16 = (1, 16) := rfl
theorem kd17 {La : gz_L} : gz_kd La 17 = (1, 30) := rfl
theorem kd18 {La : gz_L} : gz_kd La 18 = (1, 5) := rfl
theorem kd19 {La : gz_L} : gz_kd La 19 = (1, 241) := rfl
theorem kd20 {La : gz_L} : gz_kd La 20 = (1, 48) := rfl
theorem kd21 {La : gz_L} : gz_kd La 21 = (1, 61) := rfl
theorem kd22 {La : gz_L} : gz_kd La 22 = (1, 61) := rfl
theorem kd23 {La : gz_L} : gz_kd La 23 = (1, 61) := rfl
theorem kd24 {La : gz_L} : gz_kd La 24 = (1, 6) := rfl
theorem kd25 {La : gz_L} : gz_kd La 25 = (1, 240) := rfl
theorem kd26 {La : gz_L} : gz_kd La 26 = (1, 2000) := rfl
theorem kd27 {La : gz_L} : gz_kd La 27 = (1, 100) := rfl
theorem kd28 {La : gz_L} : gz_kd La 28 = (1, 50) := rfl
theorem kd29 {La : gz_L} : gz_kd La 29 = (1, 100) := rfl
theorem kd30 {La : gz_L} : gz_kd La 30 = (1, 30) := rfl
theorem kd31 {La : gz_L} : gz_kd La 31 = (1, 16) := rfl
theorem kd32 {La : gz_L} : gz_kd La 32 = (1, 16) := rfl
theorem kd33 {La : gz_L} : gz_kd La 33 = (1, 10) := rfl
theorem kd34 {La : gz_L} : gz_kd La 34 = (1, 10) := rfl
theorem kd35 {La : gz_L} : gz_kd La 35 = (1, 10) := rfl
theorem kd36 {La : gz_L} : gz_kd La 36 = (1, 496) := rfl
theorem kd37 {La : gz_L} : gz_kd La 37 = (1, 30) := rfl
theorem kd39 {La : gz_L} : gz_kd La 39 = (0, 12) := rfl
theorem kd40 {La : gz_L} : gz_kd La 40 = (2, 240) := rfl
theorem kd41 {La : gz_L} : gz_kd La 41 = (2, 960) := rfl
theorem kd42 {La : gz_L} : gz_kd La 42 = (1, 4) := rfl
theorem kd43 {La : gz_L} : gz_kd La 43 = (1, 128) := rfl
theorem kd44 {La : gz_L} : gz_kd La 44 = (1, 4) := rfl
theorem kd45 {La : gz_L} : gz_kd La 45 = (1, 4) := rfl
theorem kd46 {La : gz_L} : gz_kd La 46 = (1, 16) := rfl
theorem kd47 {La : gz_L} : gz_kd La 47 = (1, 16) := rfl
theorem kd48 {La : gz_L} : gz_kd La 48 = (1, 30) := rfl
theorem kd49 {La : gz_L} : gz_kd La 49 = (1, 30) := rfl
theorem kd50 {La : gz_L} : gz_kd La 50 = (1, 5) := rfl
theorem kd51 {La : gz_L} : gz_kd La 51 = (1, 240) := rfl
theorem kd52 {La : gz_L} : gz_kd La 52 = (1, 5) := rfl
theorem kd53 {La : gz_L} : gz_kd La 53 = (1, 231) := rfl
theorem kd54 {La : gz_L} : gz_kd La 54 = (1, 231) := rfl
theorem kd55 {La : gz_L} : gz_kd La 55 = (1, 8191) := rfl
theorem kd56 {La : gz_L} : gz_kd La 56 = (1, 8191) := rfl
theorem kd57 {La : gz_L} : gz_kd La 57 = (1, 9240) := rfl
theorem kd58 {La : gz_L} : gz_kd La 58 = (1, 30) := rfl
theorem kd59 {La : gz_L} : gz_kd La 59 = (1, 30) := rfl
theorem kd60 {La : gz_L} : gz_kd La 60 = (1, 496) := rfl
theorem kd61 {La : gz_L} : gz_kd La 61 = (1, 30) := rfl
theorem kd62 {La : gz_L} : gz_kd La 62 = (1, 357) := rfl
theorem kd63 {La : gz_L} : gz_kd La 63 = (1, 231) := rfl
theorem rf0_0 {La : gz_L} {g : gz_S} : gz_rf La g 0 0 = some 1 := rfl
theorem rf0_1 {La : gz_L} {g : gz_S} : gz_rf La g 0 1 = some 2 := rfl
theorem rf0_2 {La : gz_L} {g : gz_S} : gz_rf La g 0 2 = some 3 := rfl
theorem rf0_3 {La : gz_L} {g : gz_S} : gz_rf La g 0 3 = some 4 := rfl
theorem rf0_4 {La : gz_L} {g : gz_S} : gz_rf La g 0 4 = some 12 := rfl
theorem rf0_5 {La : gz_L} {g : gz_S} : gz_rf La g 0 5 = some 13 := rfl
theorem rf0_6 {La : gz_L} {g : gz_S} : gz_rf La g 0 6 = some 5 := rfl
theorem rf0_7 {La : gz_L} {g : gz_S} : gz_rf La g 0 7 = some 6 := rfl
theorem rf0_8 {La : gz_L} {g : gz_S} : gz_rf La g 0 8 = some 7 := rfl
theorem rf0_9 {La : gz_L} {g : gz_S} : gz_rf La g 0 9 = some 8 := rfl
theorem rf0_10 {La : gz_L} {g : gz_S} : gz_rf La g 0 10 = some 9 := rfl
theorem rf0_11 {La : gz_L} {g : gz_S} : gz_rf La g 0 11 = some 10 := rfl
theorem rf0_12 {La : gz_L} {g : gz_S} : gz_rf La g 0 12 = some 11 := rfl
theorem rf1_0 {La : gz_L} {g : gz_S} : gz_rf La g 1 0 = some 14 := rfl
theorem rf2_0 {La : gz_L} {g : gz_S} : gz_rf La g 2 0 = some 1 := rfl
theorem rf2_1 {La : gz_L} {g : gz_S} : gz_rf La g 2 1 = some 15 := rfl
theorem rf2_2 {La : gz_L} {g : gz_S} : gz_rf La g 2 2 = some 16 := rfl
theorem rf2_3 {La : gz_L} {g : gz_S} : gz_rf La g 2 3 = some 17 := rfl
theorem rf2_4 {La : gz_L} {g : gz_S} : gz_rf La g 2 4 = some 18 := rfl
theorem rf3_0 {La : gz_L} {g : gz_S} : gz_rf La g 3 0 = some 1 := rfl
theorem rf3_1 {La : gz_L} {g : gz_S} : gz_rf La g 3 1 = some 19 := rfl
theorem rf4_0 {La : gz_L} {g : gz_S} : gz_rf La g 4 0 = some 1 := rfl
theorem rf4_1 {La : gz_L} {g : gz_S} : gz_rf La g 4 1 = some 20 := rfl
theorem rf5_0 {La : gz_L} {g : gz_S} : gz_rf La g 5 0 = some 21 := rfl
theorem rf6_0 {La : gz_L} {g : gz_S} : gz_rf La g 6 0 = some 22 := rfl
theorem rf7_0 {La : gz_L} {g : gz_S} : gz_rf La g 7 0 = some 23 := rfl
theorem rf8_3 {La : gz_L} {g : gz_S} : gz_rf La g 8 3 = some 24 := rfl
theorem rf8_4 {La : gz_L} {g : gz_S} : gz_rf La g 8 4 = some 25 := rfl
theorem rf9_1 {La : gz_L} {g : gz_S} : gz_rf La g 9 1 = some 26 := rfl
theorem rf9_2 {La : gz_L} {g : gz_S} : gz_rf La g 9 2 = some 27 := rfl
theorem rf9_3 {La : gz_L} {g : gz_S} : gz_rf La g 9 3 = some 28 := rfl
theorem rf9_4 {La : gz_L} {g : gz_S} : gz_rf La g 9 4 = some 29 := rfl
theorem rf10_2 {La : gz_L} {g : gz_S} : gz_rf La g 10 2 = some 6 := rfl
theorem rf10_3 {La : gz_L} {g : gz_S} : gz_rf La g 10 3 = some 7 := rfl
theorem rf10_4 {La : gz_L} {g : gz_S} : gz_rf La g 10 4 = some 8 := rfl
theorem rf10_6 {La : gz_L} {g : gz_S} : gz_rf La g 10 6 = some 30 := rfl
theorem rf10_7 {La : gz_L} {g : gz_S} : gz_rf La g 10 7 = some 31 := rfl
theorem rf10_8 {La : gz_L} {g : gz_S} : gz_rf La g 10 8 = some 32 := rfl
theorem rf11_1 {La : gz_L} {g : gz_S} : gz_rf La g 11 1 = some 5 := rfl
theorem rf11_2 {La : gz_L} {g : gz_S} : gz_rf La g 11 2 = some 7 := rfl
theorem rf11_3 {La : gz_L} {g : gz_S} : gz_rf La g 11 3 = some 8 := rfl
theorem rf11_4 {La : gz_L} {g : gz_S} : gz_rf La g 11 4 = some 33 := rfl
theorem rf11_5 {La : gz_L} {g : gz_S} : gz_rf La g 11 5 = some 34 := rfl
theorem rf11_6 {La : gz_L} {g : gz_S} : gz_rf La g 11 6 = some 35 := rfl
theorem rf11_7 {La : gz_L} {g : gz_S} : gz_rf La g 11 7 = some 36 := rfl
theorem rf11_8 {La : gz_L} {g : gz_S} : gz_rf La g 11 8 = some 37 := rfl
theorem rf39_1 {La : gz_L} {g : gz_S} : gz_rf La g 39 1 = some 40 := rfl
theorem rf39_2 {La : gz_L} {g : gz_S} : gz_rf La g 39 2 = some 41 := rfl
theorem rf39_3 {La : gz_L} {g : gz_S} : gz_rf La g 39 3 = some 42 := rfl
theorem rf39_4 {La : gz_L} {g : gz_S} : gz_rf La g 39 4 = some 43 := rfl
theorem rf39_18 {La : gz_L} {g : gz_S} : gz_rf La g 39 18 = some 44 := rfl
theorem rf39_19 {La : gz_L} {g : gz_S} : gz_rf La g 39 19 = some 45 := rfl
theorem rf39_20 {La : gz_L} {g : gz_S} : gz_rf La g 39 20 = some 46 := rfl
theorem rf39_21 {La : gz_L} {g : gz_S} : gz_rf La g 39 21 = some 47 := rfl
theorem rf39_22 {La : gz_L} {g : gz_S} : gz_rf La g 39 22 = some 48 := rfl
theorem rf39_23 {La : gz_L} {g : gz_S} : gz_rf La g 39 23 = some 49 := rfl
theorem rf39_24 {La : gz_L} {g : gz_S} : gz_rf La g 39 24 = some 50 := rfl
theorem rf39_25 {La : gz_L} {g : gz_S} : gz_rf La g 39 25 = some 51 := rfl
theorem rf39_26 {La : gz_L} {g : gz_S} : gz_rf La g 39 26 = some 52 := rfl
theorem rf39_32 {La : gz_L} {g : gz_S} : gz_rf La g 39 32 = some 53 := rfl
theorem rf39_33 {La : gz_L} {g : gz_S} : gz_rf La g 39 33 = some 54 := rfl
theorem rf39_36 {La : gz_L} {g : gz_S} : gz_rf La g 39 36 = some 55 := rfl
theorem rf39_37 {La : gz_L} {g : gz_S} : gz_rf La g 39 37 = some 56 := rfl
theorem rf39_40 {La : gz_L} {g : gz_S} : gz_rf La g 39 40 = some 57 := rfl
theorem rf39_43 {La : gz_L} {g : gz_S} : gz_rf La g 39 43 = some 58 := rfl
theorem rf39_44 {La : gz_L} {g : gz_S} : gz_rf La g 39 44 = some 59 := rfl
theorem rf39_45 {La : gz_L} {g : gz_S} : gz_rf La g 39 45 = some 60 := rfl
theorem rf39_46 {La : gz_L} {g : gz_S} : gz_rf La g 39 46 = some 61 := rfl
theorem rf39_48 {La : gz_L} {g : gz_S} : gz_rf La g 39 48 = some 62 := rfl
theorem rf39_49 {La : gz_L} {g : gz_S} : gz_rf La g 39 49 = some 63 := rfl
theorem cIm8 : Int32.ofInt (-8) = (-8) := by decide
theorem cIm1 : Int32.ofInt (-1) = (-1) := by decide
theorem cI0 : Int32.ofInt (0) = 0 := by decide
theorem cI1 : Int32.ofInt (1) = 1 := by decide
theorem cI2 : Int32.ofInt (2) = 2 := by decide
theorem cI3 : Int32.ofInt (3) = 3 := by decide
theorem cI4 : Int32.ofInt (4) = 4 := by decide
theorem cI5 : Int32.ofInt (5) = 5 := by decide
theorem cBm22 : (Int8.ofInt (-22)).toInt32 = (-22) := by decide
theorem cBm21 : (Int8.ofInt (-21)).toInt32 = (-21) := by decide
theorem cBm20 : (Int8.ofInt (-20)).toInt32 = (-20) := by decide
theorem cBm19 : (Int8.ofInt (-19)).toInt32 = (-19) := by decide
theorem cBm18 : (Int8.ofInt (-18)).toInt32 = (-18) := by decide
theorem cBm17 : (Int8.ofInt (-17)).toInt32 = (-17) := by decide
theorem cBm16 : (Int8.ofInt (-16)).toInt32 = (-16) := by decide
theorem cBm15 : (Int8.ofInt (-15)).toInt32 = (-15) := by decide
theorem cBm14 : (Int8.ofInt (-14)).toInt32 = (-14) := by decide
theorem cBm13 : (Int8.ofInt (-13)).toInt32 = (-13) := by decide
theorem cBm12 : (Int8.ofInt (-12)).toInt32 = (-12) := by decide
theorem cBm11 : (Int8.ofInt (-11)).toInt32 = (-11) := by decide
theorem cBm7 : (Int8.ofInt (-7)).toInt32 = (-7) := by decide
theorem cBm2 : (Int8.ofInt (-2)).toInt32 = (-2) := by decide
theorem cB6 : (Int8.ofInt (6)).toInt32 = 6 := by decide
theorem cB8 : (Int8.ofInt (8)).toInt32 = 8 := by decide
theorem cB9 : (Int8.ofInt (9)).toInt32 = 9 := by decide
theorem cB10 : (Int8.ofInt (10)).toInt32 = 10 := by decide
theorem cB15 : (Int8.ofInt (15)).toInt32 = 15 := by decide
theorem cB16 : (Int8.ofInt (16)).toInt32 = 16 := by decide
theorem cB17 : (Int8.ofInt (17)).toInt32 = 17 := by decide
theorem cB20 : (Int8.ofInt (20)).toInt32 = 20 := by decide
theorem cB24 : (Int8.ofInt (24)).toInt32 = 24 := by decide
theorem cB30 : (Int8.ofInt (30)).toInt32 = 30 := by decide
theorem cB31 : (Int8.ofInt (31)).toInt32 = 31 := by decide
theorem cB32 : (Int8.ofInt (32)).toInt32 = 32 := by decide
theorem cB33 : (Int8.ofInt (33)).toInt32 = 33 := by decide
theorem cB34 : (Int8.ofInt (34)).toInt32 = 34 := by decide
theorem cB38 : (Int8.ofInt (38)).toInt32 = 38 := by decide
theorem cB40 : (Int8.ofInt (40)).toInt32 = 40 := by decide
theorem cB41 : (Int8.ofInt (41)).toInt32 = 41 := by decide
theorem cB42 : (Int8.ofInt (42)).toInt32 = 42 := by decide
theorem cB43 : (Int8.ofInt (43)).toInt32 = 43 := by decide
theorem cB45 : (Int8.ofInt (45)).toInt32 = 45 := by decide
theorem cB46 : (Int8.ofInt (46)).toInt32 = 46 := by decide
theorem cB47 : (Int8.ofInt (47)).toInt32 = 47 := by decide
theorem cB48 : (Int8.ofInt (48)).toInt32 = 48 := by decide
theorem cB49 : (Int8.ofInt (49)).toInt32 = 49 := by decide
theorem cB50 : (Int8.ofInt (50)).toInt32 = 50 := by decide
theorem cB51 : (Int8.ofInt (51)).toInt32 = 51 := by decide
theorem cB54 : (Int8.ofInt (54)).toInt32 = 54 := by decide
theorem cB57 : (Int8.ofInt (57)).toInt32 = 57 := by decide
theorem cB58 : (Int8.ofInt (58)).toInt32 = 58 := by decide
theorem cB59 : (Int8.ofInt (59)).toInt32 = 59 := by decide
theorem cB60 : (Int8.ofInt (60)).toInt32 = 60 := by decide
theorem cB61 : (Int8.ofInt (61)).toInt32 = 61 := by decide
theorem cB62 : (Int8.ofInt (62)).toInt32 = 62 := by decide
theorem cB63 : (Int8.ofInt (63)).toInt32 = 63 := by decide
theorem cB64 : (Int8.ofInt (64)).toInt32 = 64 := by decide
theorem cB91 : (Int8.ofInt (91)).toInt32 = 91 := by decide
theorem cB93 : (Int8.ofInt (93)).toInt32 = 93 := by decide
theorem cB97 : (Int8.ofInt (97)).toInt32 = 97 := by decide
theorem cB98 : (Int8.ofInt (98)).toInt32 = 98 := by decide
theorem cB99 : (Int8.ofInt (99)).toInt32 = 99 := by decide
theorem cB100 : (Int8.ofInt (100)).toInt32 = 100 := by decide
theorem cB103 : (Int8.ofInt (103)).toInt32 = 103 := by decide
theorem cB110 : (Int8.ofInt (110)).toInt32 = 110 := by decide
theorem cB112 : (Int8.ofInt (112)).toInt32 = 112 := by decide
theorem cB114 : (Int8.ofInt (114)).toInt32 = 114 := by decide
theorem cB115 : (Int8.ofInt (115)).toInt32 = 115 := by decide
theorem cB116 : (Int8.ofInt (116)).toInt32 = 116 := by decide
theorem cB121 : (Int8.ofInt (121)).toInt32 = 121 := by decide
theorem cB124 : (Int8.ofInt (124)).toInt32 = 124 := by decide
theorem cH177 : (Int16.ofInt (177)).toInt32 = 177 := by decide
theorem cH192 : (Int16.ofInt (192)).toInt32 = 192 := by decide
theorem cH231 : (Int16.ofInt (231)).toInt32 = 231 := by decide
theorem cH240 : (Int16.ofInt (240)).toInt32 = 240 := by decide
theorem cH255 : (Int16.ofInt (255)).toInt32 = 255 := by decide
theorem cH999 : (Int16.ofInt (999)).toInt32 = 999 := by decide
theorem cH8191 : (Int16.ofInt (8191)).toInt32 = 8191 := by decide
theorem cH9009 : (Int16.ofInt (9009)).toInt32 = 9009 := by decide
theorem cH9999 : (Int16.ofInt (9999)).toInt32 = 9999 := by decide
theorem vi0_4 : vp_in 0 4 := (by decide : gz_ok 0 4)
theorem vi0_6 : vp_in 0 6 := (by decide : gz_ok 0 6)
theorem vi1_4 : vp_in 1 4 := (by decide : gz_ok 1 4)
theorem vi1_6 : vp_in 1 6 := (by decide : gz_ok 1 6)
theorem vi2_4 : vp_in 2 4 := (by decide : gz_ok 2 4)
theorem vi2_6 : vp_in 2 6 := (by decide : gz_ok 2 6)
theorem vi3_4 : vp_in 3 4 := (by decide : gz_ok 3 4)
theorem vi3_6 : vp_in 3 6 := (by decide : gz_ok 3 6)
theorem vi4_5 : vp_in 4 5 := (by decide : gz_ok 4 5)
theorem vi4_6 : vp_in 4 6 := (by decide : gz_ok 4 6)
theorem vi5_6 : vp_in 5 6 := (by decide : gz_ok 5 6)
theorem vi46_61 : vp_in 46 61 := (by decide : gz_ok 46 61)
theorem vi46_231 : vp_in 46 231 := (by decide : gz_ok 46 231)
theorem vi47_61 : vp_in 47 61 := (by decide : gz_ok 47 61)
theorem vi47_231 : vp_in 47 231 := (by decide : gz_ok 47 231)
theorem vi48_61 : vp_in 48 61 := (by decide : gz_ok 48 61)
theorem vi48_231 : vp_in 48 231 := (by decide : gz_ok 48 231)
theorem vi49_61 : vp_in 49 61 := (by decide : gz_ok 49 61)
theorem vi49_231 : vp_in 49 231 := (by decide : gz_ok 49 231)
theorem vi50_231 : vp_in 50 231 := (by decide : gz_ok 50 231)
theorem vi58_61 : vp_in 58 61 := (by decide : gz_ok 58 61)
theorem vi59_61 : vp_in 59 61 := (by decide : gz_ok 59 61)
theorem vi60_61 : vp_in 60 61 := (by decide : gz_ok 60 61)
theorem vi97_128 : vp_in 97 128 := (by decide : gz_ok 97 128)
theorem vi98_128 : vp_in 98 128 := (by decide : gz_ok 98 128)
theorem vi110_128 : vp_in 110 128 := (by decide : gz_ok 110 128)
theorem vi112_128 : vp_in 112 128 := (by decide : gz_ok 112 128)
theorem vi114_128 : vp_in 114 128 := (by decide : gz_ok 114 128)
theorem vi116_128 : vp_in 116 128 := (by decide : gz_ok 116 128)
theorem tn0 : (0 : Int32).toNatClampNeg = 0 := by decide
theorem tn1 : (1 : Int32).toNatClampNeg = 1 := by decide
theorem tn2 : (2 : Int32).toNatClampNeg = 2 := by decide
theorem tn3 : (3 : Int32).toNatClampNeg = 3 := by decide
theorem tn4 : (4 : Int32).toNatClampNeg = 4 := by decide
theorem tn5 : (5 : Int32).toNatClampNeg = 5 := by decide
theorem tn46 : (46 : Int32).toNatClampNeg = 46 := by decide
theorem tn47 : (47 : Int32).toNatClampNeg = 47 := by decide
theorem tn48 : (48 : Int32).toNatClampNeg = 48 := by decide
theorem tn49 : (49 : Int32).toNatClampNeg = 49 := by decide
theorem tn50 : (50 : Int32).toNatClampNeg = 50 := by decide
theorem tn58 : (58 : Int32).toNatClampNeg = 58 := by decide
theorem tn59 : (59 : Int32).toNatClampNeg = 59 := by decide
theorem tn60 : (60 : Int32).toNatClampNeg = 60 := by decide
theorem tn61 : (61 : Int32).toNatClampNeg = 61 := by decide
theorem tn97 : (97 : Int32).toNatClampNeg = 97 := by decide
theorem tn98 : (98 : Int32).toNatClampNeg = 98 := by decide
theorem tn100 : (100 : Int32).toNatClampNeg = 100 := by decide
theorem tn110 : (110 : Int32).toNatClampNeg = 110 := by decide
theorem tn112 : (112 : Int32).toNatClampNeg = 112 := by decide
theorem tn114 : (114 : Int32).toNatClampNeg = 114 := by decide
theorem tn116 : (116 : Int32).toNatClampNeg = 116 := by decide
theorem cstJ6_265 : Cond.constant RJ6 265 1431655765 ∈ gz_U := gz_mem 1048 (by decide +kernel) (by decide +kernel)
theorem cstJ6_266 : Cond.constant RJ6 266 858993459 ∈ gz_U := gz_mem 1049 (by decide +kernel) (by decide +kernel)
theorem cstJ6_267 : Cond.constant RJ6 267 252645135 ∈ gz_U := gz_mem 1050 (by decide +kernel) (by decide +kernel)
theorem cstX11_270 : Cond.constant RX11 270 (-1000000) ∈ gz_U := gz_mem 892 (by decide +kernel) (by decide +kernel)
theorem cstX12_433 : Cond.constant RX12 433 (-1000000) ∈ gz_U := gz_mem 1809 (by decide +kernel) (by decide +kernel)
theorem cstX12_469 : Cond.constant RX12 469 100000 ∈ gz_U := gz_mem 1888 (by decide +kernel) (by decide +kernel)
theorem cstX12_470 : Cond.constant RX12 470 200000 ∈ gz_U := gz_mem 1889 (by decide +kernel) (by decide +kernel)
theorem cstX12_496 : Cond.constant RX12 496 1000000000 ∈ gz_U := gz_mem 1932 (by decide +kernel) (by decide +kernel)
theorem cstX2_113 : Cond.constant RX2 113 1000000000 ∈ gz_U := gz_mem 1119 (by decide +kernel) (by decide +kernel)
theorem cstX3_25 : Cond.constant RX3 25 1000000 ∈ gz_U := gz_mem 763 (by decide +kernel) (by decide +kernel)
theorem cstX3_28 : Cond.constant RX3 28 (-1000000) ∈ gz_U := gz_mem 765 (by decide +kernel) (by decide +kernel)
theorem cstlX11_245 : Cond.constantLong RX11 245 6364136223846793005 ∈ gz_U := gz_mem 862 (by decide +kernel) (by decide +kernel)
theorem cstlX11_247 : Cond.constantLong RX11 247 1442695040888963407 ∈ gz_U := gz_mem 863 (by decide +kernel) (by decide +kernel)
theorem cstlX12_149 : Cond.constantLong RX12 149 (-1000000) ∈ gz_U := gz_mem 1611 (by decide +kernel) (by decide +kernel)
theorem cstlX12_151 : Cond.constantLong RX12 151 1000000 ∈ gz_U := gz_mem 1612 (by decide +kernel) (by decide +kernel)
theorem cstlX12_284 : Cond.constantLong RX12 284 2 ∈ gz_U := gz_mem 1452 (by decide +kernel) (by decide +kernel)
theorem cstlX12_376 : Cond.constantLong RX12 376 4 ∈ gz_U := gz_mem 1676 (by decide +kernel) (by decide +kernel)
theorem cstlX12_378 : Cond.constantLong RX12 378 9 ∈ gz_U := gz_mem 1689 (by decide +kernel) (by decide +kernel)
theorem cstlX12_386 : Cond.constantLong RX12 386 5 ∈ gz_U := gz_mem 1742 (by decide +kernel) (by decide +kernel)
theorem cstlX12_406 : Cond.constantLong RX12 406 3 ∈ gz_U := gz_mem 1772 (by decide +kernel) (by decide +kernel)
theorem cstlX12_415 : Cond.constantLong RX12 415 50 ∈ gz_U := gz_mem 1781 (by decide +kernel) (by decide +kernel)
theorem cstlX12_421 : Cond.constantLong RX12 421 6364136223846793005 ∈ gz_U := gz_mem 1791 (by decide +kernel) (by decide +kernel)
theorem cstlX12_423 : Cond.constantLong RX12 423 1442695040888963407 ∈ gz_U := gz_mem 1792 (by decide +kernel) (by decide +kernel)
theorem cstlX12_425 : Cond.constantLong RX12 425 30 ∈ gz_U := gz_mem 1786 (by decide +kernel) (by decide +kernel)
theorem cstlX12_444 : Cond.constantLong RX12 444 99 ∈ gz_U := gz_mem 1833 (by decide +kernel) (by decide +kernel)
theorem cstlX12_471 : Cond.constantLong RX12 471 20 ∈ gz_U := gz_mem 1875 (by decide +kernel) (by decide +kernel)
theorem cstlX12_489 : Cond.constantLong RX12 489 100 ∈ gz_U := gz_mem 1931 (by decide +kernel) (by decide +kernel)
theorem cstlX12_494 : Cond.constantLong RX12 494 6 ∈ gz_U := gz_mem 1930 (by decide +kernel) (by decide +kernel)
theorem cstlX12_497 : Cond.constantLong RX12 497 999 ∈ gz_U := gz_mem 1941 (by decide +kernel) (by decide +kernel)
theorem cstlX2_114 : Cond.constantLong RX2 114 100 ∈ gz_U := gz_mem 1120 (by decide +kernel) (by decide +kernel)
theorem cstlX3_23 : Cond.constantLong RX3 23 1000000 ∈ gz_U := gz_mem 762 (by decide +kernel) (by decide +kernel)
theorem cstlX3_26 : Cond.constantLong RX3 26 (-1000000) ∈ gz_U := gz_mem 764 (by decide +kernel) (by decide +kernel)
theorem fi1_2 : gz_fi 1 2 := ⟨rfl, rfl, rfl⟩
theorem fi2_0 : gz_fi 2 0 := ⟨rfl, rfl, rfl⟩
theorem fi2_1 : gz_fi 2 1 := ⟨rfl, rfl, rfl⟩
theorem fi2_5 : gz_fi 2 5 := ⟨rfl, rfl, rfl⟩
theorem fi4_2 : gz_fi 4 2 := ⟨rfl, rfl, rfl⟩
theorem fi5_0 : gz_fi 5 0 := ⟨rfl, rfl, rfl⟩
theorem fi5_5 : gz_fz 5 5 := ⟨rfl, rfl, rfl⟩
theorem fi5_6 : gz_fi 5 6 := ⟨rfl, rfl, rfl⟩
theorem fi7_5 : gz_fz 7 5 := ⟨rfl, rfl, rfl⟩
theorem fi7_6 : gz_fi 7 6 := ⟨rfl, rfl, rfl⟩
theorem fi7_7 : gz_fi 7 7 := ⟨rfl, rfl, rfl⟩
theorem fi8_0 : gz_fi 8 0 := ⟨rfl, rfl, rfl⟩
theorem fi9_1 : gz_fi 9 1 := ⟨rfl, rfl, rfl⟩
theorem fi9_2 : gz_fi 9 2 := ⟨rfl, rfl, rfl⟩
theorem fi9_3 : gz_fi 9 3 := ⟨rfl, rfl, rfl⟩
theorem fi9_4 : gz_fi 9 4 := ⟨rfl, rfl, rfl⟩
theorem fi10_1 : gz_fi 10 1 := ⟨rfl, rfl, rfl⟩
theorem fi10_2 : gz_fi 10 2 := ⟨rfl, rfl, rfl⟩
theorem fi11_15 : gz_fi 11 15 := ⟨rfl, rfl, rfl⟩
theorem fi11_16 : gz_fi 11 16 := ⟨rfl, rfl, rfl⟩
theorem fi11_17 : gz_ft 11 17 = 1 ∧ gz_kY 11 17 = .long ∧ (gz_kT 11 17).2.2.2 = false := ⟨rfl, rfl, rfl⟩
theorem fi12_0 : gz_fi 12 0 := ⟨rfl, rfl, rfl⟩
theorem fi12_6 : gz_fi 12 6 := ⟨rfl, rfl, rfl⟩
theorem fi12_7 : gz_fi 12 7 := ⟨rfl, rfl, rfl⟩
theorem fi12_8 : gz_fi 12 8 := ⟨rfl, rfl, rfl⟩
theorem fi12_9 : gz_fi 12 9 := ⟨rfl, rfl, rfl⟩
theorem fi12_10 : gz_fi 12 10 := ⟨rfl, rfl, rfl⟩
theorem fi12_11 : gz_fi 12 11 := ⟨rfl, rfl, rfl⟩
theorem fi12_12 : gz_fi 12 12 := ⟨rfl, rfl, rfl⟩
theorem fi12_13 : gz_fi 12 13 := ⟨rfl, rfl, rfl⟩
theorem fi12_14 : gz_fi 12 14 := ⟨rfl, rfl, rfl⟩
theorem fi12_17 : gz_fz 12 17 := ⟨rfl, rfl, rfl⟩
theorem fi12_27 : gz_fi 12 27 := ⟨rfl, rfl, rfl⟩
theorem fi12_28 : gz_fi 12 28 := ⟨rfl, rfl, rfl⟩
theorem fi12_29 : gz_fi 12 29 := ⟨rfl, rfl, rfl⟩
theorem fi12_30 : gz_fi 12 30 := ⟨rfl, rfl, rfl⟩
theorem fi12_31 : gz_fz 12 31 := ⟨rfl, rfl, rfl⟩
theorem fi12_34 : gz_fi 12 34 := ⟨rfl, rfl, rfl⟩
theorem fi12_35 : gz_fi 12 35 := ⟨rfl, rfl, rfl⟩
theorem fi12_38 : gz_fi 12 38 := ⟨rfl, rfl, rfl⟩
theorem fi12_39 : gz_fi 12 39 := ⟨rfl, rfl, rfl⟩
theorem fi12_41 : gz_fi 12 41 := ⟨rfl, rfl, rfl⟩
theorem fi12_42 : gz_ft 12 42 = 1 ∧ gz_kY 12 42 = .long ∧ (gz_kT 12 42).2.2.2 = false := ⟨rfl, rfl, rfl⟩
theorem fi12_47 : gz_fi 12 47 := ⟨rfl, rfl, rfl⟩
theorem fi12_50 : gz_fz 12 50 := ⟨rfl, rfl, rfl⟩
theorem gsJ0_9 : Cond.fieldLink RJ0 9 "java/lang/String" "value" "[B" ∈ gz_U := gz_mem 2009 (by decide +kernel) (by decide +kernel)
theorem gsJ0_15 : Cond.fieldLink RJ0 15 "java/lang/String" "coder" "B" ∈ gz_U := gz_mem 2010 (by decide +kernel) (by decide +kernel)
theorem gsJ0_38 : Cond.fieldLink RJ0 38 "java/lang/String" "COMPACT_STRINGS" "Z" ∈ gz_U := gz_mem 1492 (by decide +kernel) (by decide +kernel)
theorem gsJ0_1053 : Cond.fieldLink RJ0 1053 "jdk/internal/util/Preconditions" "SIOOBE_FORMATTER" "Ljava/util/function/BiFunction;" ∈ gz_U := gz_mem 1511 (by decide +kernel) (by decide +kernel)
theorem gsX3_15 : Cond.fieldLink RX3 15 "PrintsGoOn$Law" "LETTER_SIGNS" "[C" ∈ gz_U := gz_mem 550 (by decide +kernel) (by decide +kernel)
theorem gsX7_76 : Cond.fieldLink RX7 76 "PrintsGoOn$ShoreReader" "RULE_ITEMS" "[I" ∈ gz_U := gz_mem 470 (by decide +kernel) (by decide +kernel)
theorem gsX7_86 : Cond.fieldLink RX7 86 "PrintsGoOn$ShoreReader" "GOER_ITEMS" "[I" ∈ gz_U := gz_mem 513 (by decide +kernel) (by decide +kernel)
theorem acX5_38 : Cond.methodLink RX5 38 arraycopyName ∈ gz_U ∧ Cond.native arraycopyName ∈ gz_U ∧ Cond.static arraycopyName ∈ gz_U ∧ Cond.initialized "java/lang/System" ∈ gz_U := ⟨gz_mem 719 (by decide +kernel) (by decide +kernel), gz_mem 618 (by decide +kernel) (by decide +kernel), gz_mem 617 (by decide +kernel) (by decide +kernel), gz_mem 126 (by decide +kernel) (by decide +kernel)⟩
theorem acX6_15 : Cond.methodLink RX6 15 arraycopyName ∈ gz_U ∧ Cond.native arraycopyName ∈ gz_U ∧ Cond.static arraycopyName ∈ gz_U ∧ Cond.initialized "java/lang/System" ∈ gz_U := ⟨gz_mem 616 (by decide +kernel) (by decide +kernel), gz_mem 618 (by decide +kernel) (by decide +kernel), gz_mem 617 (by decide +kernel) (by decide +kernel), gz_mem 126 (by decide +kernel) (by decide +kernel)⟩
