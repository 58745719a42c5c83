/-! the law's cases -/
theorem lw_c0 {X : gx_T} {cs : Nat → ClassId} {a : Nat → Nat} {b L i kc nc B : Nat} {xs : Nat → Int32} {La : gz_L} {g : gz_S} (HH : lw_H X cs a b L xs) (hk : kc ≤ 500000 ∧ nc ≤ 6000000) (hi : i + 6 ≤ L) (hc : CallOk La (fX11_feed La (xs (i + 1)) (xs (i + 2)) (xs (i + 3)) (xs (i + 4)) (xs (i + 5))) (fX12_feed La (xs (i + 1)) (xs (i + 2)) (xs (i + 3)) (xs (i + 4)) (xs (i + 5))) g B) (nx : ∀ g2, WR La g2 B → gx X mL_law kc nc (gz_w cs La a g2) 1557 (lw_ls a b i) []) : gx X mL_law kc nc (gz_w cs La a g) 208 (lw_ls a b i) [] := by
  obtain ⟨C, RO, RE, SC, Rk, hl9, hL⟩ := HH
  obtain ⟨v, g1, g2, h1, h2, hW⟩ := hc
  refine gy_aload_n C dL_law_208 rfl ?_
  refine gy_arg (k := 1) C SC rfl rfl (by omega) hL (by decide) dL_law_209 dL_law_210 dL_law_212 dL_law_213 dL_law_214 ?_
  refine gy_arg (k := 2) C SC rfl rfl (by omega) hL (by decide) dL_law_215 dL_law_216 dL_law_218 dL_law_219 dL_law_220 ?_
  refine gy_arg (k := 3) C SC rfl rfl (by omega) hL (by decide) dL_law_221 dL_law_222 dL_law_224 dL_law_225 dL_law_226 ?_
  refine gy_arg (k := 4) C SC rfl rfl (by omega) hL (by decide) dL_law_227 dL_law_228 dL_law_230 dL_law_231 dL_law_232 ?_
  refine gy_arg (k := 5) C SC rfl rfl (by omega) hL (by decide) dL_law_233 dL_law_234 dL_law_236 dL_law_237 dL_law_238 ?_
  refine gy_callKV (j := 0) (ci := 11) (h2 := 2) (st := []) [.int (xs (i + 1)), .int (xs (i + 2)), .int (xs (i + 3)), .int (xs (i + 4)), .int (xs (i + 5))] C RO dL_law_239 mvL_19 (Nat.le_of_ble_eq_true rfl) (by decide) kd0 rfl (Nat.le_of_ble_eq_true rfl) (Rk.mo (by omega) (by omega)) (kX11_feed h1) rfl (fun u g3 hu => ?_)
  obtain ⟨rfl, rfl⟩ := hu
  refine gy_st (st2 := [.int v]) rfl ?_
  refine gy_aload_n C dL_law_242 rfl ?_
  refine gy_arg (k := 1) C SC rfl rfl (by omega) hL (by decide) dL_law_243 dL_law_244 dL_law_246 dL_law_247 dL_law_248 ?_
  refine gy_arg (k := 2) C SC rfl rfl (by omega) hL (by decide) dL_law_249 dL_law_250 dL_law_252 dL_law_253 dL_law_254 ?_
  refine gy_arg (k := 3) C SC rfl rfl (by omega) hL (by decide) dL_law_255 dL_law_256 dL_law_258 dL_law_259 dL_law_260 ?_
  refine gy_arg (k := 4) C SC rfl rfl (by omega) hL (by decide) dL_law_261 dL_law_262 dL_law_264 dL_law_265 dL_law_266 ?_
  refine gy_arg (k := 5) C SC rfl rfl (by omega) hL (by decide) dL_law_267 dL_law_268 dL_law_270 dL_law_271 dL_law_272 ?_
  refine gy_callKV (j := 39) (ci := 12) (h2 := 2) (st := [.int v]) [.int (xs (i + 1)), .int (xs (i + 2)), .int (xs (i + 3)), .int (xs (i + 4)), .int (xs (i + 5))] C RO dL_law_273 mvL_23 (Nat.le_of_ble_eq_true rfl) (by decide) kd39 rfl (Nat.le_of_ble_eq_true rfl) (Rk.mo (by omega) (by omega)) (kX12_feed h2) rfl (fun u g3 hu => ?_)
  obtain ⟨rfl, rfl⟩ := hu
  refine gy_st (st2 := [.int v, .int v]) rfl ?_
  exact gy_icmp_eq 1557 C dL_law_276 (by decide) (fun _ => nx _ hW) (fun c => absurd rfl c)
theorem lw_c1 {X : gx_T} {cs : Nat → ClassId} {a : Nat → Nat} {b L i kc nc B : Nat} {xs : Nat → Int32} {La : gz_L} {g : gz_S} (HH : lw_H X cs a b L xs) (hk : kc ≤ 500000 ∧ nc ≤ 6000000) (hi : i + 6 ≤ L) (hc : CallOk La (fX11_end La (xs (i + 1))) (fX12_end La (xs (i + 1))) g B) (nx : ∀ g2, WR La g2 B → gx X mL_law kc nc (gz_w cs La a g2) 1557 (lw_ls a b i) []) : gx X mL_law kc nc (gz_w cs La a g) 281 (lw_ls a b i) [] := by
  obtain ⟨C, RO, RE, SC, Rk, hl9, hL⟩ := HH
  obtain ⟨v, g1, g2, h1, h2, hW⟩ := hc
  refine gy_aload_n C dL_law_281 rfl ?_
  refine gy_arg (k := 1) C SC rfl rfl (by omega) hL (by decide) dL_law_282 dL_law_283 dL_law_285 dL_law_286 dL_law_287 ?_
  refine gy_callKV (j := 0) (ci := 11) (h2 := 1) (st := []) [.int (xs (i + 1))] C RO dL_law_288 mvL_24 (Nat.le_of_ble_eq_true rfl) (by decide) kd0 rfl (Nat.le_of_ble_eq_true rfl) (Rk.mo (by omega) (by omega)) (kX11_end h1) rfl (fun u g3 hu => ?_)
  obtain ⟨rfl, rfl⟩ := hu
  refine gy_st (st2 := [.int v]) rfl ?_
  refine gy_aload_n C dL_law_291 rfl ?_
  refine gy_arg (k := 1) C SC rfl rfl (by omega) hL (by decide) dL_law_292 dL_law_293 dL_law_295 dL_law_296 dL_law_297 ?_
  refine gy_callKV (j := 39) (ci := 12) (h2 := 1) (st := [.int v]) [.int (xs (i + 1))] C RO dL_law_298 mvL_28 (Nat.le_of_ble_eq_true rfl) (by decide) kd39 rfl (Nat.le_of_ble_eq_true rfl) (Rk.mo (by omega) (by omega)) (kX12_end h2) rfl (fun u g3 hu => ?_)
  obtain ⟨rfl, rfl⟩ := hu
  refine gy_st (st2 := [.int v, .int v]) rfl ?_
  exact gy_icmp_eq 1557 C dL_law_301 (by decide) (fun _ => nx _ hW) (fun c => absurd rfl c)
theorem lw_c2 {X : gx_T} {cs : Nat → ClassId} {a : Nat → Nat} {b L i kc nc B : Nat} {xs : Nat → Int32} {La : gz_L} {g : gz_S} (HH : lw_H X cs a b L xs) (hk : kc ≤ 500000 ∧ nc ≤ 6000000) (hi : i + 6 ≤ L) (hc : CallOk La (fX11_fault La (xs (i + 1))) (fX12_fault La (xs (i + 1))) g B) (nx : ∀ g2, WR La g2 B → gx X mL_law kc nc (gz_w cs La a g2) 1557 (lw_ls a b i) []) : gx X mL_law kc nc (gz_w cs La a g) 306 (lw_ls a b i) [] := by
  obtain ⟨C, RO, RE, SC, Rk, hl9, hL⟩ := HH
  obtain ⟨v, g1, g2, h1, h2, hW⟩ := hc
  refine gy_aload_n C dL_law_306 rfl ?_
  refine gy_arg (k := 1) C SC rfl rfl (by omega) hL (by decide) dL_law_307 dL_law_308 dL_law_310 dL_law_311 dL_law_312 ?_
  refine gy_callKV (j := 0) (ci := 11) (h2 := 128) (st := []) [.int (xs (i + 1))] C RO dL_law_313 mvL_29 (Nat.le_of_ble_eq_true rfl) (by decide) kd0 rfl (Nat.le_of_ble_eq_true rfl) (Rk.mo (by omega) (by omega)) (kX11_fault h1) rfl (fun u g3 hu => ?_)
  obtain ⟨rfl, rfl⟩ := hu
  refine gy_st (st2 := [.int v]) rfl ?_
  refine gy_aload_n C dL_law_316 rfl ?_
  refine gy_arg (k := 1) C SC rfl rfl (by omega) hL (by decide) dL_law_317 dL_law_318 dL_law_320 dL_law_321 dL_law_322 ?_
  refine gy_callKV (j := 39) (ci := 12) (h2 := 141) (st := [.int v]) [.int (xs (i + 1))] C RO dL_law_323 mvL_33 (Nat.le_of_ble_eq_true rfl) (by decide) kd39 rfl (Nat.le_of_ble_eq_true rfl) (Rk.mo (by omega) (by omega)) (kX12_fault h2) rfl (fun u g3 hu => ?_)
  obtain ⟨rfl, rfl⟩ := hu
  refine gy_st (st2 := [.int v, .int v]) rfl ?_
  exact gy_icmp_eq 1557 C dL_law_326 (by decide) (fun _ => nx _ hW) (fun c => absurd rfl c)
/-- text -/
theorem lw_c3 {X : gx_T} {cs : Nat → ClassId} {a : Nat → Nat} {b L i kc nc B : Nat} {xs : Nat → Int32} {La : gz_L} {g : gz_S} (HH : lw_H X cs a b L xs) (hk : kc ≤ 500000 ∧ nc ≤ 6000000) (hi : i + 6 ≤ L) (hL4 : La.1 ≤ 4 ∧ La.2.1 ≤ 4) (hc : TextOk La (xs (i + 1)) g B) (nx : ∀ La2 a2 g2, (∀ j, (j < 100 ∨ 200 ≤ j) → a2 j = a j) → WR La2 g2 B → gx X mL_law (kc + 2) (nc + 300) (gz_w cs La2 a2 g2) 1557 (lw_ls a b i) []) : gx X mL_law kc nc (gz_w cs La a g) 331 (lw_ls a b i) [] := by
  obtain ⟨C, RO, RE, SC, Rk, hl9, hL⟩ := HH
  obtain ⟨v, La2, g1, g2, h1, h2, hW⟩ := hc
  refine gy_aload_n C dL_law_331 rfl ?_
  refine gy_arg (k := 1) C SC rfl rfl (by omega) hL (by decide) dL_law_332 dL_law_333 dL_law_335 dL_law_336 dL_law_337 ?_
  refine gy_callR (j := 0) (ci := 11) (h2 := 130) (mc := 2) (ms := 300) (st := []) [.int (xs (i + 1))] C RO dL_law_338 mvL_34 (by decide) (by decide) kd0 rfl (Nat.le_of_ble_eq_true rfl) (Rk.mo (by omega) (by omega)) (kX11_text h1 hL4) (fun u w3 hu => ?_)
  obtain ⟨rfl, a2, ha, rfl⟩ := hu
  refine gy_st (st2 := [.int v]) rfl ?_
  refine gy_aload_n C dL_law_341 rfl ?_
  refine gy_arg (k := 1) C SC rfl rfl (by omega) hL (by decide) dL_law_342 dL_law_343 dL_law_345 dL_law_346 dL_law_347 ?_
  refine gy_st (st2 := [.int (xs (i + 1)), .ref (a2 39), .int v]) (by rw [ha 39 (Or.inl (by omega))]) ?_
  refine gy_callKV (j := 39) (ci := 12) (h2 := 142) (st := [.int v]) [.int (xs (i + 1))] C (RO.cg ha) dL_law_348 mvL_37 (Nat.le_of_ble_eq_true rfl) (by decide) kd39 rfl (Nat.le_of_ble_eq_true rfl) (Rk.mo (by omega) (by omega)) (kX12_text h2) rfl (fun u g3 hu => ?_)
  obtain ⟨rfl, rfl⟩ := hu
  refine gy_st (st2 := [.int v, .int v]) rfl ?_
  exact gy_icmp_eq 1557 C dL_law_351 (by decide) (fun _ => nx La2 a2 _ ha hW) (fun c => absurd rfl c)
theorem lw_c4 {X : gx_T} {cs : Nat → ClassId} {a : Nat → Nat} {b L i kc nc B : Nat} {xs : Nat → Int32} {La : gz_L} {g : gz_S} (HH : lw_H X cs a b L xs) (hk : kc ≤ 500000 ∧ nc ≤ 6000000) (hi : i + 6 ≤ L) (hc : CallOk La (fX11_shore La (xs (i + 1)) (xs (i + 2))) (fX12_shore La (xs (i + 1)) (xs (i + 2))) g B) (nx : ∀ g2, WR La g2 B → gx X mL_law kc nc (gz_w cs La a g2) 1557 (lw_ls a b i) []) : gx X mL_law kc nc (gz_w cs La a g) 356 (lw_ls a b i) [] := by
  obtain ⟨C, RO, RE, SC, Rk, hl9, hL⟩ := HH
  obtain ⟨v, g1, g2, h1, h2, hW⟩ := hc
  refine gy_aload_n C dL_law_356 rfl ?_
  refine gy_arg (k := 1) C SC rfl rfl (by omega) hL (by decide) dL_law_357 dL_law_358 dL_law_360 dL_law_361 dL_law_362 ?_
  refine gy_arg (k := 2) C SC rfl rfl (by omega) hL (by decide) dL_law_363 dL_law_364 dL_law_366 dL_law_367 dL_law_368 ?_
  refine gy_callKV (j := 0) (ci := 11) (h2 := 3) (st := []) [.int (xs (i + 1)), .int (xs (i + 2))] C RO dL_law_369 mvL_38 (Nat.le_of_ble_eq_true rfl) (by decide) kd0 rfl (Nat.le_of_ble_eq_true rfl) (Rk.mo (by omega) (by omega)) (kX11_shore h1) rfl (fun u g3 hu => ?_)
  obtain ⟨rfl, rfl⟩ := hu
  refine gy_st (st2 := [.int v]) rfl ?_
  refine gy_aload_n C dL_law_372 rfl ?_
  refine gy_arg (k := 1) C SC rfl rfl (by omega) hL (by decide) dL_law_373 dL_law_374 dL_law_376 dL_law_377 dL_law_378 ?_
  refine gy_arg (k := 2) C SC rfl rfl (by omega) hL (by decide) dL_law_379 dL_law_380 dL_law_382 dL_law_383 dL_law_384 ?_
  refine gy_callKV (j := 39) (ci := 12) (h2 := 3) (st := [.int v]) [.int (xs (i + 1)), .int (xs (i + 2))] C RO dL_law_385 mvL_41 (Nat.le_of_ble_eq_true rfl) (by decide) kd39 rfl (Nat.le_of_ble_eq_true rfl) (Rk.mo (by omega) (by omega)) (kX12_shore h2) rfl (fun u g3 hu => ?_)
  obtain ⟨rfl, rfl⟩ := hu
  refine gy_st (st2 := [.int v, .int v]) rfl ?_
  exact gy_icmp_eq 1557 C dL_law_388 (by decide) (fun _ => nx _ hW) (fun c => absurd rfl c)
/-- goer -/
theorem lw_c5 {X : gx_T} {cs : Nat → ClassId} {a : Nat → Nat} {b L i kc nc B : Nat} {xs : Nat → Int32} {La : gz_L} {g : gz_S} (HH : lw_H X cs a b L xs) (hk : kc ≤ 500000 ∧ nc ≤ 6000000) (hi : i + 6 ≤ L) (hc : GoerOk La (xs (i + 1)) (xs (i + 2)) g B) (nx : ∀ g2, WR La g2 B → gx X mL_law (kc + 1) (nc + 6) (gz_w cs La a g2) 1557 (lw_ls a b i) []) : gx X mL_law kc nc (gz_w cs La a g) 393 (lw_ls a b i) [] := by
  obtain ⟨C, RO, RE, SC, Rk, hl9, hL⟩ := HH
  obtain ⟨r, bv, g2, h1, h2, h3, h4, h5, hW⟩ := hc
  refine gy_aload_n C dL_law_393 rfl ?_
  refine gy_arg (k := 1) C SC rfl rfl (by omega) hL (by decide) dL_law_394 dL_law_395 dL_law_397 dL_law_398 dL_law_399 ?_
  refine gy_arg (k := 2) C SC rfl rfl (by omega) hL (by decide) dL_law_400 dL_law_401 dL_law_403 dL_law_404 dL_law_405 ?_
  refine gy_aload_n C dL_law_406 rfl ?_
  refine gy_callG (st := []) [.ref (a 0), .int (xs (i + 1)), .int (xs (i + 2)), .ref (a 38)] C rfl RO RE dL_law_407 rfl (by decide) (Nat.le_of_ble_eq_true rfl) (Rk.mo (by omega) (by omega)) (kL_goer hl9 h1) (fun u w3 hu => ?_)
  obtain ⟨rfl, rfl⟩ := hu
  refine gy_st (st2 := [.int (if r.1 = none then 1 else 0)]) rfl ?_
  refine gy_istore (k := 5) C dL_law_410 (by decide) rfl ?_
  refine gy_ls (l2 := [some (.ref b), some (.ref (a 0)), some (.ref (a 39)), some (.ref (a 38)), some (.int (nI i)), some (.int (if r.1 = none then 1 else 0)), none]) rfl ?_
  refine gy_aload_n C dL_law_412 rfl ?_
  refine gy_arg (k := 1) C SC rfl rfl (by omega) hL (by decide) dL_law_413 dL_law_414 dL_law_416 dL_law_417 dL_law_418 ?_
  refine gy_arg (k := 2) C SC rfl rfl (by omega) hL (by decide) dL_law_419 dL_law_420 dL_law_422 dL_law_423 dL_law_424 ?_
  refine gy_callKV (j := 39) (ci := 12) (h2 := 2) (st := []) [.int (xs (i + 1)), .int (xs (i + 2))] C RO dL_law_425 mvL_47 (Nat.le_of_ble_eq_true rfl) (by decide) kd39 rfl (Nat.le_of_ble_eq_true rfl) (Rk.mo (by omega) (by omega)) (kX12_goer h2) rfl (fun u g3 hu => ?_)
  obtain ⟨rfl, rfl⟩ := hu
  refine gy_st (st2 := [.int bv]) rfl ?_
  refine gy_istore (k := 6) C dL_law_428 (by decide) rfl ?_
  refine gy_ls (l2 := [some (.ref b), some (.ref (a 0)), some (.ref (a 39)), some (.ref (a 38)), some (.int (nI i)), some (.int (if r.1 = none then 1 else 0)), some (.int bv)]) rfl ?_
  refine gy_aload_n C dL_law_430 rfl ?_
  refine gy_callKV (j := 39) (ci := 12) (h2 := 1) (st := []) [] C RO dL_law_431 mvL_48 (Nat.le_of_ble_eq_true rfl) (by decide) kd39 rfl (Nat.le_of_ble_eq_true rfl) (Rk.mo (by omega) (by omega)) (kX12_thrown (r := (g3.1 39 0, g3)) rfl) rfl (fun u g4 hu => ?_)
  obtain ⟨rfl, rfl⟩ := hu
  refine gy_st (st2 := [.int (g4.1 39 0)]) rfl ?_
  refine gy_iload C dL_law_434 rfl ?_
  refine gy_icmp_eq 441 C dL_law_436 (by decide) (fun _ => ?_) (fun c => absurd h3 c)
  have fin : gx X mL_law (kc + 1) (nc + 6) (gz_w cs La a g4) 458 [some (.ref b), some (.ref (a 0)), some (.ref (a 39)), some (.ref (a 38)), some (.int (nI i)), some (.int (if r.1 = none then 1 else 0)), some (.int bv)] [] := by
    refine gy_goto 1557 C dL_law_458 (by decide) ?_
    exact gy_weak (l2 := lw_ls a b i) (gz_subk (gz_subk (gz_subk (gz_subk (gz_subk (gz_subn (gz_subn gz_sub0))))))) (nx g4 hW)
  refine gy_iload C dL_law_441 rfl ?_
  refine gy_if_ne 458 C dL_law_443 (by decide) (fun _ => fin) (fun c => ?_)
  have hs : ∃ v, r.1 = some v := by
    cases hr : r.1 with
    | none => rw [hr] at c; exact absurd c (by decide)
    | some v => exact ⟨v, rfl⟩
  obtain ⟨v, hv⟩ := hs
  have hvb := h4 v hv
  have ho : g4.2.1 38 0 = bv.toInt64 := by
    rw [h5]; unfold gz_go1; rw [hv]
    show (gz_wl r.2 38 0 v.toInt64).2.1 38 0 = _
    rw [← hvb]; unfold gz_wl; simp [vp_updL]
  refine gy_aload_n C dL_law_446 rfl ?_
  refine gy_iconst (v := 0) C dL_law_447 (by decide) ?_
  refine gy_laldW (j := 38) (N := 1) C dL_law_448 rfl (n_okP (a := 0) (n := 1) (by decide) (by decide)) ?_
  refine gy_st (st2 := [.long bv.toInt64]) (by rw [show (0 : Int32).toNatClampNeg = 0 from rfl, ho]) ?_
  refine gy_iload C dL_law_449 rfl ?_
  refine gy_i2l C dL_law_451 ?_
  refine gy_lcmp C dL_law_452 ?_
  refine gy_if_eq 458 C dL_law_453 (by decide) (fun _ => fin) (fun c => absurd (by unfold lg_cmp; rw [if_neg (fun h => absurd h (Int64.lt_irrefl)), if_pos rfl]) c)
theorem lw_c6 {X : gx_T} {cs : Nat → ClassId} {a : Nat → Nat} {b L i kc nc B : Nat} {xs : Nat → Int32} {La : gz_L} {g : gz_S} (HH : lw_H X cs a b L xs) (hk : kc ≤ 500000 ∧ nc ≤ 6000000) (hi : i + 6 ≤ L) (hc : CallOk La (fX11_law La (xs (i + 1))) (fX12_law La (xs (i + 1))) g B) (nx : ∀ g2, WR La g2 B → gx X mL_law kc nc (gz_w cs La a g2) 1557 (lw_ls a b i) []) : gx X mL_law kc nc (gz_w cs La a g) 461 (lw_ls a b i) [] := by
  obtain ⟨C, RO, RE, SC, Rk, hl9, hL⟩ := HH
  obtain ⟨v, g1, g2, h1, h2, hW⟩ := hc
  refine gy_aload_n C dL_law_461 rfl ?_
  refine gy_arg (k := 1) C SC rfl rfl (by omega) hL (by decide) dL_law_462 dL_law_463 dL_law_465 dL_law_466 dL_law_467 ?_
  refine gy_callKV (j := 0) (ci := 11) (h2 := 1) (st := []) [.int (xs (i + 1))] C RO dL_law_468 mvL_52 (Nat.le_of_ble_eq_true rfl) (by decide) kd0 rfl (Nat.le_of_ble_eq_true rfl) (Rk.mo (by omega) (by omega)) (kX11_law h1) rfl (fun u g3 hu => ?_)
  obtain ⟨rfl, rfl⟩ := hu
  refine gy_st (st2 := [.int v]) rfl ?_
  refine gy_aload_n C dL_law_471 rfl ?_
  refine gy_arg (k := 1) C SC rfl rfl (by omega) hL (by decide) dL_law_472 dL_law_473 dL_law_475 dL_law_476 dL_law_477 ?_
  refine gy_callKV (j := 39) (ci := 12) (h2 := 2) (st := [.int v]) [.int (xs (i + 1))] C RO dL_law_478 mvL_55 (Nat.le_of_ble_eq_true rfl) (by decide) kd39 rfl (Nat.le_of_ble_eq_true rfl) (Rk.mo (by omega) (by omega)) (kX12_law h2) rfl (fun u g3 hu => ?_)
  obtain ⟨rfl, rfl⟩ := hu
  refine gy_st (st2 := [.int v, .int v]) rfl ?_
  exact gy_icmp_eq 1557 C dL_law_481 (by decide) (fun _ => nx _ hW) (fun c => absurd rfl c)
theorem lw_c7 {X : gx_T} {cs : Nat → ClassId} {a : Nat → Nat} {b L i kc nc B : Nat} {xs : Nat → Int32} {La : gz_L} {g : gz_S} (HH : lw_H X cs a b L xs) (hk : kc ≤ 500000 ∧ nc ≤ 6000000) (hi : i + 6 ≤ L) (hc : CallOk La (fX11_children La (xs (i + 1))) (fX12_children La (xs (i + 1))) g B) (nx : ∀ g2, WR La g2 B → gx X mL_law kc nc (gz_w cs La a g2) 1557 (lw_ls a b i) []) : gx X mL_law kc nc (gz_w cs La a g) 486 (lw_ls a b i) [] := by
  obtain ⟨C, RO, RE, SC, Rk, hl9, hL⟩ := HH
  obtain ⟨v, g1, g2, h1, h2, hW⟩ := hc
  refine gy_aload_n C dL_law_486 rfl ?_
  refine gy_arg (k := 1) C SC rfl rfl (by omega) hL (by decide) dL_law_487 dL_law_488 dL_law_490 dL_law_491 dL_law_492 ?_
  refine gy_callKV (j := 0) (ci := 11) (h2 := 1) (st := []) [.int (xs (i + 1))] C RO dL_law_493 mvL_56 (Nat.le_of_ble_eq_true rfl) (by decide) kd0 rfl (Nat.le_of_ble_eq_true rfl) (Rk.mo (by omega) (by omega)) (kX11_children h1) rfl (fun u g3 hu => ?_)
  obtain ⟨rfl, rfl⟩ := hu
  refine gy_st (st2 := [.int v]) rfl ?_
  refine gy_aload_n C dL_law_496 rfl ?_
  refine gy_arg (k := 1) C SC rfl rfl (by omega) hL (by decide) dL_law_497 dL_law_498 dL_law_500 dL_law_501 dL_law_502 ?_
  refine gy_callKV (j := 39) (ci := 12) (h2 := 2) (st := [.int v]) [.int (xs (i + 1))] C RO dL_law_503 mvL_59 (Nat.le_of_ble_eq_true rfl) (by decide) kd39 rfl (Nat.le_of_ble_eq_true rfl) (Rk.mo (by omega) (by omega)) (kX12_children h2) rfl (fun u g3 hu => ?_)
  obtain ⟨rfl, rfl⟩ := hu
  refine gy_st (st2 := [.int v, .int v]) rfl ?_
  exact gy_icmp_eq 1557 C dL_law_506 (by decide) (fun _ => nx _ hW) (fun c => absurd rfl c)
theorem lw_c8 {X : gx_T} {cs : Nat → ClassId} {a : Nat → Nat} {b L i kc nc B : Nat} {xs : Nat → Int32} {La : gz_L} {g : gz_S} (HH : lw_H X cs a b L xs) (hk : kc ≤ 500000 ∧ nc ≤ 6000000) (hi : i + 6 ≤ L) (hc : CallOk La (fX11_hour La ) (fX12_hour La ) g B) (nx : ∀ g2, WR La g2 B → gx X mL_law kc nc (gz_w cs La a g2) 1557 (lw_ls a b i) []) : gx X mL_law kc nc (gz_w cs La a g) 511 (lw_ls a b i) [] := by
  obtain ⟨C, RO, RE, SC, Rk, hl9, hL⟩ := HH
  obtain ⟨v, g1, g2, h1, h2, hW⟩ := hc
  refine gy_aload_n C dL_law_511 rfl ?_
  refine gy_callKV (j := 0) (ci := 11) (h2 := 7) (st := []) [] C RO dL_law_512 mvL_60 (Nat.le_of_ble_eq_true rfl) (by decide) kd0 rfl (Nat.le_of_ble_eq_true rfl) (Rk.mo (by omega) (by omega)) (kX11_hour h1) rfl (fun u g3 hu => ?_)
  obtain ⟨rfl, rfl⟩ := hu
  refine gy_st (st2 := [.int v]) rfl ?_
  refine gy_aload_n C dL_law_515 rfl ?_
  refine gy_callKV (j := 39) (ci := 12) (h2 := 147) (st := [.int v]) [] C RO dL_law_516 mvL_63 (Nat.le_of_ble_eq_true rfl) (by decide) kd39 rfl (Nat.le_of_ble_eq_true rfl) (Rk.mo (by omega) (by omega)) (kX12_hour h2) rfl (fun u g3 hu => ?_)
  obtain ⟨rfl, rfl⟩ := hu
  refine gy_st (st2 := [.int v, .int v]) rfl ?_
  exact gy_icmp_eq 1557 C dL_law_519 (by decide) (fun _ => nx _ hW) (fun c => absurd rfl c)
theorem lw_c9 {X : gx_T} {cs : Nat → ClassId} {a : Nat → Nat} {b L i kc nc B : Nat} {xs : Nat → Int32} {La : gz_L} {g : gz_S} (HH : lw_H X cs a b L xs) (hk : kc ≤ 500000 ∧ nc ≤ 6000000) (hi : i + 6 ≤ L) (hc : CallOk La (fX11_tide La (xs (i + 1))) (fX12_tide La (xs (i + 1))) g B) (nx : ∀ g2, WR La g2 B → gx X mL_law kc nc (gz_w cs La a g2) 1557 (lw_ls a b i) []) : gx X mL_law kc nc (gz_w cs La a g) 524 (lw_ls a b i) [] := by
  obtain ⟨C, RO, RE, SC, Rk, hl9, hL⟩ := HH
  obtain ⟨v, g1, g2, h1, h2, hW⟩ := hc
  refine gy_aload_n C dL_law_524 rfl ?_
  refine gy_arg (k := 1) C SC rfl rfl (by omega) hL (by decide) dL_law_525 dL_law_526 dL_law_528 dL_law_529 dL_law_530 ?_
  refine gy_callKV (j := 0) (ci := 11) (h2 := 3) (st := []) [.int (xs (i + 1))] C RO dL_law_531 mvL_64 (Nat.le_of_ble_eq_true rfl) (by decide) kd0 rfl (Nat.le_of_ble_eq_true rfl) (Rk.mo (by omega) (by omega)) (kX11_tide h1) rfl (fun u g3 hu => ?_)
  obtain ⟨rfl, rfl⟩ := hu
  refine gy_st (st2 := [.int v]) rfl ?_
  refine gy_aload_n C dL_law_534 rfl ?_
  refine gy_arg (k := 1) C SC rfl rfl (by omega) hL (by decide) dL_law_535 dL_law_536 dL_law_538 dL_law_539 dL_law_540 ?_
  refine gy_callKV (j := 39) (ci := 12) (h2 := 3) (st := [.int v]) [.int (xs (i + 1))] C RO dL_law_541 mvL_67 (Nat.le_of_ble_eq_true rfl) (by decide) kd39 rfl (Nat.le_of_ble_eq_true rfl) (Rk.mo (by omega) (by omega)) (kX12_tide h2) rfl (fun u g3 hu => ?_)
  obtain ⟨rfl, rfl⟩ := hu
  refine gy_st (st2 := [.int v, .int v]) rfl ?_
  exact gy_icmp_eq 1557 C dL_law_544 (by decide) (fun _ => nx _ hW) (fun c => absurd rfl c)
theorem lw_c10 {X : gx_T} {cs : Nat → ClassId} {a : Nat → Nat} {b L i kc nc B : Nat} {xs : Nat → Int32} {La : gz_L} {g : gz_S} (HH : lw_H X cs a b L xs) (hk : kc ≤ 500000 ∧ nc ≤ 6000000) (hi : i + 6 ≤ L) (hc : CallOk La (fX11_stone La (xs (i + 1))) (fX12_stone La (xs (i + 1))) g B) (nx : ∀ g2, WR La g2 B → gx X mL_law kc nc (gz_w cs La a g2) 1557 (lw_ls a b i) []) : gx X mL_law kc nc (gz_w cs La a g) 549 (lw_ls a b i) [] := by
  obtain ⟨C, RO, RE, SC, Rk, hl9, hL⟩ := HH
  obtain ⟨v, g1, g2, h1, h2, hW⟩ := hc
  refine gy_aload_n C dL_law_549 rfl ?_
  refine gy_arg (k := 1) C SC rfl rfl (by omega) hL (by decide) dL_law_550 dL_law_551 dL_law_553 dL_law_554 dL_law_555 ?_
  refine gy_callKV (j := 0) (ci := 11) (h2 := 4) (st := []) [.int (xs (i + 1))] C RO dL_law_556 mvL_68 (Nat.le_of_ble_eq_true rfl) (by decide) kd0 rfl (Nat.le_of_ble_eq_true rfl) (Rk.mo (by omega) (by omega)) (kX11_stone h1) rfl (fun u g3 hu => ?_)
  obtain ⟨rfl, rfl⟩ := hu
  refine gy_st (st2 := [.int v]) rfl ?_
  refine gy_aload_n C dL_law_559 rfl ?_
  refine gy_arg (k := 1) C SC rfl rfl (by omega) hL (by decide) dL_law_560 dL_law_561 dL_law_563 dL_law_564 dL_law_565 ?_
  refine gy_callKV (j := 39) (ci := 12) (h2 := 3) (st := [.int v]) [.int (xs (i + 1))] C RO dL_law_566 mvL_71 (Nat.le_of_ble_eq_true rfl) (by decide) kd39 rfl (Nat.le_of_ble_eq_true rfl) (Rk.mo (by omega) (by omega)) (kX12_stone h2) rfl (fun u g3 hu => ?_)
  obtain ⟨rfl, rfl⟩ := hu
  refine gy_st (st2 := [.int v, .int v]) rfl ?_
  exact gy_icmp_eq 1557 C dL_law_569 (by decide) (fun _ => nx _ hW) (fun c => absurd rfl c)
theorem lw_c11 {X : gx_T} {cs : Nat → ClassId} {a : Nat → Nat} {b L i kc nc B : Nat} {xs : Nat → Int32} {La : gz_L} {g : gz_S} (HH : lw_H X cs a b L xs) (hk : kc ≤ 500000 ∧ nc ≤ 6000000) (hi : i + 6 ≤ L) (hc : CallOk La (fX11_sweep La (xs (i + 1))) (fX12_sweep La (xs (i + 1))) g B) (nx : ∀ g2, WR La g2 B → gx X mL_law kc nc (gz_w cs La a g2) 1557 (lw_ls a b i) []) : gx X mL_law kc nc (gz_w cs La a g) 574 (lw_ls a b i) [] := by
  obtain ⟨C, RO, RE, SC, Rk, hl9, hL⟩ := HH
  obtain ⟨v, g1, g2, h1, h2, hW⟩ := hc
  refine gy_aload_n C dL_law_574 rfl ?_
  refine gy_arg (k := 1) C SC rfl rfl (by omega) hL (by decide) dL_law_575 dL_law_576 dL_law_578 dL_law_579 dL_law_580 ?_
  refine gy_callKV (j := 0) (ci := 11) (h2 := 4) (st := []) [.int (xs (i + 1))] C RO dL_law_581 mvL_72 (Nat.le_of_ble_eq_true rfl) (by decide) kd0 rfl (Nat.le_of_ble_eq_true rfl) (Rk.mo (by omega) (by omega)) (kX11_sweep h1) rfl (fun u g3 hu => ?_)
  obtain ⟨rfl, rfl⟩ := hu
  refine gy_st (st2 := [.int v]) rfl ?_
  refine gy_aload_n C dL_law_584 rfl ?_
  refine gy_arg (k := 1) C SC rfl rfl (by omega) hL (by decide) dL_law_585 dL_law_586 dL_law_588 dL_law_589 dL_law_590 ?_
  refine gy_callKV (j := 39) (ci := 12) (h2 := 4) (st := [.int v]) [.int (xs (i + 1))] C RO dL_law_591 mvL_75 (Nat.le_of_ble_eq_true rfl) (by decide) kd39 rfl (Nat.le_of_ble_eq_true rfl) (Rk.mo (by omega) (by omega)) (kX12_sweep h2) rfl (fun u g3 hu => ?_)
  obtain ⟨rfl, rfl⟩ := hu
  refine gy_st (st2 := [.int v, .int v]) rfl ?_
  exact gy_icmp_eq 1557 C dL_law_594 (by decide) (fun _ => nx _ hW) (fun c => absurd rfl c)
theorem lw_c12 {X : gx_T} {cs : Nat → ClassId} {a : Nat → Nat} {b L i kc nc B : Nat} {xs : Nat → Int32} {La : gz_L} {g : gz_S} (HH : lw_H X cs a b L xs) (hk : kc ≤ 500000 ∧ nc ≤ 6000000) (hi : i + 6 ≤ L) (hc : CallOk La (fX11_anew La (xs (i + 1)) (xs (i + 2))) (fX12_anew La (xs (i + 1)) (xs (i + 2))) g B) (nx : ∀ g2, WR La g2 B → gx X mL_law kc nc (gz_w cs La a g2) 1557 (lw_ls a b i) []) : gx X mL_law kc nc (gz_w cs La a g) 599 (lw_ls a b i) [] := by
  obtain ⟨C, RO, RE, SC, Rk, hl9, hL⟩ := HH
  obtain ⟨v, g1, g2, h1, h2, hW⟩ := hc
  refine gy_aload_n C dL_law_599 rfl ?_
  refine gy_arg (k := 1) C SC rfl rfl (by omega) hL (by decide) dL_law_600 dL_law_601 dL_law_603 dL_law_604 dL_law_605 ?_
  refine gy_arg (k := 2) C SC rfl rfl (by omega) hL (by decide) dL_law_606 dL_law_607 dL_law_609 dL_law_610 dL_law_611 ?_
  refine gy_callKV (j := 0) (ci := 11) (h2 := 3) (st := []) [.int (xs (i + 1)), .int (xs (i + 2))] C RO dL_law_612 mvL_76 (Nat.le_of_ble_eq_true rfl) (by decide) kd0 rfl (Nat.le_of_ble_eq_true rfl) (Rk.mo (by omega) (by omega)) (kX11_anew h1) rfl (fun u g3 hu => ?_)
  obtain ⟨rfl, rfl⟩ := hu
  refine gy_st (st2 := [.int v]) rfl ?_
  refine gy_aload_n C dL_law_615 rfl ?_
  refine gy_arg (k := 1) C SC rfl rfl (by omega) hL (by decide) dL_law_616 dL_law_617 dL_law_619 dL_law_620 dL_law_621 ?_
  refine gy_arg (k := 2) C SC rfl rfl (by omega) hL (by decide) dL_law_622 dL_law_623 dL_law_625 dL_law_626 dL_law_627 ?_
  refine gy_callKV (j := 39) (ci := 12) (h2 := 3) (st := [.int v]) [.int (xs (i + 1)), .int (xs (i + 2))] C RO dL_law_628 mvL_79 (Nat.le_of_ble_eq_true rfl) (by decide) kd39 rfl (Nat.le_of_ble_eq_true rfl) (Rk.mo (by omega) (by omega)) (kX12_anew h2) rfl (fun u g3 hu => ?_)
  obtain ⟨rfl, rfl⟩ := hu
  refine gy_st (st2 := [.int v, .int v]) rfl ?_
  exact gy_icmp_eq 1557 C dL_law_631 (by decide) (fun _ => nx _ hW) (fun c => absurd rfl c)
theorem lw_c13 {X : gx_T} {cs : Nat → ClassId} {a : Nat → Nat} {b L i kc nc B : Nat} {xs : Nat → Int32} {La : gz_L} {g : gz_S} (HH : lw_H X cs a b L xs) (hk : kc ≤ 500000 ∧ nc ≤ 6000000) (hi : i + 6 ≤ L) (hc : CallOk La (fX11_give La (xs (i + 1))) (fX12_give La (xs (i + 1))) g B) (nx : ∀ g2, WR La g2 B → gx X mL_law kc nc (gz_w cs La a g2) 1557 (lw_ls a b i) []) : gx X mL_law kc nc (gz_w cs La a g) 636 (lw_ls a b i) [] := by
  obtain ⟨C, RO, RE, SC, Rk, hl9, hL⟩ := HH
  obtain ⟨v, g1, g2, h1, h2, hW⟩ := hc
  refine gy_aload_n C dL_law_636 rfl ?_
  refine gy_arg (k := 1) C SC rfl rfl (by omega) hL (by decide) dL_law_637 dL_law_638 dL_law_640 dL_law_641 dL_law_642 ?_
  refine gy_callKV (j := 0) (ci := 11) (h2 := 3) (st := []) [.int (xs (i + 1))] C RO dL_law_643 mvL_80 (Nat.le_of_ble_eq_true rfl) (by decide) kd0 rfl (Nat.le_of_ble_eq_true rfl) (Rk.mo (by omega) (by omega)) (kX11_give h1) rfl (fun u g3 hu => ?_)
  obtain ⟨rfl, rfl⟩ := hu
  refine gy_st (st2 := [.int v]) rfl ?_
  refine gy_aload_n C dL_law_646 rfl ?_
  refine gy_arg (k := 1) C SC rfl rfl (by omega) hL (by decide) dL_law_647 dL_law_648 dL_law_650 dL_law_651 dL_law_652 ?_
  refine gy_callKV (j := 39) (ci := 12) (h2 := 2) (st := [.int v]) [.int (xs (i + 1))] C RO dL_law_653 mvL_83 (Nat.le_of_ble_eq_true rfl) (by decide) kd39 rfl (Nat.le_of_ble_eq_true rfl) (Rk.mo (by omega) (by omega)) (kX12_give h2) rfl (fun u g3 hu => ?_)
  obtain ⟨rfl, rfl⟩ := hu
  refine gy_st (st2 := [.int v, .int v]) rfl ?_
  exact gy_icmp_eq 1557 C dL_law_656 (by decide) (fun _ => nx _ hW) (fun c => absurd rfl c)
theorem lw_c14 {X : gx_T} {cs : Nat → ClassId} {a : Nat → Nat} {b L i kc nc B : Nat} {xs : Nat → Int32} {La : gz_L} {g : gz_S} (HH : lw_H X cs a b L xs) (hk : kc ≤ 500000 ∧ nc ≤ 6000000) (hi : i + 6 ≤ L) (hc : CallOk La (fX11_years La (xs (i + 1)) ((gz_lshl (xs (i + 2)).toInt64 32) ||| ((xs (i + 3)).toInt64 &&& 4294967295))) (fX12_years La (xs (i + 1)) ((gz_lshl (xs (i + 2)).toInt64 32) ||| ((xs (i + 3)).toInt64 &&& 4294967295))) g B) (nx : ∀ g2, WR La g2 B → gx X mL_law kc nc (gz_w cs La a g2) 1557 (lw_ls a b i) []) : gx X mL_law kc nc (gz_w cs La a g) 661 (lw_ls a b i) [] := by
  obtain ⟨C, RO, RE, SC, Rk, hl9, hL⟩ := HH
  obtain ⟨v, g1, g2, h1, h2, hW⟩ := hc
  refine gy_aload_n C dL_law_661 rfl ?_
  refine gy_arg (k := 1) C SC rfl rfl (by omega) hL (by decide) dL_law_662 dL_law_663 dL_law_665 dL_law_666 dL_law_667 ?_
  refine gy_arg (k := 2) C SC rfl rfl (by omega) hL (by decide) dL_law_668 dL_law_669 dL_law_671 dL_law_672 dL_law_673 ?_
  refine gy_i2l C dL_law_674 ?_
  refine gy_bipush (v := 32) C dL_law_675 (by decide) ?_
  refine gy_lshl C dL_law_677 ?_
  refine gy_arg (k := 3) C SC rfl rfl (by omega) hL (by decide) dL_law_678 dL_law_679 dL_law_681 dL_law_682 dL_law_683 ?_
  refine gy_i2l C dL_law_684 ?_
  refine gy_ldc2 C dL_law_685 xl_84 ?_
  refine gy_land C dL_law_688 ?_
  refine gy_lor C dL_law_689 ?_
  refine gy_callKV (j := 0) (ci := 11) (h2 := 7) (st := []) [.int (xs (i + 1)), .long ((gz_lshl (xs (i + 2)).toInt64 32) ||| ((xs (i + 3)).toInt64 &&& 4294967295))] C RO dL_law_690 mvL_86 (Nat.le_of_ble_eq_true rfl) (by decide) kd0 rfl (Nat.le_of_ble_eq_true rfl) (Rk.mo (by omega) (by omega)) (kX11_years h1) rfl (fun u g3 hu => ?_)
  obtain ⟨rfl, rfl⟩ := hu
  refine gy_st (st2 := [.int v]) rfl ?_
  refine gy_aload_n C dL_law_693 rfl ?_
  refine gy_arg (k := 1) C SC rfl rfl (by omega) hL (by decide) dL_law_694 dL_law_695 dL_law_697 dL_law_698 dL_law_699 ?_
  refine gy_arg (k := 2) C SC rfl rfl (by omega) hL (by decide) dL_law_700 dL_law_701 dL_law_703 dL_law_704 dL_law_705 ?_
  refine gy_i2l C dL_law_706 ?_
  refine gy_bipush (v := 32) C dL_law_707 (by decide) ?_
  refine gy_lshl C dL_law_709 ?_
  refine gy_arg (k := 3) C SC rfl rfl (by omega) hL (by decide) dL_law_710 dL_law_711 dL_law_713 dL_law_714 dL_law_715 ?_
  refine gy_i2l C dL_law_716 ?_
  refine gy_ldc2 C dL_law_717 xl_84 ?_
  refine gy_land C dL_law_720 ?_
  refine gy_lor C dL_law_721 ?_
  refine gy_callKV (j := 39) (ci := 12) (h2 := 147) (st := [.int v]) [.int (xs (i + 1)), .long ((gz_lshl (xs (i + 2)).toInt64 32) ||| ((xs (i + 3)).toInt64 &&& 4294967295))] C RO dL_law_722 mvL_90 (Nat.le_of_ble_eq_true rfl) (by decide) kd39 rfl (Nat.le_of_ble_eq_true rfl) (Rk.mo (by omega) (by omega)) (kX12_years h2) rfl (fun u g3 hu => ?_)
  obtain ⟨rfl, rfl⟩ := hu
  refine gy_st (st2 := [.int v, .int v]) rfl ?_
  exact gy_icmp_eq 1557 C dL_law_725 (by decide) (fun _ => nx _ hW) (fun c => absurd rfl c)
theorem lw_c15 {X : gx_T} {cs : Nat → ClassId} {a : Nat → Nat} {b L i kc nc B : Nat} {xs : Nat → Int32} {La : gz_L} {g : gz_S} (HH : lw_H X cs a b L xs) (hk : kc ≤ 500000 ∧ nc ≤ 6000000) (hi : i + 6 ≤ L) (hc : CallOk La (fX11_undo La ) (fX12_undo La ) g B) (nx : ∀ g2, WR La g2 B → gx X mL_law kc nc (gz_w cs La a g2) 1557 (lw_ls a b i) []) : gx X mL_law kc nc (gz_w cs La a g) 730 (lw_ls a b i) [] := by
  obtain ⟨C, RO, RE, SC, Rk, hl9, hL⟩ := HH
  obtain ⟨v, g1, g2, h1, h2, hW⟩ := hc
  refine gy_aload_n C dL_law_730 rfl ?_
  refine gy_callKV (j := 0) (ci := 11) (h2 := 2) (st := []) [] C RO dL_law_731 mvL_91 (Nat.le_of_ble_eq_true rfl) (by decide) kd0 rfl (Nat.le_of_ble_eq_true rfl) (Rk.mo (by omega) (by omega)) (kX11_undo h1) rfl (fun u g3 hu => ?_)
  obtain ⟨rfl, rfl⟩ := hu
  refine gy_st (st2 := [.int v]) rfl ?_
  refine gy_aload_n C dL_law_734 rfl ?_
  refine gy_callKV (j := 39) (ci := 12) (h2 := 1) (st := [.int v]) [] C RO dL_law_735 mvL_94 (Nat.le_of_ble_eq_true rfl) (by decide) kd39 rfl (Nat.le_of_ble_eq_true rfl) (Rk.mo (by omega) (by omega)) (kX12_undo h2) rfl (fun u g3 hu => ?_)
  obtain ⟨rfl, rfl⟩ := hu
  refine gy_st (st2 := [.int v, .int v]) rfl ?_
  exact gy_icmp_eq 1557 C dL_law_738 (by decide) (fun _ => nx _ hW) (fun c => absurd rfl c)
theorem lw_c16 {X : gx_T} {cs : Nat → ClassId} {a : Nat → Nat} {b L i kc nc B : Nat} {xs : Nat → Int32} {La : gz_L} {g : gz_S} (HH : lw_H X cs a b L xs) (hk : kc ≤ 500000 ∧ nc ≤ 6000000) (hi : i + 6 ≤ L) (hc : CallOk La (fX11_log La (xs (i + 1)) (xs (i + 2))) (fX12_log La (xs (i + 1)) (xs (i + 2))) g B) (nx : ∀ g2, WR La g2 B → gx X mL_law kc nc (gz_w cs La a g2) 1557 (lw_ls a b i) []) : gx X mL_law kc nc (gz_w cs La a g) 743 (lw_ls a b i) [] := by
  obtain ⟨C, RO, RE, SC, Rk, hl9, hL⟩ := HH
  obtain ⟨v, g1, g2, h1, h2, hW⟩ := hc
  refine gy_aload_n C dL_law_743 rfl ?_
  refine gy_arg (k := 1) C SC rfl rfl (by omega) hL (by decide) dL_law_744 dL_law_745 dL_law_747 dL_law_748 dL_law_749 ?_
  refine gy_arg (k := 2) C SC rfl rfl (by omega) hL (by decide) dL_law_750 dL_law_751 dL_law_753 dL_law_754 dL_law_755 ?_
  refine gy_callKV (j := 0) (ci := 11) (h2 := 3) (st := []) [.int (xs (i + 1)), .int (xs (i + 2))] C RO dL_law_756 mvL_95 (Nat.le_of_ble_eq_true rfl) (by decide) kd0 rfl (Nat.le_of_ble_eq_true rfl) (Rk.mo (by omega) (by omega)) (kX11_log h1) rfl (fun u g3 hu => ?_)
  obtain ⟨rfl, rfl⟩ := hu
  refine gy_st (st2 := [.int v]) rfl ?_
  refine gy_aload_n C dL_law_759 rfl ?_
  refine gy_arg (k := 1) C SC rfl rfl (by omega) hL (by decide) dL_law_760 dL_law_761 dL_law_763 dL_law_764 dL_law_765 ?_
  refine gy_arg (k := 2) C SC rfl rfl (by omega) hL (by decide) dL_law_766 dL_law_767 dL_law_769 dL_law_770 dL_law_771 ?_
  refine gy_callKV (j := 39) (ci := 12) (h2 := 2) (st := [.int v]) [.int (xs (i + 1)), .int (xs (i + 2))] C RO dL_law_772 mvL_98 (Nat.le_of_ble_eq_true rfl) (by decide) kd39 rfl (Nat.le_of_ble_eq_true rfl) (Rk.mo (by omega) (by omega)) (kX12_log h2) rfl (fun u g3 hu => ?_)
  obtain ⟨rfl, rfl⟩ := hu
  refine gy_st (st2 := [.int v, .int v]) rfl ?_
  exact gy_icmp_eq 1557 C dL_law_775 (by decide) (fun _ => nx _ hW) (fun c => absurd rfl c)
theorem lw_c17 {X : gx_T} {cs : Nat → ClassId} {a : Nat → Nat} {b L i kc nc B : Nat} {xs : Nat → Int32} {La : gz_L} {g : gz_S} (HH : lw_H X cs a b L xs) (hk : kc ≤ 500000 ∧ nc ≤ 6000000) (hi : i + 6 ≤ L) (hc : CallOk La (fX11_step La (xs (i + 1)) (xs (i + 2)) (xs (i + 3))) (fX12_step La (xs (i + 1)) (xs (i + 2)) (xs (i + 3))) g B) (nx : ∀ g2, WR La g2 B → gx X mL_law kc nc (gz_w cs La a g2) 1557 (lw_ls a b i) []) : gx X mL_law kc nc (gz_w cs La a g) 780 (lw_ls a b i) [] := by
  obtain ⟨C, RO, RE, SC, Rk, hl9, hL⟩ := HH
  obtain ⟨v, g1, g2, h1, h2, hW⟩ := hc
  refine gy_aload_n C dL_law_780 rfl ?_
  refine gy_arg (k := 1) C SC rfl rfl (by omega) hL (by decide) dL_law_781 dL_law_782 dL_law_784 dL_law_785 dL_law_786 ?_
  refine gy_arg (k := 2) C SC rfl rfl (by omega) hL (by decide) dL_law_787 dL_law_788 dL_law_790 dL_law_791 dL_law_792 ?_
  refine gy_arg (k := 3) C SC rfl rfl (by omega) hL (by decide) dL_law_793 dL_law_794 dL_law_796 dL_law_797 dL_law_798 ?_
  refine gy_callKV (j := 0) (ci := 11) (h2 := 2) (st := []) [.int (xs (i + 1)), .int (xs (i + 2)), .int (xs (i + 3))] C RO dL_law_799 mvL_99 (Nat.le_of_ble_eq_true rfl) (by decide) kd0 rfl (Nat.le_of_ble_eq_true rfl) (Rk.mo (by omega) (by omega)) (kX11_step h1) rfl (fun u g3 hu => ?_)
  obtain ⟨rfl, rfl⟩ := hu
  refine gy_st (st2 := [.int v]) rfl ?_
  refine gy_aload_n C dL_law_802 rfl ?_
  refine gy_arg (k := 1) C SC rfl rfl (by omega) hL (by decide) dL_law_803 dL_law_804 dL_law_806 dL_law_807 dL_law_808 ?_
  refine gy_arg (k := 2) C SC rfl rfl (by omega) hL (by decide) dL_law_809 dL_law_810 dL_law_812 dL_law_813 dL_law_814 ?_
  refine gy_arg (k := 3) C SC rfl rfl (by omega) hL (by decide) dL_law_815 dL_law_816 dL_law_818 dL_law_819 dL_law_820 ?_
  refine gy_callKV (j := 39) (ci := 12) (h2 := 2) (st := [.int v]) [.int (xs (i + 1)), .int (xs (i + 2)), .int (xs (i + 3))] C RO dL_law_821 mvL_103 (Nat.le_of_ble_eq_true rfl) (by decide) kd39 rfl (Nat.le_of_ble_eq_true rfl) (Rk.mo (by omega) (by omega)) (kX12_step h2) rfl (fun u g3 hu => ?_)
  obtain ⟨rfl, rfl⟩ := hu
  refine gy_st (st2 := [.int v, .int v]) rfl ?_
  exact gy_icmp_eq 1557 C dL_law_824 (by decide) (fun _ => nx _ hW) (fun c => absurd rfl c)
theorem lw_c18 {X : gx_T} {cs : Nat → ClassId} {a : Nat → Nat} {b L i kc nc B : Nat} {xs : Nat → Int32} {La : gz_L} {g : gz_S} (HH : lw_H X cs a b L xs) (hk : kc ≤ 500000 ∧ nc ≤ 6000000) (hi : i + 6 ≤ L) (hc : CallOk La (fX11_run La (xs (i + 1)) (xs (i + 2))) (fX12_run La (xs (i + 1)) (xs (i + 2))) g B) (nx : ∀ g2, WR La g2 B → gx X mL_law kc nc (gz_w cs La a g2) 1557 (lw_ls a b i) []) : gx X mL_law kc nc (gz_w cs La a g) 829 (lw_ls a b i) [] := by
  obtain ⟨C, RO, RE, SC, Rk, hl9, hL⟩ := HH
  obtain ⟨v, g1, g2, h1, h2, hW⟩ := hc
  refine gy_aload_n C dL_law_829 rfl ?_
  refine gy_arg (k := 1) C SC rfl rfl (by omega) hL (by decide) dL_law_830 dL_law_831 dL_law_833 dL_law_834 dL_law_835 ?_
  refine gy_arg (k := 2) C SC rfl rfl (by omega) hL (by decide) dL_law_836 dL_law_837 dL_law_839 dL_law_840 dL_law_841 ?_
  refine gy_callKV (j := 0) (ci := 11) (h2 := 6) (st := []) [.int (xs (i + 1)), .int (xs (i + 2))] C RO dL_law_842 mvL_104 (Nat.le_of_ble_eq_true rfl) (by decide) kd0 rfl (Nat.le_of_ble_eq_true rfl) (Rk.mo (by omega) (by omega)) (kX11_run h1) rfl (fun u g3 hu => ?_)
  obtain ⟨rfl, rfl⟩ := hu
  refine gy_st (st2 := [.int v]) rfl ?_
  refine gy_aload_n C dL_law_845 rfl ?_
  refine gy_arg (k := 1) C SC rfl rfl (by omega) hL (by decide) dL_law_846 dL_law_847 dL_law_849 dL_law_850 dL_law_851 ?_
  refine gy_arg (k := 2) C SC rfl rfl (by omega) hL (by decide) dL_law_852 dL_law_853 dL_law_855 dL_law_856 dL_law_857 ?_
  refine gy_callKV (j := 39) (ci := 12) (h2 := 148) (st := [.int v]) [.int (xs (i + 1)), .int (xs (i + 2))] C RO dL_law_858 mvL_107 (Nat.le_of_ble_eq_true rfl) (by decide) kd39 rfl (Nat.le_of_ble_eq_true rfl) (Rk.mo (by omega) (by omega)) (kX12_run h2) rfl (fun u g3 hu => ?_)
  obtain ⟨rfl, rfl⟩ := hu
  refine gy_st (st2 := [.int v, .int v]) rfl ?_
  exact gy_icmp_eq 1557 C dL_law_861 (by decide) (fun _ => nx _ hW) (fun c => absurd rfl c)
