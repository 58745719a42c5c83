/-! constructors -/
theorem xw_oi : Cond.instanceMethod objectInit ∈ gz_U := gz_mem 139 (by decide +kernel) (by decide +kernel)
theorem xw_oc : Cond.code objectInit ⟨#[0xb1]⟩ 1 none ∈ gz_U := gz_mem 140 (by decide +kernel) (by decide +kernel)
theorem xw_aint : Cond.arrayClass .int ∈ gz_U := gz_mem 171 (by decide +kernel) (by decide +kernel)
theorem xw_abyte : Cond.arrayClass .byte ∈ gz_U := gz_mem 1265 (by decide +kernel) (by decide +kernel)
theorem xw_along : Cond.arrayClass .long ∈ gz_U := gz_mem 1991 (by decide +kernel) (by decide +kernel)
abbrev mX9_init : gz_M := (yX9_init, cX9_init, 1, none)
theorem dX9_init_0 : decode mX9_init.2.1 0 = .ok (.aload_n 0, 1) := by decide +kernel
theorem dX9_init_1 : decode mX9_init.2.1 1 = .ok (.invokespecial 3, 3) := by decide +kernel
theorem dX9_init_4 : decode mX9_init.2.1 4 = .ok (.aload_n 0, 1) := by decide +kernel
theorem dX9_init_5 : decode mX9_init.2.1 5 = .ok (.sipush 240, 3) := by decide +kernel
theorem dX9_init_8 : decode mX9_init.2.1 8 = .ok (.newarray .int, 2) := by decide +kernel
theorem dX9_init_10 : decode mX9_init.2.1 10 = .ok (.putfield 11, 3) := by decide +kernel
theorem dX9_init_13 : decode mX9_init.2.1 13 = .ok (.return_, 1) := by decide +kernel
theorem xfX9_11 : gz_fl RX9 11 9 0 := ⟨by decide, by decide +kernel, (gz_mem 147 (by decide +kernel) (by decide +kernel))⟩
set_option maxRecDepth 100000 in
set_option maxHeartbeats 4000000 in
theorem kX9_init {l : Launch} {D : va_G} {cs : Nat → ClassId} (h0  : Nat) : gx_K l D cs 2 mX9_init 1 240 [.ref h0] [(h0, .inr (9, [.null, .int 0, .int 0, .int 0, .int 0]))] (fun v w => v = none ∧ ∃ q1 : Nat, w = [(h0, .inr (9, [.ref q1, .int 0, .int 0, .int 0, .int 0])), (q1, .inl (cs 0, 240, .inl (fun _ => 0)))]) := by
  refine gx_K.of 0 (by decide +kernel) rfl (fun X C E Rk I0 => ?_)
  have I := I0 rfl
  refine gy_ls (l2 := [some (.ref h0)]) rfl ?_
  refine gy_aload_n C dX9_init_0 rfl ?_
  refine gy_objInit C dX9_init_1 (gz_mem 146 (by decide +kernel) (by decide +kernel)) xw_oi xw_oc (by decide) (Nat.le_of_ble_eq_true rfl) ?_
  refine gy_aload_n C dX9_init_4 rfl ?_
  refine gy_sipush (v := 240) C dX9_init_5 (by decide) ?_
  refine gy_newaI (N := 240) C dX9_init_8 xw_aint (by decide) (by decide) (by omega) (Rk.mo (by omega) (by omega)) (fun q1 => ?_)
  refine gy_widen (k2 := 1) (n2 := 240) (by omega) (by omega) ?_
  refine gy_w (w2 := [(h0, .inr (9, [.null, .int 0, .int 0, .int 0, .int 0])), (q1, .inl (cs 0, 240, .inl (fun _ => 0)))]) rfl ?_
  refine gy_putF (q := 0) C I dX9_init_10 xfX9_11 rfl rfl rfl rfl rfl (Nat.le_of_ble_eq_true rfl) ?_
  refine gy_w (w2 := [(h0, .inr (9, [.ref q1, .int 0, .int 0, .int 0, .int 0])), (q1, .inl (cs 0, 240, .inl (fun _ => 0)))]) rfl ?_
  exact gy_ret C E dX9_init_13 rfl ⟨rfl, q1, rfl⟩
abbrev mX6_init : gz_M := (yX6_init, cX6_init, 1, none)
theorem dX6_init_0 : decode mX6_init.2.1 0 = .ok (.aload_n 0, 1) := by decide +kernel
theorem dX6_init_1 : decode mX6_init.2.1 1 = .ok (.invokespecial 3, 3) := by decide +kernel
theorem dX6_init_4 : decode mX6_init.2.1 4 = .ok (.aload_n 0, 1) := by decide +kernel
theorem dX6_init_5 : decode mX6_init.2.1 5 = .ok (.bipush 61, 2) := by decide +kernel
theorem dX6_init_7 : decode mX6_init.2.1 7 = .ok (.newarray .int, 2) := by decide +kernel
theorem dX6_init_9 : decode mX6_init.2.1 9 = .ok (.putfield 11, 3) := by decide +kernel
theorem dX6_init_12 : decode mX6_init.2.1 12 = .ok (.return_, 1) := by decide +kernel
theorem xfX6_11 : gz_fl RX6 11 6 0 := ⟨by decide, by decide +kernel, (gz_mem 245 (by decide +kernel) (by decide +kernel))⟩
set_option maxRecDepth 100000 in
set_option maxHeartbeats 4000000 in
theorem kX6_init {l : Launch} {D : va_G} {cs : Nat → ClassId} (h0  : Nat) : gx_K l D cs 2 mX6_init 1 61 [.ref h0] [(h0, .inr (6, [.null]))] (fun v w => v = none ∧ ∃ q1 : Nat, w = [(h0, .inr (6, [.ref q1])), (q1, .inl (cs 0, 61, .inl (fun _ => 0)))]) := by
  refine gx_K.of 0 (by decide +kernel) rfl (fun X C E Rk I0 => ?_)
  have I := I0 rfl
  refine gy_ls (l2 := [some (.ref h0)]) rfl ?_
  refine gy_aload_n C dX6_init_0 rfl ?_
  refine gy_objInit C dX6_init_1 (gz_mem 244 (by decide +kernel) (by decide +kernel)) xw_oi xw_oc (by decide) (Nat.le_of_ble_eq_true rfl) ?_
  refine gy_aload_n C dX6_init_4 rfl ?_
  refine gy_bipush (v := 61) C dX6_init_5 (by decide) ?_
  refine gy_newaI (N := 61) C dX6_init_7 xw_aint (by decide) (by decide) (by omega) (Rk.mo (by omega) (by omega)) (fun q1 => ?_)
  refine gy_widen (k2 := 1) (n2 := 61) (by omega) (by omega) ?_
  refine gy_w (w2 := [(h0, .inr (6, [.null])), (q1, .inl (cs 0, 61, .inl (fun _ => 0)))]) rfl ?_
  refine gy_putF (q := 0) C I dX6_init_9 xfX6_11 rfl rfl rfl rfl rfl (Nat.le_of_ble_eq_true rfl) ?_
  refine gy_w (w2 := [(h0, .inr (6, [.ref q1])), (q1, .inl (cs 0, 61, .inl (fun _ => 0)))]) rfl ?_
  exact gy_ret C E dX6_init_12 rfl ⟨rfl, q1, rfl⟩
abbrev mX10_init : gz_M := (yX10_init, cX10_init, 1, none)
theorem dX10_init_0 : decode mX10_init.2.1 0 = .ok (.aload_n 0, 1) := by decide +kernel
theorem dX10_init_1 : decode mX10_init.2.1 1 = .ok (.invokespecial 3, 3) := by decide +kernel
theorem dX10_init_4 : decode mX10_init.2.1 4 = .ok (.aload_n 0, 1) := by decide +kernel
theorem dX10_init_5 : decode mX10_init.2.1 5 = .ok (.bipush 6, 2) := by decide +kernel
theorem dX10_init_7 : decode mX10_init.2.1 7 = .ok (.newarray .int, 2) := by decide +kernel
theorem dX10_init_9 : decode mX10_init.2.1 9 = .ok (.putfield 11, 3) := by decide +kernel
theorem dX10_init_12 : decode mX10_init.2.1 12 = .ok (.aload_n 0, 1) := by decide +kernel
theorem dX10_init_13 : decode mX10_init.2.1 13 = .ok (.sipush 240, 3) := by decide +kernel
theorem dX10_init_16 : decode mX10_init.2.1 16 = .ok (.newarray .int, 2) := by decide +kernel
theorem dX10_init_18 : decode mX10_init.2.1 18 = .ok (.putfield 19, 3) := by decide +kernel
theorem dX10_init_21 : decode mX10_init.2.1 21 = .ok (.return_, 1) := by decide +kernel
theorem xfX10_11 : gz_fl RX10 11 10 3 := ⟨by decide, by decide +kernel, (gz_mem 268 (by decide +kernel) (by decide +kernel))⟩
theorem xfX10_19 : gz_fl RX10 19 10 4 := ⟨by decide, by decide +kernel, (gz_mem 269 (by decide +kernel) (by decide +kernel))⟩
set_option maxRecDepth 100000 in
set_option maxHeartbeats 4000000 in
theorem kX10_init {l : Launch} {D : va_G} {cs : Nat → ClassId} (h0  : Nat) : gx_K l D cs 2 mX10_init 2 246 [.ref h0] [(h0, .inr (10, [.null, .int 0, .int 0, .null, .null]))] (fun v w => v = none ∧ ∃ q1 q2 : Nat, w = [(h0, .inr (10, [.null, .int 0, .int 0, .ref q1, .ref q2])), (q1, .inl (cs 0, 6, .inl (fun _ => 0))), (q2, .inl (cs 0, 240, .inl (fun _ => 0)))]) := by
  refine gx_K.of 0 (by decide +kernel) rfl (fun X C E Rk I0 => ?_)
  have I := I0 rfl
  refine gy_ls (l2 := [some (.ref h0)]) rfl ?_
  refine gy_aload_n C dX10_init_0 rfl ?_
  refine gy_objInit C dX10_init_1 (gz_mem 261 (by decide +kernel) (by decide +kernel)) xw_oi xw_oc (by decide) (Nat.le_of_ble_eq_true rfl) ?_
  refine gy_aload_n C dX10_init_4 rfl ?_
  refine gy_bipush (v := 6) C dX10_init_5 (by decide) ?_
  refine gy_newaI (N := 6) C dX10_init_7 xw_aint (by decide) (by decide) (by omega) (Rk.mo (by omega) (by omega)) (fun q1 => ?_)
  refine gy_widen (k2 := 1) (n2 := 6) (by omega) (by omega) ?_
  refine gy_w (w2 := [(h0, .inr (10, [.null, .int 0, .int 0, .null, .null])), (q1, .inl (cs 0, 6, .inl (fun _ => 0)))]) rfl ?_
  refine gy_putF (q := 0) C I dX10_init_9 xfX10_11 rfl rfl rfl rfl rfl (Nat.le_of_ble_eq_true rfl) ?_
  refine gy_w (w2 := [(h0, .inr (10, [.null, .int 0, .int 0, .ref q1, .null])), (q1, .inl (cs 0, 6, .inl (fun _ => 0)))]) rfl ?_
  refine gy_aload_n C dX10_init_12 rfl ?_
  refine gy_sipush (v := 240) C dX10_init_13 (by decide) ?_
  refine gy_newaI (N := 240) C dX10_init_16 xw_aint (by decide) (by decide) (by omega) (Rk.mo (by omega) (by omega)) (fun q2 => ?_)
  refine gy_widen (k2 := 2) (n2 := 246) (by omega) (by omega) ?_
  refine gy_w (w2 := [(h0, .inr (10, [.null, .int 0, .int 0, .ref q1, .null])), (q1, .inl (cs 0, 6, .inl (fun _ => 0))), (q2, .inl (cs 0, 240, .inl (fun _ => 0)))]) rfl ?_
  refine gy_putF (q := 0) C I dX10_init_18 xfX10_19 rfl rfl rfl rfl rfl (Nat.le_of_ble_eq_true rfl) ?_
  refine gy_w (w2 := [(h0, .inr (10, [.null, .int 0, .int 0, .ref q1, .ref q2])), (q1, .inl (cs 0, 6, .inl (fun _ => 0))), (q2, .inl (cs 0, 240, .inl (fun _ => 0)))]) rfl ?_
  exact gy_ret C E dX10_init_21 rfl ⟨rfl, q1, q2, rfl⟩
abbrev mX5_init : gz_M := (yX5_init, cX5_init, 1, none)
theorem dX5_init_0 : decode mX5_init.2.1 0 = .ok (.aload_n 0, 1) := by decide +kernel
theorem dX5_init_1 : decode mX5_init.2.1 1 = .ok (.invokespecial 3, 3) := by decide +kernel
theorem dX5_init_4 : decode mX5_init.2.1 4 = .ok (.aload_n 0, 1) := by decide +kernel
theorem dX5_init_5 : decode mX5_init.2.1 5 = .ok (.sipush 2000, 3) := by decide +kernel
theorem dX5_init_8 : decode mX5_init.2.1 8 = .ok (.newarray .int, 2) := by decide +kernel
theorem dX5_init_10 : decode mX5_init.2.1 10 = .ok (.putfield 11, 3) := by decide +kernel
theorem dX5_init_13 : decode mX5_init.2.1 13 = .ok (.aload_n 0, 1) := by decide +kernel
theorem dX5_init_14 : decode mX5_init.2.1 14 = .ok (.bipush 100, 2) := by decide +kernel
theorem dX5_init_16 : decode mX5_init.2.1 16 = .ok (.newarray .int, 2) := by decide +kernel
theorem dX5_init_18 : decode mX5_init.2.1 18 = .ok (.putfield 15, 3) := by decide +kernel
theorem dX5_init_21 : decode mX5_init.2.1 21 = .ok (.aload_n 0, 1) := by decide +kernel
theorem dX5_init_22 : decode mX5_init.2.1 22 = .ok (.bipush 50, 2) := by decide +kernel
theorem dX5_init_24 : decode mX5_init.2.1 24 = .ok (.newarray .int, 2) := by decide +kernel
theorem dX5_init_26 : decode mX5_init.2.1 26 = .ok (.putfield 18, 3) := by decide +kernel
theorem dX5_init_29 : decode mX5_init.2.1 29 = .ok (.aload_n 0, 1) := by decide +kernel
theorem dX5_init_30 : decode mX5_init.2.1 30 = .ok (.bipush 100, 2) := by decide +kernel
theorem dX5_init_32 : decode mX5_init.2.1 32 = .ok (.newarray .int, 2) := by decide +kernel
theorem dX5_init_34 : decode mX5_init.2.1 34 = .ok (.putfield 21, 3) := by decide +kernel
theorem dX5_init_37 : decode mX5_init.2.1 37 = .ok (.return_, 1) := by decide +kernel
theorem xfX5_11 : gz_fl RX5 11 5 1 := ⟨by decide, by decide +kernel, (gz_mem 289 (by decide +kernel) (by decide +kernel))⟩
theorem xfX5_15 : gz_fl RX5 15 5 2 := ⟨by decide, by decide +kernel, (gz_mem 290 (by decide +kernel) (by decide +kernel))⟩
theorem xfX5_18 : gz_fl RX5 18 5 3 := ⟨by decide, by decide +kernel, (gz_mem 291 (by decide +kernel) (by decide +kernel))⟩
theorem xfX5_21 : gz_fl RX5 21 5 4 := ⟨by decide, by decide +kernel, (gz_mem 292 (by decide +kernel) (by decide +kernel))⟩
set_option maxRecDepth 100000 in
set_option maxHeartbeats 4000000 in
theorem kX5_init {l : Launch} {D : va_G} {cs : Nat → ClassId} (h0  : Nat) : gx_K l D cs 2 mX5_init 4 2250 [.ref h0] [(h0, .inr (5, [.int 0, .null, .null, .null, .null, .int 0, .int 0]))] (fun v w => v = none ∧ ∃ q1 q2 q3 q4 : Nat, w = [(h0, .inr (5, [.int 0, .ref q1, .ref q2, .ref q3, .ref q4, .int 0, .int 0])), (q1, .inl (cs 0, 2000, .inl (fun _ => 0))), (q2, .inl (cs 0, 100, .inl (fun _ => 0))), (q3, .inl (cs 0, 50, .inl (fun _ => 0))), (q4, .inl (cs 0, 100, .inl (fun _ => 0)))]) := by
  refine gx_K.of 0 (by decide +kernel) rfl (fun X C E Rk I0 => ?_)
  have I := I0 rfl
  refine gy_ls (l2 := [some (.ref h0)]) rfl ?_
  refine gy_aload_n C dX5_init_0 rfl ?_
  refine gy_objInit C dX5_init_1 (gz_mem 286 (by decide +kernel) (by decide +kernel)) xw_oi xw_oc (by decide) (Nat.le_of_ble_eq_true rfl) ?_
  refine gy_aload_n C dX5_init_4 rfl ?_
  refine gy_sipush (v := 2000) C dX5_init_5 (by decide) ?_
  refine gy_newaI (N := 2000) C dX5_init_8 xw_aint (by decide) (by decide) (by omega) (Rk.mo (by omega) (by omega)) (fun q1 => ?_)
  refine gy_widen (k2 := 1) (n2 := 2000) (by omega) (by omega) ?_
  refine gy_w (w2 := [(h0, .inr (5, [.int 0, .null, .null, .null, .null, .int 0, .int 0])), (q1, .inl (cs 0, 2000, .inl (fun _ => 0)))]) rfl ?_
  refine gy_putF (q := 0) C I dX5_init_10 xfX5_11 rfl rfl rfl rfl rfl (Nat.le_of_ble_eq_true rfl) ?_
  refine gy_w (w2 := [(h0, .inr (5, [.int 0, .ref q1, .null, .null, .null, .int 0, .int 0])), (q1, .inl (cs 0, 2000, .inl (fun _ => 0)))]) rfl ?_
  refine gy_aload_n C dX5_init_13 rfl ?_
  refine gy_bipush (v := 100) C dX5_init_14 (by decide) ?_
  refine gy_newaI (N := 100) C dX5_init_16 xw_aint (by decide) (by decide) (by omega) (Rk.mo (by omega) (by omega)) (fun q2 => ?_)
  refine gy_widen (k2 := 2) (n2 := 2100) (by omega) (by omega) ?_
  refine gy_w (w2 := [(h0, .inr (5, [.int 0, .ref q1, .null, .null, .null, .int 0, .int 0])), (q1, .inl (cs 0, 2000, .inl (fun _ => 0))), (q2, .inl (cs 0, 100, .inl (fun _ => 0)))]) rfl ?_
  refine gy_putF (q := 0) C I dX5_init_18 xfX5_15 rfl rfl rfl rfl rfl (Nat.le_of_ble_eq_true rfl) ?_
  refine gy_w (w2 := [(h0, .inr (5, [.int 0, .ref q1, .ref q2, .null, .null, .int 0, .int 0])), (q1, .inl (cs 0, 2000, .inl (fun _ => 0))), (q2, .inl (cs 0, 100, .inl (fun _ => 0)))]) rfl ?_
  refine gy_aload_n C dX5_init_21 rfl ?_
  refine gy_bipush (v := 50) C dX5_init_22 (by decide) ?_
  refine gy_newaI (N := 50) C dX5_init_24 xw_aint (by decide) (by decide) (by omega) (Rk.mo (by omega) (by omega)) (fun q3 => ?_)
  refine gy_widen (k2 := 3) (n2 := 2150) (by omega) (by omega) ?_
  refine gy_w (w2 := [(h0, .inr (5, [.int 0, .ref q1, .ref q2, .null, .null, .int 0, .int 0])), (q1, .inl (cs 0, 2000, .inl (fun _ => 0))), (q2, .inl (cs 0, 100, .inl (fun _ => 0))), (q3, .inl (cs 0, 50, .inl (fun _ => 0)))]) rfl ?_
  refine gy_putF (q := 0) C I dX5_init_26 xfX5_18 rfl rfl rfl rfl rfl (Nat.le_of_ble_eq_true rfl) ?_
  refine gy_w (w2 := [(h0, .inr (5, [.int 0, .ref q1, .ref q2, .ref q3, .null, .int 0, .int 0])), (q1, .inl (cs 0, 2000, .inl (fun _ => 0))), (q2, .inl (cs 0, 100, .inl (fun _ => 0))), (q3, .inl (cs 0, 50, .inl (fun _ => 0)))]) rfl ?_
  refine gy_aload_n C dX5_init_29 rfl ?_
  refine gy_bipush (v := 100) C dX5_init_30 (by decide) ?_
  refine gy_newaI (N := 100) C dX5_init_32 xw_aint (by decide) (by decide) (by omega) (Rk.mo (by omega) (by omega)) (fun q4 => ?_)
  refine gy_widen (k2 := 4) (n2 := 2250) (by omega) (by omega) ?_
  refine gy_w (w2 := [(h0, .inr (5, [.int 0, .ref q1, .ref q2, .ref q3, .null, .int 0, .int 0])), (q1, .inl (cs 0, 2000, .inl (fun _ => 0))), (q2, .inl (cs 0, 100, .inl (fun _ => 0))), (q3, .inl (cs 0, 50, .inl (fun _ => 0))), (q4, .inl (cs 0, 100, .inl (fun _ => 0)))]) rfl ?_
  refine gy_putF (q := 0) C I dX5_init_34 xfX5_21 rfl rfl rfl rfl rfl (Nat.le_of_ble_eq_true rfl) ?_
  refine gy_w (w2 := [(h0, .inr (5, [.int 0, .ref q1, .ref q2, .ref q3, .ref q4, .int 0, .int 0])), (q1, .inl (cs 0, 2000, .inl (fun _ => 0))), (q2, .inl (cs 0, 100, .inl (fun _ => 0))), (q3, .inl (cs 0, 50, .inl (fun _ => 0))), (q4, .inl (cs 0, 100, .inl (fun _ => 0)))]) rfl ?_
  exact gy_ret C E dX5_init_37 rfl ⟨rfl, q1, q2, q3, q4, rfl⟩
abbrev mX7_init : gz_M := (yX7_init, cX7_init, 2, none)
theorem dX7_init_0 : decode mX7_init.2.1 0 = .ok (.aload_n 0, 1) := by decide +kernel
theorem dX7_init_1 : decode mX7_init.2.1 1 = .ok (.invokespecial 5, 3) := by decide +kernel
theorem dX7_init_4 : decode mX7_init.2.1 4 = .ok (.aload_n 0, 1) := by decide +kernel
theorem dX7_init_5 : decode mX7_init.2.1 5 = .ok (.iconst 4, 1) := by decide +kernel
theorem dX7_init_6 : decode mX7_init.2.1 6 = .ok (.newarray .int, 2) := by decide +kernel
theorem dX7_init_8 : decode mX7_init.2.1 8 = .ok (.putfield 11, 3) := by decide +kernel
theorem dX7_init_11 : decode mX7_init.2.1 11 = .ok (.aload_n 0, 1) := by decide +kernel
theorem dX7_init_12 : decode mX7_init.2.1 12 = .ok (.bipush 16, 2) := by decide +kernel
theorem dX7_init_14 : decode mX7_init.2.1 14 = .ok (.newarray .int, 2) := by decide +kernel
theorem dX7_init_16 : decode mX7_init.2.1 16 = .ok (.putfield 15, 3) := by decide +kernel
theorem dX7_init_19 : decode mX7_init.2.1 19 = .ok (.aload_n 0, 1) := by decide +kernel
theorem dX7_init_20 : decode mX7_init.2.1 20 = .ok (.bipush 30, 2) := by decide +kernel
theorem dX7_init_22 : decode mX7_init.2.1 22 = .ok (.newarray .int, 2) := by decide +kernel
theorem dX7_init_24 : decode mX7_init.2.1 24 = .ok (.putfield 18, 3) := by decide +kernel
theorem dX7_init_27 : decode mX7_init.2.1 27 = .ok (.aload_n 0, 1) := by decide +kernel
theorem dX7_init_28 : decode mX7_init.2.1 28 = .ok (.iconst 5, 1) := by decide +kernel
theorem dX7_init_29 : decode mX7_init.2.1 29 = .ok (.newarray .int, 2) := by decide +kernel
theorem dX7_init_31 : decode mX7_init.2.1 31 = .ok (.putfield 21, 3) := by decide +kernel
theorem dX7_init_34 : decode mX7_init.2.1 34 = .ok (.aload_n 0, 1) := by decide +kernel
theorem dX7_init_35 : decode mX7_init.2.1 35 = .ok (.aload_n 1, 1) := by decide +kernel
theorem dX7_init_36 : decode mX7_init.2.1 36 = .ok (.putfield 24, 3) := by decide +kernel
theorem dX7_init_39 : decode mX7_init.2.1 39 = .ok (.return_, 1) := by decide +kernel
theorem xfX7_11 : gz_fl RX7 11 7 1 := ⟨by decide, by decide +kernel, (gz_mem 179 (by decide +kernel) (by decide +kernel))⟩
theorem xfX7_15 : gz_fl RX7 15 7 2 := ⟨by decide, by decide +kernel, (gz_mem 180 (by decide +kernel) (by decide +kernel))⟩
theorem xfX7_18 : gz_fl RX7 18 7 3 := ⟨by decide, by decide +kernel, (gz_mem 181 (by decide +kernel) (by decide +kernel))⟩
theorem xfX7_21 : gz_fl RX7 21 7 4 := ⟨by decide, by decide +kernel, (gz_mem 182 (by decide +kernel) (by decide +kernel))⟩
theorem xfX7_24 : gz_fl RX7 24 7 0 := ⟨by decide, by decide +kernel, (gz_mem 178 (by decide +kernel) (by decide +kernel))⟩
set_option maxRecDepth 100000 in
set_option maxHeartbeats 4000000 in
theorem kX7_init {l : Launch} {D : va_G} {cs : Nat → ClassId} (h0 a1 : Nat) : gx_K l D cs 2 mX7_init 4 55 [.ref h0, .ref a1] [(h0, .inr (7, [.null, .null, .null, .null, .null, .int 0, .int 0, .int 0]))] (fun v w => v = none ∧ ∃ q1 q2 q3 q4 : Nat, w = [(h0, .inr (7, [.ref a1, .ref q1, .ref q2, .ref q3, .ref q4, .int 0, .int 0, .int 0])), (q1, .inl (cs 0, 4, .inl (fun _ => 0))), (q2, .inl (cs 0, 16, .inl (fun _ => 0))), (q3, .inl (cs 0, 30, .inl (fun _ => 0))), (q4, .inl (cs 0, 5, .inl (fun _ => 0)))]) := by
  refine gx_K.of 0 (by decide +kernel) rfl (fun X C E Rk I0 => ?_)
  have I := I0 rfl
  refine gy_ls (l2 := [some (.ref h0), some (.ref a1)]) rfl ?_
  refine gy_aload_n C dX7_init_0 rfl ?_
  refine gy_objInit C dX7_init_1 (gz_mem 177 (by decide +kernel) (by decide +kernel)) xw_oi xw_oc (by decide) (Nat.le_of_ble_eq_true rfl) ?_
  refine gy_aload_n C dX7_init_4 rfl ?_
  refine gy_iconst (v := 4) C dX7_init_5 (by decide) ?_
  refine gy_newaI (N := 4) C dX7_init_6 xw_aint (by decide) (by decide) (by omega) (Rk.mo (by omega) (by omega)) (fun q1 => ?_)
  refine gy_widen (k2 := 1) (n2 := 4) (by omega) (by omega) ?_
  refine gy_w (w2 := [(h0, .inr (7, [.null, .null, .null, .null, .null, .int 0, .int 0, .int 0])), (q1, .inl (cs 0, 4, .inl (fun _ => 0)))]) rfl ?_
  refine gy_putF (q := 0) C I dX7_init_8 xfX7_11 rfl rfl rfl rfl rfl (Nat.le_of_ble_eq_true rfl) ?_
  refine gy_w (w2 := [(h0, .inr (7, [.null, .ref q1, .null, .null, .null, .int 0, .int 0, .int 0])), (q1, .inl (cs 0, 4, .inl (fun _ => 0)))]) rfl ?_
  refine gy_aload_n C dX7_init_11 rfl ?_
  refine gy_bipush (v := 16) C dX7_init_12 (by decide) ?_
  refine gy_newaI (N := 16) C dX7_init_14 xw_aint (by decide) (by decide) (by omega) (Rk.mo (by omega) (by omega)) (fun q2 => ?_)
  refine gy_widen (k2 := 2) (n2 := 20) (by omega) (by omega) ?_
  refine gy_w (w2 := [(h0, .inr (7, [.null, .ref q1, .null, .null, .null, .int 0, .int 0, .int 0])), (q1, .inl (cs 0, 4, .inl (fun _ => 0))), (q2, .inl (cs 0, 16, .inl (fun _ => 0)))]) rfl ?_
  refine gy_putF (q := 0) C I dX7_init_16 xfX7_15 rfl rfl rfl rfl rfl (Nat.le_of_ble_eq_true rfl) ?_
  refine gy_w (w2 := [(h0, .inr (7, [.null, .ref q1, .ref q2, .null, .null, .int 0, .int 0, .int 0])), (q1, .inl (cs 0, 4, .inl (fun _ => 0))), (q2, .inl (cs 0, 16, .inl (fun _ => 0)))]) rfl ?_
  refine gy_aload_n C dX7_init_19 rfl ?_
  refine gy_bipush (v := 30) C dX7_init_20 (by decide) ?_
  refine gy_newaI (N := 30) C dX7_init_22 xw_aint (by decide) (by decide) (by omega) (Rk.mo (by omega) (by omega)) (fun q3 => ?_)
  refine gy_widen (k2 := 3) (n2 := 50) (by omega) (by omega) ?_
  refine gy_w (w2 := [(h0, .inr (7, [.null, .ref q1, .ref q2, .null, .null, .int 0, .int 0, .int 0])), (q1, .inl (cs 0, 4, .inl (fun _ => 0))), (q2, .inl (cs 0, 16, .inl (fun _ => 0))), (q3, .inl (cs 0, 30, .inl (fun _ => 0)))]) rfl ?_
  refine gy_putF (q := 0) C I dX7_init_24 xfX7_18 rfl rfl rfl rfl rfl (Nat.le_of_ble_eq_true rfl) ?_
  refine gy_w (w2 := [(h0, .inr (7, [.null, .ref q1, .ref q2, .ref q3, .null, .int 0, .int 0, .int 0])), (q1, .inl (cs 0, 4, .inl (fun _ => 0))), (q2, .inl (cs 0, 16, .inl (fun _ => 0))), (q3, .inl (cs 0, 30, .inl (fun _ => 0)))]) rfl ?_
  refine gy_aload_n C dX7_init_27 rfl ?_
  refine gy_iconst (v := 5) C dX7_init_28 (by decide) ?_
  refine gy_newaI (N := 5) C dX7_init_29 xw_aint (by decide) (by decide) (by omega) (Rk.mo (by omega) (by omega)) (fun q4 => ?_)
  refine gy_widen (k2 := 4) (n2 := 55) (by omega) (by omega) ?_
  refine gy_w (w2 := [(h0, .inr (7, [.null, .ref q1, .ref q2, .ref q3, .null, .int 0, .int 0, .int 0])), (q1, .inl (cs 0, 4, .inl (fun _ => 0))), (q2, .inl (cs 0, 16, .inl (fun _ => 0))), (q3, .inl (cs 0, 30, .inl (fun _ => 0))), (q4, .inl (cs 0, 5, .inl (fun _ => 0)))]) rfl ?_
  refine gy_putF (q := 0) C I dX7_init_31 xfX7_21 rfl rfl rfl rfl rfl (Nat.le_of_ble_eq_true rfl) ?_
  refine gy_w (w2 := [(h0, .inr (7, [.null, .ref q1, .ref q2, .ref q3, .ref q4, .int 0, .int 0, .int 0])), (q1, .inl (cs 0, 4, .inl (fun _ => 0))), (q2, .inl (cs 0, 16, .inl (fun _ => 0))), (q3, .inl (cs 0, 30, .inl (fun _ => 0))), (q4, .inl (cs 0, 5, .inl (fun _ => 0)))]) rfl ?_
  refine gy_aload_n C dX7_init_34 rfl ?_
  refine gy_aload_n C dX7_init_35 rfl ?_
  refine gy_putF (q := 0) C I dX7_init_36 xfX7_24 rfl rfl rfl rfl rfl (Nat.le_of_ble_eq_true rfl) ?_
  refine gy_w (w2 := [(h0, .inr (7, [.ref a1, .ref q1, .ref q2, .ref q3, .ref q4, .int 0, .int 0, .int 0])), (q1, .inl (cs 0, 4, .inl (fun _ => 0))), (q2, .inl (cs 0, 16, .inl (fun _ => 0))), (q3, .inl (cs 0, 30, .inl (fun _ => 0))), (q4, .inl (cs 0, 5, .inl (fun _ => 0)))]) rfl ?_
  exact gy_ret C E dX7_init_39 rfl ⟨rfl, q1, q2, q3, q4, rfl⟩
abbrev mX4_init : gz_M := (yX4_init, cX4_init, 2, none)
theorem dX4_init_0 : decode mX4_init.2.1 0 = .ok (.aload_n 0, 1) := by decide +kernel
theorem dX4_init_1 : decode mX4_init.2.1 1 = .ok (.invokespecial 3, 3) := by decide +kernel
theorem dX4_init_4 : decode mX4_init.2.1 4 = .ok (.aload_n 0, 1) := by decide +kernel
theorem dX4_init_5 : decode mX4_init.2.1 5 = .ok (.sipush 241, 3) := by decide +kernel
theorem dX4_init_8 : decode mX4_init.2.1 8 = .ok (.newarray .int, 2) := by decide +kernel
theorem dX4_init_10 : decode mX4_init.2.1 10 = .ok (.putfield 11, 3) := by decide +kernel
theorem dX4_init_13 : decode mX4_init.2.1 13 = .ok (.aload_n 0, 1) := by decide +kernel
theorem dX4_init_14 : decode mX4_init.2.1 14 = .ok (.aload_n 1, 1) := by decide +kernel
theorem dX4_init_15 : decode mX4_init.2.1 15 = .ok (.putfield 17, 3) := by decide +kernel
theorem dX4_init_18 : decode mX4_init.2.1 18 = .ok (.return_, 1) := by decide +kernel
theorem xfX4_11 : gz_fl RX4 11 4 1 := ⟨by decide, by decide +kernel, (gz_mem 210 (by decide +kernel) (by decide +kernel))⟩
theorem xfX4_17 : gz_fl RX4 17 4 0 := ⟨by decide, by decide +kernel, (gz_mem 209 (by decide +kernel) (by decide +kernel))⟩
set_option maxRecDepth 100000 in
set_option maxHeartbeats 4000000 in
theorem kX4_init {l : Launch} {D : va_G} {cs : Nat → ClassId} (h0 a1 : Nat) : gx_K l D cs 2 mX4_init 1 241 [.ref h0, .ref a1] [(h0, .inr (4, [.null, .null, .int 0]))] (fun v w => v = none ∧ ∃ q1 : Nat, w = [(h0, .inr (4, [.ref a1, .ref q1, .int 0])), (q1, .inl (cs 0, 241, .inl (fun _ => 0)))]) := by
  refine gx_K.of 0 (by decide +kernel) rfl (fun X C E Rk I0 => ?_)
  have I := I0 rfl
  refine gy_ls (l2 := [some (.ref h0), some (.ref a1)]) rfl ?_
  refine gy_aload_n C dX4_init_0 rfl ?_
  refine gy_objInit C dX4_init_1 (gz_mem 208 (by decide +kernel) (by decide +kernel)) xw_oi xw_oc (by decide) (Nat.le_of_ble_eq_true rfl) ?_
  refine gy_aload_n C dX4_init_4 rfl ?_
  refine gy_sipush (v := 241) C dX4_init_5 (by decide) ?_
  refine gy_newaI (N := 241) C dX4_init_8 xw_aint (by decide) (by decide) (by omega) (Rk.mo (by omega) (by omega)) (fun q1 => ?_)
  refine gy_widen (k2 := 1) (n2 := 241) (by omega) (by omega) ?_
  refine gy_w (w2 := [(h0, .inr (4, [.null, .null, .int 0])), (q1, .inl (cs 0, 241, .inl (fun _ => 0)))]) rfl ?_
  refine gy_putF (q := 0) C I dX4_init_10 xfX4_11 rfl rfl rfl rfl rfl (Nat.le_of_ble_eq_true rfl) ?_
  refine gy_w (w2 := [(h0, .inr (4, [.null, .ref q1, .int 0])), (q1, .inl (cs 0, 241, .inl (fun _ => 0)))]) rfl ?_
  refine gy_aload_n C dX4_init_13 rfl ?_
  refine gy_aload_n C dX4_init_14 rfl ?_
  refine gy_putF (q := 0) C I dX4_init_15 xfX4_17 rfl rfl rfl rfl rfl (Nat.le_of_ble_eq_true rfl) ?_
  refine gy_w (w2 := [(h0, .inr (4, [.ref a1, .ref q1, .int 0])), (q1, .inl (cs 0, 241, .inl (fun _ => 0)))]) rfl ?_
  exact gy_ret C E dX4_init_18 rfl ⟨rfl, q1, rfl⟩
abbrev mX1_init : gz_M := (yX1_init, cX1_init, 2, none)
theorem dX1_init_0 : decode mX1_init.2.1 0 = .ok (.aload_n 0, 1) := by decide +kernel
theorem dX1_init_1 : decode mX1_init.2.1 1 = .ok (.invokespecial 3, 3) := by decide +kernel
theorem dX1_init_4 : decode mX1_init.2.1 4 = .ok (.aload_n 0, 1) := by decide +kernel
theorem dX1_init_5 : decode mX1_init.2.1 5 = .ok (.bipush 48, 2) := by decide +kernel
theorem dX1_init_7 : decode mX1_init.2.1 7 = .ok (.newarray .int, 2) := by decide +kernel
theorem dX1_init_9 : decode mX1_init.2.1 9 = .ok (.putfield 11, 3) := by decide +kernel
theorem dX1_init_12 : decode mX1_init.2.1 12 = .ok (.aload_n 0, 1) := by decide +kernel
theorem dX1_init_13 : decode mX1_init.2.1 13 = .ok (.aload_n 1, 1) := by decide +kernel
theorem dX1_init_14 : decode mX1_init.2.1 14 = .ok (.putfield 17, 3) := by decide +kernel
theorem dX1_init_17 : decode mX1_init.2.1 17 = .ok (.return_, 1) := by decide +kernel
theorem xfX1_11 : gz_fl RX1 11 1 1 := ⟨by decide, by decide +kernel, (gz_mem 226 (by decide +kernel) (by decide +kernel))⟩
theorem xfX1_17 : gz_fl RX1 17 1 0 := ⟨by decide, by decide +kernel, (gz_mem 225 (by decide +kernel) (by decide +kernel))⟩
set_option maxRecDepth 100000 in
set_option maxHeartbeats 4000000 in
theorem kX1_init {l : Launch} {D : va_G} {cs : Nat → ClassId} (h0 a1 : Nat) : gx_K l D cs 2 mX1_init 1 48 [.ref h0, .ref a1] [(h0, .inr (1, [.null, .null, .int 0]))] (fun v w => v = none ∧ ∃ q1 : Nat, w = [(h0, .inr (1, [.ref a1, .ref q1, .int 0])), (q1, .inl (cs 0, 48, .inl (fun _ => 0)))]) := by
  refine gx_K.of 0 (by decide +kernel) rfl (fun X C E Rk I0 => ?_)
  have I := I0 rfl
  refine gy_ls (l2 := [some (.ref h0), some (.ref a1)]) rfl ?_
  refine gy_aload_n C dX1_init_0 rfl ?_
  refine gy_objInit C dX1_init_1 (gz_mem 224 (by decide +kernel) (by decide +kernel)) xw_oi xw_oc (by decide) (Nat.le_of_ble_eq_true rfl) ?_
  refine gy_aload_n C dX1_init_4 rfl ?_
  refine gy_bipush (v := 48) C dX1_init_5 (by decide) ?_
  refine gy_newaI (N := 48) C dX1_init_7 xw_aint (by decide) (by decide) (by omega) (Rk.mo (by omega) (by omega)) (fun q1 => ?_)
  refine gy_widen (k2 := 1) (n2 := 48) (by omega) (by omega) ?_
  refine gy_w (w2 := [(h0, .inr (1, [.null, .null, .int 0])), (q1, .inl (cs 0, 48, .inl (fun _ => 0)))]) rfl ?_
  refine gy_putF (q := 0) C I dX1_init_9 xfX1_11 rfl rfl rfl rfl rfl (Nat.le_of_ble_eq_true rfl) ?_
  refine gy_w (w2 := [(h0, .inr (1, [.null, .ref q1, .int 0])), (q1, .inl (cs 0, 48, .inl (fun _ => 0)))]) rfl ?_
  refine gy_aload_n C dX1_init_12 rfl ?_
  refine gy_aload_n C dX1_init_13 rfl ?_
  refine gy_putF (q := 0) C I dX1_init_14 xfX1_17 rfl rfl rfl rfl rfl (Nat.le_of_ble_eq_true rfl) ?_
  refine gy_w (w2 := [(h0, .inr (1, [.ref a1, .ref q1, .int 0])), (q1, .inl (cs 0, 48, .inl (fun _ => 0)))]) rfl ?_
  exact gy_ret C E dX1_init_17 rfl ⟨rfl, q1, rfl⟩
abbrev mX2_init : gz_M := (yX2_init, cX2_init, 4, none)
theorem dX2_init_0 : decode mX2_init.2.1 0 = .ok (.aload_n 0, 1) := by decide +kernel
theorem dX2_init_1 : decode mX2_init.2.1 1 = .ok (.invokespecial 3, 3) := by decide +kernel
theorem dX2_init_4 : decode mX2_init.2.1 4 = .ok (.aload_n 0, 1) := by decide +kernel
theorem dX2_init_5 : decode mX2_init.2.1 5 = .ok (.bipush 30, 2) := by decide +kernel
theorem dX2_init_7 : decode mX2_init.2.1 7 = .ok (.newarray .int, 2) := by decide +kernel
theorem dX2_init_9 : decode mX2_init.2.1 9 = .ok (.putfield 11, 3) := by decide +kernel
theorem dX2_init_12 : decode mX2_init.2.1 12 = .ok (.aload_n 0, 1) := by decide +kernel
theorem dX2_init_13 : decode mX2_init.2.1 13 = .ok (.bipush 16, 2) := by decide +kernel
theorem dX2_init_15 : decode mX2_init.2.1 15 = .ok (.newarray .int, 2) := by decide +kernel
theorem dX2_init_17 : decode mX2_init.2.1 17 = .ok (.putfield 17, 3) := by decide +kernel
theorem dX2_init_20 : decode mX2_init.2.1 20 = .ok (.aload_n 0, 1) := by decide +kernel
theorem dX2_init_21 : decode mX2_init.2.1 21 = .ok (.bipush 16, 2) := by decide +kernel
theorem dX2_init_23 : decode mX2_init.2.1 23 = .ok (.newarray .int, 2) := by decide +kernel
theorem dX2_init_25 : decode mX2_init.2.1 25 = .ok (.putfield 20, 3) := by decide +kernel
theorem dX2_init_28 : decode mX2_init.2.1 28 = .ok (.aload_n 0, 1) := by decide +kernel
theorem dX2_init_29 : decode mX2_init.2.1 29 = .ok (.aload_n 1, 1) := by decide +kernel
theorem dX2_init_30 : decode mX2_init.2.1 30 = .ok (.putfield 23, 3) := by decide +kernel
theorem dX2_init_33 : decode mX2_init.2.1 33 = .ok (.aload_n 0, 1) := by decide +kernel
theorem dX2_init_34 : decode mX2_init.2.1 34 = .ok (.aload_n 2, 1) := by decide +kernel
theorem dX2_init_35 : decode mX2_init.2.1 35 = .ok (.putfield 27, 3) := by decide +kernel
theorem dX2_init_38 : decode mX2_init.2.1 38 = .ok (.aload_n 0, 1) := by decide +kernel
theorem dX2_init_39 : decode mX2_init.2.1 39 = .ok (.aload_n 3, 1) := by decide +kernel
theorem dX2_init_40 : decode mX2_init.2.1 40 = .ok (.putfield 30, 3) := by decide +kernel
theorem dX2_init_43 : decode mX2_init.2.1 43 = .ok (.return_, 1) := by decide +kernel
theorem xfX2_11 : gz_fl RX2 11 2 6 := ⟨by decide, by decide +kernel, (gz_mem 324 (by decide +kernel) (by decide +kernel))⟩
theorem xfX2_17 : gz_fl RX2 17 2 7 := ⟨by decide, by decide +kernel, (gz_mem 325 (by decide +kernel) (by decide +kernel))⟩
theorem xfX2_20 : gz_fl RX2 20 2 8 := ⟨by decide, by decide +kernel, (gz_mem 326 (by decide +kernel) (by decide +kernel))⟩
theorem xfX2_23 : gz_fl RX2 23 2 2 := ⟨by decide, by decide +kernel, (gz_mem 320 (by decide +kernel) (by decide +kernel))⟩
theorem xfX2_27 : gz_fl RX2 27 2 3 := ⟨by decide, by decide +kernel, (gz_mem 321 (by decide +kernel) (by decide +kernel))⟩
theorem xfX2_30 : gz_fl RX2 30 2 4 := ⟨by decide, by decide +kernel, (gz_mem 322 (by decide +kernel) (by decide +kernel))⟩
set_option maxRecDepth 100000 in
set_option maxHeartbeats 4000000 in
theorem kX2_init {l : Launch} {D : va_G} {cs : Nat → ClassId} (h0 a1 a2 a3 : Nat) : gx_K l D cs 2 mX2_init 3 62 [.ref h0, .ref a1, .ref a2, .ref a3] [(h0, .inr (2, [.int 0, .int 0, .null, .null, .null, .int 0, .null, .null, .null]))] (fun v w => v = none ∧ ∃ q1 q2 q3 : Nat, w = [(h0, .inr (2, [.int 0, .int 0, .ref a1, .ref a2, .ref a3, .int 0, .ref q1, .ref q2, .ref q3])), (q1, .inl (cs 0, 30, .inl (fun _ => 0))), (q2, .inl (cs 0, 16, .inl (fun _ => 0))), (q3, .inl (cs 0, 16, .inl (fun _ => 0)))]) := by
  refine gx_K.of 0 (by decide +kernel) rfl (fun X C E Rk I0 => ?_)
  have I := I0 rfl
  refine gy_ls (l2 := [some (.ref h0), some (.ref a1), some (.ref a2), some (.ref a3)]) rfl ?_
  refine gy_aload_n C dX2_init_0 rfl ?_
  refine gy_objInit C dX2_init_1 (gz_mem 315 (by decide +kernel) (by decide +kernel)) xw_oi xw_oc (by decide) (Nat.le_of_ble_eq_true rfl) ?_
  refine gy_aload_n C dX2_init_4 rfl ?_
  refine gy_bipush (v := 30) C dX2_init_5 (by decide) ?_
  refine gy_newaI (N := 30) C dX2_init_7 xw_aint (by decide) (by decide) (by omega) (Rk.mo (by omega) (by omega)) (fun q1 => ?_)
  refine gy_widen (k2 := 1) (n2 := 30) (by omega) (by omega) ?_
  refine gy_w (w2 := [(h0, .inr (2, [.int 0, .int 0, .null, .null, .null, .int 0, .null, .null, .null])), (q1, .inl (cs 0, 30, .inl (fun _ => 0)))]) rfl ?_
  refine gy_putF (q := 0) C I dX2_init_9 xfX2_11 rfl rfl rfl rfl rfl (Nat.le_of_ble_eq_true rfl) ?_
  refine gy_w (w2 := [(h0, .inr (2, [.int 0, .int 0, .null, .null, .null, .int 0, .ref q1, .null, .null])), (q1, .inl (cs 0, 30, .inl (fun _ => 0)))]) rfl ?_
  refine gy_aload_n C dX2_init_12 rfl ?_
  refine gy_bipush (v := 16) C dX2_init_13 (by decide) ?_
  refine gy_newaI (N := 16) C dX2_init_15 xw_aint (by decide) (by decide) (by omega) (Rk.mo (by omega) (by omega)) (fun q2 => ?_)
  refine gy_widen (k2 := 2) (n2 := 46) (by omega) (by omega) ?_
  refine gy_w (w2 := [(h0, .inr (2, [.int 0, .int 0, .null, .null, .null, .int 0, .ref q1, .null, .null])), (q1, .inl (cs 0, 30, .inl (fun _ => 0))), (q2, .inl (cs 0, 16, .inl (fun _ => 0)))]) rfl ?_
  refine gy_putF (q := 0) C I dX2_init_17 xfX2_17 rfl rfl rfl rfl rfl (Nat.le_of_ble_eq_true rfl) ?_
  refine gy_w (w2 := [(h0, .inr (2, [.int 0, .int 0, .null, .null, .null, .int 0, .ref q1, .ref q2, .null])), (q1, .inl (cs 0, 30, .inl (fun _ => 0))), (q2, .inl (cs 0, 16, .inl (fun _ => 0)))]) rfl ?_
  refine gy_aload_n C dX2_init_20 rfl ?_
  refine gy_bipush (v := 16) C dX2_init_21 (by decide) ?_
  refine gy_newaI (N := 16) C dX2_init_23 xw_aint (by decide) (by decide) (by omega) (Rk.mo (by omega) (by omega)) (fun q3 => ?_)
  refine gy_widen (k2 := 3) (n2 := 62) (by omega) (by omega) ?_
  refine gy_w (w2 := [(h0, .inr (2, [.int 0, .int 0, .null, .null, .null, .int 0, .ref q1, .ref q2, .null])), (q1, .inl (cs 0, 30, .inl (fun _ => 0))), (q2, .inl (cs 0, 16, .inl (fun _ => 0))), (q3, .inl (cs 0, 16, .inl (fun _ => 0)))]) rfl ?_
  refine gy_putF (q := 0) C I dX2_init_25 xfX2_20 rfl rfl rfl rfl rfl (Nat.le_of_ble_eq_true rfl) ?_
  refine gy_w (w2 := [(h0, .inr (2, [.int 0, .int 0, .null, .null, .null, .int 0, .ref q1, .ref q2, .ref q3])), (q1, .inl (cs 0, 30, .inl (fun _ => 0))), (q2, .inl (cs 0, 16, .inl (fun _ => 0))), (q3, .inl (cs 0, 16, .inl (fun _ => 0)))]) rfl ?_
  refine gy_aload_n C dX2_init_28 rfl ?_
  refine gy_aload_n C dX2_init_29 rfl ?_
  refine gy_putF (q := 0) C I dX2_init_30 xfX2_23 rfl rfl rfl rfl rfl (Nat.le_of_ble_eq_true rfl) ?_
  refine gy_w (w2 := [(h0, .inr (2, [.int 0, .int 0, .ref a1, .null, .null, .int 0, .ref q1, .ref q2, .ref q3])), (q1, .inl (cs 0, 30, .inl (fun _ => 0))), (q2, .inl (cs 0, 16, .inl (fun _ => 0))), (q3, .inl (cs 0, 16, .inl (fun _ => 0)))]) rfl ?_
  refine gy_aload_n C dX2_init_33 rfl ?_
  refine gy_aload_n C dX2_init_34 rfl ?_
  refine gy_putF (q := 0) C I dX2_init_35 xfX2_27 rfl rfl rfl rfl rfl (Nat.le_of_ble_eq_true rfl) ?_
  refine gy_w (w2 := [(h0, .inr (2, [.int 0, .int 0, .ref a1, .ref a2, .null, .int 0, .ref q1, .ref q2, .ref q3])), (q1, .inl (cs 0, 30, .inl (fun _ => 0))), (q2, .inl (cs 0, 16, .inl (fun _ => 0))), (q3, .inl (cs 0, 16, .inl (fun _ => 0)))]) rfl ?_
  refine gy_aload_n C dX2_init_38 rfl ?_
  refine gy_aload_n C dX2_init_39 rfl ?_
  refine gy_putF (q := 0) C I dX2_init_40 xfX2_30 rfl rfl rfl rfl rfl (Nat.le_of_ble_eq_true rfl) ?_
  refine gy_w (w2 := [(h0, .inr (2, [.int 0, .int 0, .ref a1, .ref a2, .ref a3, .int 0, .ref q1, .ref q2, .ref q3])), (q1, .inl (cs 0, 30, .inl (fun _ => 0))), (q2, .inl (cs 0, 16, .inl (fun _ => 0))), (q3, .inl (cs 0, 16, .inl (fun _ => 0)))]) rfl ?_
  exact gy_ret C E dX2_init_43 rfl ⟨rfl, q1, q2, q3, rfl⟩
abbrev mX8_init : gz_M := (yX8_init, cX8_init, 4, none)
theorem dX8_init_0 : decode mX8_init.2.1 0 = .ok (.aload_n 0, 1) := by decide +kernel
theorem dX8_init_1 : decode mX8_init.2.1 1 = .ok (.invokespecial 5, 3) := by decide +kernel
theorem dX8_init_4 : decode mX8_init.2.1 4 = .ok (.aload_n 0, 1) := by decide +kernel
theorem dX8_init_5 : decode mX8_init.2.1 5 = .ok (.bipush 10, 2) := by decide +kernel
theorem dX8_init_7 : decode mX8_init.2.1 7 = .ok (.newarray .int, 2) := by decide +kernel
theorem dX8_init_9 : decode mX8_init.2.1 9 = .ok (.putfield 11, 3) := by decide +kernel
theorem dX8_init_12 : decode mX8_init.2.1 12 = .ok (.aload_n 0, 1) := by decide +kernel
theorem dX8_init_13 : decode mX8_init.2.1 13 = .ok (.bipush 10, 2) := by decide +kernel
theorem dX8_init_15 : decode mX8_init.2.1 15 = .ok (.newarray .int, 2) := by decide +kernel
theorem dX8_init_17 : decode mX8_init.2.1 17 = .ok (.putfield 15, 3) := by decide +kernel
theorem dX8_init_20 : decode mX8_init.2.1 20 = .ok (.aload_n 0, 1) := by decide +kernel
theorem dX8_init_21 : decode mX8_init.2.1 21 = .ok (.bipush 10, 2) := by decide +kernel
theorem dX8_init_23 : decode mX8_init.2.1 23 = .ok (.newarray .int, 2) := by decide +kernel
theorem dX8_init_25 : decode mX8_init.2.1 25 = .ok (.putfield 18, 3) := by decide +kernel
theorem dX8_init_28 : decode mX8_init.2.1 28 = .ok (.aload_n 0, 1) := by decide +kernel
theorem dX8_init_29 : decode mX8_init.2.1 29 = .ok (.sipush 496, 3) := by decide +kernel
theorem dX8_init_32 : decode mX8_init.2.1 32 = .ok (.newarray .int, 2) := by decide +kernel
theorem dX8_init_34 : decode mX8_init.2.1 34 = .ok (.putfield 21, 3) := by decide +kernel
theorem dX8_init_37 : decode mX8_init.2.1 37 = .ok (.aload_n 0, 1) := by decide +kernel
theorem dX8_init_38 : decode mX8_init.2.1 38 = .ok (.bipush 30, 2) := by decide +kernel
theorem dX8_init_40 : decode mX8_init.2.1 40 = .ok (.newarray .int, 2) := by decide +kernel
theorem dX8_init_42 : decode mX8_init.2.1 42 = .ok (.putfield 26, 3) := by decide +kernel
theorem dX8_init_45 : decode mX8_init.2.1 45 = .ok (.aload_n 0, 1) := by decide +kernel
theorem dX8_init_46 : decode mX8_init.2.1 46 = .ok (.aload_n 1, 1) := by decide +kernel
theorem dX8_init_47 : decode mX8_init.2.1 47 = .ok (.putfield 29, 3) := by decide +kernel
theorem dX8_init_50 : decode mX8_init.2.1 50 = .ok (.aload_n 0, 1) := by decide +kernel
theorem dX8_init_51 : decode mX8_init.2.1 51 = .ok (.aload_n 2, 1) := by decide +kernel
theorem dX8_init_52 : decode mX8_init.2.1 52 = .ok (.putfield 33, 3) := by decide +kernel
theorem dX8_init_55 : decode mX8_init.2.1 55 = .ok (.aload_n 0, 1) := by decide +kernel
theorem dX8_init_56 : decode mX8_init.2.1 56 = .ok (.aload_n 3, 1) := by decide +kernel
theorem dX8_init_57 : decode mX8_init.2.1 57 = .ok (.putfield 36, 3) := by decide +kernel
theorem dX8_init_60 : decode mX8_init.2.1 60 = .ok (.return_, 1) := by decide +kernel
theorem xfX8_11 : gz_fl RX8 11 8 4 := ⟨by decide, by decide +kernel, (gz_mem 357 (by decide +kernel) (by decide +kernel))⟩
theorem xfX8_15 : gz_fl RX8 15 8 5 := ⟨by decide, by decide +kernel, (gz_mem 358 (by decide +kernel) (by decide +kernel))⟩
theorem xfX8_18 : gz_fl RX8 18 8 6 := ⟨by decide, by decide +kernel, (gz_mem 359 (by decide +kernel) (by decide +kernel))⟩
theorem xfX8_21 : gz_fl RX8 21 8 7 := ⟨by decide, by decide +kernel, (gz_mem 360 (by decide +kernel) (by decide +kernel))⟩
theorem xfX8_26 : gz_fl RX8 26 8 8 := ⟨by decide, by decide +kernel, (gz_mem 361 (by decide +kernel) (by decide +kernel))⟩
theorem xfX8_29 : gz_fl RX8 29 8 1 := ⟨by decide, by decide +kernel, (gz_mem 354 (by decide +kernel) (by decide +kernel))⟩
theorem xfX8_33 : gz_fl RX8 33 8 2 := ⟨by decide, by decide +kernel, (gz_mem 355 (by decide +kernel) (by decide +kernel))⟩
theorem xfX8_36 : gz_fl RX8 36 8 3 := ⟨by decide, by decide +kernel, (gz_mem 356 (by decide +kernel) (by decide +kernel))⟩
set_option maxRecDepth 100000 in
set_option maxHeartbeats 4000000 in
theorem kX8_init {l : Launch} {D : va_G} {cs : Nat → ClassId} (h0 a1 a2 a3 : Nat) : gx_K l D cs 2 mX8_init 5 556 [.ref h0, .ref a1, .ref a2, .ref a3] [(h0, .inr (8, [.int 0, .null, .null, .null, .null, .null, .null, .null, .null]))] (fun v w => v = none ∧ ∃ q1 q2 q3 q4 q5 : Nat, w = [(h0, .inr (8, [.int 0, .ref a1, .ref a2, .ref a3, .ref q1, .ref q2, .ref q3, .ref q4, .ref q5])), (q1, .inl (cs 0, 10, .inl (fun _ => 0))), (q2, .inl (cs 0, 10, .inl (fun _ => 0))), (q3, .inl (cs 0, 10, .inl (fun _ => 0))), (q4, .inl (cs 0, 496, .inl (fun _ => 0))), (q5, .inl (cs 0, 30, .inl (fun _ => 0)))]) := by
  refine gx_K.of 0 (by decide +kernel) rfl (fun X C E Rk I0 => ?_)
  have I := I0 rfl
  refine gy_ls (l2 := [some (.ref h0), some (.ref a1), some (.ref a2), some (.ref a3)]) rfl ?_
  refine gy_aload_n C dX8_init_0 rfl ?_
  refine gy_objInit C dX8_init_1 (gz_mem 351 (by decide +kernel) (by decide +kernel)) xw_oi xw_oc (by decide) (Nat.le_of_ble_eq_true rfl) ?_
  refine gy_aload_n C dX8_init_4 rfl ?_
  refine gy_bipush (v := 10) C dX8_init_5 (by decide) ?_
  refine gy_newaI (N := 10) C dX8_init_7 xw_aint (by decide) (by decide) (by omega) (Rk.mo (by omega) (by omega)) (fun q1 => ?_)
  refine gy_widen (k2 := 1) (n2 := 10) (by omega) (by omega) ?_
  refine gy_w (w2 := [(h0, .inr (8, [.int 0, .null, .null, .null, .null, .null, .null, .null, .null])), (q1, .inl (cs 0, 10, .inl (fun _ => 0)))]) rfl ?_
  refine gy_putF (q := 0) C I dX8_init_9 xfX8_11 rfl rfl rfl rfl rfl (Nat.le_of_ble_eq_true rfl) ?_
  refine gy_w (w2 := [(h0, .inr (8, [.int 0, .null, .null, .null, .ref q1, .null, .null, .null, .null])), (q1, .inl (cs 0, 10, .inl (fun _ => 0)))]) rfl ?_
  refine gy_aload_n C dX8_init_12 rfl ?_
  refine gy_bipush (v := 10) C dX8_init_13 (by decide) ?_
  refine gy_newaI (N := 10) C dX8_init_15 xw_aint (by decide) (by decide) (by omega) (Rk.mo (by omega) (by omega)) (fun q2 => ?_)
  refine gy_widen (k2 := 2) (n2 := 20) (by omega) (by omega) ?_
  refine gy_w (w2 := [(h0, .inr (8, [.int 0, .null, .null, .null, .ref q1, .null, .null, .null, .null])), (q1, .inl (cs 0, 10, .inl (fun _ => 0))), (q2, .inl (cs 0, 10, .inl (fun _ => 0)))]) rfl ?_
  refine gy_putF (q := 0) C I dX8_init_17 xfX8_15 rfl rfl rfl rfl rfl (Nat.le_of_ble_eq_true rfl) ?_
  refine gy_w (w2 := [(h0, .inr (8, [.int 0, .null, .null, .null, .ref q1, .ref q2, .null, .null, .null])), (q1, .inl (cs 0, 10, .inl (fun _ => 0))), (q2, .inl (cs 0, 10, .inl (fun _ => 0)))]) rfl ?_
  refine gy_aload_n C dX8_init_20 rfl ?_
  refine gy_bipush (v := 10) C dX8_init_21 (by decide) ?_
  refine gy_newaI (N := 10) C dX8_init_23 xw_aint (by decide) (by decide) (by omega) (Rk.mo (by omega) (by omega)) (fun q3 => ?_)
  refine gy_widen (k2 := 3) (n2 := 30) (by omega) (by omega) ?_
  refine gy_w (w2 := [(h0, .inr (8, [.int 0, .null, .null, .null, .ref q1, .ref q2, .null, .null, .null])), (q1, .inl (cs 0, 10, .inl (fun _ => 0))), (q2, .inl (cs 0, 10, .inl (fun _ => 0))), (q3, .inl (cs 0, 10, .inl (fun _ => 0)))]) rfl ?_
  refine gy_putF (q := 0) C I dX8_init_25 xfX8_18 rfl rfl rfl rfl rfl (Nat.le_of_ble_eq_true rfl) ?_
  refine gy_w (w2 := [(h0, .inr (8, [.int 0, .null, .null, .null, .ref q1, .ref q2, .ref q3, .null, .null])), (q1, .inl (cs 0, 10, .inl (fun _ => 0))), (q2, .inl (cs 0, 10, .inl (fun _ => 0))), (q3, .inl (cs 0, 10, .inl (fun _ => 0)))]) rfl ?_
  refine gy_aload_n C dX8_init_28 rfl ?_
  refine gy_sipush (v := 496) C dX8_init_29 (by decide) ?_
  refine gy_newaI (N := 496) C dX8_init_32 xw_aint (by decide) (by decide) (by omega) (Rk.mo (by omega) (by omega)) (fun q4 => ?_)
  refine gy_widen (k2 := 4) (n2 := 526) (by omega) (by omega) ?_
  refine gy_w (w2 := [(h0, .inr (8, [.int 0, .null, .null, .null, .ref q1, .ref q2, .ref q3, .null, .null])), (q1, .inl (cs 0, 10, .inl (fun _ => 0))), (q2, .inl (cs 0, 10, .inl (fun _ => 0))), (q3, .inl (cs 0, 10, .inl (fun _ => 0))), (q4, .inl (cs 0, 496, .inl (fun _ => 0)))]) rfl ?_
  refine gy_putF (q := 0) C I dX8_init_34 xfX8_21 rfl rfl rfl rfl rfl (Nat.le_of_ble_eq_true rfl) ?_
  refine gy_w (w2 := [(h0, .inr (8, [.int 0, .null, .null, .null, .ref q1, .ref q2, .ref q3, .ref q4, .null])), (q1, .inl (cs 0, 10, .inl (fun _ => 0))), (q2, .inl (cs 0, 10, .inl (fun _ => 0))), (q3, .inl (cs 0, 10, .inl (fun _ => 0))), (q4, .inl (cs 0, 496, .inl (fun _ => 0)))]) rfl ?_
  refine gy_aload_n C dX8_init_37 rfl ?_
  refine gy_bipush (v := 30) C dX8_init_38 (by decide) ?_
  refine gy_newaI (N := 30) C dX8_init_40 xw_aint (by decide) (by decide) (by omega) (Rk.mo (by omega) (by omega)) (fun q5 => ?_)
  refine gy_widen (k2 := 5) (n2 := 556) (by omega) (by omega) ?_
  refine gy_w (w2 := [(h0, .inr (8, [.int 0, .null, .null, .null, .ref q1, .ref q2, .ref q3, .ref q4, .null])), (q1, .inl (cs 0, 10, .inl (fun _ => 0))), (q2, .inl (cs 0, 10, .inl (fun _ => 0))), (q3, .inl (cs 0, 10, .inl (fun _ => 0))), (q4, .inl (cs 0, 496, .inl (fun _ => 0))), (q5, .inl (cs 0, 30, .inl (fun _ => 0)))]) rfl ?_
  refine gy_putF (q := 0) C I dX8_init_42 xfX8_26 rfl rfl rfl rfl rfl (Nat.le_of_ble_eq_true rfl) ?_
  refine gy_w (w2 := [(h0, .inr (8, [.int 0, .null, .null, .null, .ref q1, .ref q2, .ref q3, .ref q4, .ref q5])), (q1, .inl (cs 0, 10, .inl (fun _ => 0))), (q2, .inl (cs 0, 10, .inl (fun _ => 0))), (q3, .inl (cs 0, 10, .inl (fun _ => 0))), (q4, .inl (cs 0, 496, .inl (fun _ => 0))), (q5, .inl (cs 0, 30, .inl (fun _ => 0)))]) rfl ?_
  refine gy_aload_n C dX8_init_45 rfl ?_
  refine gy_aload_n C dX8_init_46 rfl ?_
  refine gy_putF (q := 0) C I dX8_init_47 xfX8_29 rfl rfl rfl rfl rfl (Nat.le_of_ble_eq_true rfl) ?_
  refine gy_w (w2 := [(h0, .inr (8, [.int 0, .ref a1, .null, .null, .ref q1, .ref q2, .ref q3, .ref q4, .ref q5])), (q1, .inl (cs 0, 10, .inl (fun _ => 0))), (q2, .inl (cs 0, 10, .inl (fun _ => 0))), (q3, .inl (cs 0, 10, .inl (fun _ => 0))), (q4, .inl (cs 0, 496, .inl (fun _ => 0))), (q5, .inl (cs 0, 30, .inl (fun _ => 0)))]) rfl ?_
  refine gy_aload_n C dX8_init_50 rfl ?_
  refine gy_aload_n C dX8_init_51 rfl ?_
  refine gy_putF (q := 0) C I dX8_init_52 xfX8_33 rfl rfl rfl rfl rfl (Nat.le_of_ble_eq_true rfl) ?_
  refine gy_w (w2 := [(h0, .inr (8, [.int 0, .ref a1, .ref a2, .null, .ref q1, .ref q2, .ref q3, .ref q4, .ref q5])), (q1, .inl (cs 0, 10, .inl (fun _ => 0))), (q2, .inl (cs 0, 10, .inl (fun _ => 0))), (q3, .inl (cs 0, 10, .inl (fun _ => 0))), (q4, .inl (cs 0, 496, .inl (fun _ => 0))), (q5, .inl (cs 0, 30, .inl (fun _ => 0)))]) rfl ?_
  refine gy_aload_n C dX8_init_55 rfl ?_
  refine gy_aload_n C dX8_init_56 rfl ?_
  refine gy_putF (q := 0) C I dX8_init_57 xfX8_36 rfl rfl rfl rfl rfl (Nat.le_of_ble_eq_true rfl) ?_
  refine gy_w (w2 := [(h0, .inr (8, [.int 0, .ref a1, .ref a2, .ref a3, .ref q1, .ref q2, .ref q3, .ref q4, .ref q5])), (q1, .inl (cs 0, 10, .inl (fun _ => 0))), (q2, .inl (cs 0, 10, .inl (fun _ => 0))), (q3, .inl (cs 0, 10, .inl (fun _ => 0))), (q4, .inl (cs 0, 496, .inl (fun _ => 0))), (q5, .inl (cs 0, 30, .inl (fun _ => 0)))]) rfl ?_
  exact gy_ret C E dX8_init_60 rfl ⟨rfl, q1, q2, q3, q4, q5, rfl⟩
abbrev mX3_init : gz_M := (yX3_init, cX3_init, 2, none)
theorem dX3_init_0 : decode mX3_init.2.1 0 = .ok (.aload_n 0, 1) := by decide +kernel
theorem dX3_init_1 : decode mX3_init.2.1 1 = .ok (.invokespecial 3, 3) := by decide +kernel
theorem dX3_init_4 : decode mX3_init.2.1 4 = .ok (.aload_n 0, 1) := by decide +kernel
theorem dX3_init_5 : decode mX3_init.2.1 5 = .ok (.aload_n 1, 1) := by decide +kernel
theorem dX3_init_6 : decode mX3_init.2.1 6 = .ok (.putfield 9, 3) := by decide +kernel
theorem dX3_init_9 : decode mX3_init.2.1 9 = .ok (.return_, 1) := by decide +kernel
theorem xfX3_9 : gz_fl RX3 9 3 0 := ⟨by decide, by decide +kernel, (gz_mem 655 (by decide +kernel) (by decide +kernel))⟩
set_option maxRecDepth 100000 in
set_option maxHeartbeats 4000000 in
theorem kX3_init {l : Launch} {D : va_G} {cs : Nat → ClassId} (h0 a1 : Nat) : gx_K l D cs 2 mX3_init 0 0 [.ref h0, .ref a1] [(h0, .inr (3, [.null]))] (fun v w => v = none ∧ w = [(h0, .inr (3, [.ref a1]))]) := by
  refine gx_K.of 0 (by decide +kernel) rfl (fun X C E Rk I0 => ?_)
  have I := I0 rfl
  refine gy_ls (l2 := [some (.ref h0), some (.ref a1)]) rfl ?_
  refine gy_aload_n C dX3_init_0 rfl ?_
  refine gy_objInit C dX3_init_1 (gz_mem 654 (by decide +kernel) (by decide +kernel)) xw_oi xw_oc (by decide) (Nat.le_of_ble_eq_true rfl) ?_
  refine gy_aload_n C dX3_init_4 rfl ?_
  refine gy_aload_n C dX3_init_5 rfl ?_
  refine gy_putF (q := 0) C I dX3_init_6 xfX3_9 rfl rfl rfl rfl rfl (Nat.le_of_ble_eq_true rfl) ?_
  refine gy_w (w2 := [(h0, .inr (3, [.ref a1]))]) rfl ?_
  exact gy_ret C E dX3_init_9 rfl ⟨rfl, rfl⟩
abbrev mX12_init : gz_M := (yX12_init, cX12_init, 1, none)
theorem dX12_init_0 : decode mX12_init.2.1 0 = .ok (.aload_n 0, 1) := by decide +kernel
theorem dX12_init_1 : decode mX12_init.2.1 1 = .ok (.invokespecial 3, 3) := by decide +kernel
theorem dX12_init_4 : decode mX12_init.2.1 4 = .ok (.aload_n 0, 1) := by decide +kernel
theorem dX12_init_5 : decode mX12_init.2.1 5 = .ok (.sipush 240, 3) := by decide +kernel
theorem dX12_init_8 : decode mX12_init.2.1 8 = .ok (.newarray .byte, 2) := by decide +kernel
theorem dX12_init_10 : decode mX12_init.2.1 10 = .ok (.putfield 9, 3) := by decide +kernel
theorem dX12_init_13 : decode mX12_init.2.1 13 = .ok (.aload_n 0, 1) := by decide +kernel
theorem dX12_init_14 : decode mX12_init.2.1 14 = .ok (.sipush 960, 3) := by decide +kernel
theorem dX12_init_17 : decode mX12_init.2.1 17 = .ok (.newarray .byte, 2) := by decide +kernel
theorem dX12_init_19 : decode mX12_init.2.1 19 = .ok (.putfield 13, 3) := by decide +kernel
theorem dX12_init_22 : decode mX12_init.2.1 22 = .ok (.aload_n 0, 1) := by decide +kernel
theorem dX12_init_23 : decode mX12_init.2.1 23 = .ok (.iconst 4, 1) := by decide +kernel
theorem dX12_init_24 : decode mX12_init.2.1 24 = .ok (.newarray .int, 2) := by decide +kernel
theorem dX12_init_26 : decode mX12_init.2.1 26 = .ok (.putfield 16, 3) := by decide +kernel
theorem dX12_init_29 : decode mX12_init.2.1 29 = .ok (.aload_n 0, 1) := by decide +kernel
theorem dX12_init_30 : decode mX12_init.2.1 30 = .ok (.sipush 128, 3) := by decide +kernel
theorem dX12_init_33 : decode mX12_init.2.1 33 = .ok (.newarray .int, 2) := by decide +kernel
theorem dX12_init_35 : decode mX12_init.2.1 35 = .ok (.putfield 20, 3) := by decide +kernel
theorem dX12_init_38 : decode mX12_init.2.1 38 = .ok (.aload_n 0, 1) := by decide +kernel
theorem dX12_init_39 : decode mX12_init.2.1 39 = .ok (.aload_n 0, 1) := by decide +kernel
theorem dX12_init_40 : decode mX12_init.2.1 40 = .ok (.getfield 9, 3) := by decide +kernel
theorem dX12_init_43 : decode mX12_init.2.1 43 = .ok (.putfield 23, 3) := by decide +kernel
theorem dX12_init_46 : decode mX12_init.2.1 46 = .ok (.aload_n 0, 1) := by decide +kernel
theorem dX12_init_47 : decode mX12_init.2.1 47 = .ok (.ldc 26, 2) := by decide +kernel
theorem dX12_init_49 : decode mX12_init.2.1 49 = .ok (.putfield 28, 3) := by decide +kernel
theorem dX12_init_52 : decode mX12_init.2.1 52 = .ok (.aload_n 0, 1) := by decide +kernel
theorem dX12_init_53 : decode mX12_init.2.1 53 = .ok (.ldc 32, 2) := by decide +kernel
theorem dX12_init_55 : decode mX12_init.2.1 55 = .ok (.putfield 34, 3) := by decide +kernel
theorem dX12_init_58 : decode mX12_init.2.1 58 = .ok (.aload_n 0, 1) := by decide +kernel
theorem dX12_init_59 : decode mX12_init.2.1 59 = .ok (.iconst 4, 1) := by decide +kernel
theorem dX12_init_60 : decode mX12_init.2.1 60 = .ok (.newarray .int, 2) := by decide +kernel
theorem dX12_init_62 : decode mX12_init.2.1 62 = .ok (.putfield 37, 3) := by decide +kernel
theorem dX12_init_65 : decode mX12_init.2.1 65 = .ok (.aload_n 0, 1) := by decide +kernel
theorem dX12_init_66 : decode mX12_init.2.1 66 = .ok (.iconst 4, 1) := by decide +kernel
theorem dX12_init_67 : decode mX12_init.2.1 67 = .ok (.newarray .int, 2) := by decide +kernel
theorem dX12_init_69 : decode mX12_init.2.1 69 = .ok (.putfield 40, 3) := by decide +kernel
theorem dX12_init_72 : decode mX12_init.2.1 72 = .ok (.aload_n 0, 1) := by decide +kernel
theorem dX12_init_73 : decode mX12_init.2.1 73 = .ok (.bipush 16, 2) := by decide +kernel
theorem dX12_init_75 : decode mX12_init.2.1 75 = .ok (.newarray .int, 2) := by decide +kernel
theorem dX12_init_77 : decode mX12_init.2.1 77 = .ok (.putfield 43, 3) := by decide +kernel
theorem dX12_init_80 : decode mX12_init.2.1 80 = .ok (.aload_n 0, 1) := by decide +kernel
theorem dX12_init_81 : decode mX12_init.2.1 81 = .ok (.bipush 16, 2) := by decide +kernel
theorem dX12_init_83 : decode mX12_init.2.1 83 = .ok (.newarray .int, 2) := by decide +kernel
theorem dX12_init_85 : decode mX12_init.2.1 85 = .ok (.putfield 46, 3) := by decide +kernel
theorem dX12_init_88 : decode mX12_init.2.1 88 = .ok (.aload_n 0, 1) := by decide +kernel
theorem dX12_init_89 : decode mX12_init.2.1 89 = .ok (.bipush 30, 2) := by decide +kernel
theorem dX12_init_91 : decode mX12_init.2.1 91 = .ok (.newarray .int, 2) := by decide +kernel
theorem dX12_init_93 : decode mX12_init.2.1 93 = .ok (.putfield 49, 3) := by decide +kernel
theorem dX12_init_96 : decode mX12_init.2.1 96 = .ok (.aload_n 0, 1) := by decide +kernel
theorem dX12_init_97 : decode mX12_init.2.1 97 = .ok (.bipush 30, 2) := by decide +kernel
theorem dX12_init_99 : decode mX12_init.2.1 99 = .ok (.newarray .int, 2) := by decide +kernel
theorem dX12_init_101 : decode mX12_init.2.1 101 = .ok (.putfield 52, 3) := by decide +kernel
theorem dX12_init_104 : decode mX12_init.2.1 104 = .ok (.aload_n 0, 1) := by decide +kernel
theorem dX12_init_105 : decode mX12_init.2.1 105 = .ok (.iconst 5, 1) := by decide +kernel
theorem dX12_init_106 : decode mX12_init.2.1 106 = .ok (.newarray .int, 2) := by decide +kernel
theorem dX12_init_108 : decode mX12_init.2.1 108 = .ok (.putfield 55, 3) := by decide +kernel
theorem dX12_init_111 : decode mX12_init.2.1 111 = .ok (.aload_n 0, 1) := by decide +kernel
theorem dX12_init_112 : decode mX12_init.2.1 112 = .ok (.sipush 240, 3) := by decide +kernel
theorem dX12_init_115 : decode mX12_init.2.1 115 = .ok (.newarray .int, 2) := by decide +kernel
theorem dX12_init_117 : decode mX12_init.2.1 117 = .ok (.putfield 58, 3) := by decide +kernel
theorem dX12_init_120 : decode mX12_init.2.1 120 = .ok (.aload_n 0, 1) := by decide +kernel
theorem dX12_init_121 : decode mX12_init.2.1 121 = .ok (.iconst 5, 1) := by decide +kernel
theorem dX12_init_122 : decode mX12_init.2.1 122 = .ok (.newarray .int, 2) := by decide +kernel
theorem dX12_init_124 : decode mX12_init.2.1 124 = .ok (.putfield 61, 3) := by decide +kernel
theorem dX12_init_127 : decode mX12_init.2.1 127 = .ok (.aload_n 0, 1) := by decide +kernel
theorem dX12_init_128 : decode mX12_init.2.1 128 = .ok (.sipush 231, 3) := by decide +kernel
theorem dX12_init_131 : decode mX12_init.2.1 131 = .ok (.newarray .int, 2) := by decide +kernel
theorem dX12_init_133 : decode mX12_init.2.1 133 = .ok (.putfield 64, 3) := by decide +kernel
theorem dX12_init_136 : decode mX12_init.2.1 136 = .ok (.aload_n 0, 1) := by decide +kernel
theorem dX12_init_137 : decode mX12_init.2.1 137 = .ok (.sipush 231, 3) := by decide +kernel
theorem dX12_init_140 : decode mX12_init.2.1 140 = .ok (.newarray .int, 2) := by decide +kernel
theorem dX12_init_142 : decode mX12_init.2.1 142 = .ok (.putfield 67, 3) := by decide +kernel
theorem dX12_init_145 : decode mX12_init.2.1 145 = .ok (.aload_n 0, 1) := by decide +kernel
theorem dX12_init_146 : decode mX12_init.2.1 146 = .ok (.iconst (-1), 1) := by decide +kernel
theorem dX12_init_147 : decode mX12_init.2.1 147 = .ok (.putfield 70, 3) := by decide +kernel
theorem dX12_init_150 : decode mX12_init.2.1 150 = .ok (.aload_n 0, 1) := by decide +kernel
theorem dX12_init_151 : decode mX12_init.2.1 151 = .ok (.iconst 3, 1) := by decide +kernel
theorem dX12_init_152 : decode mX12_init.2.1 152 = .ok (.putfield 74, 3) := by decide +kernel
theorem dX12_init_155 : decode mX12_init.2.1 155 = .ok (.aload_n 0, 1) := by decide +kernel
theorem dX12_init_156 : decode mX12_init.2.1 156 = .ok (.sipush 8191, 3) := by decide +kernel
theorem dX12_init_159 : decode mX12_init.2.1 159 = .ok (.newarray .int, 2) := by decide +kernel
theorem dX12_init_161 : decode mX12_init.2.1 161 = .ok (.putfield 77, 3) := by decide +kernel
theorem dX12_init_164 : decode mX12_init.2.1 164 = .ok (.aload_n 0, 1) := by decide +kernel
theorem dX12_init_165 : decode mX12_init.2.1 165 = .ok (.sipush 8191, 3) := by decide +kernel
theorem dX12_init_168 : decode mX12_init.2.1 168 = .ok (.newarray .int, 2) := by decide +kernel
theorem dX12_init_170 : decode mX12_init.2.1 170 = .ok (.putfield 80, 3) := by decide +kernel
theorem dX12_init_173 : decode mX12_init.2.1 173 = .ok (.aload_n 0, 1) := by decide +kernel
theorem dX12_init_174 : decode mX12_init.2.1 174 = .ok (.sipush 9240, 3) := by decide +kernel
theorem dX12_init_177 : decode mX12_init.2.1 177 = .ok (.newarray .int, 2) := by decide +kernel
theorem dX12_init_179 : decode mX12_init.2.1 179 = .ok (.putfield 83, 3) := by decide +kernel
theorem dX12_init_182 : decode mX12_init.2.1 182 = .ok (.aload_n 0, 1) := by decide +kernel
theorem dX12_init_183 : decode mX12_init.2.1 183 = .ok (.bipush 30, 2) := by decide +kernel
theorem dX12_init_185 : decode mX12_init.2.1 185 = .ok (.newarray .int, 2) := by decide +kernel
theorem dX12_init_187 : decode mX12_init.2.1 187 = .ok (.putfield 86, 3) := by decide +kernel
theorem dX12_init_190 : decode mX12_init.2.1 190 = .ok (.aload_n 0, 1) := by decide +kernel
theorem dX12_init_191 : decode mX12_init.2.1 191 = .ok (.bipush 30, 2) := by decide +kernel
theorem dX12_init_193 : decode mX12_init.2.1 193 = .ok (.newarray .int, 2) := by decide +kernel
theorem dX12_init_195 : decode mX12_init.2.1 195 = .ok (.putfield 89, 3) := by decide +kernel
theorem dX12_init_198 : decode mX12_init.2.1 198 = .ok (.aload_n 0, 1) := by decide +kernel
theorem dX12_init_199 : decode mX12_init.2.1 199 = .ok (.sipush 496, 3) := by decide +kernel
theorem dX12_init_202 : decode mX12_init.2.1 202 = .ok (.newarray .int, 2) := by decide +kernel
theorem dX12_init_204 : decode mX12_init.2.1 204 = .ok (.putfield 92, 3) := by decide +kernel
theorem dX12_init_207 : decode mX12_init.2.1 207 = .ok (.aload_n 0, 1) := by decide +kernel
theorem dX12_init_208 : decode mX12_init.2.1 208 = .ok (.bipush 30, 2) := by decide +kernel
theorem dX12_init_210 : decode mX12_init.2.1 210 = .ok (.newarray .int, 2) := by decide +kernel
theorem dX12_init_212 : decode mX12_init.2.1 212 = .ok (.putfield 95, 3) := by decide +kernel
theorem dX12_init_215 : decode mX12_init.2.1 215 = .ok (.aload_n 0, 1) := by decide +kernel
theorem dX12_init_216 : decode mX12_init.2.1 216 = .ok (.sipush 357, 3) := by decide +kernel
theorem dX12_init_219 : decode mX12_init.2.1 219 = .ok (.newarray .int, 2) := by decide +kernel
theorem dX12_init_221 : decode mX12_init.2.1 221 = .ok (.putfield 98, 3) := by decide +kernel
theorem dX12_init_224 : decode mX12_init.2.1 224 = .ok (.aload_n 0, 1) := by decide +kernel
theorem dX12_init_225 : decode mX12_init.2.1 225 = .ok (.sipush 231, 3) := by decide +kernel
theorem dX12_init_228 : decode mX12_init.2.1 228 = .ok (.newarray .int, 2) := by decide +kernel
theorem dX12_init_230 : decode mX12_init.2.1 230 = .ok (.putfield 101, 3) := by decide +kernel
theorem dX12_init_233 : decode mX12_init.2.1 233 = .ok (.return_, 1) := by decide +kernel
theorem xfX12_9 : gz_fl RX12 9 12 1 := ⟨by decide, by decide +kernel, (gz_mem 1276 (by decide +kernel) (by decide +kernel))⟩
theorem xfX12_13 : gz_fl RX12 13 12 2 := ⟨by decide, by decide +kernel, (gz_mem 1277 (by decide +kernel) (by decide +kernel))⟩
theorem xfX12_16 : gz_fl RX12 16 12 3 := ⟨by decide, by decide +kernel, (gz_mem 1278 (by decide +kernel) (by decide +kernel))⟩
theorem xfX12_20 : gz_fl RX12 20 12 4 := ⟨by decide, by decide +kernel, (gz_mem 1279 (by decide +kernel) (by decide +kernel))⟩
theorem xfX12_23 : gz_fl RX12 23 12 5 := ⟨by decide, by decide +kernel, (gz_mem 1280 (by decide +kernel) (by decide +kernel))⟩
theorem xfX12_28 : gz_fl RX12 28 12 15 := ⟨by decide, by decide +kernel, (gz_mem 1290 (by decide +kernel) (by decide +kernel))⟩
theorem xfX12_34 : gz_fl RX12 34 12 16 := ⟨by decide, by decide +kernel, (gz_mem 1291 (by decide +kernel) (by decide +kernel))⟩
theorem xfX12_37 : gz_fl RX12 37 12 18 := ⟨by decide, by decide +kernel, (gz_mem 1293 (by decide +kernel) (by decide +kernel))⟩
theorem xfX12_40 : gz_fl RX12 40 12 19 := ⟨by decide, by decide +kernel, (gz_mem 1294 (by decide +kernel) (by decide +kernel))⟩
theorem xfX12_43 : gz_fl RX12 43 12 20 := ⟨by decide, by decide +kernel, (gz_mem 1295 (by decide +kernel) (by decide +kernel))⟩
theorem xfX12_46 : gz_fl RX12 46 12 21 := ⟨by decide, by decide +kernel, (gz_mem 1296 (by decide +kernel) (by decide +kernel))⟩
theorem xfX12_49 : gz_fl RX12 49 12 22 := ⟨by decide, by decide +kernel, (gz_mem 1297 (by decide +kernel) (by decide +kernel))⟩
theorem xfX12_52 : gz_fl RX12 52 12 23 := ⟨by decide, by decide +kernel, (gz_mem 1298 (by decide +kernel) (by decide +kernel))⟩
theorem xfX12_55 : gz_fl RX12 55 12 24 := ⟨by decide, by decide +kernel, (gz_mem 1299 (by decide +kernel) (by decide +kernel))⟩
theorem xfX12_58 : gz_fl RX12 58 12 25 := ⟨by decide, by decide +kernel, (gz_mem 1300 (by decide +kernel) (by decide +kernel))⟩
theorem xfX12_61 : gz_fl RX12 61 12 26 := ⟨by decide, by decide +kernel, (gz_mem 1301 (by decide +kernel) (by decide +kernel))⟩
theorem xfX12_64 : gz_fl RX12 64 12 32 := ⟨by decide, by decide +kernel, (gz_mem 1307 (by decide +kernel) (by decide +kernel))⟩
theorem xfX12_67 : gz_fl RX12 67 12 33 := ⟨by decide, by decide +kernel, (gz_mem 1308 (by decide +kernel) (by decide +kernel))⟩
theorem xfX12_70 : gz_fl RX12 70 12 34 := ⟨by decide, by decide +kernel, (gz_mem 1309 (by decide +kernel) (by decide +kernel))⟩
theorem xfX12_74 : gz_fl RX12 74 12 35 := ⟨by decide, by decide +kernel, (gz_mem 1310 (by decide +kernel) (by decide +kernel))⟩
theorem xfX12_77 : gz_fl RX12 77 12 36 := ⟨by decide, by decide +kernel, (gz_mem 1311 (by decide +kernel) (by decide +kernel))⟩
theorem xfX12_80 : gz_fl RX12 80 12 37 := ⟨by decide, by decide +kernel, (gz_mem 1312 (by decide +kernel) (by decide +kernel))⟩
theorem xfX12_83 : gz_fl RX12 83 12 40 := ⟨by decide, by decide +kernel, (gz_mem 1315 (by decide +kernel) (by decide +kernel))⟩
theorem xfX12_86 : gz_fl RX12 86 12 43 := ⟨by decide, by decide +kernel, (gz_mem 1318 (by decide +kernel) (by decide +kernel))⟩
theorem xfX12_89 : gz_fl RX12 89 12 44 := ⟨by decide, by decide +kernel, (gz_mem 1319 (by decide +kernel) (by decide +kernel))⟩
theorem xfX12_92 : gz_fl RX12 92 12 45 := ⟨by decide, by decide +kernel, (gz_mem 1320 (by decide +kernel) (by decide +kernel))⟩
theorem xfX12_95 : gz_fl RX12 95 12 46 := ⟨by decide, by decide +kernel, (gz_mem 1321 (by decide +kernel) (by decide +kernel))⟩
theorem xfX12_98 : gz_fl RX12 98 12 48 := ⟨by decide, by decide +kernel, (gz_mem 1323 (by decide +kernel) (by decide +kernel))⟩
theorem xfX12_101 : gz_fl RX12 101 12 49 := ⟨by decide, by decide +kernel, (gz_mem 1324 (by decide +kernel) (by decide +kernel))⟩
set_option maxRecDepth 100000 in
set_option maxHeartbeats 4000000 in
theorem kX12_init {l : Launch} {D : va_G} {cs : Nat → ClassId} (h0  : Nat) : gx_K l D cs 2 mX12_init 24 28940 [.ref h0] [(h0, .inr (12, [.int 0, .null, .null, .null, .null, .null, .int 0, .int 0, .int 0, .int 0, .int 0, .int 0, .int 0, .int 0, .int 0, .null, .null, .int 0, .null, .null, .null, .null, .null, .null, .null, .null, .null, .int 0, .int 0, .int 0, .int 0, .int 0, .null, .null, .int 0, .int 0, .null, .null, .int 0, .int 0, .null, .int 0, .long 0, .null, .null, .null, .null, .int 0, .null, .null, .int 0]))] (fun v w => v = none ∧ ∃ q1 q2 q3 q4 q5 q6 q7 q8 q9 q10 q11 q12 q13 q14 q15 q16 q17 q18 q19 q20 q21 q22 q23 q24 : Nat, w = [(h0, .inr (12, [.int 0, .ref q1, .ref q2, .ref q3, .ref q4, .ref q1, .int 0, .int 0, .int 0, .int 0, .int 0, .int 0, .int 0, .int 0, .int 0, .ref (cs 10), .ref (cs 11), .int 0, .ref q5, .ref q6, .ref q7, .ref q8, .ref q9, .ref q10, .ref q11, .ref q12, .ref q13, .int 0, .int 0, .int 0, .int 0, .int 0, .ref q14, .ref q15, .int (-1), .int 3, .ref q16, .ref q17, .int 0, .int 0, .ref q18, .int 0, .long 0, .ref q19, .ref q20, .ref q21, .ref q22, .int 0, .ref q23, .ref q24, .int 0])), (q1, .inl (cs 1, 240, .inl (fun _ => 0))), (q2, .inl (cs 1, 960, .inl (fun _ => 0))), (q3, .inl (cs 0, 4, .inl (fun _ => 0))), (q4, .inl (cs 0, 128, .inl (fun _ => 0))), (q5, .inl (cs 0, 4, .inl (fun _ => 0))), (q6, .inl (cs 0, 4, .inl (fun _ => 0))), (q7, .inl (cs 0, 16, .inl (fun _ => 0))), (q8, .inl (cs 0, 16, .inl (fun _ => 0))), (q9, .inl (cs 0, 30, .inl (fun _ => 0))), (q10, .inl (cs 0, 30, .inl (fun _ => 0))), (q11, .inl (cs 0, 5, .inl (fun _ => 0))), (q12, .inl (cs 0, 240, .inl (fun _ => 0))), (q13, .inl (cs 0, 5, .inl (fun _ => 0))), (q14, .inl (cs 0, 231, .inl (fun _ => 0))), (q15, .inl (cs 0, 231, .inl (fun _ => 0))), (q16, .inl (cs 0, 8191, .inl (fun _ => 0))), (q17, .inl (cs 0, 8191, .inl (fun _ => 0))), (q18, .inl (cs 0, 9240, .inl (fun _ => 0))), (q19, .inl (cs 0, 30, .inl (fun _ => 0))), (q20, .inl (cs 0, 30, .inl (fun _ => 0))), (q21, .inl (cs 0, 496, .inl (fun _ => 0))), (q22, .inl (cs 0, 30, .inl (fun _ => 0))), (q23, .inl (cs 0, 357, .inl (fun _ => 0))), (q24, .inl (cs 0, 231, .inl (fun _ => 0)))]) := by
  refine gx_K.of 0 (by decide +kernel) rfl (fun X C E Rk I0 => ?_)
  have I := I0 rfl
  refine gy_ls (l2 := [some (.ref h0)]) rfl ?_
  refine gy_aload_n C dX12_init_0 rfl ?_
  refine gy_objInit C dX12_init_1 (gz_mem 1272 (by decide +kernel) (by decide +kernel)) xw_oi xw_oc (by decide) (Nat.le_of_ble_eq_true rfl) ?_
  refine gy_aload_n C dX12_init_4 rfl ?_
  refine gy_sipush (v := 240) C dX12_init_5 (by decide) ?_
  refine gy_newaB (N := 240) C dX12_init_8 xw_abyte (by decide) (by decide) (by omega) (Rk.mo (by omega) (by omega)) (fun q1 => ?_)
  refine gy_widen (k2 := 1) (n2 := 240) (by omega) (by omega) ?_
  refine gy_w (w2 := [(h0, .inr (12, [.int 0, .null, .null, .null, .null, .null, .int 0, .int 0, .int 0, .int 0, .int 0, .int 0, .int 0, .int 0, .int 0, .null, .null, .int 0, .null, .null, .null, .null, .null, .null, .null, .null, .null, .int 0, .int 0, .int 0, .int 0, .int 0, .null, .null, .int 0, .int 0, .null, .null, .int 0, .int 0, .null, .int 0, .long 0, .null, .null, .null, .null, .int 0, .null, .null, .int 0])), (q1, .inl (cs 1, 240, .inl (fun _ => 0)))]) rfl ?_
  refine gy_putF (q := 0) C I dX12_init_10 xfX12_9 rfl rfl rfl rfl rfl (Nat.le_of_ble_eq_true rfl) ?_
  refine gy_w (w2 := [(h0, .inr (12, [.int 0, .ref q1, .null, .null, .null, .null, .int 0, .int 0, .int 0, .int 0, .int 0, .int 0, .int 0, .int 0, .int 0, .null, .null, .int 0, .null, .null, .null, .null, .null, .null, .null, .null, .null, .int 0, .int 0, .int 0, .int 0, .int 0, .null, .null, .int 0, .int 0, .null, .null, .int 0, .int 0, .null, .int 0, .long 0, .null, .null, .null, .null, .int 0, .null, .null, .int 0])), (q1, .inl (cs 1, 240, .inl (fun _ => 0)))]) rfl ?_
  refine gy_aload_n C dX12_init_13 rfl ?_
  refine gy_sipush (v := 960) C dX12_init_14 (by decide) ?_
  refine gy_newaB (N := 960) C dX12_init_17 xw_abyte (by decide) (by decide) (by omega) (Rk.mo (by omega) (by omega)) (fun q2 => ?_)
  refine gy_widen (k2 := 2) (n2 := 1200) (by omega) (by omega) ?_
  refine gy_w (w2 := [(h0, .inr (12, [.int 0, .ref q1, .null, .null, .null, .null, .int 0, .int 0, .int 0, .int 0, .int 0, .int 0, .int 0, .int 0, .int 0, .null, .null, .int 0, .null, .null, .null, .null, .null, .null, .null, .null, .null, .int 0, .int 0, .int 0, .int 0, .int 0, .null, .null, .int 0, .int 0, .null, .null, .int 0, .int 0, .null, .int 0, .long 0, .null, .null, .null, .null, .int 0, .null, .null, .int 0])), (q1, .inl (cs 1, 240, .inl (fun _ => 0))), (q2, .inl (cs 1, 960, .inl (fun _ => 0)))]) rfl ?_
  refine gy_putF (q := 0) C I dX12_init_19 xfX12_13 rfl rfl rfl rfl rfl (Nat.le_of_ble_eq_true rfl) ?_
  refine gy_w (w2 := [(h0, .inr (12, [.int 0, .ref q1, .ref q2, .null, .null, .null, .int 0, .int 0, .int 0, .int 0, .int 0, .int 0, .int 0, .int 0, .int 0, .null, .null, .int 0, .null, .null, .null, .null, .null, .null, .null, .null, .null, .int 0, .int 0, .int 0, .int 0, .int 0, .null, .null, .int 0, .int 0, .null, .null, .int 0, .int 0, .null, .int 0, .long 0, .null, .null, .null, .null, .int 0, .null, .null, .int 0])), (q1, .inl (cs 1, 240, .inl (fun _ => 0))), (q2, .inl (cs 1, 960, .inl (fun _ => 0)))]) rfl ?_
  refine gy_aload_n C dX12_init_22 rfl ?_
  refine gy_iconst (v := 4) C dX12_init_23 (by decide) ?_
  refine gy_newaI (N := 4) C dX12_init_24 xw_aint (by decide) (by decide) (by omega) (Rk.mo (by omega) (by omega)) (fun q3 => ?_)
  refine gy_widen (k2 := 3) (n2 := 1204) (by omega) (by omega) ?_
  refine gy_w (w2 := [(h0, .inr (12, [.int 0, .ref q1, .ref q2, .null, .null, .null, .int 0, .int 0, .int 0, .int 0, .int 0, .int 0, .int 0, .int 0, .int 0, .null, .null, .int 0, .null, .null, .null, .null, .null, .null, .null, .null, .null, .int 0, .int 0, .int 0, .int 0, .int 0, .null, .null, .int 0, .int 0, .null, .null, .int 0, .int 0, .null, .int 0, .long 0, .null, .null, .null, .null, .int 0, .null, .null, .int 0])), (q1, .inl (cs 1, 240, .inl (fun _ => 0))), (q2, .inl (cs 1, 960, .inl (fun _ => 0))), (q3, .inl (cs 0, 4, .inl (fun _ => 0)))]) rfl ?_
  refine gy_putF (q := 0) C I dX12_init_26 xfX12_16 rfl rfl rfl rfl rfl (Nat.le_of_ble_eq_true rfl) ?_
  refine gy_w (w2 := [(h0, .inr (12, [.int 0, .ref q1, .ref q2, .ref q3, .null, .null, .int 0, .int 0, .int 0, .int 0, .int 0, .int 0, .int 0, .int 0, .int 0, .null, .null, .int 0, .null, .null, .null, .null, .null, .null, .null, .null, .null, .int 0, .int 0, .int 0, .int 0, .int 0, .null, .null, .int 0, .int 0, .null, .null, .int 0, .int 0, .null, .int 0, .long 0, .null, .null, .null, .null, .int 0, .null, .null, .int 0])), (q1, .inl (cs 1, 240, .inl (fun _ => 0))), (q2, .inl (cs 1, 960, .inl (fun _ => 0))), (q3, .inl (cs 0, 4, .inl (fun _ => 0)))]) rfl ?_
  refine gy_aload_n C dX12_init_29 rfl ?_
  refine gy_sipush (v := 128) C dX12_init_30 (by decide) ?_
  refine gy_newaI (N := 128) C dX12_init_33 xw_aint (by decide) (by decide) (by omega) (Rk.mo (by omega) (by omega)) (fun q4 => ?_)
  refine gy_widen (k2 := 4) (n2 := 1332) (by omega) (by omega) ?_
  refine gy_w (w2 := [(h0, .inr (12, [.int 0, .ref q1, .ref q2, .ref q3, .null, .null, .int 0, .int 0, .int 0, .int 0, .int 0, .int 0, .int 0, .int 0, .int 0, .null, .null, .int 0, .null, .null, .null, .null, .null, .null, .null, .null, .null, .int 0, .int 0, .int 0, .int 0, .int 0, .null, .null, .int 0, .int 0, .null, .null, .int 0, .int 0, .null, .int 0, .long 0, .null, .null, .null, .null, .int 0, .null, .null, .int 0])), (q1, .inl (cs 1, 240, .inl (fun _ => 0))), (q2, .inl (cs 1, 960, .inl (fun _ => 0))), (q3, .inl (cs 0, 4, .inl (fun _ => 0))), (q4, .inl (cs 0, 128, .inl (fun _ => 0)))]) rfl ?_
  refine gy_putF (q := 0) C I dX12_init_35 xfX12_20 rfl rfl rfl rfl rfl (Nat.le_of_ble_eq_true rfl) ?_
  refine gy_w (w2 := [(h0, .inr (12, [.int 0, .ref q1, .ref q2, .ref q3, .ref q4, .null, .int 0, .int 0, .int 0, .int 0, .int 0, .int 0, .int 0, .int 0, .int 0, .null, .null, .int 0, .null, .null, .null, .null, .null, .null, .null, .null, .null, .int 0, .int 0, .int 0, .int 0, .int 0, .null, .null, .int 0, .int 0, .null, .null, .int 0, .int 0, .null, .int 0, .long 0, .null, .null, .null, .null, .int 0, .null, .null, .int 0])), (q1, .inl (cs 1, 240, .inl (fun _ => 0))), (q2, .inl (cs 1, 960, .inl (fun _ => 0))), (q3, .inl (cs 0, 4, .inl (fun _ => 0))), (q4, .inl (cs 0, 128, .inl (fun _ => 0)))]) rfl ?_
  refine gy_aload_n C dX12_init_38 rfl ?_
  refine gy_aload_n C dX12_init_39 rfl ?_
  refine gy_get (q := 0) C dX12_init_40 xfX12_9 rfl rfl ?_
  refine gy_put (q := 0) C dX12_init_43 xfX12_23 rfl rfl rfl rfl (Nat.le_of_ble_eq_true rfl) ?_
  refine gy_w (w2 := [(h0, .inr (12, [.int 0, .ref q1, .ref q2, .ref q3, .ref q4, .ref q1, .int 0, .int 0, .int 0, .int 0, .int 0, .int 0, .int 0, .int 0, .int 0, .null, .null, .int 0, .null, .null, .null, .null, .null, .null, .null, .null, .null, .int 0, .int 0, .int 0, .int 0, .int 0, .null, .null, .int 0, .int 0, .null, .null, .int 0, .int 0, .null, .int 0, .long 0, .null, .null, .null, .null, .int 0, .null, .null, .int 0])), (q1, .inl (cs 1, 240, .inl (fun _ => 0))), (q2, .inl (cs 1, 960, .inl (fun _ => 0))), (q3, .inl (cs 0, 4, .inl (fun _ => 0))), (q4, .inl (cs 0, 128, .inl (fun _ => 0)))]) rfl ?_
  refine gy_aload_n C dX12_init_46 rfl ?_
  refine gy_ldcS (z := (cs 10)) C dX12_init_47 ⟨rfl, Or.inl ⟨rfl, rfl⟩⟩ ?_
  refine gy_putF (q := 0) C I dX12_init_49 xfX12_28 rfl rfl rfl rfl rfl (Nat.le_of_ble_eq_true rfl) ?_
  refine gy_w (w2 := [(h0, .inr (12, [.int 0, .ref q1, .ref q2, .ref q3, .ref q4, .ref q1, .int 0, .int 0, .int 0, .int 0, .int 0, .int 0, .int 0, .int 0, .int 0, .ref (cs 10), .null, .int 0, .null, .null, .null, .null, .null, .null, .null, .null, .null, .int 0, .int 0, .int 0, .int 0, .int 0, .null, .null, .int 0, .int 0, .null, .null, .int 0, .int 0, .null, .int 0, .long 0, .null, .null, .null, .null, .int 0, .null, .null, .int 0])), (q1, .inl (cs 1, 240, .inl (fun _ => 0))), (q2, .inl (cs 1, 960, .inl (fun _ => 0))), (q3, .inl (cs 0, 4, .inl (fun _ => 0))), (q4, .inl (cs 0, 128, .inl (fun _ => 0)))]) rfl ?_
  refine gy_aload_n C dX12_init_52 rfl ?_
  refine gy_ldcS (z := (cs 11)) C dX12_init_53 ⟨rfl, Or.inr ⟨rfl, rfl⟩⟩ ?_
  refine gy_putF (q := 0) C I dX12_init_55 xfX12_34 rfl rfl rfl rfl rfl (Nat.le_of_ble_eq_true rfl) ?_
  refine gy_w (w2 := [(h0, .inr (12, [.int 0, .ref q1, .ref q2, .ref q3, .ref q4, .ref q1, .int 0, .int 0, .int 0, .int 0, .int 0, .int 0, .int 0, .int 0, .int 0, .ref (cs 10), .ref (cs 11), .int 0, .null, .null, .null, .null, .null, .null, .null, .null, .null, .int 0, .int 0, .int 0, .int 0, .int 0, .null, .null, .int 0, .int 0, .null, .null, .int 0, .int 0, .null, .int 0, .long 0, .null, .null, .null, .null, .int 0, .null, .null, .int 0])), (q1, .inl (cs 1, 240, .inl (fun _ => 0))), (q2, .inl (cs 1, 960, .inl (fun _ => 0))), (q3, .inl (cs 0, 4, .inl (fun _ => 0))), (q4, .inl (cs 0, 128, .inl (fun _ => 0)))]) rfl ?_
  refine gy_aload_n C dX12_init_58 rfl ?_
  refine gy_iconst (v := 4) C dX12_init_59 (by decide) ?_
  refine gy_newaI (N := 4) C dX12_init_60 xw_aint (by decide) (by decide) (by omega) (Rk.mo (by omega) (by omega)) (fun q5 => ?_)
  refine gy_widen (k2 := 5) (n2 := 1336) (by omega) (by omega) ?_
  refine gy_w (w2 := [(h0, .inr (12, [.int 0, .ref q1, .ref q2, .ref q3, .ref q4, .ref q1, .int 0, .int 0, .int 0, .int 0, .int 0, .int 0, .int 0, .int 0, .int 0, .ref (cs 10), .ref (cs 11), .int 0, .null, .null, .null, .null, .null, .null, .null, .null, .null, .int 0, .int 0, .int 0, .int 0, .int 0, .null, .null, .int 0, .int 0, .null, .null, .int 0, .int 0, .null, .int 0, .long 0, .null, .null, .null, .null, .int 0, .null, .null, .int 0])), (q1, .inl (cs 1, 240, .inl (fun _ => 0))), (q2, .inl (cs 1, 960, .inl (fun _ => 0))), (q3, .inl (cs 0, 4, .inl (fun _ => 0))), (q4, .inl (cs 0, 128, .inl (fun _ => 0))), (q5, .inl (cs 0, 4, .inl (fun _ => 0)))]) rfl ?_
  refine gy_putF (q := 0) C I dX12_init_62 xfX12_37 rfl rfl rfl rfl rfl (Nat.le_of_ble_eq_true rfl) ?_
  refine gy_w (w2 := [(h0, .inr (12, [.int 0, .ref q1, .ref q2, .ref q3, .ref q4, .ref q1, .int 0, .int 0, .int 0, .int 0, .int 0, .int 0, .int 0, .int 0, .int 0, .ref (cs 10), .ref (cs 11), .int 0, .ref q5, .null, .null, .null, .null, .null, .null, .null, .null, .int 0, .int 0, .int 0, .int 0, .int 0, .null, .null, .int 0, .int 0, .null, .null, .int 0, .int 0, .null, .int 0, .long 0, .null, .null, .null, .null, .int 0, .null, .null, .int 0])), (q1, .inl (cs 1, 240, .inl (fun _ => 0))), (q2, .inl (cs 1, 960, .inl (fun _ => 0))), (q3, .inl (cs 0, 4, .inl (fun _ => 0))), (q4, .inl (cs 0, 128, .inl (fun _ => 0))), (q5, .inl (cs 0, 4, .inl (fun _ => 0)))]) rfl ?_
  refine gy_aload_n C dX12_init_65 rfl ?_
  refine gy_iconst (v := 4) C dX12_init_66 (by decide) ?_
  refine gy_newaI (N := 4) C dX12_init_67 xw_aint (by decide) (by decide) (by omega) (Rk.mo (by omega) (by omega)) (fun q6 => ?_)
  refine gy_widen (k2 := 6) (n2 := 1340) (by omega) (by omega) ?_
  refine gy_w (w2 := [(h0, .inr (12, [.int 0, .ref q1, .ref q2, .ref q3, .ref q4, .ref q1, .int 0, .int 0, .int 0, .int 0, .int 0, .int 0, .int 0, .int 0, .int 0, .ref (cs 10), .ref (cs 11), .int 0, .ref q5, .null, .null, .null, .null, .null, .null, .null, .null, .int 0, .int 0, .int 0, .int 0, .int 0, .null, .null, .int 0, .int 0, .null, .null, .int 0, .int 0, .null, .int 0, .long 0, .null, .null, .null, .null, .int 0, .null, .null, .int 0])), (q1, .inl (cs 1, 240, .inl (fun _ => 0))), (q2, .inl (cs 1, 960, .inl (fun _ => 0))), (q3, .inl (cs 0, 4, .inl (fun _ => 0))), (q4, .inl (cs 0, 128, .inl (fun _ => 0))), (q5, .inl (cs 0, 4, .inl (fun _ => 0))), (q6, .inl (cs 0, 4, .inl (fun _ => 0)))]) rfl ?_
  refine gy_putF (q := 0) C I dX12_init_69 xfX12_40 rfl rfl rfl rfl rfl (Nat.le_of_ble_eq_true rfl) ?_
  refine gy_w (w2 := [(h0, .inr (12, [.int 0, .ref q1, .ref q2, .ref q3, .ref q4, .ref q1, .int 0, .int 0, .int 0, .int 0, .int 0, .int 0, .int 0, .int 0, .int 0, .ref (cs 10), .ref (cs 11), .int 0, .ref q5, .ref q6, .null, .null, .null, .null, .null, .null, .null, .int 0, .int 0, .int 0, .int 0, .int 0, .null, .null, .int 0, .int 0, .null, .null, .int 0, .int 0, .null, .int 0, .long 0, .null, .null, .null, .null, .int 0, .null, .null, .int 0])), (q1, .inl (cs 1, 240, .inl (fun _ => 0))), (q2, .inl (cs 1, 960, .inl (fun _ => 0))), (q3, .inl (cs 0, 4, .inl (fun _ => 0))), (q4, .inl (cs 0, 128, .inl (fun _ => 0))), (q5, .inl (cs 0, 4, .inl (fun _ => 0))), (q6, .inl (cs 0, 4, .inl (fun _ => 0)))]) rfl ?_
  refine gy_aload_n C dX12_init_72 rfl ?_
  refine gy_bipush (v := 16) C dX12_init_73 (by decide) ?_
  refine gy_newaI (N := 16) C dX12_init_75 xw_aint (by decide) (by decide) (by omega) (Rk.mo (by omega) (by omega)) (fun q7 => ?_)
  refine gy_widen (k2 := 7) (n2 := 1356) (by omega) (by omega) ?_
  refine gy_w (w2 := [(h0, .inr (12, [.int 0, .ref q1, .ref q2, .ref q3, .ref q4, .ref q1, .int 0, .int 0, .int 0, .int 0, .int 0, .int 0, .int 0, .int 0, .int 0, .ref (cs 10), .ref (cs 11), .int 0, .ref q5, .ref q6, .null, .null, .null, .null, .null, .null, .null, .int 0, .int 0, .int 0, .int 0, .int 0, .null, .null, .int 0, .int 0, .null, .null, .int 0, .int 0, .null, .int 0, .long 0, .null, .null, .null, .null, .int 0, .null, .null, .int 0])), (q1, .inl (cs 1, 240, .inl (fun _ => 0))), (q2, .inl (cs 1, 960, .inl (fun _ => 0))), (q3, .inl (cs 0, 4, .inl (fun _ => 0))), (q4, .inl (cs 0, 128, .inl (fun _ => 0))), (q5, .inl (cs 0, 4, .inl (fun _ => 0))), (q6, .inl (cs 0, 4, .inl (fun _ => 0))), (q7, .inl (cs 0, 16, .inl (fun _ => 0)))]) rfl ?_
  refine gy_putF (q := 0) C I dX12_init_77 xfX12_43 rfl rfl rfl rfl rfl (Nat.le_of_ble_eq_true rfl) ?_
  refine gy_w (w2 := [(h0, .inr (12, [.int 0, .ref q1, .ref q2, .ref q3, .ref q4, .ref q1, .int 0, .int 0, .int 0, .int 0, .int 0, .int 0, .int 0, .int 0, .int 0, .ref (cs 10), .ref (cs 11), .int 0, .ref q5, .ref q6, .ref q7, .null, .null, .null, .null, .null, .null, .int 0, .int 0, .int 0, .int 0, .int 0, .null, .null, .int 0, .int 0, .null, .null, .int 0, .int 0, .null, .int 0, .long 0, .null, .null, .null, .null, .int 0, .null, .null, .int 0])), (q1, .inl (cs 1, 240, .inl (fun _ => 0))), (q2, .inl (cs 1, 960, .inl (fun _ => 0))), (q3, .inl (cs 0, 4, .inl (fun _ => 0))), (q4, .inl (cs 0, 128, .inl (fun _ => 0))), (q5, .inl (cs 0, 4, .inl (fun _ => 0))), (q6, .inl (cs 0, 4, .inl (fun _ => 0))), (q7, .inl (cs 0, 16, .inl (fun _ => 0)))]) rfl ?_
  refine gy_aload_n C dX12_init_80 rfl ?_
  refine gy_bipush (v := 16) C dX12_init_81 (by decide) ?_
  refine gy_newaI (N := 16) C dX12_init_83 xw_aint (by decide) (by decide) (by omega) (Rk.mo (by omega) (by omega)) (fun q8 => ?_)
  refine gy_widen (k2 := 8) (n2 := 1372) (by omega) (by omega) ?_
  refine gy_w (w2 := [(h0, .inr (12, [.int 0, .ref q1, .ref q2, .ref q3, .ref q4, .ref q1, .int 0, .int 0, .int 0, .int 0, .int 0, .int 0, .int 0, .int 0, .int 0, .ref (cs 10), .ref (cs 11), .int 0, .ref q5, .ref q6, .ref q7, .null, .null, .null, .null, .null, .null, .int 0, .int 0, .int 0, .int 0, .int 0, .null, .null, .int 0, .int 0, .null, .null, .int 0, .int 0, .null, .int 0, .long 0, .null, .null, .null, .null, .int 0, .null, .null, .int 0])), (q1, .inl (cs 1, 240, .inl (fun _ => 0))), (q2, .inl (cs 1, 960, .inl (fun _ => 0))), (q3, .inl (cs 0, 4, .inl (fun _ => 0))), (q4, .inl (cs 0, 128, .inl (fun _ => 0))), (q5, .inl (cs 0, 4, .inl (fun _ => 0))), (q6, .inl (cs 0, 4, .inl (fun _ => 0))), (q7, .inl (cs 0, 16, .inl (fun _ => 0))), (q8, .inl (cs 0, 16, .inl (fun _ => 0)))]) rfl ?_
  refine gy_putF (q := 0) C I dX12_init_85 xfX12_46 rfl rfl rfl rfl rfl (Nat.le_of_ble_eq_true rfl) ?_
  refine gy_w (w2 := [(h0, .inr (12, [.int 0, .ref q1, .ref q2, .ref q3, .ref q4, .ref q1, .int 0, .int 0, .int 0, .int 0, .int 0, .int 0, .int 0, .int 0, .int 0, .ref (cs 10), .ref (cs 11), .int 0, .ref q5, .ref q6, .ref q7, .ref q8, .null, .null, .null, .null, .null, .int 0, .int 0, .int 0, .int 0, .int 0, .null, .null, .int 0, .int 0, .null, .null, .int 0, .int 0, .null, .int 0, .long 0, .null, .null, .null, .null, .int 0, .null, .null, .int 0])), (q1, .inl (cs 1, 240, .inl (fun _ => 0))), (q2, .inl (cs 1, 960, .inl (fun _ => 0))), (q3, .inl (cs 0, 4, .inl (fun _ => 0))), (q4, .inl (cs 0, 128, .inl (fun _ => 0))), (q5, .inl (cs 0, 4, .inl (fun _ => 0))), (q6, .inl (cs 0, 4, .inl (fun _ => 0))), (q7, .inl (cs 0, 16, .inl (fun _ => 0))), (q8, .inl (cs 0, 16, .inl (fun _ => 0)))]) rfl ?_
  refine gy_aload_n C dX12_init_88 rfl ?_
  refine gy_bipush (v := 30) C dX12_init_89 (by decide) ?_
  refine gy_newaI (N := 30) C dX12_init_91 xw_aint (by decide) (by decide) (by omega) (Rk.mo (by omega) (by omega)) (fun q9 => ?_)
  refine gy_widen (k2 := 9) (n2 := 1402) (by omega) (by omega) ?_
  refine gy_w (w2 := [(h0, .inr (12, [.int 0, .ref q1, .ref q2, .ref q3, .ref q4, .ref q1, .int 0, .int 0, .int 0, .int 0, .int 0, .int 0, .int 0, .int 0, .int 0, .ref (cs 10), .ref (cs 11), .int 0, .ref q5, .ref q6, .ref q7, .ref q8, .null, .null, .null, .null, .null, .int 0, .int 0, .int 0, .int 0, .int 0, .null, .null, .int 0, .int 0, .null, .null, .int 0, .int 0, .null, .int 0, .long 0, .null, .null, .null, .null, .int 0, .null, .null, .int 0])), (q1, .inl (cs 1, 240, .inl (fun _ => 0))), (q2, .inl (cs 1, 960, .inl (fun _ => 0))), (q3, .inl (cs 0, 4, .inl (fun _ => 0))), (q4, .inl (cs 0, 128, .inl (fun _ => 0))), (q5, .inl (cs 0, 4, .inl (fun _ => 0))), (q6, .inl (cs 0, 4, .inl (fun _ => 0))), (q7, .inl (cs 0, 16, .inl (fun _ => 0))), (q8, .inl (cs 0, 16, .inl (fun _ => 0))), (q9, .inl (cs 0, 30, .inl (fun _ => 0)))]) rfl ?_
  refine gy_putF (q := 0) C I dX12_init_93 xfX12_49 rfl rfl rfl rfl rfl (Nat.le_of_ble_eq_true rfl) ?_
  refine gy_w (w2 := [(h0, .inr (12, [.int 0, .ref q1, .ref q2, .ref q3, .ref q4, .ref q1, .int 0, .int 0, .int 0, .int 0, .int 0, .int 0, .int 0, .int 0, .int 0, .ref (cs 10), .ref (cs 11), .int 0, .ref q5, .ref q6, .ref q7, .ref q8, .ref q9, .null, .null, .null, .null, .int 0, .int 0, .int 0, .int 0, .int 0, .null, .null, .int 0, .int 0, .null, .null, .int 0, .int 0, .null, .int 0, .long 0, .null, .null, .null, .null, .int 0, .null, .null, .int 0])), (q1, .inl (cs 1, 240, .inl (fun _ => 0))), (q2, .inl (cs 1, 960, .inl (fun _ => 0))), (q3, .inl (cs 0, 4, .inl (fun _ => 0))), (q4, .inl (cs 0, 128, .inl (fun _ => 0))), (q5, .inl (cs 0, 4, .inl (fun _ => 0))), (q6, .inl (cs 0, 4, .inl (fun _ => 0))), (q7, .inl (cs 0, 16, .inl (fun _ => 0))), (q8, .inl (cs 0, 16, .inl (fun _ => 0))), (q9, .inl (cs 0, 30, .inl (fun _ => 0)))]) rfl ?_
  refine gy_aload_n C dX12_init_96 rfl ?_
  refine gy_bipush (v := 30) C dX12_init_97 (by decide) ?_
  refine gy_newaI (N := 30) C dX12_init_99 xw_aint (by decide) (by decide) (by omega) (Rk.mo (by omega) (by omega)) (fun q10 => ?_)
  refine gy_widen (k2 := 10) (n2 := 1432) (by omega) (by omega) ?_
  refine gy_w (w2 := [(h0, .inr (12, [.int 0, .ref q1, .ref q2, .ref q3, .ref q4, .ref q1, .int 0, .int 0, .int 0, .int 0, .int 0, .int 0, .int 0, .int 0, .int 0, .ref (cs 10), .ref (cs 11), .int 0, .ref q5, .ref q6, .ref q7, .ref q8, .ref q9, .null, .null, .null, .null, .int 0, .int 0, .int 0, .int 0, .int 0, .null, .null, .int 0, .int 0, .null, .null, .int 0, .int 0, .null, .int 0, .long 0, .null, .null, .null, .null, .int 0, .null, .null, .int 0])), (q1, .inl (cs 1, 240, .inl (fun _ => 0))), (q2, .inl (cs 1, 960, .inl (fun _ => 0))), (q3, .inl (cs 0, 4, .inl (fun _ => 0))), (q4, .inl (cs 0, 128, .inl (fun _ => 0))), (q5, .inl (cs 0, 4, .inl (fun _ => 0))), (q6, .inl (cs 0, 4, .inl (fun _ => 0))), (q7, .inl (cs 0, 16, .inl (fun _ => 0))), (q8, .inl (cs 0, 16, .inl (fun _ => 0))), (q9, .inl (cs 0, 30, .inl (fun _ => 0))), (q10, .inl (cs 0, 30, .inl (fun _ => 0)))]) rfl ?_
  refine gy_putF (q := 0) C I dX12_init_101 xfX12_52 rfl rfl rfl rfl rfl (Nat.le_of_ble_eq_true rfl) ?_
  refine gy_w (w2 := [(h0, .inr (12, [.int 0, .ref q1, .ref q2, .ref q3, .ref q4, .ref q1, .int 0, .int 0, .int 0, .int 0, .int 0, .int 0, .int 0, .int 0, .int 0, .ref (cs 10), .ref (cs 11), .int 0, .ref q5, .ref q6, .ref q7, .ref q8, .ref q9, .ref q10, .null, .null, .null, .int 0, .int 0, .int 0, .int 0, .int 0, .null, .null, .int 0, .int 0, .null, .null, .int 0, .int 0, .null, .int 0, .long 0, .null, .null, .null, .null, .int 0, .null, .null, .int 0])), (q1, .inl (cs 1, 240, .inl (fun _ => 0))), (q2, .inl (cs 1, 960, .inl (fun _ => 0))), (q3, .inl (cs 0, 4, .inl (fun _ => 0))), (q4, .inl (cs 0, 128, .inl (fun _ => 0))), (q5, .inl (cs 0, 4, .inl (fun _ => 0))), (q6, .inl (cs 0, 4, .inl (fun _ => 0))), (q7, .inl (cs 0, 16, .inl (fun _ => 0))), (q8, .inl (cs 0, 16, .inl (fun _ => 0))), (q9, .inl (cs 0, 30, .inl (fun _ => 0))), (q10, .inl (cs 0, 30, .inl (fun _ => 0)))]) rfl ?_
  refine gy_aload_n C dX12_init_104 rfl ?_
  refine gy_iconst (v := 5) C dX12_init_105 (by decide) ?_
  refine gy_newaI (N := 5) C dX12_init_106 xw_aint (by decide) (by decide) (by omega) (Rk.mo (by omega) (by omega)) (fun q11 => ?_)
  refine gy_widen (k2 := 11) (n2 := 1437) (by omega) (by omega) ?_
  refine gy_w (w2 := [(h0, .inr (12, [.int 0, .ref q1, .ref q2, .ref q3, .ref q4, .ref q1, .int 0, .int 0, .int 0, .int 0, .int 0, .int 0, .int 0, .int 0, .int 0, .ref (cs 10), .ref (cs 11), .int 0, .ref q5, .ref q6, .ref q7, .ref q8, .ref q9, .ref q10, .null, .null, .null, .int 0, .int 0, .int 0, .int 0, .int 0, .null, .null, .int 0, .int 0, .null, .null, .int 0, .int 0, .null, .int 0, .long 0, .null, .null, .null, .null, .int 0, .null, .null, .int 0])), (q1, .inl (cs 1, 240, .inl (fun _ => 0))), (q2, .inl (cs 1, 960, .inl (fun _ => 0))), (q3, .inl (cs 0, 4, .inl (fun _ => 0))), (q4, .inl (cs 0, 128, .inl (fun _ => 0))), (q5, .inl (cs 0, 4, .inl (fun _ => 0))), (q6, .inl (cs 0, 4, .inl (fun _ => 0))), (q7, .inl (cs 0, 16, .inl (fun _ => 0))), (q8, .inl (cs 0, 16, .inl (fun _ => 0))), (q9, .inl (cs 0, 30, .inl (fun _ => 0))), (q10, .inl (cs 0, 30, .inl (fun _ => 0))), (q11, .inl (cs 0, 5, .inl (fun _ => 0)))]) rfl ?_
  refine gy_putF (q := 0) C I dX12_init_108 xfX12_55 rfl rfl rfl rfl rfl (Nat.le_of_ble_eq_true rfl) ?_
  refine gy_w (w2 := [(h0, .inr (12, [.int 0, .ref q1, .ref q2, .ref q3, .ref q4, .ref q1, .int 0, .int 0, .int 0, .int 0, .int 0, .int 0, .int 0, .int 0, .int 0, .ref (cs 10), .ref (cs 11), .int 0, .ref q5, .ref q6, .ref q7, .ref q8, .ref q9, .ref q10, .ref q11, .null, .null, .int 0, .int 0, .int 0, .int 0, .int 0, .null, .null, .int 0, .int 0, .null, .null, .int 0, .int 0, .null, .int 0, .long 0, .null, .null, .null, .null, .int 0, .null, .null, .int 0])), (q1, .inl (cs 1, 240, .inl (fun _ => 0))), (q2, .inl (cs 1, 960, .inl (fun _ => 0))), (q3, .inl (cs 0, 4, .inl (fun _ => 0))), (q4, .inl (cs 0, 128, .inl (fun _ => 0))), (q5, .inl (cs 0, 4, .inl (fun _ => 0))), (q6, .inl (cs 0, 4, .inl (fun _ => 0))), (q7, .inl (cs 0, 16, .inl (fun _ => 0))), (q8, .inl (cs 0, 16, .inl (fun _ => 0))), (q9, .inl (cs 0, 30, .inl (fun _ => 0))), (q10, .inl (cs 0, 30, .inl (fun _ => 0))), (q11, .inl (cs 0, 5, .inl (fun _ => 0)))]) rfl ?_
  refine gy_aload_n C dX12_init_111 rfl ?_
  refine gy_sipush (v := 240) C dX12_init_112 (by decide) ?_
  refine gy_newaI (N := 240) C dX12_init_115 xw_aint (by decide) (by decide) (by omega) (Rk.mo (by omega) (by omega)) (fun q12 => ?_)
  refine gy_widen (k2 := 12) (n2 := 1677) (by omega) (by omega) ?_
  refine gy_w (w2 := [(h0, .inr (12, [.int 0, .ref q1, .ref q2, .ref q3, .ref q4, .ref q1, .int 0, .int 0, .int 0, .int 0, .int 0, .int 0, .int 0, .int 0, .int 0, .ref (cs 10), .ref (cs 11), .int 0, .ref q5, .ref q6, .ref q7, .ref q8, .ref q9, .ref q10, .ref q11, .null, .null, .int 0, .int 0, .int 0, .int 0, .int 0, .null, .null, .int 0, .int 0, .null, .null, .int 0, .int 0, .null, .int 0, .long 0, .null, .null, .null, .null, .int 0, .null, .null, .int 0])), (q1, .inl (cs 1, 240, .inl (fun _ => 0))), (q2, .inl (cs 1, 960, .inl (fun _ => 0))), (q3, .inl (cs 0, 4, .inl (fun _ => 0))), (q4, .inl (cs 0, 128, .inl (fun _ => 0))), (q5, .inl (cs 0, 4, .inl (fun _ => 0))), (q6, .inl (cs 0, 4, .inl (fun _ => 0))), (q7, .inl (cs 0, 16, .inl (fun _ => 0))), (q8, .inl (cs 0, 16, .inl (fun _ => 0))), (q9, .inl (cs 0, 30, .inl (fun _ => 0))), (q10, .inl (cs 0, 30, .inl (fun _ => 0))), (q11, .inl (cs 0, 5, .inl (fun _ => 0))), (q12, .inl (cs 0, 240, .inl (fun _ => 0)))]) rfl ?_
  refine gy_putF (q := 0) C I dX12_init_117 xfX12_58 rfl rfl rfl rfl rfl (Nat.le_of_ble_eq_true rfl) ?_
  refine gy_w (w2 := [(h0, .inr (12, [.int 0, .ref q1, .ref q2, .ref q3, .ref q4, .ref q1, .int 0, .int 0, .int 0, .int 0, .int 0, .int 0, .int 0, .int 0, .int 0, .ref (cs 10), .ref (cs 11), .int 0, .ref q5, .ref q6, .ref q7, .ref q8, .ref q9, .ref q10, .ref q11, .ref q12, .null, .int 0, .int 0, .int 0, .int 0, .int 0, .null, .null, .int 0, .int 0, .null, .null, .int 0, .int 0, .null, .int 0, .long 0, .null, .null, .null, .null, .int 0, .null, .null, .int 0])), (q1, .inl (cs 1, 240, .inl (fun _ => 0))), (q2, .inl (cs 1, 960, .inl (fun _ => 0))), (q3, .inl (cs 0, 4, .inl (fun _ => 0))), (q4, .inl (cs 0, 128, .inl (fun _ => 0))), (q5, .inl (cs 0, 4, .inl (fun _ => 0))), (q6, .inl (cs 0, 4, .inl (fun _ => 0))), (q7, .inl (cs 0, 16, .inl (fun _ => 0))), (q8, .inl (cs 0, 16, .inl (fun _ => 0))), (q9, .inl (cs 0, 30, .inl (fun _ => 0))), (q10, .inl (cs 0, 30, .inl (fun _ => 0))), (q11, .inl (cs 0, 5, .inl (fun _ => 0))), (q12, .inl (cs 0, 240, .inl (fun _ => 0)))]) rfl ?_
  refine gy_aload_n C dX12_init_120 rfl ?_
  refine gy_iconst (v := 5) C dX12_init_121 (by decide) ?_
  refine gy_newaI (N := 5) C dX12_init_122 xw_aint (by decide) (by decide) (by omega) (Rk.mo (by omega) (by omega)) (fun q13 => ?_)
  refine gy_widen (k2 := 13) (n2 := 1682) (by omega) (by omega) ?_
  refine gy_w (w2 := [(h0, .inr (12, [.int 0, .ref q1, .ref q2, .ref q3, .ref q4, .ref q1, .int 0, .int 0, .int 0, .int 0, .int 0, .int 0, .int 0, .int 0, .int 0, .ref (cs 10), .ref (cs 11), .int 0, .ref q5, .ref q6, .ref q7, .ref q8, .ref q9, .ref q10, .ref q11, .ref q12, .null, .int 0, .int 0, .int 0, .int 0, .int 0, .null, .null, .int 0, .int 0, .null, .null, .int 0, .int 0, .null, .int 0, .long 0, .null, .null, .null, .null, .int 0, .null, .null, .int 0])), (q1, .inl (cs 1, 240, .inl (fun _ => 0))), (q2, .inl (cs 1, 960, .inl (fun _ => 0))), (q3, .inl (cs 0, 4, .inl (fun _ => 0))), (q4, .inl (cs 0, 128, .inl (fun _ => 0))), (q5, .inl (cs 0, 4, .inl (fun _ => 0))), (q6, .inl (cs 0, 4, .inl (fun _ => 0))), (q7, .inl (cs 0, 16, .inl (fun _ => 0))), (q8, .inl (cs 0, 16, .inl (fun _ => 0))), (q9, .inl (cs 0, 30, .inl (fun _ => 0))), (q10, .inl (cs 0, 30, .inl (fun _ => 0))), (q11, .inl (cs 0, 5, .inl (fun _ => 0))), (q12, .inl (cs 0, 240, .inl (fun _ => 0))), (q13, .inl (cs 0, 5, .inl (fun _ => 0)))]) rfl ?_
  refine gy_putF (q := 0) C I dX12_init_124 xfX12_61 rfl rfl rfl rfl rfl (Nat.le_of_ble_eq_true rfl) ?_
  refine gy_w (w2 := [(h0, .inr (12, [.int 0, .ref q1, .ref q2, .ref q3, .ref q4, .ref q1, .int 0, .int 0, .int 0, .int 0, .int 0, .int 0, .int 0, .int 0, .int 0, .ref (cs 10), .ref (cs 11), .int 0, .ref q5, .ref q6, .ref q7, .ref q8, .ref q9, .ref q10, .ref q11, .ref q12, .ref q13, .int 0, .int 0, .int 0, .int 0, .int 0, .null, .null, .int 0, .int 0, .null, .null, .int 0, .int 0, .null, .int 0, .long 0, .null, .null, .null, .null, .int 0, .null, .null, .int 0])), (q1, .inl (cs 1, 240, .inl (fun _ => 0))), (q2, .inl (cs 1, 960, .inl (fun _ => 0))), (q3, .inl (cs 0, 4, .inl (fun _ => 0))), (q4, .inl (cs 0, 128, .inl (fun _ => 0))), (q5, .inl (cs 0, 4, .inl (fun _ => 0))), (q6, .inl (cs 0, 4, .inl (fun _ => 0))), (q7, .inl (cs 0, 16, .inl (fun _ => 0))), (q8, .inl (cs 0, 16, .inl (fun _ => 0))), (q9, .inl (cs 0, 30, .inl (fun _ => 0))), (q10, .inl (cs 0, 30, .inl (fun _ => 0))), (q11, .inl (cs 0, 5, .inl (fun _ => 0))), (q12, .inl (cs 0, 240, .inl (fun _ => 0))), (q13, .inl (cs 0, 5, .inl (fun _ => 0)))]) rfl ?_
  refine gy_aload_n C dX12_init_127 rfl ?_
  refine gy_sipush (v := 231) C dX12_init_128 (by decide) ?_
  refine gy_newaI (N := 231) C dX12_init_131 xw_aint (by decide) (by decide) (by omega) (Rk.mo (by omega) (by omega)) (fun q14 => ?_)
  refine gy_widen (k2 := 14) (n2 := 1913) (by omega) (by omega) ?_
  refine gy_w (w2 := [(h0, .inr (12, [.int 0, .ref q1, .ref q2, .ref q3, .ref q4, .ref q1, .int 0, .int 0, .int 0, .int 0, .int 0, .int 0, .int 0, .int 0, .int 0, .ref (cs 10), .ref (cs 11), .int 0, .ref q5, .ref q6, .ref q7, .ref q8, .ref q9, .ref q10, .ref q11, .ref q12, .ref q13, .int 0, .int 0, .int 0, .int 0, .int 0, .null, .null, .int 0, .int 0, .null, .null, .int 0, .int 0, .null, .int 0, .long 0, .null, .null, .null, .null, .int 0, .null, .null, .int 0])), (q1, .inl (cs 1, 240, .inl (fun _ => 0))), (q2, .inl (cs 1, 960, .inl (fun _ => 0))), (q3, .inl (cs 0, 4, .inl (fun _ => 0))), (q4, .inl (cs 0, 128, .inl (fun _ => 0))), (q5, .inl (cs 0, 4, .inl (fun _ => 0))), (q6, .inl (cs 0, 4, .inl (fun _ => 0))), (q7, .inl (cs 0, 16, .inl (fun _ => 0))), (q8, .inl (cs 0, 16, .inl (fun _ => 0))), (q9, .inl (cs 0, 30, .inl (fun _ => 0))), (q10, .inl (cs 0, 30, .inl (fun _ => 0))), (q11, .inl (cs 0, 5, .inl (fun _ => 0))), (q12, .inl (cs 0, 240, .inl (fun _ => 0))), (q13, .inl (cs 0, 5, .inl (fun _ => 0))), (q14, .inl (cs 0, 231, .inl (fun _ => 0)))]) rfl ?_
  refine gy_putF (q := 0) C I dX12_init_133 xfX12_64 rfl rfl rfl rfl rfl (Nat.le_of_ble_eq_true rfl) ?_
  refine gy_w (w2 := [(h0, .inr (12, [.int 0, .ref q1, .ref q2, .ref q3, .ref q4, .ref q1, .int 0, .int 0, .int 0, .int 0, .int 0, .int 0, .int 0, .int 0, .int 0, .ref (cs 10), .ref (cs 11), .int 0, .ref q5, .ref q6, .ref q7, .ref q8, .ref q9, .ref q10, .ref q11, .ref q12, .ref q13, .int 0, .int 0, .int 0, .int 0, .int 0, .ref q14, .null, .int 0, .int 0, .null, .null, .int 0, .int 0, .null, .int 0, .long 0, .null, .null, .null, .null, .int 0, .null, .null, .int 0])), (q1, .inl (cs 1, 240, .inl (fun _ => 0))), (q2, .inl (cs 1, 960, .inl (fun _ => 0))), (q3, .inl (cs 0, 4, .inl (fun _ => 0))), (q4, .inl (cs 0, 128, .inl (fun _ => 0))), (q5, .inl (cs 0, 4, .inl (fun _ => 0))), (q6, .inl (cs 0, 4, .inl (fun _ => 0))), (q7, .inl (cs 0, 16, .inl (fun _ => 0))), (q8, .inl (cs 0, 16, .inl (fun _ => 0))), (q9, .inl (cs 0, 30, .inl (fun _ => 0))), (q10, .inl (cs 0, 30, .inl (fun _ => 0))), (q11, .inl (cs 0, 5, .inl (fun _ => 0))), (q12, .inl (cs 0, 240, .inl (fun _ => 0))), (q13, .inl (cs 0, 5, .inl (fun _ => 0))), (q14, .inl (cs 0, 231, .inl (fun _ => 0)))]) rfl ?_
  refine gy_aload_n C dX12_init_136 rfl ?_
  refine gy_sipush (v := 231) C dX12_init_137 (by decide) ?_
  refine gy_newaI (N := 231) C dX12_init_140 xw_aint (by decide) (by decide) (by omega) (Rk.mo (by omega) (by omega)) (fun q15 => ?_)
  refine gy_widen (k2 := 15) (n2 := 2144) (by omega) (by omega) ?_
  refine gy_w (w2 := [(h0, .inr (12, [.int 0, .ref q1, .ref q2, .ref q3, .ref q4, .ref q1, .int 0, .int 0, .int 0, .int 0, .int 0, .int 0, .int 0, .int 0, .int 0, .ref (cs 10), .ref (cs 11), .int 0, .ref q5, .ref q6, .ref q7, .ref q8, .ref q9, .ref q10, .ref q11, .ref q12, .ref q13, .int 0, .int 0, .int 0, .int 0, .int 0, .ref q14, .null, .int 0, .int 0, .null, .null, .int 0, .int 0, .null, .int 0, .long 0, .null, .null, .null, .null, .int 0, .null, .null, .int 0])), (q1, .inl (cs 1, 240, .inl (fun _ => 0))), (q2, .inl (cs 1, 960, .inl (fun _ => 0))), (q3, .inl (cs 0, 4, .inl (fun _ => 0))), (q4, .inl (cs 0, 128, .inl (fun _ => 0))), (q5, .inl (cs 0, 4, .inl (fun _ => 0))), (q6, .inl (cs 0, 4, .inl (fun _ => 0))), (q7, .inl (cs 0, 16, .inl (fun _ => 0))), (q8, .inl (cs 0, 16, .inl (fun _ => 0))), (q9, .inl (cs 0, 30, .inl (fun _ => 0))), (q10, .inl (cs 0, 30, .inl (fun _ => 0))), (q11, .inl (cs 0, 5, .inl (fun _ => 0))), (q12, .inl (cs 0, 240, .inl (fun _ => 0))), (q13, .inl (cs 0, 5, .inl (fun _ => 0))), (q14, .inl (cs 0, 231, .inl (fun _ => 0))), (q15, .inl (cs 0, 231, .inl (fun _ => 0)))]) rfl ?_
  refine gy_putF (q := 0) C I dX12_init_142 xfX12_67 rfl rfl rfl rfl rfl (Nat.le_of_ble_eq_true rfl) ?_
  refine gy_w (w2 := [(h0, .inr (12, [.int 0, .ref q1, .ref q2, .ref q3, .ref q4, .ref q1, .int 0, .int 0, .int 0, .int 0, .int 0, .int 0, .int 0, .int 0, .int 0, .ref (cs 10), .ref (cs 11), .int 0, .ref q5, .ref q6, .ref q7, .ref q8, .ref q9, .ref q10, .ref q11, .ref q12, .ref q13, .int 0, .int 0, .int 0, .int 0, .int 0, .ref q14, .ref q15, .int 0, .int 0, .null, .null, .int 0, .int 0, .null, .int 0, .long 0, .null, .null, .null, .null, .int 0, .null, .null, .int 0])), (q1, .inl (cs 1, 240, .inl (fun _ => 0))), (q2, .inl (cs 1, 960, .inl (fun _ => 0))), (q3, .inl (cs 0, 4, .inl (fun _ => 0))), (q4, .inl (cs 0, 128, .inl (fun _ => 0))), (q5, .inl (cs 0, 4, .inl (fun _ => 0))), (q6, .inl (cs 0, 4, .inl (fun _ => 0))), (q7, .inl (cs 0, 16, .inl (fun _ => 0))), (q8, .inl (cs 0, 16, .inl (fun _ => 0))), (q9, .inl (cs 0, 30, .inl (fun _ => 0))), (q10, .inl (cs 0, 30, .inl (fun _ => 0))), (q11, .inl (cs 0, 5, .inl (fun _ => 0))), (q12, .inl (cs 0, 240, .inl (fun _ => 0))), (q13, .inl (cs 0, 5, .inl (fun _ => 0))), (q14, .inl (cs 0, 231, .inl (fun _ => 0))), (q15, .inl (cs 0, 231, .inl (fun _ => 0)))]) rfl ?_
  refine gy_aload_n C dX12_init_145 rfl ?_
  refine gy_iconst (v := (-1)) C dX12_init_146 (by decide) ?_
  refine gy_put (q := 0) C dX12_init_147 xfX12_70 rfl rfl rfl rfl (Nat.le_of_ble_eq_true rfl) ?_
  refine gy_w (w2 := [(h0, .inr (12, [.int 0, .ref q1, .ref q2, .ref q3, .ref q4, .ref q1, .int 0, .int 0, .int 0, .int 0, .int 0, .int 0, .int 0, .int 0, .int 0, .ref (cs 10), .ref (cs 11), .int 0, .ref q5, .ref q6, .ref q7, .ref q8, .ref q9, .ref q10, .ref q11, .ref q12, .ref q13, .int 0, .int 0, .int 0, .int 0, .int 0, .ref q14, .ref q15, .int (-1), .int 0, .null, .null, .int 0, .int 0, .null, .int 0, .long 0, .null, .null, .null, .null, .int 0, .null, .null, .int 0])), (q1, .inl (cs 1, 240, .inl (fun _ => 0))), (q2, .inl (cs 1, 960, .inl (fun _ => 0))), (q3, .inl (cs 0, 4, .inl (fun _ => 0))), (q4, .inl (cs 0, 128, .inl (fun _ => 0))), (q5, .inl (cs 0, 4, .inl (fun _ => 0))), (q6, .inl (cs 0, 4, .inl (fun _ => 0))), (q7, .inl (cs 0, 16, .inl (fun _ => 0))), (q8, .inl (cs 0, 16, .inl (fun _ => 0))), (q9, .inl (cs 0, 30, .inl (fun _ => 0))), (q10, .inl (cs 0, 30, .inl (fun _ => 0))), (q11, .inl (cs 0, 5, .inl (fun _ => 0))), (q12, .inl (cs 0, 240, .inl (fun _ => 0))), (q13, .inl (cs 0, 5, .inl (fun _ => 0))), (q14, .inl (cs 0, 231, .inl (fun _ => 0))), (q15, .inl (cs 0, 231, .inl (fun _ => 0)))]) rfl ?_
  refine gy_aload_n C dX12_init_150 rfl ?_
  refine gy_iconst (v := 3) C dX12_init_151 (by decide) ?_
  refine gy_put (q := 0) C dX12_init_152 xfX12_74 rfl rfl rfl rfl (Nat.le_of_ble_eq_true rfl) ?_
  refine gy_w (w2 := [(h0, .inr (12, [.int 0, .ref q1, .ref q2, .ref q3, .ref q4, .ref q1, .int 0, .int 0, .int 0, .int 0, .int 0, .int 0, .int 0, .int 0, .int 0, .ref (cs 10), .ref (cs 11), .int 0, .ref q5, .ref q6, .ref q7, .ref q8, .ref q9, .ref q10, .ref q11, .ref q12, .ref q13, .int 0, .int 0, .int 0, .int 0, .int 0, .ref q14, .ref q15, .int (-1), .int 3, .null, .null, .int 0, .int 0, .null, .int 0, .long 0, .null, .null, .null, .null, .int 0, .null, .null, .int 0])), (q1, .inl (cs 1, 240, .inl (fun _ => 0))), (q2, .inl (cs 1, 960, .inl (fun _ => 0))), (q3, .inl (cs 0, 4, .inl (fun _ => 0))), (q4, .inl (cs 0, 128, .inl (fun _ => 0))), (q5, .inl (cs 0, 4, .inl (fun _ => 0))), (q6, .inl (cs 0, 4, .inl (fun _ => 0))), (q7, .inl (cs 0, 16, .inl (fun _ => 0))), (q8, .inl (cs 0, 16, .inl (fun _ => 0))), (q9, .inl (cs 0, 30, .inl (fun _ => 0))), (q10, .inl (cs 0, 30, .inl (fun _ => 0))), (q11, .inl (cs 0, 5, .inl (fun _ => 0))), (q12, .inl (cs 0, 240, .inl (fun _ => 0))), (q13, .inl (cs 0, 5, .inl (fun _ => 0))), (q14, .inl (cs 0, 231, .inl (fun _ => 0))), (q15, .inl (cs 0, 231, .inl (fun _ => 0)))]) rfl ?_
  refine gy_aload_n C dX12_init_155 rfl ?_
  refine gy_sipush (v := 8191) C dX12_init_156 (by decide) ?_
  refine gy_newaI (N := 8191) C dX12_init_159 xw_aint (by decide) (by decide) (by omega) (Rk.mo (by omega) (by omega)) (fun q16 => ?_)
  refine gy_widen (k2 := 16) (n2 := 10335) (by omega) (by omega) ?_
  refine gy_w (w2 := [(h0, .inr (12, [.int 0, .ref q1, .ref q2, .ref q3, .ref q4, .ref q1, .int 0, .int 0, .int 0, .int 0, .int 0, .int 0, .int 0, .int 0, .int 0, .ref (cs 10), .ref (cs 11), .int 0, .ref q5, .ref q6, .ref q7, .ref q8, .ref q9, .ref q10, .ref q11, .ref q12, .ref q13, .int 0, .int 0, .int 0, .int 0, .int 0, .ref q14, .ref q15, .int (-1), .int 3, .null, .null, .int 0, .int 0, .null, .int 0, .long 0, .null, .null, .null, .null, .int 0, .null, .null, .int 0])), (q1, .inl (cs 1, 240, .inl (fun _ => 0))), (q2, .inl (cs 1, 960, .inl (fun _ => 0))), (q3, .inl (cs 0, 4, .inl (fun _ => 0))), (q4, .inl (cs 0, 128, .inl (fun _ => 0))), (q5, .inl (cs 0, 4, .inl (fun _ => 0))), (q6, .inl (cs 0, 4, .inl (fun _ => 0))), (q7, .inl (cs 0, 16, .inl (fun _ => 0))), (q8, .inl (cs 0, 16, .inl (fun _ => 0))), (q9, .inl (cs 0, 30, .inl (fun _ => 0))), (q10, .inl (cs 0, 30, .inl (fun _ => 0))), (q11, .inl (cs 0, 5, .inl (fun _ => 0))), (q12, .inl (cs 0, 240, .inl (fun _ => 0))), (q13, .inl (cs 0, 5, .inl (fun _ => 0))), (q14, .inl (cs 0, 231, .inl (fun _ => 0))), (q15, .inl (cs 0, 231, .inl (fun _ => 0))), (q16, .inl (cs 0, 8191, .inl (fun _ => 0)))]) rfl ?_
  refine gy_putF (q := 0) C I dX12_init_161 xfX12_77 rfl rfl rfl rfl rfl (Nat.le_of_ble_eq_true rfl) ?_
  refine gy_w (w2 := [(h0, .inr (12, [.int 0, .ref q1, .ref q2, .ref q3, .ref q4, .ref q1, .int 0, .int 0, .int 0, .int 0, .int 0, .int 0, .int 0, .int 0, .int 0, .ref (cs 10), .ref (cs 11), .int 0, .ref q5, .ref q6, .ref q7, .ref q8, .ref q9, .ref q10, .ref q11, .ref q12, .ref q13, .int 0, .int 0, .int 0, .int 0, .int 0, .ref q14, .ref q15, .int (-1), .int 3, .ref q16, .null, .int 0, .int 0, .null, .int 0, .long 0, .null, .null, .null, .null, .int 0, .null, .null, .int 0])), (q1, .inl (cs 1, 240, .inl (fun _ => 0))), (q2, .inl (cs 1, 960, .inl (fun _ => 0))), (q3, .inl (cs 0, 4, .inl (fun _ => 0))), (q4, .inl (cs 0, 128, .inl (fun _ => 0))), (q5, .inl (cs 0, 4, .inl (fun _ => 0))), (q6, .inl (cs 0, 4, .inl (fun _ => 0))), (q7, .inl (cs 0, 16, .inl (fun _ => 0))), (q8, .inl (cs 0, 16, .inl (fun _ => 0))), (q9, .inl (cs 0, 30, .inl (fun _ => 0))), (q10, .inl (cs 0, 30, .inl (fun _ => 0))), (q11, .inl (cs 0, 5, .inl (fun _ => 0))), (q12, .inl (cs 0, 240, .inl (fun _ => 0))), (q13, .inl (cs 0, 5, .inl (fun _ => 0))), (q14, .inl (cs 0, 231, .inl (fun _ => 0))), (q15, .inl (cs 0, 231, .inl (fun _ => 0))), (q16, .inl (cs 0, 8191, .inl (fun _ => 0)))]) rfl ?_
  refine gy_aload_n C dX12_init_164 rfl ?_
  refine gy_sipush (v := 8191) C dX12_init_165 (by decide) ?_
  refine gy_newaI (N := 8191) C dX12_init_168 xw_aint (by decide) (by decide) (by omega) (Rk.mo (by omega) (by omega)) (fun q17 => ?_)
  refine gy_widen (k2 := 17) (n2 := 18526) (by omega) (by omega) ?_
  refine gy_w (w2 := [(h0, .inr (12, [.int 0, .ref q1, .ref q2, .ref q3, .ref q4, .ref q1, .int 0, .int 0, .int 0, .int 0, .int 0, .int 0, .int 0, .int 0, .int 0, .ref (cs 10), .ref (cs 11), .int 0, .ref q5, .ref q6, .ref q7, .ref q8, .ref q9, .ref q10, .ref q11, .ref q12, .ref q13, .int 0, .int 0, .int 0, .int 0, .int 0, .ref q14, .ref q15, .int (-1), .int 3, .ref q16, .null, .int 0, .int 0, .null, .int 0, .long 0, .null, .null, .null, .null, .int 0, .null, .null, .int 0])), (q1, .inl (cs 1, 240, .inl (fun _ => 0))), (q2, .inl (cs 1, 960, .inl (fun _ => 0))), (q3, .inl (cs 0, 4, .inl (fun _ => 0))), (q4, .inl (cs 0, 128, .inl (fun _ => 0))), (q5, .inl (cs 0, 4, .inl (fun _ => 0))), (q6, .inl (cs 0, 4, .inl (fun _ => 0))), (q7, .inl (cs 0, 16, .inl (fun _ => 0))), (q8, .inl (cs 0, 16, .inl (fun _ => 0))), (q9, .inl (cs 0, 30, .inl (fun _ => 0))), (q10, .inl (cs 0, 30, .inl (fun _ => 0))), (q11, .inl (cs 0, 5, .inl (fun _ => 0))), (q12, .inl (cs 0, 240, .inl (fun _ => 0))), (q13, .inl (cs 0, 5, .inl (fun _ => 0))), (q14, .inl (cs 0, 231, .inl (fun _ => 0))), (q15, .inl (cs 0, 231, .inl (fun _ => 0))), (q16, .inl (cs 0, 8191, .inl (fun _ => 0))), (q17, .inl (cs 0, 8191, .inl (fun _ => 0)))]) rfl ?_
  refine gy_putF (q := 0) C I dX12_init_170 xfX12_80 rfl rfl rfl rfl rfl (Nat.le_of_ble_eq_true rfl) ?_
  refine gy_w (w2 := [(h0, .inr (12, [.int 0, .ref q1, .ref q2, .ref q3, .ref q4, .ref q1, .int 0, .int 0, .int 0, .int 0, .int 0, .int 0, .int 0, .int 0, .int 0, .ref (cs 10), .ref (cs 11), .int 0, .ref q5, .ref q6, .ref q7, .ref q8, .ref q9, .ref q10, .ref q11, .ref q12, .ref q13, .int 0, .int 0, .int 0, .int 0, .int 0, .ref q14, .ref q15, .int (-1), .int 3, .ref q16, .ref q17, .int 0, .int 0, .null, .int 0, .long 0, .null, .null, .null, .null, .int 0, .null, .null, .int 0])), (q1, .inl (cs 1, 240, .inl (fun _ => 0))), (q2, .inl (cs 1, 960, .inl (fun _ => 0))), (q3, .inl (cs 0, 4, .inl (fun _ => 0))), (q4, .inl (cs 0, 128, .inl (fun _ => 0))), (q5, .inl (cs 0, 4, .inl (fun _ => 0))), (q6, .inl (cs 0, 4, .inl (fun _ => 0))), (q7, .inl (cs 0, 16, .inl (fun _ => 0))), (q8, .inl (cs 0, 16, .inl (fun _ => 0))), (q9, .inl (cs 0, 30, .inl (fun _ => 0))), (q10, .inl (cs 0, 30, .inl (fun _ => 0))), (q11, .inl (cs 0, 5, .inl (fun _ => 0))), (q12, .inl (cs 0, 240, .inl (fun _ => 0))), (q13, .inl (cs 0, 5, .inl (fun _ => 0))), (q14, .inl (cs 0, 231, .inl (fun _ => 0))), (q15, .inl (cs 0, 231, .inl (fun _ => 0))), (q16, .inl (cs 0, 8191, .inl (fun _ => 0))), (q17, .inl (cs 0, 8191, .inl (fun _ => 0)))]) rfl ?_
  refine gy_aload_n C dX12_init_173 rfl ?_
  refine gy_sipush (v := 9240) C dX12_init_174 (by decide) ?_
  refine gy_newaI (N := 9240) C dX12_init_177 xw_aint (by decide) (by decide) (by omega) (Rk.mo (by omega) (by omega)) (fun q18 => ?_)
  refine gy_widen (k2 := 18) (n2 := 27766) (by omega) (by omega) ?_
  refine gy_w (w2 := [(h0, .inr (12, [.int 0, .ref q1, .ref q2, .ref q3, .ref q4, .ref q1, .int 0, .int 0, .int 0, .int 0, .int 0, .int 0, .int 0, .int 0, .int 0, .ref (cs 10), .ref (cs 11), .int 0, .ref q5, .ref q6, .ref q7, .ref q8, .ref q9, .ref q10, .ref q11, .ref q12, .ref q13, .int 0, .int 0, .int 0, .int 0, .int 0, .ref q14, .ref q15, .int (-1), .int 3, .ref q16, .ref q17, .int 0, .int 0, .null, .int 0, .long 0, .null, .null, .null, .null, .int 0, .null, .null, .int 0])), (q1, .inl (cs 1, 240, .inl (fun _ => 0))), (q2, .inl (cs 1, 960, .inl (fun _ => 0))), (q3, .inl (cs 0, 4, .inl (fun _ => 0))), (q4, .inl (cs 0, 128, .inl (fun _ => 0))), (q5, .inl (cs 0, 4, .inl (fun _ => 0))), (q6, .inl (cs 0, 4, .inl (fun _ => 0))), (q7, .inl (cs 0, 16, .inl (fun _ => 0))), (q8, .inl (cs 0, 16, .inl (fun _ => 0))), (q9, .inl (cs 0, 30, .inl (fun _ => 0))), (q10, .inl (cs 0, 30, .inl (fun _ => 0))), (q11, .inl (cs 0, 5, .inl (fun _ => 0))), (q12, .inl (cs 0, 240, .inl (fun _ => 0))), (q13, .inl (cs 0, 5, .inl (fun _ => 0))), (q14, .inl (cs 0, 231, .inl (fun _ => 0))), (q15, .inl (cs 0, 231, .inl (fun _ => 0))), (q16, .inl (cs 0, 8191, .inl (fun _ => 0))), (q17, .inl (cs 0, 8191, .inl (fun _ => 0))), (q18, .inl (cs 0, 9240, .inl (fun _ => 0)))]) rfl ?_
  refine gy_putF (q := 0) C I dX12_init_179 xfX12_83 rfl rfl rfl rfl rfl (Nat.le_of_ble_eq_true rfl) ?_
  refine gy_w (w2 := [(h0, .inr (12, [.int 0, .ref q1, .ref q2, .ref q3, .ref q4, .ref q1, .int 0, .int 0, .int 0, .int 0, .int 0, .int 0, .int 0, .int 0, .int 0, .ref (cs 10), .ref (cs 11), .int 0, .ref q5, .ref q6, .ref q7, .ref q8, .ref q9, .ref q10, .ref q11, .ref q12, .ref q13, .int 0, .int 0, .int 0, .int 0, .int 0, .ref q14, .ref q15, .int (-1), .int 3, .ref q16, .ref q17, .int 0, .int 0, .ref q18, .int 0, .long 0, .null, .null, .null, .null, .int 0, .null, .null, .int 0])), (q1, .inl (cs 1, 240, .inl (fun _ => 0))), (q2, .inl (cs 1, 960, .inl (fun _ => 0))), (q3, .inl (cs 0, 4, .inl (fun _ => 0))), (q4, .inl (cs 0, 128, .inl (fun _ => 0))), (q5, .inl (cs 0, 4, .inl (fun _ => 0))), (q6, .inl (cs 0, 4, .inl (fun _ => 0))), (q7, .inl (cs 0, 16, .inl (fun _ => 0))), (q8, .inl (cs 0, 16, .inl (fun _ => 0))), (q9, .inl (cs 0, 30, .inl (fun _ => 0))), (q10, .inl (cs 0, 30, .inl (fun _ => 0))), (q11, .inl (cs 0, 5, .inl (fun _ => 0))), (q12, .inl (cs 0, 240, .inl (fun _ => 0))), (q13, .inl (cs 0, 5, .inl (fun _ => 0))), (q14, .inl (cs 0, 231, .inl (fun _ => 0))), (q15, .inl (cs 0, 231, .inl (fun _ => 0))), (q16, .inl (cs 0, 8191, .inl (fun _ => 0))), (q17, .inl (cs 0, 8191, .inl (fun _ => 0))), (q18, .inl (cs 0, 9240, .inl (fun _ => 0)))]) rfl ?_
  refine gy_aload_n C dX12_init_182 rfl ?_
  refine gy_bipush (v := 30) C dX12_init_183 (by decide) ?_
  refine gy_newaI (N := 30) C dX12_init_185 xw_aint (by decide) (by decide) (by omega) (Rk.mo (by omega) (by omega)) (fun q19 => ?_)
  refine gy_widen (k2 := 19) (n2 := 27796) (by omega) (by omega) ?_
  refine gy_w (w2 := [(h0, .inr (12, [.int 0, .ref q1, .ref q2, .ref q3, .ref q4, .ref q1, .int 0, .int 0, .int 0, .int 0, .int 0, .int 0, .int 0, .int 0, .int 0, .ref (cs 10), .ref (cs 11), .int 0, .ref q5, .ref q6, .ref q7, .ref q8, .ref q9, .ref q10, .ref q11, .ref q12, .ref q13, .int 0, .int 0, .int 0, .int 0, .int 0, .ref q14, .ref q15, .int (-1), .int 3, .ref q16, .ref q17, .int 0, .int 0, .ref q18, .int 0, .long 0, .null, .null, .null, .null, .int 0, .null, .null, .int 0])), (q1, .inl (cs 1, 240, .inl (fun _ => 0))), (q2, .inl (cs 1, 960, .inl (fun _ => 0))), (q3, .inl (cs 0, 4, .inl (fun _ => 0))), (q4, .inl (cs 0, 128, .inl (fun _ => 0))), (q5, .inl (cs 0, 4, .inl (fun _ => 0))), (q6, .inl (cs 0, 4, .inl (fun _ => 0))), (q7, .inl (cs 0, 16, .inl (fun _ => 0))), (q8, .inl (cs 0, 16, .inl (fun _ => 0))), (q9, .inl (cs 0, 30, .inl (fun _ => 0))), (q10, .inl (cs 0, 30, .inl (fun _ => 0))), (q11, .inl (cs 0, 5, .inl (fun _ => 0))), (q12, .inl (cs 0, 240, .inl (fun _ => 0))), (q13, .inl (cs 0, 5, .inl (fun _ => 0))), (q14, .inl (cs 0, 231, .inl (fun _ => 0))), (q15, .inl (cs 0, 231, .inl (fun _ => 0))), (q16, .inl (cs 0, 8191, .inl (fun _ => 0))), (q17, .inl (cs 0, 8191, .inl (fun _ => 0))), (q18, .inl (cs 0, 9240, .inl (fun _ => 0))), (q19, .inl (cs 0, 30, .inl (fun _ => 0)))]) rfl ?_
  refine gy_putF (q := 0) C I dX12_init_187 xfX12_86 rfl rfl rfl rfl rfl (Nat.le_of_ble_eq_true rfl) ?_
  refine gy_w (w2 := [(h0, .inr (12, [.int 0, .ref q1, .ref q2, .ref q3, .ref q4, .ref q1, .int 0, .int 0, .int 0, .int 0, .int 0, .int 0, .int 0, .int 0, .int 0, .ref (cs 10), .ref (cs 11), .int 0, .ref q5, .ref q6, .ref q7, .ref q8, .ref q9, .ref q10, .ref q11, .ref q12, .ref q13, .int 0, .int 0, .int 0, .int 0, .int 0, .ref q14, .ref q15, .int (-1), .int 3, .ref q16, .ref q17, .int 0, .int 0, .ref q18, .int 0, .long 0, .ref q19, .null, .null, .null, .int 0, .null, .null, .int 0])), (q1, .inl (cs 1, 240, .inl (fun _ => 0))), (q2, .inl (cs 1, 960, .inl (fun _ => 0))), (q3, .inl (cs 0, 4, .inl (fun _ => 0))), (q4, .inl (cs 0, 128, .inl (fun _ => 0))), (q5, .inl (cs 0, 4, .inl (fun _ => 0))), (q6, .inl (cs 0, 4, .inl (fun _ => 0))), (q7, .inl (cs 0, 16, .inl (fun _ => 0))), (q8, .inl (cs 0, 16, .inl (fun _ => 0))), (q9, .inl (cs 0, 30, .inl (fun _ => 0))), (q10, .inl (cs 0, 30, .inl (fun _ => 0))), (q11, .inl (cs 0, 5, .inl (fun _ => 0))), (q12, .inl (cs 0, 240, .inl (fun _ => 0))), (q13, .inl (cs 0, 5, .inl (fun _ => 0))), (q14, .inl (cs 0, 231, .inl (fun _ => 0))), (q15, .inl (cs 0, 231, .inl (fun _ => 0))), (q16, .inl (cs 0, 8191, .inl (fun _ => 0))), (q17, .inl (cs 0, 8191, .inl (fun _ => 0))), (q18, .inl (cs 0, 9240, .inl (fun _ => 0))), (q19, .inl (cs 0, 30, .inl (fun _ => 0)))]) rfl ?_
  refine gy_aload_n C dX12_init_190 rfl ?_
  refine gy_bipush (v := 30) C dX12_init_191 (by decide) ?_
  refine gy_newaI (N := 30) C dX12_init_193 xw_aint (by decide) (by decide) (by omega) (Rk.mo (by omega) (by omega)) (fun q20 => ?_)
  refine gy_widen (k2 := 20) (n2 := 27826) (by omega) (by omega) ?_
  refine gy_w (w2 := [(h0, .inr (12, [.int 0, .ref q1, .ref q2, .ref q3, .ref q4, .ref q1, .int 0, .int 0, .int 0, .int 0, .int 0, .int 0, .int 0, .int 0, .int 0, .ref (cs 10), .ref (cs 11), .int 0, .ref q5, .ref q6, .ref q7, .ref q8, .ref q9, .ref q10, .ref q11, .ref q12, .ref q13, .int 0, .int 0, .int 0, .int 0, .int 0, .ref q14, .ref q15, .int (-1), .int 3, .ref q16, .ref q17, .int 0, .int 0, .ref q18, .int 0, .long 0, .ref q19, .null, .null, .null, .int 0, .null, .null, .int 0])), (q1, .inl (cs 1, 240, .inl (fun _ => 0))), (q2, .inl (cs 1, 960, .inl (fun _ => 0))), (q3, .inl (cs 0, 4, .inl (fun _ => 0))), (q4, .inl (cs 0, 128, .inl (fun _ => 0))), (q5, .inl (cs 0, 4, .inl (fun _ => 0))), (q6, .inl (cs 0, 4, .inl (fun _ => 0))), (q7, .inl (cs 0, 16, .inl (fun _ => 0))), (q8, .inl (cs 0, 16, .inl (fun _ => 0))), (q9, .inl (cs 0, 30, .inl (fun _ => 0))), (q10, .inl (cs 0, 30, .inl (fun _ => 0))), (q11, .inl (cs 0, 5, .inl (fun _ => 0))), (q12, .inl (cs 0, 240, .inl (fun _ => 0))), (q13, .inl (cs 0, 5, .inl (fun _ => 0))), (q14, .inl (cs 0, 231, .inl (fun _ => 0))), (q15, .inl (cs 0, 231, .inl (fun _ => 0))), (q16, .inl (cs 0, 8191, .inl (fun _ => 0))), (q17, .inl (cs 0, 8191, .inl (fun _ => 0))), (q18, .inl (cs 0, 9240, .inl (fun _ => 0))), (q19, .inl (cs 0, 30, .inl (fun _ => 0))), (q20, .inl (cs 0, 30, .inl (fun _ => 0)))]) rfl ?_
  refine gy_putF (q := 0) C I dX12_init_195 xfX12_89 rfl rfl rfl rfl rfl (Nat.le_of_ble_eq_true rfl) ?_
  refine gy_w (w2 := [(h0, .inr (12, [.int 0, .ref q1, .ref q2, .ref q3, .ref q4, .ref q1, .int 0, .int 0, .int 0, .int 0, .int 0, .int 0, .int 0, .int 0, .int 0, .ref (cs 10), .ref (cs 11), .int 0, .ref q5, .ref q6, .ref q7, .ref q8, .ref q9, .ref q10, .ref q11, .ref q12, .ref q13, .int 0, .int 0, .int 0, .int 0, .int 0, .ref q14, .ref q15, .int (-1), .int 3, .ref q16, .ref q17, .int 0, .int 0, .ref q18, .int 0, .long 0, .ref q19, .ref q20, .null, .null, .int 0, .null, .null, .int 0])), (q1, .inl (cs 1, 240, .inl (fun _ => 0))), (q2, .inl (cs 1, 960, .inl (fun _ => 0))), (q3, .inl (cs 0, 4, .inl (fun _ => 0))), (q4, .inl (cs 0, 128, .inl (fun _ => 0))), (q5, .inl (cs 0, 4, .inl (fun _ => 0))), (q6, .inl (cs 0, 4, .inl (fun _ => 0))), (q7, .inl (cs 0, 16, .inl (fun _ => 0))), (q8, .inl (cs 0, 16, .inl (fun _ => 0))), (q9, .inl (cs 0, 30, .inl (fun _ => 0))), (q10, .inl (cs 0, 30, .inl (fun _ => 0))), (q11, .inl (cs 0, 5, .inl (fun _ => 0))), (q12, .inl (cs 0, 240, .inl (fun _ => 0))), (q13, .inl (cs 0, 5, .inl (fun _ => 0))), (q14, .inl (cs 0, 231, .inl (fun _ => 0))), (q15, .inl (cs 0, 231, .inl (fun _ => 0))), (q16, .inl (cs 0, 8191, .inl (fun _ => 0))), (q17, .inl (cs 0, 8191, .inl (fun _ => 0))), (q18, .inl (cs 0, 9240, .inl (fun _ => 0))), (q19, .inl (cs 0, 30, .inl (fun _ => 0))), (q20, .inl (cs 0, 30, .inl (fun _ => 0)))]) rfl ?_
  refine gy_aload_n C dX12_init_198 rfl ?_
  refine gy_sipush (v := 496) C dX12_init_199 (by decide) ?_
  refine gy_newaI (N := 496) C dX12_init_202 xw_aint (by decide) (by decide) (by omega) (Rk.mo (by omega) (by omega)) (fun q21 => ?_)
  refine gy_widen (k2 := 21) (n2 := 28322) (by omega) (by omega) ?_
  refine gy_w (w2 := [(h0, .inr (12, [.int 0, .ref q1, .ref q2, .ref q3, .ref q4, .ref q1, .int 0, .int 0, .int 0, .int 0, .int 0, .int 0, .int 0, .int 0, .int 0, .ref (cs 10), .ref (cs 11), .int 0, .ref q5, .ref q6, .ref q7, .ref q8, .ref q9, .ref q10, .ref q11, .ref q12, .ref q13, .int 0, .int 0, .int 0, .int 0, .int 0, .ref q14, .ref q15, .int (-1), .int 3, .ref q16, .ref q17, .int 0, .int 0, .ref q18, .int 0, .long 0, .ref q19, .ref q20, .null, .null, .int 0, .null, .null, .int 0])), (q1, .inl (cs 1, 240, .inl (fun _ => 0))), (q2, .inl (cs 1, 960, .inl (fun _ => 0))), (q3, .inl (cs 0, 4, .inl (fun _ => 0))), (q4, .inl (cs 0, 128, .inl (fun _ => 0))), (q5, .inl (cs 0, 4, .inl (fun _ => 0))), (q6, .inl (cs 0, 4, .inl (fun _ => 0))), (q7, .inl (cs 0, 16, .inl (fun _ => 0))), (q8, .inl (cs 0, 16, .inl (fun _ => 0))), (q9, .inl (cs 0, 30, .inl (fun _ => 0))), (q10, .inl (cs 0, 30, .inl (fun _ => 0))), (q11, .inl (cs 0, 5, .inl (fun _ => 0))), (q12, .inl (cs 0, 240, .inl (fun _ => 0))), (q13, .inl (cs 0, 5, .inl (fun _ => 0))), (q14, .inl (cs 0, 231, .inl (fun _ => 0))), (q15, .inl (cs 0, 231, .inl (fun _ => 0))), (q16, .inl (cs 0, 8191, .inl (fun _ => 0))), (q17, .inl (cs 0, 8191, .inl (fun _ => 0))), (q18, .inl (cs 0, 9240, .inl (fun _ => 0))), (q19, .inl (cs 0, 30, .inl (fun _ => 0))), (q20, .inl (cs 0, 30, .inl (fun _ => 0))), (q21, .inl (cs 0, 496, .inl (fun _ => 0)))]) rfl ?_
  refine gy_putF (q := 0) C I dX12_init_204 xfX12_92 rfl rfl rfl rfl rfl (Nat.le_of_ble_eq_true rfl) ?_
  refine gy_w (w2 := [(h0, .inr (12, [.int 0, .ref q1, .ref q2, .ref q3, .ref q4, .ref q1, .int 0, .int 0, .int 0, .int 0, .int 0, .int 0, .int 0, .int 0, .int 0, .ref (cs 10), .ref (cs 11), .int 0, .ref q5, .ref q6, .ref q7, .ref q8, .ref q9, .ref q10, .ref q11, .ref q12, .ref q13, .int 0, .int 0, .int 0, .int 0, .int 0, .ref q14, .ref q15, .int (-1), .int 3, .ref q16, .ref q17, .int 0, .int 0, .ref q18, .int 0, .long 0, .ref q19, .ref q20, .ref q21, .null, .int 0, .null, .null, .int 0])), (q1, .inl (cs 1, 240, .inl (fun _ => 0))), (q2, .inl (cs 1, 960, .inl (fun _ => 0))), (q3, .inl (cs 0, 4, .inl (fun _ => 0))), (q4, .inl (cs 0, 128, .inl (fun _ => 0))), (q5, .inl (cs 0, 4, .inl (fun _ => 0))), (q6, .inl (cs 0, 4, .inl (fun _ => 0))), (q7, .inl (cs 0, 16, .inl (fun _ => 0))), (q8, .inl (cs 0, 16, .inl (fun _ => 0))), (q9, .inl (cs 0, 30, .inl (fun _ => 0))), (q10, .inl (cs 0, 30, .inl (fun _ => 0))), (q11, .inl (cs 0, 5, .inl (fun _ => 0))), (q12, .inl (cs 0, 240, .inl (fun _ => 0))), (q13, .inl (cs 0, 5, .inl (fun _ => 0))), (q14, .inl (cs 0, 231, .inl (fun _ => 0))), (q15, .inl (cs 0, 231, .inl (fun _ => 0))), (q16, .inl (cs 0, 8191, .inl (fun _ => 0))), (q17, .inl (cs 0, 8191, .inl (fun _ => 0))), (q18, .inl (cs 0, 9240, .inl (fun _ => 0))), (q19, .inl (cs 0, 30, .inl (fun _ => 0))), (q20, .inl (cs 0, 30, .inl (fun _ => 0))), (q21, .inl (cs 0, 496, .inl (fun _ => 0)))]) rfl ?_
  refine gy_aload_n C dX12_init_207 rfl ?_
  refine gy_bipush (v := 30) C dX12_init_208 (by decide) ?_
  refine gy_newaI (N := 30) C dX12_init_210 xw_aint (by decide) (by decide) (by omega) (Rk.mo (by omega) (by omega)) (fun q22 => ?_)
  refine gy_widen (k2 := 22) (n2 := 28352) (by omega) (by omega) ?_
  refine gy_w (w2 := [(h0, .inr (12, [.int 0, .ref q1, .ref q2, .ref q3, .ref q4, .ref q1, .int 0, .int 0, .int 0, .int 0, .int 0, .int 0, .int 0, .int 0, .int 0, .ref (cs 10), .ref (cs 11), .int 0, .ref q5, .ref q6, .ref q7, .ref q8, .ref q9, .ref q10, .ref q11, .ref q12, .ref q13, .int 0, .int 0, .int 0, .int 0, .int 0, .ref q14, .ref q15, .int (-1), .int 3, .ref q16, .ref q17, .int 0, .int 0, .ref q18, .int 0, .long 0, .ref q19, .ref q20, .ref q21, .null, .int 0, .null, .null, .int 0])), (q1, .inl (cs 1, 240, .inl (fun _ => 0))), (q2, .inl (cs 1, 960, .inl (fun _ => 0))), (q3, .inl (cs 0, 4, .inl (fun _ => 0))), (q4, .inl (cs 0, 128, .inl (fun _ => 0))), (q5, .inl (cs 0, 4, .inl (fun _ => 0))), (q6, .inl (cs 0, 4, .inl (fun _ => 0))), (q7, .inl (cs 0, 16, .inl (fun _ => 0))), (q8, .inl (cs 0, 16, .inl (fun _ => 0))), (q9, .inl (cs 0, 30, .inl (fun _ => 0))), (q10, .inl (cs 0, 30, .inl (fun _ => 0))), (q11, .inl (cs 0, 5, .inl (fun _ => 0))), (q12, .inl (cs 0, 240, .inl (fun _ => 0))), (q13, .inl (cs 0, 5, .inl (fun _ => 0))), (q14, .inl (cs 0, 231, .inl (fun _ => 0))), (q15, .inl (cs 0, 231, .inl (fun _ => 0))), (q16, .inl (cs 0, 8191, .inl (fun _ => 0))), (q17, .inl (cs 0, 8191, .inl (fun _ => 0))), (q18, .inl (cs 0, 9240, .inl (fun _ => 0))), (q19, .inl (cs 0, 30, .inl (fun _ => 0))), (q20, .inl (cs 0, 30, .inl (fun _ => 0))), (q21, .inl (cs 0, 496, .inl (fun _ => 0))), (q22, .inl (cs 0, 30, .inl (fun _ => 0)))]) rfl ?_
  refine gy_putF (q := 0) C I dX12_init_212 xfX12_95 rfl rfl rfl rfl rfl (Nat.le_of_ble_eq_true rfl) ?_
  refine gy_w (w2 := [(h0, .inr (12, [.int 0, .ref q1, .ref q2, .ref q3, .ref q4, .ref q1, .int 0, .int 0, .int 0, .int 0, .int 0, .int 0, .int 0, .int 0, .int 0, .ref (cs 10), .ref (cs 11), .int 0, .ref q5, .ref q6, .ref q7, .ref q8, .ref q9, .ref q10, .ref q11, .ref q12, .ref q13, .int 0, .int 0, .int 0, .int 0, .int 0, .ref q14, .ref q15, .int (-1), .int 3, .ref q16, .ref q17, .int 0, .int 0, .ref q18, .int 0, .long 0, .ref q19, .ref q20, .ref q21, .ref q22, .int 0, .null, .null, .int 0])), (q1, .inl (cs 1, 240, .inl (fun _ => 0))), (q2, .inl (cs 1, 960, .inl (fun _ => 0))), (q3, .inl (cs 0, 4, .inl (fun _ => 0))), (q4, .inl (cs 0, 128, .inl (fun _ => 0))), (q5, .inl (cs 0, 4, .inl (fun _ => 0))), (q6, .inl (cs 0, 4, .inl (fun _ => 0))), (q7, .inl (cs 0, 16, .inl (fun _ => 0))), (q8, .inl (cs 0, 16, .inl (fun _ => 0))), (q9, .inl (cs 0, 30, .inl (fun _ => 0))), (q10, .inl (cs 0, 30, .inl (fun _ => 0))), (q11, .inl (cs 0, 5, .inl (fun _ => 0))), (q12, .inl (cs 0, 240, .inl (fun _ => 0))), (q13, .inl (cs 0, 5, .inl (fun _ => 0))), (q14, .inl (cs 0, 231, .inl (fun _ => 0))), (q15, .inl (cs 0, 231, .inl (fun _ => 0))), (q16, .inl (cs 0, 8191, .inl (fun _ => 0))), (q17, .inl (cs 0, 8191, .inl (fun _ => 0))), (q18, .inl (cs 0, 9240, .inl (fun _ => 0))), (q19, .inl (cs 0, 30, .inl (fun _ => 0))), (q20, .inl (cs 0, 30, .inl (fun _ => 0))), (q21, .inl (cs 0, 496, .inl (fun _ => 0))), (q22, .inl (cs 0, 30, .inl (fun _ => 0)))]) rfl ?_
  refine gy_aload_n C dX12_init_215 rfl ?_
  refine gy_sipush (v := 357) C dX12_init_216 (by decide) ?_
  refine gy_newaI (N := 357) C dX12_init_219 xw_aint (by decide) (by decide) (by omega) (Rk.mo (by omega) (by omega)) (fun q23 => ?_)
  refine gy_widen (k2 := 23) (n2 := 28709) (by omega) (by omega) ?_
  refine gy_w (w2 := [(h0, .inr (12, [.int 0, .ref q1, .ref q2, .ref q3, .ref q4, .ref q1, .int 0, .int 0, .int 0, .int 0, .int 0, .int 0, .int 0, .int 0, .int 0, .ref (cs 10), .ref (cs 11), .int 0, .ref q5, .ref q6, .ref q7, .ref q8, .ref q9, .ref q10, .ref q11, .ref q12, .ref q13, .int 0, .int 0, .int 0, .int 0, .int 0, .ref q14, .ref q15, .int (-1), .int 3, .ref q16, .ref q17, .int 0, .int 0, .ref q18, .int 0, .long 0, .ref q19, .ref q20, .ref q21, .ref q22, .int 0, .null, .null, .int 0])), (q1, .inl (cs 1, 240, .inl (fun _ => 0))), (q2, .inl (cs 1, 960, .inl (fun _ => 0))), (q3, .inl (cs 0, 4, .inl (fun _ => 0))), (q4, .inl (cs 0, 128, .inl (fun _ => 0))), (q5, .inl (cs 0, 4, .inl (fun _ => 0))), (q6, .inl (cs 0, 4, .inl (fun _ => 0))), (q7, .inl (cs 0, 16, .inl (fun _ => 0))), (q8, .inl (cs 0, 16, .inl (fun _ => 0))), (q9, .inl (cs 0, 30, .inl (fun _ => 0))), (q10, .inl (cs 0, 30, .inl (fun _ => 0))), (q11, .inl (cs 0, 5, .inl (fun _ => 0))), (q12, .inl (cs 0, 240, .inl (fun _ => 0))), (q13, .inl (cs 0, 5, .inl (fun _ => 0))), (q14, .inl (cs 0, 231, .inl (fun _ => 0))), (q15, .inl (cs 0, 231, .inl (fun _ => 0))), (q16, .inl (cs 0, 8191, .inl (fun _ => 0))), (q17, .inl (cs 0, 8191, .inl (fun _ => 0))), (q18, .inl (cs 0, 9240, .inl (fun _ => 0))), (q19, .inl (cs 0, 30, .inl (fun _ => 0))), (q20, .inl (cs 0, 30, .inl (fun _ => 0))), (q21, .inl (cs 0, 496, .inl (fun _ => 0))), (q22, .inl (cs 0, 30, .inl (fun _ => 0))), (q23, .inl (cs 0, 357, .inl (fun _ => 0)))]) rfl ?_
  refine gy_putF (q := 0) C I dX12_init_221 xfX12_98 rfl rfl rfl rfl rfl (Nat.le_of_ble_eq_true rfl) ?_
  refine gy_w (w2 := [(h0, .inr (12, [.int 0, .ref q1, .ref q2, .ref q3, .ref q4, .ref q1, .int 0, .int 0, .int 0, .int 0, .int 0, .int 0, .int 0, .int 0, .int 0, .ref (cs 10), .ref (cs 11), .int 0, .ref q5, .ref q6, .ref q7, .ref q8, .ref q9, .ref q10, .ref q11, .ref q12, .ref q13, .int 0, .int 0, .int 0, .int 0, .int 0, .ref q14, .ref q15, .int (-1), .int 3, .ref q16, .ref q17, .int 0, .int 0, .ref q18, .int 0, .long 0, .ref q19, .ref q20, .ref q21, .ref q22, .int 0, .ref q23, .null, .int 0])), (q1, .inl (cs 1, 240, .inl (fun _ => 0))), (q2, .inl (cs 1, 960, .inl (fun _ => 0))), (q3, .inl (cs 0, 4, .inl (fun _ => 0))), (q4, .inl (cs 0, 128, .inl (fun _ => 0))), (q5, .inl (cs 0, 4, .inl (fun _ => 0))), (q6, .inl (cs 0, 4, .inl (fun _ => 0))), (q7, .inl (cs 0, 16, .inl (fun _ => 0))), (q8, .inl (cs 0, 16, .inl (fun _ => 0))), (q9, .inl (cs 0, 30, .inl (fun _ => 0))), (q10, .inl (cs 0, 30, .inl (fun _ => 0))), (q11, .inl (cs 0, 5, .inl (fun _ => 0))), (q12, .inl (cs 0, 240, .inl (fun _ => 0))), (q13, .inl (cs 0, 5, .inl (fun _ => 0))), (q14, .inl (cs 0, 231, .inl (fun _ => 0))), (q15, .inl (cs 0, 231, .inl (fun _ => 0))), (q16, .inl (cs 0, 8191, .inl (fun _ => 0))), (q17, .inl (cs 0, 8191, .inl (fun _ => 0))), (q18, .inl (cs 0, 9240, .inl (fun _ => 0))), (q19, .inl (cs 0, 30, .inl (fun _ => 0))), (q20, .inl (cs 0, 30, .inl (fun _ => 0))), (q21, .inl (cs 0, 496, .inl (fun _ => 0))), (q22, .inl (cs 0, 30, .inl (fun _ => 0))), (q23, .inl (cs 0, 357, .inl (fun _ => 0)))]) rfl ?_
  refine gy_aload_n C dX12_init_224 rfl ?_
  refine gy_sipush (v := 231) C dX12_init_225 (by decide) ?_
  refine gy_newaI (N := 231) C dX12_init_228 xw_aint (by decide) (by decide) (by omega) (Rk.mo (by omega) (by omega)) (fun q24 => ?_)
  refine gy_widen (k2 := 24) (n2 := 28940) (by omega) (by omega) ?_
  refine gy_w (w2 := [(h0, .inr (12, [.int 0, .ref q1, .ref q2, .ref q3, .ref q4, .ref q1, .int 0, .int 0, .int 0, .int 0, .int 0, .int 0, .int 0, .int 0, .int 0, .ref (cs 10), .ref (cs 11), .int 0, .ref q5, .ref q6, .ref q7, .ref q8, .ref q9, .ref q10, .ref q11, .ref q12, .ref q13, .int 0, .int 0, .int 0, .int 0, .int 0, .ref q14, .ref q15, .int (-1), .int 3, .ref q16, .ref q17, .int 0, .int 0, .ref q18, .int 0, .long 0, .ref q19, .ref q20, .ref q21, .ref q22, .int 0, .ref q23, .null, .int 0])), (q1, .inl (cs 1, 240, .inl (fun _ => 0))), (q2, .inl (cs 1, 960, .inl (fun _ => 0))), (q3, .inl (cs 0, 4, .inl (fun _ => 0))), (q4, .inl (cs 0, 128, .inl (fun _ => 0))), (q5, .inl (cs 0, 4, .inl (fun _ => 0))), (q6, .inl (cs 0, 4, .inl (fun _ => 0))), (q7, .inl (cs 0, 16, .inl (fun _ => 0))), (q8, .inl (cs 0, 16, .inl (fun _ => 0))), (q9, .inl (cs 0, 30, .inl (fun _ => 0))), (q10, .inl (cs 0, 30, .inl (fun _ => 0))), (q11, .inl (cs 0, 5, .inl (fun _ => 0))), (q12, .inl (cs 0, 240, .inl (fun _ => 0))), (q13, .inl (cs 0, 5, .inl (fun _ => 0))), (q14, .inl (cs 0, 231, .inl (fun _ => 0))), (q15, .inl (cs 0, 231, .inl (fun _ => 0))), (q16, .inl (cs 0, 8191, .inl (fun _ => 0))), (q17, .inl (cs 0, 8191, .inl (fun _ => 0))), (q18, .inl (cs 0, 9240, .inl (fun _ => 0))), (q19, .inl (cs 0, 30, .inl (fun _ => 0))), (q20, .inl (cs 0, 30, .inl (fun _ => 0))), (q21, .inl (cs 0, 496, .inl (fun _ => 0))), (q22, .inl (cs 0, 30, .inl (fun _ => 0))), (q23, .inl (cs 0, 357, .inl (fun _ => 0))), (q24, .inl (cs 0, 231, .inl (fun _ => 0)))]) rfl ?_
  refine gy_putF (q := 0) C I dX12_init_230 xfX12_101 rfl rfl rfl rfl rfl (Nat.le_of_ble_eq_true rfl) ?_
  refine gy_w (w2 := [(h0, .inr (12, [.int 0, .ref q1, .ref q2, .ref q3, .ref q4, .ref q1, .int 0, .int 0, .int 0, .int 0, .int 0, .int 0, .int 0, .int 0, .int 0, .ref (cs 10), .ref (cs 11), .int 0, .ref q5, .ref q6, .ref q7, .ref q8, .ref q9, .ref q10, .ref q11, .ref q12, .ref q13, .int 0, .int 0, .int 0, .int 0, .int 0, .ref q14, .ref q15, .int (-1), .int 3, .ref q16, .ref q17, .int 0, .int 0, .ref q18, .int 0, .long 0, .ref q19, .ref q20, .ref q21, .ref q22, .int 0, .ref q23, .ref q24, .int 0])), (q1, .inl (cs 1, 240, .inl (fun _ => 0))), (q2, .inl (cs 1, 960, .inl (fun _ => 0))), (q3, .inl (cs 0, 4, .inl (fun _ => 0))), (q4, .inl (cs 0, 128, .inl (fun _ => 0))), (q5, .inl (cs 0, 4, .inl (fun _ => 0))), (q6, .inl (cs 0, 4, .inl (fun _ => 0))), (q7, .inl (cs 0, 16, .inl (fun _ => 0))), (q8, .inl (cs 0, 16, .inl (fun _ => 0))), (q9, .inl (cs 0, 30, .inl (fun _ => 0))), (q10, .inl (cs 0, 30, .inl (fun _ => 0))), (q11, .inl (cs 0, 5, .inl (fun _ => 0))), (q12, .inl (cs 0, 240, .inl (fun _ => 0))), (q13, .inl (cs 0, 5, .inl (fun _ => 0))), (q14, .inl (cs 0, 231, .inl (fun _ => 0))), (q15, .inl (cs 0, 231, .inl (fun _ => 0))), (q16, .inl (cs 0, 8191, .inl (fun _ => 0))), (q17, .inl (cs 0, 8191, .inl (fun _ => 0))), (q18, .inl (cs 0, 9240, .inl (fun _ => 0))), (q19, .inl (cs 0, 30, .inl (fun _ => 0))), (q20, .inl (cs 0, 30, .inl (fun _ => 0))), (q21, .inl (cs 0, 496, .inl (fun _ => 0))), (q22, .inl (cs 0, 30, .inl (fun _ => 0))), (q23, .inl (cs 0, 357, .inl (fun _ => 0))), (q24, .inl (cs 0, 231, .inl (fun _ => 0)))]) rfl ?_
  exact gy_ret C E dX12_init_233 rfl ⟨rfl, q1, q2, q3, q4, q5, q6, q7, q8, q9, q10, q11, q12, q13, q14, q15, q16, q17, q18, q19, q20, q21, q22, q23, q24, rfl⟩
abbrev mX11_init : gz_M := (yX11_init, cX11_init, 1, none)
theorem dX11_init_0 : decode mX11_init.2.1 0 = .ok (.aload_n 0, 1) := by decide +kernel
theorem dX11_init_1 : decode mX11_init.2.1 1 = .ok (.invokespecial 1, 3) := by decide +kernel
theorem dX11_init_4 : decode mX11_init.2.1 4 = .ok (.aload_n 0, 1) := by decide +kernel
theorem dX11_init_5 : decode mX11_init.2.1 5 = .ok (.new 7, 3) := by decide +kernel
theorem dX11_init_8 : decode mX11_init.2.1 8 = .ok (.dup, 1) := by decide +kernel
theorem dX11_init_9 : decode mX11_init.2.1 9 = .ok (.invokespecial 9, 3) := by decide +kernel
theorem dX11_init_12 : decode mX11_init.2.1 12 = .ok (.putfield 10, 3) := by decide +kernel
theorem dX11_init_15 : decode mX11_init.2.1 15 = .ok (.aload_n 0, 1) := by decide +kernel
theorem dX11_init_16 : decode mX11_init.2.1 16 = .ok (.new 16, 3) := by decide +kernel
theorem dX11_init_19 : decode mX11_init.2.1 19 = .ok (.dup, 1) := by decide +kernel
theorem dX11_init_20 : decode mX11_init.2.1 20 = .ok (.aload_n 0, 1) := by decide +kernel
theorem dX11_init_21 : decode mX11_init.2.1 21 = .ok (.getfield 10, 3) := by decide +kernel
theorem dX11_init_24 : decode mX11_init.2.1 24 = .ok (.invokespecial 18, 3) := by decide +kernel
theorem dX11_init_27 : decode mX11_init.2.1 27 = .ok (.putfield 21, 3) := by decide +kernel
theorem dX11_init_30 : decode mX11_init.2.1 30 = .ok (.aload_n 0, 1) := by decide +kernel
theorem dX11_init_31 : decode mX11_init.2.1 31 = .ok (.new 25, 3) := by decide +kernel
theorem dX11_init_34 : decode mX11_init.2.1 34 = .ok (.dup, 1) := by decide +kernel
theorem dX11_init_35 : decode mX11_init.2.1 35 = .ok (.aload_n 0, 1) := by decide +kernel
theorem dX11_init_36 : decode mX11_init.2.1 36 = .ok (.getfield 10, 3) := by decide +kernel
theorem dX11_init_39 : decode mX11_init.2.1 39 = .ok (.invokespecial 27, 3) := by decide +kernel
theorem dX11_init_42 : decode mX11_init.2.1 42 = .ok (.putfield 28, 3) := by decide +kernel
theorem dX11_init_45 : decode mX11_init.2.1 45 = .ok (.aload_n 0, 1) := by decide +kernel
theorem dX11_init_46 : decode mX11_init.2.1 46 = .ok (.new 32, 3) := by decide +kernel
theorem dX11_init_49 : decode mX11_init.2.1 49 = .ok (.dup, 1) := by decide +kernel
theorem dX11_init_50 : decode mX11_init.2.1 50 = .ok (.aload_n 0, 1) := by decide +kernel
theorem dX11_init_51 : decode mX11_init.2.1 51 = .ok (.getfield 10, 3) := by decide +kernel
theorem dX11_init_54 : decode mX11_init.2.1 54 = .ok (.invokespecial 34, 3) := by decide +kernel
theorem dX11_init_57 : decode mX11_init.2.1 57 = .ok (.putfield 35, 3) := by decide +kernel
theorem dX11_init_60 : decode mX11_init.2.1 60 = .ok (.aload_n 0, 1) := by decide +kernel
theorem dX11_init_61 : decode mX11_init.2.1 61 = .ok (.iconst 4, 1) := by decide +kernel
theorem dX11_init_62 : decode mX11_init.2.1 62 = .ok (.anewarray 39, 3) := by decide +kernel
theorem dX11_init_65 : decode mX11_init.2.1 65 = .ok (.putfield 41, 3) := by decide +kernel
theorem dX11_init_68 : decode mX11_init.2.1 68 = .ok (.aload_n 0, 1) := by decide +kernel
theorem dX11_init_69 : decode mX11_init.2.1 69 = .ok (.iconst 4, 1) := by decide +kernel
theorem dX11_init_70 : decode mX11_init.2.1 70 = .ok (.anewarray 45, 3) := by decide +kernel
theorem dX11_init_73 : decode mX11_init.2.1 73 = .ok (.putfield 47, 3) := by decide +kernel
theorem dX11_init_76 : decode mX11_init.2.1 76 = .ok (.aload_n 0, 1) := by decide +kernel
theorem dX11_init_77 : decode mX11_init.2.1 77 = .ok (.new 51, 3) := by decide +kernel
theorem dX11_init_80 : decode mX11_init.2.1 80 = .ok (.dup, 1) := by decide +kernel
theorem dX11_init_81 : decode mX11_init.2.1 81 = .ok (.invokespecial 53, 3) := by decide +kernel
theorem dX11_init_84 : decode mX11_init.2.1 84 = .ok (.putfield 54, 3) := by decide +kernel
theorem dX11_init_87 : decode mX11_init.2.1 87 = .ok (.aload_n 0, 1) := by decide +kernel
theorem dX11_init_88 : decode mX11_init.2.1 88 = .ok (.new 51, 3) := by decide +kernel
theorem dX11_init_91 : decode mX11_init.2.1 91 = .ok (.dup, 1) := by decide +kernel
theorem dX11_init_92 : decode mX11_init.2.1 92 = .ok (.invokespecial 53, 3) := by decide +kernel
theorem dX11_init_95 : decode mX11_init.2.1 95 = .ok (.putfield 58, 3) := by decide +kernel
theorem dX11_init_98 : decode mX11_init.2.1 98 = .ok (.aload_n 0, 1) := by decide +kernel
theorem dX11_init_99 : decode mX11_init.2.1 99 = .ok (.new 51, 3) := by decide +kernel
theorem dX11_init_102 : decode mX11_init.2.1 102 = .ok (.dup, 1) := by decide +kernel
theorem dX11_init_103 : decode mX11_init.2.1 103 = .ok (.invokespecial 53, 3) := by decide +kernel
theorem dX11_init_106 : decode mX11_init.2.1 106 = .ok (.putfield 61, 3) := by decide +kernel
theorem dX11_init_109 : decode mX11_init.2.1 109 = .ok (.aload_n 0, 1) := by decide +kernel
theorem dX11_init_110 : decode mX11_init.2.1 110 = .ok (.new 64, 3) := by decide +kernel
theorem dX11_init_113 : decode mX11_init.2.1 113 = .ok (.dup, 1) := by decide +kernel
theorem dX11_init_114 : decode mX11_init.2.1 114 = .ok (.invokespecial 66, 3) := by decide +kernel
theorem dX11_init_117 : decode mX11_init.2.1 117 = .ok (.putfield 67, 3) := by decide +kernel
theorem dX11_init_120 : decode mX11_init.2.1 120 = .ok (.aload_n 0, 1) := by decide +kernel
theorem dX11_init_121 : decode mX11_init.2.1 121 = .ok (.new 71, 3) := by decide +kernel
theorem dX11_init_124 : decode mX11_init.2.1 124 = .ok (.dup, 1) := by decide +kernel
theorem dX11_init_125 : decode mX11_init.2.1 125 = .ok (.invokespecial 73, 3) := by decide +kernel
theorem dX11_init_128 : decode mX11_init.2.1 128 = .ok (.putfield 74, 3) := by decide +kernel
theorem dX11_init_131 : decode mX11_init.2.1 131 = .ok (.aload_n 0, 1) := by decide +kernel
theorem dX11_init_132 : decode mX11_init.2.1 132 = .ok (.new 78, 3) := by decide +kernel
theorem dX11_init_135 : decode mX11_init.2.1 135 = .ok (.dup, 1) := by decide +kernel
theorem dX11_init_136 : decode mX11_init.2.1 136 = .ok (.aload_n 0, 1) := by decide +kernel
theorem dX11_init_137 : decode mX11_init.2.1 137 = .ok (.getfield 58, 3) := by decide +kernel
theorem dX11_init_140 : decode mX11_init.2.1 140 = .ok (.aload_n 0, 1) := by decide +kernel
theorem dX11_init_141 : decode mX11_init.2.1 141 = .ok (.getfield 61, 3) := by decide +kernel
theorem dX11_init_144 : decode mX11_init.2.1 144 = .ok (.aload_n 0, 1) := by decide +kernel
theorem dX11_init_145 : decode mX11_init.2.1 145 = .ok (.getfield 67, 3) := by decide +kernel
theorem dX11_init_148 : decode mX11_init.2.1 148 = .ok (.invokespecial 80, 3) := by decide +kernel
theorem dX11_init_151 : decode mX11_init.2.1 151 = .ok (.putfield 83, 3) := by decide +kernel
theorem dX11_init_154 : decode mX11_init.2.1 154 = .ok (.aload_n 0, 1) := by decide +kernel
theorem dX11_init_155 : decode mX11_init.2.1 155 = .ok (.new 87, 3) := by decide +kernel
theorem dX11_init_158 : decode mX11_init.2.1 158 = .ok (.dup, 1) := by decide +kernel
theorem dX11_init_159 : decode mX11_init.2.1 159 = .ok (.aload_n 0, 1) := by decide +kernel
theorem dX11_init_160 : decode mX11_init.2.1 160 = .ok (.getfield 54, 3) := by decide +kernel
theorem dX11_init_163 : decode mX11_init.2.1 163 = .ok (.aload_n 0, 1) := by decide +kernel
theorem dX11_init_164 : decode mX11_init.2.1 164 = .ok (.getfield 61, 3) := by decide +kernel
theorem dX11_init_167 : decode mX11_init.2.1 167 = .ok (.aload_n 0, 1) := by decide +kernel
theorem dX11_init_168 : decode mX11_init.2.1 168 = .ok (.getfield 67, 3) := by decide +kernel
theorem dX11_init_171 : decode mX11_init.2.1 171 = .ok (.invokespecial 89, 3) := by decide +kernel
theorem dX11_init_174 : decode mX11_init.2.1 174 = .ok (.putfield 90, 3) := by decide +kernel
theorem dX11_init_177 : decode mX11_init.2.1 177 = .ok (.aload_n 0, 1) := by decide +kernel
theorem dX11_init_178 : decode mX11_init.2.1 178 = .ok (.iconst (-1), 1) := by decide +kernel
theorem dX11_init_179 : decode mX11_init.2.1 179 = .ok (.putfield 94, 3) := by decide +kernel
theorem dX11_init_182 : decode mX11_init.2.1 182 = .ok (.aload_n 0, 1) := by decide +kernel
theorem dX11_init_183 : decode mX11_init.2.1 183 = .ok (.iconst 3, 1) := by decide +kernel
theorem dX11_init_184 : decode mX11_init.2.1 184 = .ok (.putfield 98, 3) := by decide +kernel
theorem dX11_init_187 : decode mX11_init.2.1 187 = .ok (.return_, 1) := by decide +kernel
theorem mkX9_init : gz_mk mX9_init 0 := ⟨by decide +kernel, ⟨by decide +kernel, by decide +kernel, by decide +kernel⟩, (gz_mem 145 (by decide +kernel) (by decide +kernel)), by decide, (gz_mem 109 (by decide +kernel) (by decide +kernel))⟩
theorem mxX11_9 : gz_min RX11 9 mX9_init 0 := ⟨mkX9_init, (gz_mem 144 (by decide +kernel) (by decide +kernel)), rfl, rfl, fun cs s h => h.1⟩
theorem xfX11_10 : gz_fl RX11 10 11 0 := ⟨by decide, by decide +kernel, (gz_mem 381 (by decide +kernel) (by decide +kernel))⟩
theorem mkX7_init : gz_mk mX7_init 1 := ⟨by decide +kernel, ⟨by decide +kernel, by decide +kernel, by decide +kernel⟩, (gz_mem 176 (by decide +kernel) (by decide +kernel)), by decide, (gz_mem 110 (by decide +kernel) (by decide +kernel))⟩
theorem mxX11_18 : gz_mi RX11 18 mX7_init 1 := ⟨mkX7_init, (gz_mem 174 (by decide +kernel) (by decide +kernel)), (gz_mem 175 (by decide +kernel) (by decide +kernel)), rfl, rfl⟩
theorem xfX11_21 : gz_fl RX11 21 11 1 := ⟨by decide, by decide +kernel, (gz_mem 382 (by decide +kernel) (by decide +kernel))⟩
theorem mkX4_init : gz_mk mX4_init 1 := ⟨by decide +kernel, ⟨by decide +kernel, by decide +kernel, by decide +kernel⟩, (gz_mem 207 (by decide +kernel) (by decide +kernel)), by decide, (gz_mem 111 (by decide +kernel) (by decide +kernel))⟩
theorem mxX11_27 : gz_mi RX11 27 mX4_init 1 := ⟨mkX4_init, (gz_mem 205 (by decide +kernel) (by decide +kernel)), (gz_mem 206 (by decide +kernel) (by decide +kernel)), rfl, rfl⟩
theorem xfX11_28 : gz_fl RX11 28 11 2 := ⟨by decide, by decide +kernel, (gz_mem 383 (by decide +kernel) (by decide +kernel))⟩
theorem mkX1_init : gz_mk mX1_init 1 := ⟨by decide +kernel, ⟨by decide +kernel, by decide +kernel, by decide +kernel⟩, (gz_mem 223 (by decide +kernel) (by decide +kernel)), by decide, (gz_mem 112 (by decide +kernel) (by decide +kernel))⟩
theorem mxX11_34 : gz_mi RX11 34 mX1_init 1 := ⟨mkX1_init, (gz_mem 221 (by decide +kernel) (by decide +kernel)), (gz_mem 222 (by decide +kernel) (by decide +kernel)), rfl, rfl⟩
theorem xfX11_35 : gz_fl RX11 35 11 3 := ⟨by decide, by decide +kernel, (gz_mem 384 (by decide +kernel) (by decide +kernel))⟩
theorem xfX11_41 : gz_fl RX11 41 11 4 := ⟨by decide, by decide +kernel, (gz_mem 385 (by decide +kernel) (by decide +kernel))⟩
theorem xfX11_47 : gz_fl RX11 47 11 5 := ⟨by decide, by decide +kernel, (gz_mem 386 (by decide +kernel) (by decide +kernel))⟩
theorem mkX6_init : gz_mk mX6_init 0 := ⟨by decide +kernel, ⟨by decide +kernel, by decide +kernel, by decide +kernel⟩, (gz_mem 243 (by decide +kernel) (by decide +kernel)), by decide, (gz_mem 113 (by decide +kernel) (by decide +kernel))⟩
theorem mxX11_53 : gz_min RX11 53 mX6_init 0 := ⟨mkX6_init, (gz_mem 242 (by decide +kernel) (by decide +kernel)), rfl, rfl, fun cs s h => h.2.1⟩
theorem xfX11_54 : gz_fl RX11 54 11 6 := ⟨by decide, by decide +kernel, (gz_mem 387 (by decide +kernel) (by decide +kernel))⟩
theorem xfX11_58 : gz_fl RX11 58 11 7 := ⟨by decide, by decide +kernel, (gz_mem 388 (by decide +kernel) (by decide +kernel))⟩
theorem xfX11_61 : gz_fl RX11 61 11 8 := ⟨by decide, by decide +kernel, (gz_mem 389 (by decide +kernel) (by decide +kernel))⟩
theorem mkX10_init : gz_mk mX10_init 0 := ⟨by decide +kernel, ⟨by decide +kernel, by decide +kernel, by decide +kernel⟩, (gz_mem 260 (by decide +kernel) (by decide +kernel)), by decide, (gz_mem 114 (by decide +kernel) (by decide +kernel))⟩
theorem mxX11_66 : gz_min RX11 66 mX10_init 0 := ⟨mkX10_init, (gz_mem 259 (by decide +kernel) (by decide +kernel)), rfl, rfl, fun cs s h => h.2.2.1⟩
theorem xfX11_67 : gz_fl RX11 67 11 9 := ⟨by decide, by decide +kernel, (gz_mem 390 (by decide +kernel) (by decide +kernel))⟩
theorem mkX5_init : gz_mk mX5_init 0 := ⟨by decide +kernel, ⟨by decide +kernel, by decide +kernel, by decide +kernel⟩, (gz_mem 285 (by decide +kernel) (by decide +kernel)), by decide, (gz_mem 115 (by decide +kernel) (by decide +kernel))⟩
theorem mxX11_73 : gz_min RX11 73 mX5_init 0 := ⟨mkX5_init, (gz_mem 284 (by decide +kernel) (by decide +kernel)), rfl, rfl, fun cs s h => h.2.2.2.1⟩
theorem xfX11_74 : gz_fl RX11 74 11 10 := ⟨by decide, by decide +kernel, (gz_mem 391 (by decide +kernel) (by decide +kernel))⟩
theorem mkX2_init : gz_mk mX2_init 3 := ⟨by decide +kernel, ⟨by decide +kernel, by decide +kernel, by decide +kernel⟩, (gz_mem 314 (by decide +kernel) (by decide +kernel)), by decide, (gz_mem 116 (by decide +kernel) (by decide +kernel))⟩
theorem mxX11_80 : gz_mi RX11 80 mX2_init 3 := ⟨mkX2_init, (gz_mem 312 (by decide +kernel) (by decide +kernel)), (gz_mem 313 (by decide +kernel) (by decide +kernel)), rfl, rfl⟩
theorem xfX11_83 : gz_fl RX11 83 11 11 := ⟨by decide, by decide +kernel, (gz_mem 392 (by decide +kernel) (by decide +kernel))⟩
theorem mkX8_init : gz_mk mX8_init 3 := ⟨by decide +kernel, ⟨by decide +kernel, by decide +kernel, by decide +kernel⟩, (gz_mem 350 (by decide +kernel) (by decide +kernel)), by decide, (gz_mem 117 (by decide +kernel) (by decide +kernel))⟩
theorem mxX11_89 : gz_mi RX11 89 mX8_init 3 := ⟨mkX8_init, (gz_mem 348 (by decide +kernel) (by decide +kernel)), (gz_mem 349 (by decide +kernel) (by decide +kernel)), rfl, rfl⟩
theorem xfX11_90 : gz_fl RX11 90 11 12 := ⟨by decide, by decide +kernel, (gz_mem 393 (by decide +kernel) (by decide +kernel))⟩
theorem xfX11_94 : gz_fl RX11 94 11 15 := ⟨by decide, by decide +kernel, (gz_mem 396 (by decide +kernel) (by decide +kernel))⟩
theorem xfX11_98 : gz_fl RX11 98 11 16 := ⟨by decide, by decide +kernel, (gz_mem 397 (by decide +kernel) (by decide +kernel))⟩
set_option maxRecDepth 100000 in
set_option maxHeartbeats 4000000 in
theorem kX11_init {l : Launch} {D : va_G} {cs : Nat → ClassId} (h0  : Nat) : gx_K l D cs 4 mX11_init 37 3941 [.ref h0] [(h0, .inr (11, [.null, .null, .null, .null, .null, .null, .null, .null, .null, .null, .null, .null, .null, .int 0, .int 0, .int 0, .int 0, .long 0]))] (fun v w => v = none ∧ ∃ q1 q2 q3 q4 q5 q6 q7 q8 q9 q10 q11 q12 q13 q14 q15 q16 q17 q18 q19 q20 q21 q22 q23 q24 q25 q26 q27 q28 q29 q30 q31 q32 q33 q34 q35 q36 q37 : Nat, w = [(h0, .inr (11, [.ref q1, .ref q3, .ref q8, .ref q10, .ref q12, .ref q13, .ref q14, .ref q16, .ref q18, .ref q20, .ref q23, .ref q28, .ref q32, .int 0, .int 0, .int (-1), .int 3, .long 0])), (q1, .inr (9, [.ref q2, .int 0, .int 0, .int 0, .int 0])), (q2, .inl (cs 0, 240, .inl (fun _ => 0))), (q3, .inr (7, [.ref q1, .ref q4, .ref q5, .ref q6, .ref q7, .int 0, .int 0, .int 0])), (q4, .inl (cs 0, 4, .inl (fun _ => 0))), (q5, .inl (cs 0, 16, .inl (fun _ => 0))), (q6, .inl (cs 0, 30, .inl (fun _ => 0))), (q7, .inl (cs 0, 5, .inl (fun _ => 0))), (q8, .inr (4, [.ref q1, .ref q9, .int 0])), (q9, .inl (cs 0, 241, .inl (fun _ => 0))), (q10, .inr (1, [.ref q1, .ref q11, .int 0])), (q11, .inl (cs 0, 48, .inl (fun _ => 0))), (q12, .inl (cs 3, 4, .inr (.inr (.inr (.inr (fun _ => none)))))), (q13, .inl (cs 4, 4, .inr (.inr (.inr (.inr (fun _ => none)))))), (q14, .inr (6, [.ref q15])), (q15, .inl (cs 0, 61, .inl (fun _ => 0))), (q16, .inr (6, [.ref q17])), (q17, .inl (cs 0, 61, .inl (fun _ => 0))), (q18, .inr (6, [.ref q19])), (q19, .inl (cs 0, 61, .inl (fun _ => 0))), (q20, .inr (10, [.null, .int 0, .int 0, .ref q21, .ref q22])), (q21, .inl (cs 0, 6, .inl (fun _ => 0))), (q22, .inl (cs 0, 240, .inl (fun _ => 0))), (q23, .inr (5, [.int 0, .ref q24, .ref q25, .ref q26, .ref q27, .int 0, .int 0])), (q24, .inl (cs 0, 2000, .inl (fun _ => 0))), (q25, .inl (cs 0, 100, .inl (fun _ => 0))), (q26, .inl (cs 0, 50, .inl (fun _ => 0))), (q27, .inl (cs 0, 100, .inl (fun _ => 0))), (q28, .inr (2, [.int 0, .int 0, .ref q16, .ref q18, .ref q20, .int 0, .ref q29, .ref q30, .ref q31])), (q29, .inl (cs 0, 30, .inl (fun _ => 0))), (q30, .inl (cs 0, 16, .inl (fun _ => 0))), (q31, .inl (cs 0, 16, .inl (fun _ => 0))), (q32, .inr (8, [.int 0, .ref q14, .ref q18, .ref q20, .ref q33, .ref q34, .ref q35, .ref q36, .ref q37])), (q33, .inl (cs 0, 10, .inl (fun _ => 0))), (q34, .inl (cs 0, 10, .inl (fun _ => 0))), (q35, .inl (cs 0, 10, .inl (fun _ => 0))), (q36, .inl (cs 0, 496, .inl (fun _ => 0))), (q37, .inl (cs 0, 30, .inl (fun _ => 0)))]) := by
  refine gx_K.of 0 (by decide +kernel) rfl (fun X C E Rk I0 => ?_)
  have I := I0 rfl
  refine gy_ls (l2 := [some (.ref h0)]) rfl ?_
  refine gy_aload_n C dX11_init_0 rfl ?_
  refine gy_objInit C dX11_init_1 (gz_mem 138 (by decide +kernel) (by decide +kernel)) xw_oi xw_oc (by decide) (Nat.le_of_ble_eq_true rfl) ?_
  refine gy_aload_n C dX11_init_4 rfl ?_
  refine gy_new (ci := 9) (N := 5) (fs := [.null, .int 0, .int 0, .int 0, .int 0]) C dX11_init_5 (by decide) rfl (gz_mem 141 (by decide +kernel) (by decide +kernel)) (gz_mem 142 (by decide +kernel) (by decide +kernel)) (gz_mem 109 (by decide +kernel) (by decide +kernel)) (by decide) (Rk.mo (by omega) (by omega)) (fun q1 => ?_)
  refine gy_widen (k2 := 1) (n2 := 5) (by omega) (by omega) ?_
  refine gy_w (w2 := [(h0, .inr (11, [.null, .null, .null, .null, .null, .null, .null, .null, .null, .null, .null, .null, .null, .int 0, .int 0, .int 0, .int 0, .long 0])), (q1, .inr (9, [.null, .int 0, .int 0, .int 0, .int 0]))]) rfl ?_
  refine gy_dup C dX11_init_8 rfl ?_
  refine gy_callIN (b := q1) (mc := 1) (ms := 240) (st := [.ref q1, .ref h0]) [] (wc := [(q1, .inr (9, [.null, .int 0, .int 0, .int 0, .int 0]))]) (wr := [(h0, .inr (11, [.null, .null, .null, .null, .null, .null, .null, .null, .null, .null, .null, .null, .null, .int 0, .int 0, .int 0, .int 0, .long 0]))]) [1] [0] C dX11_init_9 mxX11_9 (by decide) (Nat.le_of_ble_eq_true rfl) (Rk.mo (by omega) (by omega)) (kX9_init q1) rfl rfl (by decide) (by decide) (by decide) (fun v w hp => ?_)
  obtain ⟨rfl, q2, rfl⟩ := hp
  refine gy_widen (k2 := 2) (n2 := 245) (by omega) (by omega) ?_
  refine gy_w (w2 := [(h0, .inr (11, [.null, .null, .null, .null, .null, .null, .null, .null, .null, .null, .null, .null, .null, .int 0, .int 0, .int 0, .int 0, .long 0])), (q1, .inr (9, [.ref q2, .int 0, .int 0, .int 0, .int 0])), (q2, .inl (cs 0, 240, .inl (fun _ => 0)))]) rfl ?_
  refine gy_st (st2 := [.ref q1, .ref h0]) rfl ?_
  refine gy_putF (q := 0) C I dX11_init_12 xfX11_10 rfl rfl rfl rfl rfl (Nat.le_of_ble_eq_true rfl) ?_
  refine gy_w (w2 := [(h0, .inr (11, [.ref q1, .null, .null, .null, .null, .null, .null, .null, .null, .null, .null, .null, .null, .int 0, .int 0, .int 0, .int 0, .long 0])), (q1, .inr (9, [.ref q2, .int 0, .int 0, .int 0, .int 0])), (q2, .inl (cs 0, 240, .inl (fun _ => 0)))]) rfl ?_
  refine gy_aload_n C dX11_init_15 rfl ?_
  refine gy_new (ci := 7) (N := 8) (fs := [.null, .null, .null, .null, .null, .int 0, .int 0, .int 0]) C dX11_init_16 (by decide) rfl (gz_mem 172 (by decide +kernel) (by decide +kernel)) (gz_mem 173 (by decide +kernel) (by decide +kernel)) (gz_mem 110 (by decide +kernel) (by decide +kernel)) (by decide) (Rk.mo (by omega) (by omega)) (fun q3 => ?_)
  refine gy_widen (k2 := 3) (n2 := 253) (by omega) (by omega) ?_
  refine gy_w (w2 := [(h0, .inr (11, [.ref q1, .null, .null, .null, .null, .null, .null, .null, .null, .null, .null, .null, .null, .int 0, .int 0, .int 0, .int 0, .long 0])), (q1, .inr (9, [.ref q2, .int 0, .int 0, .int 0, .int 0])), (q2, .inl (cs 0, 240, .inl (fun _ => 0))), (q3, .inr (7, [.null, .null, .null, .null, .null, .int 0, .int 0, .int 0]))]) rfl ?_
  refine gy_dup C dX11_init_19 rfl ?_
  refine gy_aload_n C dX11_init_20 rfl ?_
  refine gy_get (q := 0) C dX11_init_21 xfX11_10 rfl rfl ?_
  refine gy_callI (b := q3) (mc := 4) (ms := 55) (st := [.ref q3, .ref h0]) [.ref q1] (wc := [(q3, .inr (7, [.null, .null, .null, .null, .null, .int 0, .int 0, .int 0]))]) (wr := [(h0, .inr (11, [.ref q1, .null, .null, .null, .null, .null, .null, .null, .null, .null, .null, .null, .null, .int 0, .int 0, .int 0, .int 0, .long 0])), (q1, .inr (9, [.ref q2, .int 0, .int 0, .int 0, .int 0])), (q2, .inl (cs 0, 240, .inl (fun _ => 0)))]) [3] [0, 1, 2] C dX11_init_24 mxX11_18 (by decide) (Nat.le_of_ble_eq_true rfl) (Rk.mo (by omega) (by omega)) (kX7_init q3 q1) rfl rfl (by decide) (by decide) (by decide) (fun v w hp => ?_)
  obtain ⟨rfl, q4, q5, q6, q7, rfl⟩ := hp
  refine gy_widen (k2 := 7) (n2 := 308) (by omega) (by omega) ?_
  refine gy_w (w2 := [(h0, .inr (11, [.ref q1, .null, .null, .null, .null, .null, .null, .null, .null, .null, .null, .null, .null, .int 0, .int 0, .int 0, .int 0, .long 0])), (q1, .inr (9, [.ref q2, .int 0, .int 0, .int 0, .int 0])), (q2, .inl (cs 0, 240, .inl (fun _ => 0))), (q3, .inr (7, [.ref q1, .ref q4, .ref q5, .ref q6, .ref q7, .int 0, .int 0, .int 0])), (q4, .inl (cs 0, 4, .inl (fun _ => 0))), (q5, .inl (cs 0, 16, .inl (fun _ => 0))), (q6, .inl (cs 0, 30, .inl (fun _ => 0))), (q7, .inl (cs 0, 5, .inl (fun _ => 0)))]) rfl ?_
  refine gy_st (st2 := [.ref q3, .ref h0]) rfl ?_
  refine gy_putF (q := 0) C I dX11_init_27 xfX11_21 rfl rfl rfl rfl rfl (Nat.le_of_ble_eq_true rfl) ?_
  refine gy_w (w2 := [(h0, .inr (11, [.ref q1, .ref q3, .null, .null, .null, .null, .null, .null, .null, .null, .null, .null, .null, .int 0, .int 0, .int 0, .int 0, .long 0])), (q1, .inr (9, [.ref q2, .int 0, .int 0, .int 0, .int 0])), (q2, .inl (cs 0, 240, .inl (fun _ => 0))), (q3, .inr (7, [.ref q1, .ref q4, .ref q5, .ref q6, .ref q7, .int 0, .int 0, .int 0])), (q4, .inl (cs 0, 4, .inl (fun _ => 0))), (q5, .inl (cs 0, 16, .inl (fun _ => 0))), (q6, .inl (cs 0, 30, .inl (fun _ => 0))), (q7, .inl (cs 0, 5, .inl (fun _ => 0)))]) rfl ?_
  refine gy_aload_n C dX11_init_30 rfl ?_
  refine gy_new (ci := 4) (N := 3) (fs := [.null, .null, .int 0]) C dX11_init_31 (by decide) rfl (gz_mem 203 (by decide +kernel) (by decide +kernel)) (gz_mem 204 (by decide +kernel) (by decide +kernel)) (gz_mem 111 (by decide +kernel) (by decide +kernel)) (by decide) (Rk.mo (by omega) (by omega)) (fun q8 => ?_)
  refine gy_widen (k2 := 8) (n2 := 311) (by omega) (by omega) ?_
  refine gy_w (w2 := [(h0, .inr (11, [.ref q1, .ref q3, .null, .null, .null, .null, .null, .null, .null, .null, .null, .null, .null, .int 0, .int 0, .int 0, .int 0, .long 0])), (q1, .inr (9, [.ref q2, .int 0, .int 0, .int 0, .int 0])), (q2, .inl (cs 0, 240, .inl (fun _ => 0))), (q3, .inr (7, [.ref q1, .ref q4, .ref q5, .ref q6, .ref q7, .int 0, .int 0, .int 0])), (q4, .inl (cs 0, 4, .inl (fun _ => 0))), (q5, .inl (cs 0, 16, .inl (fun _ => 0))), (q6, .inl (cs 0, 30, .inl (fun _ => 0))), (q7, .inl (cs 0, 5, .inl (fun _ => 0))), (q8, .inr (4, [.null, .null, .int 0]))]) rfl ?_
  refine gy_dup C dX11_init_34 rfl ?_
  refine gy_aload_n C dX11_init_35 rfl ?_
  refine gy_get (q := 0) C dX11_init_36 xfX11_10 rfl rfl ?_
  refine gy_callI (b := q8) (mc := 1) (ms := 241) (st := [.ref q8, .ref h0]) [.ref q1] (wc := [(q8, .inr (4, [.null, .null, .int 0]))]) (wr := [(h0, .inr (11, [.ref q1, .ref q3, .null, .null, .null, .null, .null, .null, .null, .null, .null, .null, .null, .int 0, .int 0, .int 0, .int 0, .long 0])), (q1, .inr (9, [.ref q2, .int 0, .int 0, .int 0, .int 0])), (q2, .inl (cs 0, 240, .inl (fun _ => 0))), (q3, .inr (7, [.ref q1, .ref q4, .ref q5, .ref q6, .ref q7, .int 0, .int 0, .int 0])), (q4, .inl (cs 0, 4, .inl (fun _ => 0))), (q5, .inl (cs 0, 16, .inl (fun _ => 0))), (q6, .inl (cs 0, 30, .inl (fun _ => 0))), (q7, .inl (cs 0, 5, .inl (fun _ => 0)))]) [8] [0, 1, 2, 3, 4, 5, 6, 7] C dX11_init_39 mxX11_27 (by decide) (Nat.le_of_ble_eq_true rfl) (Rk.mo (by omega) (by omega)) (kX4_init q8 q1) rfl rfl (by decide) (by decide) (by decide) (fun v w hp => ?_)
  obtain ⟨rfl, q9, rfl⟩ := hp
  refine gy_widen (k2 := 9) (n2 := 552) (by omega) (by omega) ?_
  refine gy_w (w2 := [(h0, .inr (11, [.ref q1, .ref q3, .null, .null, .null, .null, .null, .null, .null, .null, .null, .null, .null, .int 0, .int 0, .int 0, .int 0, .long 0])), (q1, .inr (9, [.ref q2, .int 0, .int 0, .int 0, .int 0])), (q2, .inl (cs 0, 240, .inl (fun _ => 0))), (q3, .inr (7, [.ref q1, .ref q4, .ref q5, .ref q6, .ref q7, .int 0, .int 0, .int 0])), (q4, .inl (cs 0, 4, .inl (fun _ => 0))), (q5, .inl (cs 0, 16, .inl (fun _ => 0))), (q6, .inl (cs 0, 30, .inl (fun _ => 0))), (q7, .inl (cs 0, 5, .inl (fun _ => 0))), (q8, .inr (4, [.ref q1, .ref q9, .int 0])), (q9, .inl (cs 0, 241, .inl (fun _ => 0)))]) rfl ?_
  refine gy_st (st2 := [.ref q8, .ref h0]) rfl ?_
  refine gy_putF (q := 0) C I dX11_init_42 xfX11_28 rfl rfl rfl rfl rfl (Nat.le_of_ble_eq_true rfl) ?_
  refine gy_w (w2 := [(h0, .inr (11, [.ref q1, .ref q3, .ref q8, .null, .null, .null, .null, .null, .null, .null, .null, .null, .null, .int 0, .int 0, .int 0, .int 0, .long 0])), (q1, .inr (9, [.ref q2, .int 0, .int 0, .int 0, .int 0])), (q2, .inl (cs 0, 240, .inl (fun _ => 0))), (q3, .inr (7, [.ref q1, .ref q4, .ref q5, .ref q6, .ref q7, .int 0, .int 0, .int 0])), (q4, .inl (cs 0, 4, .inl (fun _ => 0))), (q5, .inl (cs 0, 16, .inl (fun _ => 0))), (q6, .inl (cs 0, 30, .inl (fun _ => 0))), (q7, .inl (cs 0, 5, .inl (fun _ => 0))), (q8, .inr (4, [.ref q1, .ref q9, .int 0])), (q9, .inl (cs 0, 241, .inl (fun _ => 0)))]) rfl ?_
  refine gy_aload_n C dX11_init_45 rfl ?_
  refine gy_new (ci := 1) (N := 3) (fs := [.null, .null, .int 0]) C dX11_init_46 (by decide) rfl (gz_mem 219 (by decide +kernel) (by decide +kernel)) (gz_mem 220 (by decide +kernel) (by decide +kernel)) (gz_mem 112 (by decide +kernel) (by decide +kernel)) (by decide) (Rk.mo (by omega) (by omega)) (fun q10 => ?_)
  refine gy_widen (k2 := 10) (n2 := 555) (by omega) (by omega) ?_
  refine gy_w (w2 := [(h0, .inr (11, [.ref q1, .ref q3, .ref q8, .null, .null, .null, .null, .null, .null, .null, .null, .null, .null, .int 0, .int 0, .int 0, .int 0, .long 0])), (q1, .inr (9, [.ref q2, .int 0, .int 0, .int 0, .int 0])), (q2, .inl (cs 0, 240, .inl (fun _ => 0))), (q3, .inr (7, [.ref q1, .ref q4, .ref q5, .ref q6, .ref q7, .int 0, .int 0, .int 0])), (q4, .inl (cs 0, 4, .inl (fun _ => 0))), (q5, .inl (cs 0, 16, .inl (fun _ => 0))), (q6, .inl (cs 0, 30, .inl (fun _ => 0))), (q7, .inl (cs 0, 5, .inl (fun _ => 0))), (q8, .inr (4, [.ref q1, .ref q9, .int 0])), (q9, .inl (cs 0, 241, .inl (fun _ => 0))), (q10, .inr (1, [.null, .null, .int 0]))]) rfl ?_
  refine gy_dup C dX11_init_49 rfl ?_
  refine gy_aload_n C dX11_init_50 rfl ?_
  refine gy_get (q := 0) C dX11_init_51 xfX11_10 rfl rfl ?_
  refine gy_callI (b := q10) (mc := 1) (ms := 48) (st := [.ref q10, .ref h0]) [.ref q1] (wc := [(q10, .inr (1, [.null, .null, .int 0]))]) (wr := [(h0, .inr (11, [.ref q1, .ref q3, .ref q8, .null, .null, .null, .null, .null, .null, .null, .null, .null, .null, .int 0, .int 0, .int 0, .int 0, .long 0])), (q1, .inr (9, [.ref q2, .int 0, .int 0, .int 0, .int 0])), (q2, .inl (cs 0, 240, .inl (fun _ => 0))), (q3, .inr (7, [.ref q1, .ref q4, .ref q5, .ref q6, .ref q7, .int 0, .int 0, .int 0])), (q4, .inl (cs 0, 4, .inl (fun _ => 0))), (q5, .inl (cs 0, 16, .inl (fun _ => 0))), (q6, .inl (cs 0, 30, .inl (fun _ => 0))), (q7, .inl (cs 0, 5, .inl (fun _ => 0))), (q8, .inr (4, [.ref q1, .ref q9, .int 0])), (q9, .inl (cs 0, 241, .inl (fun _ => 0)))]) [10] [0, 1, 2, 3, 4, 5, 6, 7, 8, 9] C dX11_init_54 mxX11_34 (by decide) (Nat.le_of_ble_eq_true rfl) (Rk.mo (by omega) (by omega)) (kX1_init q10 q1) rfl rfl (by decide) (by decide) (by decide) (fun v w hp => ?_)
  obtain ⟨rfl, q11, rfl⟩ := hp
  refine gy_widen (k2 := 11) (n2 := 603) (by omega) (by omega) ?_
  refine gy_w (w2 := [(h0, .inr (11, [.ref q1, .ref q3, .ref q8, .null, .null, .null, .null, .null, .null, .null, .null, .null, .null, .int 0, .int 0, .int 0, .int 0, .long 0])), (q1, .inr (9, [.ref q2, .int 0, .int 0, .int 0, .int 0])), (q2, .inl (cs 0, 240, .inl (fun _ => 0))), (q3, .inr (7, [.ref q1, .ref q4, .ref q5, .ref q6, .ref q7, .int 0, .int 0, .int 0])), (q4, .inl (cs 0, 4, .inl (fun _ => 0))), (q5, .inl (cs 0, 16, .inl (fun _ => 0))), (q6, .inl (cs 0, 30, .inl (fun _ => 0))), (q7, .inl (cs 0, 5, .inl (fun _ => 0))), (q8, .inr (4, [.ref q1, .ref q9, .int 0])), (q9, .inl (cs 0, 241, .inl (fun _ => 0))), (q10, .inr (1, [.ref q1, .ref q11, .int 0])), (q11, .inl (cs 0, 48, .inl (fun _ => 0)))]) rfl ?_
  refine gy_st (st2 := [.ref q10, .ref h0]) rfl ?_
  refine gy_putF (q := 0) C I dX11_init_57 xfX11_35 rfl rfl rfl rfl rfl (Nat.le_of_ble_eq_true rfl) ?_
  refine gy_w (w2 := [(h0, .inr (11, [.ref q1, .ref q3, .ref q8, .ref q10, .null, .null, .null, .null, .null, .null, .null, .null, .null, .int 0, .int 0, .int 0, .int 0, .long 0])), (q1, .inr (9, [.ref q2, .int 0, .int 0, .int 0, .int 0])), (q2, .inl (cs 0, 240, .inl (fun _ => 0))), (q3, .inr (7, [.ref q1, .ref q4, .ref q5, .ref q6, .ref q7, .int 0, .int 0, .int 0])), (q4, .inl (cs 0, 4, .inl (fun _ => 0))), (q5, .inl (cs 0, 16, .inl (fun _ => 0))), (q6, .inl (cs 0, 30, .inl (fun _ => 0))), (q7, .inl (cs 0, 5, .inl (fun _ => 0))), (q8, .inr (4, [.ref q1, .ref q9, .int 0])), (q9, .inl (cs 0, 241, .inl (fun _ => 0))), (q10, .inr (1, [.ref q1, .ref q11, .int 0])), (q11, .inl (cs 0, 48, .inl (fun _ => 0)))]) rfl ?_
  refine gy_aload_n C dX11_init_60 rfl ?_
  refine gy_iconst (v := 4) C dX11_init_61 (by decide) ?_
  refine gy_newq (N := 4) (i := 3) (cn := "PrintsGoOn$Law") C dX11_init_62 (gz_mem 235 (by decide +kernel) (by decide +kernel)) (by decide) (by decide) (by decide) (by omega) (Rk.mo (by omega) (by omega)) (fun q12 => ?_)
  refine gy_widen (k2 := 12) (n2 := 607) (by omega) (by omega) ?_
  refine gy_w (w2 := [(h0, .inr (11, [.ref q1, .ref q3, .ref q8, .ref q10, .null, .null, .null, .null, .null, .null, .null, .null, .null, .int 0, .int 0, .int 0, .int 0, .long 0])), (q1, .inr (9, [.ref q2, .int 0, .int 0, .int 0, .int 0])), (q2, .inl (cs 0, 240, .inl (fun _ => 0))), (q3, .inr (7, [.ref q1, .ref q4, .ref q5, .ref q6, .ref q7, .int 0, .int 0, .int 0])), (q4, .inl (cs 0, 4, .inl (fun _ => 0))), (q5, .inl (cs 0, 16, .inl (fun _ => 0))), (q6, .inl (cs 0, 30, .inl (fun _ => 0))), (q7, .inl (cs 0, 5, .inl (fun _ => 0))), (q8, .inr (4, [.ref q1, .ref q9, .int 0])), (q9, .inl (cs 0, 241, .inl (fun _ => 0))), (q10, .inr (1, [.ref q1, .ref q11, .int 0])), (q11, .inl (cs 0, 48, .inl (fun _ => 0))), (q12, .inl (cs 3, 4, .inr (.inr (.inr (.inr (fun _ => none))))))]) rfl ?_
  refine gy_putF (q := 0) C I dX11_init_65 xfX11_41 rfl rfl rfl rfl rfl (Nat.le_of_ble_eq_true rfl) ?_
  refine gy_w (w2 := [(h0, .inr (11, [.ref q1, .ref q3, .ref q8, .ref q10, .ref q12, .null, .null, .null, .null, .null, .null, .null, .null, .int 0, .int 0, .int 0, .int 0, .long 0])), (q1, .inr (9, [.ref q2, .int 0, .int 0, .int 0, .int 0])), (q2, .inl (cs 0, 240, .inl (fun _ => 0))), (q3, .inr (7, [.ref q1, .ref q4, .ref q5, .ref q6, .ref q7, .int 0, .int 0, .int 0])), (q4, .inl (cs 0, 4, .inl (fun _ => 0))), (q5, .inl (cs 0, 16, .inl (fun _ => 0))), (q6, .inl (cs 0, 30, .inl (fun _ => 0))), (q7, .inl (cs 0, 5, .inl (fun _ => 0))), (q8, .inr (4, [.ref q1, .ref q9, .int 0])), (q9, .inl (cs 0, 241, .inl (fun _ => 0))), (q10, .inr (1, [.ref q1, .ref q11, .int 0])), (q11, .inl (cs 0, 48, .inl (fun _ => 0))), (q12, .inl (cs 3, 4, .inr (.inr (.inr (.inr (fun _ => none))))))]) rfl ?_
  refine gy_aload_n C dX11_init_68 rfl ?_
  refine gy_iconst (v := 4) C dX11_init_69 (by decide) ?_
  refine gy_newq (N := 4) (i := 4) (cn := "PrintsGoOn$Evening") C dX11_init_70 (gz_mem 237 (by decide +kernel) (by decide +kernel)) (by decide) (by decide) (by decide) (by omega) (Rk.mo (by omega) (by omega)) (fun q13 => ?_)
  refine gy_widen (k2 := 13) (n2 := 611) (by omega) (by omega) ?_
  refine gy_w (w2 := [(h0, .inr (11, [.ref q1, .ref q3, .ref q8, .ref q10, .ref q12, .null, .null, .null, .null, .null, .null, .null, .null, .int 0, .int 0, .int 0, .int 0, .long 0])), (q1, .inr (9, [.ref q2, .int 0, .int 0, .int 0, .int 0])), (q2, .inl (cs 0, 240, .inl (fun _ => 0))), (q3, .inr (7, [.ref q1, .ref q4, .ref q5, .ref q6, .ref q7, .int 0, .int 0, .int 0])), (q4, .inl (cs 0, 4, .inl (fun _ => 0))), (q5, .inl (cs 0, 16, .inl (fun _ => 0))), (q6, .inl (cs 0, 30, .inl (fun _ => 0))), (q7, .inl (cs 0, 5, .inl (fun _ => 0))), (q8, .inr (4, [.ref q1, .ref q9, .int 0])), (q9, .inl (cs 0, 241, .inl (fun _ => 0))), (q10, .inr (1, [.ref q1, .ref q11, .int 0])), (q11, .inl (cs 0, 48, .inl (fun _ => 0))), (q12, .inl (cs 3, 4, .inr (.inr (.inr (.inr (fun _ => none)))))), (q13, .inl (cs 4, 4, .inr (.inr (.inr (.inr (fun _ => none))))))]) rfl ?_
  refine gy_putF (q := 0) C I dX11_init_73 xfX11_47 rfl rfl rfl rfl rfl (Nat.le_of_ble_eq_true rfl) ?_
  refine gy_w (w2 := [(h0, .inr (11, [.ref q1, .ref q3, .ref q8, .ref q10, .ref q12, .ref q13, .null, .null, .null, .null, .null, .null, .null, .int 0, .int 0, .int 0, .int 0, .long 0])), (q1, .inr (9, [.ref q2, .int 0, .int 0, .int 0, .int 0])), (q2, .inl (cs 0, 240, .inl (fun _ => 0))), (q3, .inr (7, [.ref q1, .ref q4, .ref q5, .ref q6, .ref q7, .int 0, .int 0, .int 0])), (q4, .inl (cs 0, 4, .inl (fun _ => 0))), (q5, .inl (cs 0, 16, .inl (fun _ => 0))), (q6, .inl (cs 0, 30, .inl (fun _ => 0))), (q7, .inl (cs 0, 5, .inl (fun _ => 0))), (q8, .inr (4, [.ref q1, .ref q9, .int 0])), (q9, .inl (cs 0, 241, .inl (fun _ => 0))), (q10, .inr (1, [.ref q1, .ref q11, .int 0])), (q11, .inl (cs 0, 48, .inl (fun _ => 0))), (q12, .inl (cs 3, 4, .inr (.inr (.inr (.inr (fun _ => none)))))), (q13, .inl (cs 4, 4, .inr (.inr (.inr (.inr (fun _ => none))))))]) rfl ?_
  refine gy_aload_n C dX11_init_76 rfl ?_
  refine gy_new (ci := 6) (N := 1) (fs := [.null]) C dX11_init_77 (by decide) rfl (gz_mem 239 (by decide +kernel) (by decide +kernel)) (gz_mem 240 (by decide +kernel) (by decide +kernel)) (gz_mem 113 (by decide +kernel) (by decide +kernel)) (by decide) (Rk.mo (by omega) (by omega)) (fun q14 => ?_)
  refine gy_widen (k2 := 14) (n2 := 612) (by omega) (by omega) ?_
  refine gy_w (w2 := [(h0, .inr (11, [.ref q1, .ref q3, .ref q8, .ref q10, .ref q12, .ref q13, .null, .null, .null, .null, .null, .null, .null, .int 0, .int 0, .int 0, .int 0, .long 0])), (q1, .inr (9, [.ref q2, .int 0, .int 0, .int 0, .int 0])), (q2, .inl (cs 0, 240, .inl (fun _ => 0))), (q3, .inr (7, [.ref q1, .ref q4, .ref q5, .ref q6, .ref q7, .int 0, .int 0, .int 0])), (q4, .inl (cs 0, 4, .inl (fun _ => 0))), (q5, .inl (cs 0, 16, .inl (fun _ => 0))), (q6, .inl (cs 0, 30, .inl (fun _ => 0))), (q7, .inl (cs 0, 5, .inl (fun _ => 0))), (q8, .inr (4, [.ref q1, .ref q9, .int 0])), (q9, .inl (cs 0, 241, .inl (fun _ => 0))), (q10, .inr (1, [.ref q1, .ref q11, .int 0])), (q11, .inl (cs 0, 48, .inl (fun _ => 0))), (q12, .inl (cs 3, 4, .inr (.inr (.inr (.inr (fun _ => none)))))), (q13, .inl (cs 4, 4, .inr (.inr (.inr (.inr (fun _ => none)))))), (q14, .inr (6, [.null]))]) rfl ?_
  refine gy_dup C dX11_init_80 rfl ?_
  refine gy_callIN (b := q14) (mc := 1) (ms := 61) (st := [.ref q14, .ref h0]) [] (wc := [(q14, .inr (6, [.null]))]) (wr := [(h0, .inr (11, [.ref q1, .ref q3, .ref q8, .ref q10, .ref q12, .ref q13, .null, .null, .null, .null, .null, .null, .null, .int 0, .int 0, .int 0, .int 0, .long 0])), (q1, .inr (9, [.ref q2, .int 0, .int 0, .int 0, .int 0])), (q2, .inl (cs 0, 240, .inl (fun _ => 0))), (q3, .inr (7, [.ref q1, .ref q4, .ref q5, .ref q6, .ref q7, .int 0, .int 0, .int 0])), (q4, .inl (cs 0, 4, .inl (fun _ => 0))), (q5, .inl (cs 0, 16, .inl (fun _ => 0))), (q6, .inl (cs 0, 30, .inl (fun _ => 0))), (q7, .inl (cs 0, 5, .inl (fun _ => 0))), (q8, .inr (4, [.ref q1, .ref q9, .int 0])), (q9, .inl (cs 0, 241, .inl (fun _ => 0))), (q10, .inr (1, [.ref q1, .ref q11, .int 0])), (q11, .inl (cs 0, 48, .inl (fun _ => 0))), (q12, .inl (cs 3, 4, .inr (.inr (.inr (.inr (fun _ => none)))))), (q13, .inl (cs 4, 4, .inr (.inr (.inr (.inr (fun _ => none))))))]) [14] [0, 1, 2, 3, 4, 5, 6, 7, 8, 9, 10, 11, 12, 13] C dX11_init_81 mxX11_53 (by decide) (Nat.le_of_ble_eq_true rfl) (Rk.mo (by omega) (by omega)) (kX6_init q14) rfl rfl (by decide) (by decide) (by decide) (fun v w hp => ?_)
  obtain ⟨rfl, q15, rfl⟩ := hp
  refine gy_widen (k2 := 15) (n2 := 673) (by omega) (by omega) ?_
  refine gy_w (w2 := [(h0, .inr (11, [.ref q1, .ref q3, .ref q8, .ref q10, .ref q12, .ref q13, .null, .null, .null, .null, .null, .null, .null, .int 0, .int 0, .int 0, .int 0, .long 0])), (q1, .inr (9, [.ref q2, .int 0, .int 0, .int 0, .int 0])), (q2, .inl (cs 0, 240, .inl (fun _ => 0))), (q3, .inr (7, [.ref q1, .ref q4, .ref q5, .ref q6, .ref q7, .int 0, .int 0, .int 0])), (q4, .inl (cs 0, 4, .inl (fun _ => 0))), (q5, .inl (cs 0, 16, .inl (fun _ => 0))), (q6, .inl (cs 0, 30, .inl (fun _ => 0))), (q7, .inl (cs 0, 5, .inl (fun _ => 0))), (q8, .inr (4, [.ref q1, .ref q9, .int 0])), (q9, .inl (cs 0, 241, .inl (fun _ => 0))), (q10, .inr (1, [.ref q1, .ref q11, .int 0])), (q11, .inl (cs 0, 48, .inl (fun _ => 0))), (q12, .inl (cs 3, 4, .inr (.inr (.inr (.inr (fun _ => none)))))), (q13, .inl (cs 4, 4, .inr (.inr (.inr (.inr (fun _ => none)))))), (q14, .inr (6, [.ref q15])), (q15, .inl (cs 0, 61, .inl (fun _ => 0)))]) rfl ?_
  refine gy_st (st2 := [.ref q14, .ref h0]) rfl ?_
  refine gy_putF (q := 0) C I dX11_init_84 xfX11_54 rfl rfl rfl rfl rfl (Nat.le_of_ble_eq_true rfl) ?_
  refine gy_w (w2 := [(h0, .inr (11, [.ref q1, .ref q3, .ref q8, .ref q10, .ref q12, .ref q13, .ref q14, .null, .null, .null, .null, .null, .null, .int 0, .int 0, .int 0, .int 0, .long 0])), (q1, .inr (9, [.ref q2, .int 0, .int 0, .int 0, .int 0])), (q2, .inl (cs 0, 240, .inl (fun _ => 0))), (q3, .inr (7, [.ref q1, .ref q4, .ref q5, .ref q6, .ref q7, .int 0, .int 0, .int 0])), (q4, .inl (cs 0, 4, .inl (fun _ => 0))), (q5, .inl (cs 0, 16, .inl (fun _ => 0))), (q6, .inl (cs 0, 30, .inl (fun _ => 0))), (q7, .inl (cs 0, 5, .inl (fun _ => 0))), (q8, .inr (4, [.ref q1, .ref q9, .int 0])), (q9, .inl (cs 0, 241, .inl (fun _ => 0))), (q10, .inr (1, [.ref q1, .ref q11, .int 0])), (q11, .inl (cs 0, 48, .inl (fun _ => 0))), (q12, .inl (cs 3, 4, .inr (.inr (.inr (.inr (fun _ => none)))))), (q13, .inl (cs 4, 4, .inr (.inr (.inr (.inr (fun _ => none)))))), (q14, .inr (6, [.ref q15])), (q15, .inl (cs 0, 61, .inl (fun _ => 0)))]) rfl ?_
  refine gy_aload_n C dX11_init_87 rfl ?_
  refine gy_new (ci := 6) (N := 1) (fs := [.null]) C dX11_init_88 (by decide) rfl (gz_mem 239 (by decide +kernel) (by decide +kernel)) (gz_mem 240 (by decide +kernel) (by decide +kernel)) (gz_mem 113 (by decide +kernel) (by decide +kernel)) (by decide) (Rk.mo (by omega) (by omega)) (fun q16 => ?_)
  refine gy_widen (k2 := 16) (n2 := 674) (by omega) (by omega) ?_
  refine gy_w (w2 := [(h0, .inr (11, [.ref q1, .ref q3, .ref q8, .ref q10, .ref q12, .ref q13, .ref q14, .null, .null, .null, .null, .null, .null, .int 0, .int 0, .int 0, .int 0, .long 0])), (q1, .inr (9, [.ref q2, .int 0, .int 0, .int 0, .int 0])), (q2, .inl (cs 0, 240, .inl (fun _ => 0))), (q3, .inr (7, [.ref q1, .ref q4, .ref q5, .ref q6, .ref q7, .int 0, .int 0, .int 0])), (q4, .inl (cs 0, 4, .inl (fun _ => 0))), (q5, .inl (cs 0, 16, .inl (fun _ => 0))), (q6, .inl (cs 0, 30, .inl (fun _ => 0))), (q7, .inl (cs 0, 5, .inl (fun _ => 0))), (q8, .inr (4, [.ref q1, .ref q9, .int 0])), (q9, .inl (cs 0, 241, .inl (fun _ => 0))), (q10, .inr (1, [.ref q1, .ref q11, .int 0])), (q11, .inl (cs 0, 48, .inl (fun _ => 0))), (q12, .inl (cs 3, 4, .inr (.inr (.inr (.inr (fun _ => none)))))), (q13, .inl (cs 4, 4, .inr (.inr (.inr (.inr (fun _ => none)))))), (q14, .inr (6, [.ref q15])), (q15, .inl (cs 0, 61, .inl (fun _ => 0))), (q16, .inr (6, [.null]))]) rfl ?_
  refine gy_dup C dX11_init_91 rfl ?_
  refine gy_callIN (b := q16) (mc := 1) (ms := 61) (st := [.ref q16, .ref h0]) [] (wc := [(q16, .inr (6, [.null]))]) (wr := [(h0, .inr (11, [.ref q1, .ref q3, .ref q8, .ref q10, .ref q12, .ref q13, .ref q14, .null, .null, .null, .null, .null, .null, .int 0, .int 0, .int 0, .int 0, .long 0])), (q1, .inr (9, [.ref q2, .int 0, .int 0, .int 0, .int 0])), (q2, .inl (cs 0, 240, .inl (fun _ => 0))), (q3, .inr (7, [.ref q1, .ref q4, .ref q5, .ref q6, .ref q7, .int 0, .int 0, .int 0])), (q4, .inl (cs 0, 4, .inl (fun _ => 0))), (q5, .inl (cs 0, 16, .inl (fun _ => 0))), (q6, .inl (cs 0, 30, .inl (fun _ => 0))), (q7, .inl (cs 0, 5, .inl (fun _ => 0))), (q8, .inr (4, [.ref q1, .ref q9, .int 0])), (q9, .inl (cs 0, 241, .inl (fun _ => 0))), (q10, .inr (1, [.ref q1, .ref q11, .int 0])), (q11, .inl (cs 0, 48, .inl (fun _ => 0))), (q12, .inl (cs 3, 4, .inr (.inr (.inr (.inr (fun _ => none)))))), (q13, .inl (cs 4, 4, .inr (.inr (.inr (.inr (fun _ => none)))))), (q14, .inr (6, [.ref q15])), (q15, .inl (cs 0, 61, .inl (fun _ => 0)))]) [16] [0, 1, 2, 3, 4, 5, 6, 7, 8, 9, 10, 11, 12, 13, 14, 15] C dX11_init_92 mxX11_53 (by decide) (Nat.le_of_ble_eq_true rfl) (Rk.mo (by omega) (by omega)) (kX6_init q16) rfl rfl (by decide) (by decide) (by decide) (fun v w hp => ?_)
  obtain ⟨rfl, q17, rfl⟩ := hp
  refine gy_widen (k2 := 17) (n2 := 735) (by omega) (by omega) ?_
  refine gy_w (w2 := [(h0, .inr (11, [.ref q1, .ref q3, .ref q8, .ref q10, .ref q12, .ref q13, .ref q14, .null, .null, .null, .null, .null, .null, .int 0, .int 0, .int 0, .int 0, .long 0])), (q1, .inr (9, [.ref q2, .int 0, .int 0, .int 0, .int 0])), (q2, .inl (cs 0, 240, .inl (fun _ => 0))), (q3, .inr (7, [.ref q1, .ref q4, .ref q5, .ref q6, .ref q7, .int 0, .int 0, .int 0])), (q4, .inl (cs 0, 4, .inl (fun _ => 0))), (q5, .inl (cs 0, 16, .inl (fun _ => 0))), (q6, .inl (cs 0, 30, .inl (fun _ => 0))), (q7, .inl (cs 0, 5, .inl (fun _ => 0))), (q8, .inr (4, [.ref q1, .ref q9, .int 0])), (q9, .inl (cs 0, 241, .inl (fun _ => 0))), (q10, .inr (1, [.ref q1, .ref q11, .int 0])), (q11, .inl (cs 0, 48, .inl (fun _ => 0))), (q12, .inl (cs 3, 4, .inr (.inr (.inr (.inr (fun _ => none)))))), (q13, .inl (cs 4, 4, .inr (.inr (.inr (.inr (fun _ => none)))))), (q14, .inr (6, [.ref q15])), (q15, .inl (cs 0, 61, .inl (fun _ => 0))), (q16, .inr (6, [.ref q17])), (q17, .inl (cs 0, 61, .inl (fun _ => 0)))]) rfl ?_
  refine gy_st (st2 := [.ref q16, .ref h0]) rfl ?_
  refine gy_putF (q := 0) C I dX11_init_95 xfX11_58 rfl rfl rfl rfl rfl (Nat.le_of_ble_eq_true rfl) ?_
  refine gy_w (w2 := [(h0, .inr (11, [.ref q1, .ref q3, .ref q8, .ref q10, .ref q12, .ref q13, .ref q14, .ref q16, .null, .null, .null, .null, .null, .int 0, .int 0, .int 0, .int 0, .long 0])), (q1, .inr (9, [.ref q2, .int 0, .int 0, .int 0, .int 0])), (q2, .inl (cs 0, 240, .inl (fun _ => 0))), (q3, .inr (7, [.ref q1, .ref q4, .ref q5, .ref q6, .ref q7, .int 0, .int 0, .int 0])), (q4, .inl (cs 0, 4, .inl (fun _ => 0))), (q5, .inl (cs 0, 16, .inl (fun _ => 0))), (q6, .inl (cs 0, 30, .inl (fun _ => 0))), (q7, .inl (cs 0, 5, .inl (fun _ => 0))), (q8, .inr (4, [.ref q1, .ref q9, .int 0])), (q9, .inl (cs 0, 241, .inl (fun _ => 0))), (q10, .inr (1, [.ref q1, .ref q11, .int 0])), (q11, .inl (cs 0, 48, .inl (fun _ => 0))), (q12, .inl (cs 3, 4, .inr (.inr (.inr (.inr (fun _ => none)))))), (q13, .inl (cs 4, 4, .inr (.inr (.inr (.inr (fun _ => none)))))), (q14, .inr (6, [.ref q15])), (q15, .inl (cs 0, 61, .inl (fun _ => 0))), (q16, .inr (6, [.ref q17])), (q17, .inl (cs 0, 61, .inl (fun _ => 0)))]) rfl ?_
  refine gy_aload_n C dX11_init_98 rfl ?_
  refine gy_new (ci := 6) (N := 1) (fs := [.null]) C dX11_init_99 (by decide) rfl (gz_mem 239 (by decide +kernel) (by decide +kernel)) (gz_mem 240 (by decide +kernel) (by decide +kernel)) (gz_mem 113 (by decide +kernel) (by decide +kernel)) (by decide) (Rk.mo (by omega) (by omega)) (fun q18 => ?_)
  refine gy_widen (k2 := 18) (n2 := 736) (by omega) (by omega) ?_
  refine gy_w (w2 := [(h0, .inr (11, [.ref q1, .ref q3, .ref q8, .ref q10, .ref q12, .ref q13, .ref q14, .ref q16, .null, .null, .null, .null, .null, .int 0, .int 0, .int 0, .int 0, .long 0])), (q1, .inr (9, [.ref q2, .int 0, .int 0, .int 0, .int 0])), (q2, .inl (cs 0, 240, .inl (fun _ => 0))), (q3, .inr (7, [.ref q1, .ref q4, .ref q5, .ref q6, .ref q7, .int 0, .int 0, .int 0])), (q4, .inl (cs 0, 4, .inl (fun _ => 0))), (q5, .inl (cs 0, 16, .inl (fun _ => 0))), (q6, .inl (cs 0, 30, .inl (fun _ => 0))), (q7, .inl (cs 0, 5, .inl (fun _ => 0))), (q8, .inr (4, [.ref q1, .ref q9, .int 0])), (q9, .inl (cs 0, 241, .inl (fun _ => 0))), (q10, .inr (1, [.ref q1, .ref q11, .int 0])), (q11, .inl (cs 0, 48, .inl (fun _ => 0))), (q12, .inl (cs 3, 4, .inr (.inr (.inr (.inr (fun _ => none)))))), (q13, .inl (cs 4, 4, .inr (.inr (.inr (.inr (fun _ => none)))))), (q14, .inr (6, [.ref q15])), (q15, .inl (cs 0, 61, .inl (fun _ => 0))), (q16, .inr (6, [.ref q17])), (q17, .inl (cs 0, 61, .inl (fun _ => 0))), (q18, .inr (6, [.null]))]) rfl ?_
  refine gy_dup C dX11_init_102 rfl ?_
  refine gy_callIN (b := q18) (mc := 1) (ms := 61) (st := [.ref q18, .ref h0]) [] (wc := [(q18, .inr (6, [.null]))]) (wr := [(h0, .inr (11, [.ref q1, .ref q3, .ref q8, .ref q10, .ref q12, .ref q13, .ref q14, .ref q16, .null, .null, .null, .null, .null, .int 0, .int 0, .int 0, .int 0, .long 0])), (q1, .inr (9, [.ref q2, .int 0, .int 0, .int 0, .int 0])), (q2, .inl (cs 0, 240, .inl (fun _ => 0))), (q3, .inr (7, [.ref q1, .ref q4, .ref q5, .ref q6, .ref q7, .int 0, .int 0, .int 0])), (q4, .inl (cs 0, 4, .inl (fun _ => 0))), (q5, .inl (cs 0, 16, .inl (fun _ => 0))), (q6, .inl (cs 0, 30, .inl (fun _ => 0))), (q7, .inl (cs 0, 5, .inl (fun _ => 0))), (q8, .inr (4, [.ref q1, .ref q9, .int 0])), (q9, .inl (cs 0, 241, .inl (fun _ => 0))), (q10, .inr (1, [.ref q1, .ref q11, .int 0])), (q11, .inl (cs 0, 48, .inl (fun _ => 0))), (q12, .inl (cs 3, 4, .inr (.inr (.inr (.inr (fun _ => none)))))), (q13, .inl (cs 4, 4, .inr (.inr (.inr (.inr (fun _ => none)))))), (q14, .inr (6, [.ref q15])), (q15, .inl (cs 0, 61, .inl (fun _ => 0))), (q16, .inr (6, [.ref q17])), (q17, .inl (cs 0, 61, .inl (fun _ => 0)))]) [18] [0, 1, 2, 3, 4, 5, 6, 7, 8, 9, 10, 11, 12, 13, 14, 15, 16, 17] C dX11_init_103 mxX11_53 (by decide) (Nat.le_of_ble_eq_true rfl) (Rk.mo (by omega) (by omega)) (kX6_init q18) rfl rfl (by decide) (by decide) (by decide) (fun v w hp => ?_)
  obtain ⟨rfl, q19, rfl⟩ := hp
  refine gy_widen (k2 := 19) (n2 := 797) (by omega) (by omega) ?_
  refine gy_w (w2 := [(h0, .inr (11, [.ref q1, .ref q3, .ref q8, .ref q10, .ref q12, .ref q13, .ref q14, .ref q16, .null, .null, .null, .null, .null, .int 0, .int 0, .int 0, .int 0, .long 0])), (q1, .inr (9, [.ref q2, .int 0, .int 0, .int 0, .int 0])), (q2, .inl (cs 0, 240, .inl (fun _ => 0))), (q3, .inr (7, [.ref q1, .ref q4, .ref q5, .ref q6, .ref q7, .int 0, .int 0, .int 0])), (q4, .inl (cs 0, 4, .inl (fun _ => 0))), (q5, .inl (cs 0, 16, .inl (fun _ => 0))), (q6, .inl (cs 0, 30, .inl (fun _ => 0))), (q7, .inl (cs 0, 5, .inl (fun _ => 0))), (q8, .inr (4, [.ref q1, .ref q9, .int 0])), (q9, .inl (cs 0, 241, .inl (fun _ => 0))), (q10, .inr (1, [.ref q1, .ref q11, .int 0])), (q11, .inl (cs 0, 48, .inl (fun _ => 0))), (q12, .inl (cs 3, 4, .inr (.inr (.inr (.inr (fun _ => none)))))), (q13, .inl (cs 4, 4, .inr (.inr (.inr (.inr (fun _ => none)))))), (q14, .inr (6, [.ref q15])), (q15, .inl (cs 0, 61, .inl (fun _ => 0))), (q16, .inr (6, [.ref q17])), (q17, .inl (cs 0, 61, .inl (fun _ => 0))), (q18, .inr (6, [.ref q19])), (q19, .inl (cs 0, 61, .inl (fun _ => 0)))]) rfl ?_
  refine gy_st (st2 := [.ref q18, .ref h0]) rfl ?_
  refine gy_putF (q := 0) C I dX11_init_106 xfX11_61 rfl rfl rfl rfl rfl (Nat.le_of_ble_eq_true rfl) ?_
  refine gy_w (w2 := [(h0, .inr (11, [.ref q1, .ref q3, .ref q8, .ref q10, .ref q12, .ref q13, .ref q14, .ref q16, .ref q18, .null, .null, .null, .null, .int 0, .int 0, .int 0, .int 0, .long 0])), (q1, .inr (9, [.ref q2, .int 0, .int 0, .int 0, .int 0])), (q2, .inl (cs 0, 240, .inl (fun _ => 0))), (q3, .inr (7, [.ref q1, .ref q4, .ref q5, .ref q6, .ref q7, .int 0, .int 0, .int 0])), (q4, .inl (cs 0, 4, .inl (fun _ => 0))), (q5, .inl (cs 0, 16, .inl (fun _ => 0))), (q6, .inl (cs 0, 30, .inl (fun _ => 0))), (q7, .inl (cs 0, 5, .inl (fun _ => 0))), (q8, .inr (4, [.ref q1, .ref q9, .int 0])), (q9, .inl (cs 0, 241, .inl (fun _ => 0))), (q10, .inr (1, [.ref q1, .ref q11, .int 0])), (q11, .inl (cs 0, 48, .inl (fun _ => 0))), (q12, .inl (cs 3, 4, .inr (.inr (.inr (.inr (fun _ => none)))))), (q13, .inl (cs 4, 4, .inr (.inr (.inr (.inr (fun _ => none)))))), (q14, .inr (6, [.ref q15])), (q15, .inl (cs 0, 61, .inl (fun _ => 0))), (q16, .inr (6, [.ref q17])), (q17, .inl (cs 0, 61, .inl (fun _ => 0))), (q18, .inr (6, [.ref q19])), (q19, .inl (cs 0, 61, .inl (fun _ => 0)))]) rfl ?_
  refine gy_aload_n C dX11_init_109 rfl ?_
  refine gy_new (ci := 10) (N := 5) (fs := [.null, .int 0, .int 0, .null, .null]) C dX11_init_110 (by decide) rfl (gz_mem 256 (by decide +kernel) (by decide +kernel)) (gz_mem 257 (by decide +kernel) (by decide +kernel)) (gz_mem 114 (by decide +kernel) (by decide +kernel)) (by decide) (Rk.mo (by omega) (by omega)) (fun q20 => ?_)
  refine gy_widen (k2 := 20) (n2 := 802) (by omega) (by omega) ?_
  refine gy_w (w2 := [(h0, .inr (11, [.ref q1, .ref q3, .ref q8, .ref q10, .ref q12, .ref q13, .ref q14, .ref q16, .ref q18, .null, .null, .null, .null, .int 0, .int 0, .int 0, .int 0, .long 0])), (q1, .inr (9, [.ref q2, .int 0, .int 0, .int 0, .int 0])), (q2, .inl (cs 0, 240, .inl (fun _ => 0))), (q3, .inr (7, [.ref q1, .ref q4, .ref q5, .ref q6, .ref q7, .int 0, .int 0, .int 0])), (q4, .inl (cs 0, 4, .inl (fun _ => 0))), (q5, .inl (cs 0, 16, .inl (fun _ => 0))), (q6, .inl (cs 0, 30, .inl (fun _ => 0))), (q7, .inl (cs 0, 5, .inl (fun _ => 0))), (q8, .inr (4, [.ref q1, .ref q9, .int 0])), (q9, .inl (cs 0, 241, .inl (fun _ => 0))), (q10, .inr (1, [.ref q1, .ref q11, .int 0])), (q11, .inl (cs 0, 48, .inl (fun _ => 0))), (q12, .inl (cs 3, 4, .inr (.inr (.inr (.inr (fun _ => none)))))), (q13, .inl (cs 4, 4, .inr (.inr (.inr (.inr (fun _ => none)))))), (q14, .inr (6, [.ref q15])), (q15, .inl (cs 0, 61, .inl (fun _ => 0))), (q16, .inr (6, [.ref q17])), (q17, .inl (cs 0, 61, .inl (fun _ => 0))), (q18, .inr (6, [.ref q19])), (q19, .inl (cs 0, 61, .inl (fun _ => 0))), (q20, .inr (10, [.null, .int 0, .int 0, .null, .null]))]) rfl ?_
  refine gy_dup C dX11_init_113 rfl ?_
  refine gy_callIN (b := q20) (mc := 2) (ms := 246) (st := [.ref q20, .ref h0]) [] (wc := [(q20, .inr (10, [.null, .int 0, .int 0, .null, .null]))]) (wr := [(h0, .inr (11, [.ref q1, .ref q3, .ref q8, .ref q10, .ref q12, .ref q13, .ref q14, .ref q16, .ref q18, .null, .null, .null, .null, .int 0, .int 0, .int 0, .int 0, .long 0])), (q1, .inr (9, [.ref q2, .int 0, .int 0, .int 0, .int 0])), (q2, .inl (cs 0, 240, .inl (fun _ => 0))), (q3, .inr (7, [.ref q1, .ref q4, .ref q5, .ref q6, .ref q7, .int 0, .int 0, .int 0])), (q4, .inl (cs 0, 4, .inl (fun _ => 0))), (q5, .inl (cs 0, 16, .inl (fun _ => 0))), (q6, .inl (cs 0, 30, .inl (fun _ => 0))), (q7, .inl (cs 0, 5, .inl (fun _ => 0))), (q8, .inr (4, [.ref q1, .ref q9, .int 0])), (q9, .inl (cs 0, 241, .inl (fun _ => 0))), (q10, .inr (1, [.ref q1, .ref q11, .int 0])), (q11, .inl (cs 0, 48, .inl (fun _ => 0))), (q12, .inl (cs 3, 4, .inr (.inr (.inr (.inr (fun _ => none)))))), (q13, .inl (cs 4, 4, .inr (.inr (.inr (.inr (fun _ => none)))))), (q14, .inr (6, [.ref q15])), (q15, .inl (cs 0, 61, .inl (fun _ => 0))), (q16, .inr (6, [.ref q17])), (q17, .inl (cs 0, 61, .inl (fun _ => 0))), (q18, .inr (6, [.ref q19])), (q19, .inl (cs 0, 61, .inl (fun _ => 0)))]) [20] [0, 1, 2, 3, 4, 5, 6, 7, 8, 9, 10, 11, 12, 13, 14, 15, 16, 17, 18, 19] C dX11_init_114 mxX11_66 (by decide) (Nat.le_of_ble_eq_true rfl) (Rk.mo (by omega) (by omega)) (kX10_init q20) rfl rfl (by decide) (by decide) (by decide) (fun v w hp => ?_)
  obtain ⟨rfl, q21, q22, rfl⟩ := hp
  refine gy_widen (k2 := 22) (n2 := 1048) (by omega) (by omega) ?_
  refine gy_w (w2 := [(h0, .inr (11, [.ref q1, .ref q3, .ref q8, .ref q10, .ref q12, .ref q13, .ref q14, .ref q16, .ref q18, .null, .null, .null, .null, .int 0, .int 0, .int 0, .int 0, .long 0])), (q1, .inr (9, [.ref q2, .int 0, .int 0, .int 0, .int 0])), (q2, .inl (cs 0, 240, .inl (fun _ => 0))), (q3, .inr (7, [.ref q1, .ref q4, .ref q5, .ref q6, .ref q7, .int 0, .int 0, .int 0])), (q4, .inl (cs 0, 4, .inl (fun _ => 0))), (q5, .inl (cs 0, 16, .inl (fun _ => 0))), (q6, .inl (cs 0, 30, .inl (fun _ => 0))), (q7, .inl (cs 0, 5, .inl (fun _ => 0))), (q8, .inr (4, [.ref q1, .ref q9, .int 0])), (q9, .inl (cs 0, 241, .inl (fun _ => 0))), (q10, .inr (1, [.ref q1, .ref q11, .int 0])), (q11, .inl (cs 0, 48, .inl (fun _ => 0))), (q12, .inl (cs 3, 4, .inr (.inr (.inr (.inr (fun _ => none)))))), (q13, .inl (cs 4, 4, .inr (.inr (.inr (.inr (fun _ => none)))))), (q14, .inr (6, [.ref q15])), (q15, .inl (cs 0, 61, .inl (fun _ => 0))), (q16, .inr (6, [.ref q17])), (q17, .inl (cs 0, 61, .inl (fun _ => 0))), (q18, .inr (6, [.ref q19])), (q19, .inl (cs 0, 61, .inl (fun _ => 0))), (q20, .inr (10, [.null, .int 0, .int 0, .ref q21, .ref q22])), (q21, .inl (cs 0, 6, .inl (fun _ => 0))), (q22, .inl (cs 0, 240, .inl (fun _ => 0)))]) rfl ?_
  refine gy_st (st2 := [.ref q20, .ref h0]) rfl ?_
  refine gy_putF (q := 0) C I dX11_init_117 xfX11_67 rfl rfl rfl rfl rfl (Nat.le_of_ble_eq_true rfl) ?_
  refine gy_w (w2 := [(h0, .inr (11, [.ref q1, .ref q3, .ref q8, .ref q10, .ref q12, .ref q13, .ref q14, .ref q16, .ref q18, .ref q20, .null, .null, .null, .int 0, .int 0, .int 0, .int 0, .long 0])), (q1, .inr (9, [.ref q2, .int 0, .int 0, .int 0, .int 0])), (q2, .inl (cs 0, 240, .inl (fun _ => 0))), (q3, .inr (7, [.ref q1, .ref q4, .ref q5, .ref q6, .ref q7, .int 0, .int 0, .int 0])), (q4, .inl (cs 0, 4, .inl (fun _ => 0))), (q5, .inl (cs 0, 16, .inl (fun _ => 0))), (q6, .inl (cs 0, 30, .inl (fun _ => 0))), (q7, .inl (cs 0, 5, .inl (fun _ => 0))), (q8, .inr (4, [.ref q1, .ref q9, .int 0])), (q9, .inl (cs 0, 241, .inl (fun _ => 0))), (q10, .inr (1, [.ref q1, .ref q11, .int 0])), (q11, .inl (cs 0, 48, .inl (fun _ => 0))), (q12, .inl (cs 3, 4, .inr (.inr (.inr (.inr (fun _ => none)))))), (q13, .inl (cs 4, 4, .inr (.inr (.inr (.inr (fun _ => none)))))), (q14, .inr (6, [.ref q15])), (q15, .inl (cs 0, 61, .inl (fun _ => 0))), (q16, .inr (6, [.ref q17])), (q17, .inl (cs 0, 61, .inl (fun _ => 0))), (q18, .inr (6, [.ref q19])), (q19, .inl (cs 0, 61, .inl (fun _ => 0))), (q20, .inr (10, [.null, .int 0, .int 0, .ref q21, .ref q22])), (q21, .inl (cs 0, 6, .inl (fun _ => 0))), (q22, .inl (cs 0, 240, .inl (fun _ => 0)))]) rfl ?_
  refine gy_aload_n C dX11_init_120 rfl ?_
  refine gy_new (ci := 5) (N := 7) (fs := [.int 0, .null, .null, .null, .null, .int 0, .int 0]) C dX11_init_121 (by decide) rfl (gz_mem 281 (by decide +kernel) (by decide +kernel)) (gz_mem 282 (by decide +kernel) (by decide +kernel)) (gz_mem 115 (by decide +kernel) (by decide +kernel)) (by decide) (Rk.mo (by omega) (by omega)) (fun q23 => ?_)
  refine gy_widen (k2 := 23) (n2 := 1055) (by omega) (by omega) ?_
  refine gy_w (w2 := [(h0, .inr (11, [.ref q1, .ref q3, .ref q8, .ref q10, .ref q12, .ref q13, .ref q14, .ref q16, .ref q18, .ref q20, .null, .null, .null, .int 0, .int 0, .int 0, .int 0, .long 0])), (q1, .inr (9, [.ref q2, .int 0, .int 0, .int 0, .int 0])), (q2, .inl (cs 0, 240, .inl (fun _ => 0))), (q3, .inr (7, [.ref q1, .ref q4, .ref q5, .ref q6, .ref q7, .int 0, .int 0, .int 0])), (q4, .inl (cs 0, 4, .inl (fun _ => 0))), (q5, .inl (cs 0, 16, .inl (fun _ => 0))), (q6, .inl (cs 0, 30, .inl (fun _ => 0))), (q7, .inl (cs 0, 5, .inl (fun _ => 0))), (q8, .inr (4, [.ref q1, .ref q9, .int 0])), (q9, .inl (cs 0, 241, .inl (fun _ => 0))), (q10, .inr (1, [.ref q1, .ref q11, .int 0])), (q11, .inl (cs 0, 48, .inl (fun _ => 0))), (q12, .inl (cs 3, 4, .inr (.inr (.inr (.inr (fun _ => none)))))), (q13, .inl (cs 4, 4, .inr (.inr (.inr (.inr (fun _ => none)))))), (q14, .inr (6, [.ref q15])), (q15, .inl (cs 0, 61, .inl (fun _ => 0))), (q16, .inr (6, [.ref q17])), (q17, .inl (cs 0, 61, .inl (fun _ => 0))), (q18, .inr (6, [.ref q19])), (q19, .inl (cs 0, 61, .inl (fun _ => 0))), (q20, .inr (10, [.null, .int 0, .int 0, .ref q21, .ref q22])), (q21, .inl (cs 0, 6, .inl (fun _ => 0))), (q22, .inl (cs 0, 240, .inl (fun _ => 0))), (q23, .inr (5, [.int 0, .null, .null, .null, .null, .int 0, .int 0]))]) rfl ?_
  refine gy_dup C dX11_init_124 rfl ?_
  refine gy_callIN (b := q23) (mc := 4) (ms := 2250) (st := [.ref q23, .ref h0]) [] (wc := [(q23, .inr (5, [.int 0, .null, .null, .null, .null, .int 0, .int 0]))]) (wr := [(h0, .inr (11, [.ref q1, .ref q3, .ref q8, .ref q10, .ref q12, .ref q13, .ref q14, .ref q16, .ref q18, .ref q20, .null, .null, .null, .int 0, .int 0, .int 0, .int 0, .long 0])), (q1, .inr (9, [.ref q2, .int 0, .int 0, .int 0, .int 0])), (q2, .inl (cs 0, 240, .inl (fun _ => 0))), (q3, .inr (7, [.ref q1, .ref q4, .ref q5, .ref q6, .ref q7, .int 0, .int 0, .int 0])), (q4, .inl (cs 0, 4, .inl (fun _ => 0))), (q5, .inl (cs 0, 16, .inl (fun _ => 0))), (q6, .inl (cs 0, 30, .inl (fun _ => 0))), (q7, .inl (cs 0, 5, .inl (fun _ => 0))), (q8, .inr (4, [.ref q1, .ref q9, .int 0])), (q9, .inl (cs 0, 241, .inl (fun _ => 0))), (q10, .inr (1, [.ref q1, .ref q11, .int 0])), (q11, .inl (cs 0, 48, .inl (fun _ => 0))), (q12, .inl (cs 3, 4, .inr (.inr (.inr (.inr (fun _ => none)))))), (q13, .inl (cs 4, 4, .inr (.inr (.inr (.inr (fun _ => none)))))), (q14, .inr (6, [.ref q15])), (q15, .inl (cs 0, 61, .inl (fun _ => 0))), (q16, .inr (6, [.ref q17])), (q17, .inl (cs 0, 61, .inl (fun _ => 0))), (q18, .inr (6, [.ref q19])), (q19, .inl (cs 0, 61, .inl (fun _ => 0))), (q20, .inr (10, [.null, .int 0, .int 0, .ref q21, .ref q22])), (q21, .inl (cs 0, 6, .inl (fun _ => 0))), (q22, .inl (cs 0, 240, .inl (fun _ => 0)))]) [23] [0, 1, 2, 3, 4, 5, 6, 7, 8, 9, 10, 11, 12, 13, 14, 15, 16, 17, 18, 19, 20, 21, 22] C dX11_init_125 mxX11_73 (by decide) (Nat.le_of_ble_eq_true rfl) (Rk.mo (by omega) (by omega)) (kX5_init q23) rfl rfl (by decide) (by decide) (by decide) (fun v w hp => ?_)
  obtain ⟨rfl, q24, q25, q26, q27, rfl⟩ := hp
  refine gy_widen (k2 := 27) (n2 := 3305) (by omega) (by omega) ?_
  refine gy_w (w2 := [(h0, .inr (11, [.ref q1, .ref q3, .ref q8, .ref q10, .ref q12, .ref q13, .ref q14, .ref q16, .ref q18, .ref q20, .null, .null, .null, .int 0, .int 0, .int 0, .int 0, .long 0])), (q1, .inr (9, [.ref q2, .int 0, .int 0, .int 0, .int 0])), (q2, .inl (cs 0, 240, .inl (fun _ => 0))), (q3, .inr (7, [.ref q1, .ref q4, .ref q5, .ref q6, .ref q7, .int 0, .int 0, .int 0])), (q4, .inl (cs 0, 4, .inl (fun _ => 0))), (q5, .inl (cs 0, 16, .inl (fun _ => 0))), (q6, .inl (cs 0, 30, .inl (fun _ => 0))), (q7, .inl (cs 0, 5, .inl (fun _ => 0))), (q8, .inr (4, [.ref q1, .ref q9, .int 0])), (q9, .inl (cs 0, 241, .inl (fun _ => 0))), (q10, .inr (1, [.ref q1, .ref q11, .int 0])), (q11, .inl (cs 0, 48, .inl (fun _ => 0))), (q12, .inl (cs 3, 4, .inr (.inr (.inr (.inr (fun _ => none)))))), (q13, .inl (cs 4, 4, .inr (.inr (.inr (.inr (fun _ => none)))))), (q14, .inr (6, [.ref q15])), (q15, .inl (cs 0, 61, .inl (fun _ => 0))), (q16, .inr (6, [.ref q17])), (q17, .inl (cs 0, 61, .inl (fun _ => 0))), (q18, .inr (6, [.ref q19])), (q19, .inl (cs 0, 61, .inl (fun _ => 0))), (q20, .inr (10, [.null, .int 0, .int 0, .ref q21, .ref q22])), (q21, .inl (cs 0, 6, .inl (fun _ => 0))), (q22, .inl (cs 0, 240, .inl (fun _ => 0))), (q23, .inr (5, [.int 0, .ref q24, .ref q25, .ref q26, .ref q27, .int 0, .int 0])), (q24, .inl (cs 0, 2000, .inl (fun _ => 0))), (q25, .inl (cs 0, 100, .inl (fun _ => 0))), (q26, .inl (cs 0, 50, .inl (fun _ => 0))), (q27, .inl (cs 0, 100, .inl (fun _ => 0)))]) rfl ?_
  refine gy_st (st2 := [.ref q23, .ref h0]) rfl ?_
  refine gy_putF (q := 0) C I dX11_init_128 xfX11_74 rfl rfl rfl rfl rfl (Nat.le_of_ble_eq_true rfl) ?_
  refine gy_w (w2 := [(h0, .inr (11, [.ref q1, .ref q3, .ref q8, .ref q10, .ref q12, .ref q13, .ref q14, .ref q16, .ref q18, .ref q20, .ref q23, .null, .null, .int 0, .int 0, .int 0, .int 0, .long 0])), (q1, .inr (9, [.ref q2, .int 0, .int 0, .int 0, .int 0])), (q2, .inl (cs 0, 240, .inl (fun _ => 0))), (q3, .inr (7, [.ref q1, .ref q4, .ref q5, .ref q6, .ref q7, .int 0, .int 0, .int 0])), (q4, .inl (cs 0, 4, .inl (fun _ => 0))), (q5, .inl (cs 0, 16, .inl (fun _ => 0))), (q6, .inl (cs 0, 30, .inl (fun _ => 0))), (q7, .inl (cs 0, 5, .inl (fun _ => 0))), (q8, .inr (4, [.ref q1, .ref q9, .int 0])), (q9, .inl (cs 0, 241, .inl (fun _ => 0))), (q10, .inr (1, [.ref q1, .ref q11, .int 0])), (q11, .inl (cs 0, 48, .inl (fun _ => 0))), (q12, .inl (cs 3, 4, .inr (.inr (.inr (.inr (fun _ => none)))))), (q13, .inl (cs 4, 4, .inr (.inr (.inr (.inr (fun _ => none)))))), (q14, .inr (6, [.ref q15])), (q15, .inl (cs 0, 61, .inl (fun _ => 0))), (q16, .inr (6, [.ref q17])), (q17, .inl (cs 0, 61, .inl (fun _ => 0))), (q18, .inr (6, [.ref q19])), (q19, .inl (cs 0, 61, .inl (fun _ => 0))), (q20, .inr (10, [.null, .int 0, .int 0, .ref q21, .ref q22])), (q21, .inl (cs 0, 6, .inl (fun _ => 0))), (q22, .inl (cs 0, 240, .inl (fun _ => 0))), (q23, .inr (5, [.int 0, .ref q24, .ref q25, .ref q26, .ref q27, .int 0, .int 0])), (q24, .inl (cs 0, 2000, .inl (fun _ => 0))), (q25, .inl (cs 0, 100, .inl (fun _ => 0))), (q26, .inl (cs 0, 50, .inl (fun _ => 0))), (q27, .inl (cs 0, 100, .inl (fun _ => 0)))]) rfl ?_
  refine gy_aload_n C dX11_init_131 rfl ?_
  refine gy_new (ci := 2) (N := 9) (fs := [.int 0, .int 0, .null, .null, .null, .int 0, .null, .null, .null]) C dX11_init_132 (by decide) rfl (gz_mem 310 (by decide +kernel) (by decide +kernel)) (gz_mem 311 (by decide +kernel) (by decide +kernel)) (gz_mem 116 (by decide +kernel) (by decide +kernel)) (by decide) (Rk.mo (by omega) (by omega)) (fun q28 => ?_)
  refine gy_widen (k2 := 28) (n2 := 3314) (by omega) (by omega) ?_
  refine gy_w (w2 := [(h0, .inr (11, [.ref q1, .ref q3, .ref q8, .ref q10, .ref q12, .ref q13, .ref q14, .ref q16, .ref q18, .ref q20, .ref q23, .null, .null, .int 0, .int 0, .int 0, .int 0, .long 0])), (q1, .inr (9, [.ref q2, .int 0, .int 0, .int 0, .int 0])), (q2, .inl (cs 0, 240, .inl (fun _ => 0))), (q3, .inr (7, [.ref q1, .ref q4, .ref q5, .ref q6, .ref q7, .int 0, .int 0, .int 0])), (q4, .inl (cs 0, 4, .inl (fun _ => 0))), (q5, .inl (cs 0, 16, .inl (fun _ => 0))), (q6, .inl (cs 0, 30, .inl (fun _ => 0))), (q7, .inl (cs 0, 5, .inl (fun _ => 0))), (q8, .inr (4, [.ref q1, .ref q9, .int 0])), (q9, .inl (cs 0, 241, .inl (fun _ => 0))), (q10, .inr (1, [.ref q1, .ref q11, .int 0])), (q11, .inl (cs 0, 48, .inl (fun _ => 0))), (q12, .inl (cs 3, 4, .inr (.inr (.inr (.inr (fun _ => none)))))), (q13, .inl (cs 4, 4, .inr (.inr (.inr (.inr (fun _ => none)))))), (q14, .inr (6, [.ref q15])), (q15, .inl (cs 0, 61, .inl (fun _ => 0))), (q16, .inr (6, [.ref q17])), (q17, .inl (cs 0, 61, .inl (fun _ => 0))), (q18, .inr (6, [.ref q19])), (q19, .inl (cs 0, 61, .inl (fun _ => 0))), (q20, .inr (10, [.null, .int 0, .int 0, .ref q21, .ref q22])), (q21, .inl (cs 0, 6, .inl (fun _ => 0))), (q22, .inl (cs 0, 240, .inl (fun _ => 0))), (q23, .inr (5, [.int 0, .ref q24, .ref q25, .ref q26, .ref q27, .int 0, .int 0])), (q24, .inl (cs 0, 2000, .inl (fun _ => 0))), (q25, .inl (cs 0, 100, .inl (fun _ => 0))), (q26, .inl (cs 0, 50, .inl (fun _ => 0))), (q27, .inl (cs 0, 100, .inl (fun _ => 0))), (q28, .inr (2, [.int 0, .int 0, .null, .null, .null, .int 0, .null, .null, .null]))]) rfl ?_
  refine gy_dup C dX11_init_135 rfl ?_
  refine gy_aload_n C dX11_init_136 rfl ?_
  refine gy_get (q := 0) C dX11_init_137 xfX11_58 rfl rfl ?_
  refine gy_aload_n C dX11_init_140 rfl ?_
  refine gy_get (q := 0) C dX11_init_141 xfX11_61 rfl rfl ?_
  refine gy_aload_n C dX11_init_144 rfl ?_
  refine gy_get (q := 0) C dX11_init_145 xfX11_67 rfl rfl ?_
  refine gy_callI (b := q28) (mc := 3) (ms := 62) (st := [.ref q28, .ref h0]) [.ref q16, .ref q18, .ref q20] (wc := [(q28, .inr (2, [.int 0, .int 0, .null, .null, .null, .int 0, .null, .null, .null]))]) (wr := [(h0, .inr (11, [.ref q1, .ref q3, .ref q8, .ref q10, .ref q12, .ref q13, .ref q14, .ref q16, .ref q18, .ref q20, .ref q23, .null, .null, .int 0, .int 0, .int 0, .int 0, .long 0])), (q1, .inr (9, [.ref q2, .int 0, .int 0, .int 0, .int 0])), (q2, .inl (cs 0, 240, .inl (fun _ => 0))), (q3, .inr (7, [.ref q1, .ref q4, .ref q5, .ref q6, .ref q7, .int 0, .int 0, .int 0])), (q4, .inl (cs 0, 4, .inl (fun _ => 0))), (q5, .inl (cs 0, 16, .inl (fun _ => 0))), (q6, .inl (cs 0, 30, .inl (fun _ => 0))), (q7, .inl (cs 0, 5, .inl (fun _ => 0))), (q8, .inr (4, [.ref q1, .ref q9, .int 0])), (q9, .inl (cs 0, 241, .inl (fun _ => 0))), (q10, .inr (1, [.ref q1, .ref q11, .int 0])), (q11, .inl (cs 0, 48, .inl (fun _ => 0))), (q12, .inl (cs 3, 4, .inr (.inr (.inr (.inr (fun _ => none)))))), (q13, .inl (cs 4, 4, .inr (.inr (.inr (.inr (fun _ => none)))))), (q14, .inr (6, [.ref q15])), (q15, .inl (cs 0, 61, .inl (fun _ => 0))), (q16, .inr (6, [.ref q17])), (q17, .inl (cs 0, 61, .inl (fun _ => 0))), (q18, .inr (6, [.ref q19])), (q19, .inl (cs 0, 61, .inl (fun _ => 0))), (q20, .inr (10, [.null, .int 0, .int 0, .ref q21, .ref q22])), (q21, .inl (cs 0, 6, .inl (fun _ => 0))), (q22, .inl (cs 0, 240, .inl (fun _ => 0))), (q23, .inr (5, [.int 0, .ref q24, .ref q25, .ref q26, .ref q27, .int 0, .int 0])), (q24, .inl (cs 0, 2000, .inl (fun _ => 0))), (q25, .inl (cs 0, 100, .inl (fun _ => 0))), (q26, .inl (cs 0, 50, .inl (fun _ => 0))), (q27, .inl (cs 0, 100, .inl (fun _ => 0)))]) [28] [0, 1, 2, 3, 4, 5, 6, 7, 8, 9, 10, 11, 12, 13, 14, 15, 16, 17, 18, 19, 20, 21, 22, 23, 24, 25, 26, 27] C dX11_init_148 mxX11_80 (by decide) (Nat.le_of_ble_eq_true rfl) (Rk.mo (by omega) (by omega)) (kX2_init q28 q16 q18 q20) rfl rfl (by decide) (by decide) (by decide) (fun v w hp => ?_)
  obtain ⟨rfl, q29, q30, q31, rfl⟩ := hp
  refine gy_widen (k2 := 31) (n2 := 3376) (by omega) (by omega) ?_
  refine gy_w (w2 := [(h0, .inr (11, [.ref q1, .ref q3, .ref q8, .ref q10, .ref q12, .ref q13, .ref q14, .ref q16, .ref q18, .ref q20, .ref q23, .null, .null, .int 0, .int 0, .int 0, .int 0, .long 0])), (q1, .inr (9, [.ref q2, .int 0, .int 0, .int 0, .int 0])), (q2, .inl (cs 0, 240, .inl (fun _ => 0))), (q3, .inr (7, [.ref q1, .ref q4, .ref q5, .ref q6, .ref q7, .int 0, .int 0, .int 0])), (q4, .inl (cs 0, 4, .inl (fun _ => 0))), (q5, .inl (cs 0, 16, .inl (fun _ => 0))), (q6, .inl (cs 0, 30, .inl (fun _ => 0))), (q7, .inl (cs 0, 5, .inl (fun _ => 0))), (q8, .inr (4, [.ref q1, .ref q9, .int 0])), (q9, .inl (cs 0, 241, .inl (fun _ => 0))), (q10, .inr (1, [.ref q1, .ref q11, .int 0])), (q11, .inl (cs 0, 48, .inl (fun _ => 0))), (q12, .inl (cs 3, 4, .inr (.inr (.inr (.inr (fun _ => none)))))), (q13, .inl (cs 4, 4, .inr (.inr (.inr (.inr (fun _ => none)))))), (q14, .inr (6, [.ref q15])), (q15, .inl (cs 0, 61, .inl (fun _ => 0))), (q16, .inr (6, [.ref q17])), (q17, .inl (cs 0, 61, .inl (fun _ => 0))), (q18, .inr (6, [.ref q19])), (q19, .inl (cs 0, 61, .inl (fun _ => 0))), (q20, .inr (10, [.null, .int 0, .int 0, .ref q21, .ref q22])), (q21, .inl (cs 0, 6, .inl (fun _ => 0))), (q22, .inl (cs 0, 240, .inl (fun _ => 0))), (q23, .inr (5, [.int 0, .ref q24, .ref q25, .ref q26, .ref q27, .int 0, .int 0])), (q24, .inl (cs 0, 2000, .inl (fun _ => 0))), (q25, .inl (cs 0, 100, .inl (fun _ => 0))), (q26, .inl (cs 0, 50, .inl (fun _ => 0))), (q27, .inl (cs 0, 100, .inl (fun _ => 0))), (q28, .inr (2, [.int 0, .int 0, .ref q16, .ref q18, .ref q20, .int 0, .ref q29, .ref q30, .ref q31])), (q29, .inl (cs 0, 30, .inl (fun _ => 0))), (q30, .inl (cs 0, 16, .inl (fun _ => 0))), (q31, .inl (cs 0, 16, .inl (fun _ => 0)))]) rfl ?_
  refine gy_st (st2 := [.ref q28, .ref h0]) rfl ?_
  refine gy_putF (q := 0) C I dX11_init_151 xfX11_83 rfl rfl rfl rfl rfl (Nat.le_of_ble_eq_true rfl) ?_
  refine gy_w (w2 := [(h0, .inr (11, [.ref q1, .ref q3, .ref q8, .ref q10, .ref q12, .ref q13, .ref q14, .ref q16, .ref q18, .ref q20, .ref q23, .ref q28, .null, .int 0, .int 0, .int 0, .int 0, .long 0])), (q1, .inr (9, [.ref q2, .int 0, .int 0, .int 0, .int 0])), (q2, .inl (cs 0, 240, .inl (fun _ => 0))), (q3, .inr (7, [.ref q1, .ref q4, .ref q5, .ref q6, .ref q7, .int 0, .int 0, .int 0])), (q4, .inl (cs 0, 4, .inl (fun _ => 0))), (q5, .inl (cs 0, 16, .inl (fun _ => 0))), (q6, .inl (cs 0, 30, .inl (fun _ => 0))), (q7, .inl (cs 0, 5, .inl (fun _ => 0))), (q8, .inr (4, [.ref q1, .ref q9, .int 0])), (q9, .inl (cs 0, 241, .inl (fun _ => 0))), (q10, .inr (1, [.ref q1, .ref q11, .int 0])), (q11, .inl (cs 0, 48, .inl (fun _ => 0))), (q12, .inl (cs 3, 4, .inr (.inr (.inr (.inr (fun _ => none)))))), (q13, .inl (cs 4, 4, .inr (.inr (.inr (.inr (fun _ => none)))))), (q14, .inr (6, [.ref q15])), (q15, .inl (cs 0, 61, .inl (fun _ => 0))), (q16, .inr (6, [.ref q17])), (q17, .inl (cs 0, 61, .inl (fun _ => 0))), (q18, .inr (6, [.ref q19])), (q19, .inl (cs 0, 61, .inl (fun _ => 0))), (q20, .inr (10, [.null, .int 0, .int 0, .ref q21, .ref q22])), (q21, .inl (cs 0, 6, .inl (fun _ => 0))), (q22, .inl (cs 0, 240, .inl (fun _ => 0))), (q23, .inr (5, [.int 0, .ref q24, .ref q25, .ref q26, .ref q27, .int 0, .int 0])), (q24, .inl (cs 0, 2000, .inl (fun _ => 0))), (q25, .inl (cs 0, 100, .inl (fun _ => 0))), (q26, .inl (cs 0, 50, .inl (fun _ => 0))), (q27, .inl (cs 0, 100, .inl (fun _ => 0))), (q28, .inr (2, [.int 0, .int 0, .ref q16, .ref q18, .ref q20, .int 0, .ref q29, .ref q30, .ref q31])), (q29, .inl (cs 0, 30, .inl (fun _ => 0))), (q30, .inl (cs 0, 16, .inl (fun _ => 0))), (q31, .inl (cs 0, 16, .inl (fun _ => 0)))]) rfl ?_
  refine gy_aload_n C dX11_init_154 rfl ?_
  refine gy_new (ci := 8) (N := 9) (fs := [.int 0, .null, .null, .null, .null, .null, .null, .null, .null]) C dX11_init_155 (by decide) rfl (gz_mem 346 (by decide +kernel) (by decide +kernel)) (gz_mem 347 (by decide +kernel) (by decide +kernel)) (gz_mem 117 (by decide +kernel) (by decide +kernel)) (by decide) (Rk.mo (by omega) (by omega)) (fun q32 => ?_)
  refine gy_widen (k2 := 32) (n2 := 3385) (by omega) (by omega) ?_
  refine gy_w (w2 := [(h0, .inr (11, [.ref q1, .ref q3, .ref q8, .ref q10, .ref q12, .ref q13, .ref q14, .ref q16, .ref q18, .ref q20, .ref q23, .ref q28, .null, .int 0, .int 0, .int 0, .int 0, .long 0])), (q1, .inr (9, [.ref q2, .int 0, .int 0, .int 0, .int 0])), (q2, .inl (cs 0, 240, .inl (fun _ => 0))), (q3, .inr (7, [.ref q1, .ref q4, .ref q5, .ref q6, .ref q7, .int 0, .int 0, .int 0])), (q4, .inl (cs 0, 4, .inl (fun _ => 0))), (q5, .inl (cs 0, 16, .inl (fun _ => 0))), (q6, .inl (cs 0, 30, .inl (fun _ => 0))), (q7, .inl (cs 0, 5, .inl (fun _ => 0))), (q8, .inr (4, [.ref q1, .ref q9, .int 0])), (q9, .inl (cs 0, 241, .inl (fun _ => 0))), (q10, .inr (1, [.ref q1, .ref q11, .int 0])), (q11, .inl (cs 0, 48, .inl (fun _ => 0))), (q12, .inl (cs 3, 4, .inr (.inr (.inr (.inr (fun _ => none)))))), (q13, .inl (cs 4, 4, .inr (.inr (.inr (.inr (fun _ => none)))))), (q14, .inr (6, [.ref q15])), (q15, .inl (cs 0, 61, .inl (fun _ => 0))), (q16, .inr (6, [.ref q17])), (q17, .inl (cs 0, 61, .inl (fun _ => 0))), (q18, .inr (6, [.ref q19])), (q19, .inl (cs 0, 61, .inl (fun _ => 0))), (q20, .inr (10, [.null, .int 0, .int 0, .ref q21, .ref q22])), (q21, .inl (cs 0, 6, .inl (fun _ => 0))), (q22, .inl (cs 0, 240, .inl (fun _ => 0))), (q23, .inr (5, [.int 0, .ref q24, .ref q25, .ref q26, .ref q27, .int 0, .int 0])), (q24, .inl (cs 0, 2000, .inl (fun _ => 0))), (q25, .inl (cs 0, 100, .inl (fun _ => 0))), (q26, .inl (cs 0, 50, .inl (fun _ => 0))), (q27, .inl (cs 0, 100, .inl (fun _ => 0))), (q28, .inr (2, [.int 0, .int 0, .ref q16, .ref q18, .ref q20, .int 0, .ref q29, .ref q30, .ref q31])), (q29, .inl (cs 0, 30, .inl (fun _ => 0))), (q30, .inl (cs 0, 16, .inl (fun _ => 0))), (q31, .inl (cs 0, 16, .inl (fun _ => 0))), (q32, .inr (8, [.int 0, .null, .null, .null, .null, .null, .null, .null, .null]))]) rfl ?_
  refine gy_dup C dX11_init_158 rfl ?_
  refine gy_aload_n C dX11_init_159 rfl ?_
  refine gy_get (q := 0) C dX11_init_160 xfX11_54 rfl rfl ?_
  refine gy_aload_n C dX11_init_163 rfl ?_
  refine gy_get (q := 0) C dX11_init_164 xfX11_61 rfl rfl ?_
  refine gy_aload_n C dX11_init_167 rfl ?_
  refine gy_get (q := 0) C dX11_init_168 xfX11_67 rfl rfl ?_
  refine gy_callI (b := q32) (mc := 5) (ms := 556) (st := [.ref q32, .ref h0]) [.ref q14, .ref q18, .ref q20] (wc := [(q32, .inr (8, [.int 0, .null, .null, .null, .null, .null, .null, .null, .null]))]) (wr := [(h0, .inr (11, [.ref q1, .ref q3, .ref q8, .ref q10, .ref q12, .ref q13, .ref q14, .ref q16, .ref q18, .ref q20, .ref q23, .ref q28, .null, .int 0, .int 0, .int 0, .int 0, .long 0])), (q1, .inr (9, [.ref q2, .int 0, .int 0, .int 0, .int 0])), (q2, .inl (cs 0, 240, .inl (fun _ => 0))), (q3, .inr (7, [.ref q1, .ref q4, .ref q5, .ref q6, .ref q7, .int 0, .int 0, .int 0])), (q4, .inl (cs 0, 4, .inl (fun _ => 0))), (q5, .inl (cs 0, 16, .inl (fun _ => 0))), (q6, .inl (cs 0, 30, .inl (fun _ => 0))), (q7, .inl (cs 0, 5, .inl (fun _ => 0))), (q8, .inr (4, [.ref q1, .ref q9, .int 0])), (q9, .inl (cs 0, 241, .inl (fun _ => 0))), (q10, .inr (1, [.ref q1, .ref q11, .int 0])), (q11, .inl (cs 0, 48, .inl (fun _ => 0))), (q12, .inl (cs 3, 4, .inr (.inr (.inr (.inr (fun _ => none)))))), (q13, .inl (cs 4, 4, .inr (.inr (.inr (.inr (fun _ => none)))))), (q14, .inr (6, [.ref q15])), (q15, .inl (cs 0, 61, .inl (fun _ => 0))), (q16, .inr (6, [.ref q17])), (q17, .inl (cs 0, 61, .inl (fun _ => 0))), (q18, .inr (6, [.ref q19])), (q19, .inl (cs 0, 61, .inl (fun _ => 0))), (q20, .inr (10, [.null, .int 0, .int 0, .ref q21, .ref q22])), (q21, .inl (cs 0, 6, .inl (fun _ => 0))), (q22, .inl (cs 0, 240, .inl (fun _ => 0))), (q23, .inr (5, [.int 0, .ref q24, .ref q25, .ref q26, .ref q27, .int 0, .int 0])), (q24, .inl (cs 0, 2000, .inl (fun _ => 0))), (q25, .inl (cs 0, 100, .inl (fun _ => 0))), (q26, .inl (cs 0, 50, .inl (fun _ => 0))), (q27, .inl (cs 0, 100, .inl (fun _ => 0))), (q28, .inr (2, [.int 0, .int 0, .ref q16, .ref q18, .ref q20, .int 0, .ref q29, .ref q30, .ref q31])), (q29, .inl (cs 0, 30, .inl (fun _ => 0))), (q30, .inl (cs 0, 16, .inl (fun _ => 0))), (q31, .inl (cs 0, 16, .inl (fun _ => 0)))]) [32] [0, 1, 2, 3, 4, 5, 6, 7, 8, 9, 10, 11, 12, 13, 14, 15, 16, 17, 18, 19, 20, 21, 22, 23, 24, 25, 26, 27, 28, 29, 30, 31] C dX11_init_171 mxX11_89 (by decide) (Nat.le_of_ble_eq_true rfl) (Rk.mo (by omega) (by omega)) (kX8_init q32 q14 q18 q20) rfl rfl (by decide) (by decide) (by decide) (fun v w hp => ?_)
  obtain ⟨rfl, q33, q34, q35, q36, q37, rfl⟩ := hp
  refine gy_widen (k2 := 37) (n2 := 3941) (by omega) (by omega) ?_
  refine gy_w (w2 := [(h0, .inr (11, [.ref q1, .ref q3, .ref q8, .ref q10, .ref q12, .ref q13, .ref q14, .ref q16, .ref q18, .ref q20, .ref q23, .ref q28, .null, .int 0, .int 0, .int 0, .int 0, .long 0])), (q1, .inr (9, [.ref q2, .int 0, .int 0, .int 0, .int 0])), (q2, .inl (cs 0, 240, .inl (fun _ => 0))), (q3, .inr (7, [.ref q1, .ref q4, .ref q5, .ref q6, .ref q7, .int 0, .int 0, .int 0])), (q4, .inl (cs 0, 4, .inl (fun _ => 0))), (q5, .inl (cs 0, 16, .inl (fun _ => 0))), (q6, .inl (cs 0, 30, .inl (fun _ => 0))), (q7, .inl (cs 0, 5, .inl (fun _ => 0))), (q8, .inr (4, [.ref q1, .ref q9, .int 0])), (q9, .inl (cs 0, 241, .inl (fun _ => 0))), (q10, .inr (1, [.ref q1, .ref q11, .int 0])), (q11, .inl (cs 0, 48, .inl (fun _ => 0))), (q12, .inl (cs 3, 4, .inr (.inr (.inr (.inr (fun _ => none)))))), (q13, .inl (cs 4, 4, .inr (.inr (.inr (.inr (fun _ => none)))))), (q14, .inr (6, [.ref q15])), (q15, .inl (cs 0, 61, .inl (fun _ => 0))), (q16, .inr (6, [.ref q17])), (q17, .inl (cs 0, 61, .inl (fun _ => 0))), (q18, .inr (6, [.ref q19])), (q19, .inl (cs 0, 61, .inl (fun _ => 0))), (q20, .inr (10, [.null, .int 0, .int 0, .ref q21, .ref q22])), (q21, .inl (cs 0, 6, .inl (fun _ => 0))), (q22, .inl (cs 0, 240, .inl (fun _ => 0))), (q23, .inr (5, [.int 0, .ref q24, .ref q25, .ref q26, .ref q27, .int 0, .int 0])), (q24, .inl (cs 0, 2000, .inl (fun _ => 0))), (q25, .inl (cs 0, 100, .inl (fun _ => 0))), (q26, .inl (cs 0, 50, .inl (fun _ => 0))), (q27, .inl (cs 0, 100, .inl (fun _ => 0))), (q28, .inr (2, [.int 0, .int 0, .ref q16, .ref q18, .ref q20, .int 0, .ref q29, .ref q30, .ref q31])), (q29, .inl (cs 0, 30, .inl (fun _ => 0))), (q30, .inl (cs 0, 16, .inl (fun _ => 0))), (q31, .inl (cs 0, 16, .inl (fun _ => 0))), (q32, .inr (8, [.int 0, .ref q14, .ref q18, .ref q20, .ref q33, .ref q34, .ref q35, .ref q36, .ref q37])), (q33, .inl (cs 0, 10, .inl (fun _ => 0))), (q34, .inl (cs 0, 10, .inl (fun _ => 0))), (q35, .inl (cs 0, 10, .inl (fun _ => 0))), (q36, .inl (cs 0, 496, .inl (fun _ => 0))), (q37, .inl (cs 0, 30, .inl (fun _ => 0)))]) rfl ?_
  refine gy_st (st2 := [.ref q32, .ref h0]) rfl ?_
  refine gy_putF (q := 0) C I dX11_init_174 xfX11_90 rfl rfl rfl rfl rfl (Nat.le_of_ble_eq_true rfl) ?_
  refine gy_w (w2 := [(h0, .inr (11, [.ref q1, .ref q3, .ref q8, .ref q10, .ref q12, .ref q13, .ref q14, .ref q16, .ref q18, .ref q20, .ref q23, .ref q28, .ref q32, .int 0, .int 0, .int 0, .int 0, .long 0])), (q1, .inr (9, [.ref q2, .int 0, .int 0, .int 0, .int 0])), (q2, .inl (cs 0, 240, .inl (fun _ => 0))), (q3, .inr (7, [.ref q1, .ref q4, .ref q5, .ref q6, .ref q7, .int 0, .int 0, .int 0])), (q4, .inl (cs 0, 4, .inl (fun _ => 0))), (q5, .inl (cs 0, 16, .inl (fun _ => 0))), (q6, .inl (cs 0, 30, .inl (fun _ => 0))), (q7, .inl (cs 0, 5, .inl (fun _ => 0))), (q8, .inr (4, [.ref q1, .ref q9, .int 0])), (q9, .inl (cs 0, 241, .inl (fun _ => 0))), (q10, .inr (1, [.ref q1, .ref q11, .int 0])), (q11, .inl (cs 0, 48, .inl (fun _ => 0))), (q12, .inl (cs 3, 4, .inr (.inr (.inr (.inr (fun _ => none)))))), (q13, .inl (cs 4, 4, .inr (.inr (.inr (.inr (fun _ => none)))))), (q14, .inr (6, [.ref q15])), (q15, .inl (cs 0, 61, .inl (fun _ => 0))), (q16, .inr (6, [.ref q17])), (q17, .inl (cs 0, 61, .inl (fun _ => 0))), (q18, .inr (6, [.ref q19])), (q19, .inl (cs 0, 61, .inl (fun _ => 0))), (q20, .inr (10, [.null, .int 0, .int 0, .ref q21, .ref q22])), (q21, .inl (cs 0, 6, .inl (fun _ => 0))), (q22, .inl (cs 0, 240, .inl (fun _ => 0))), (q23, .inr (5, [.int 0, .ref q24, .ref q25, .ref q26, .ref q27, .int 0, .int 0])), (q24, .inl (cs 0, 2000, .inl (fun _ => 0))), (q25, .inl (cs 0, 100, .inl (fun _ => 0))), (q26, .inl (cs 0, 50, .inl (fun _ => 0))), (q27, .inl (cs 0, 100, .inl (fun _ => 0))), (q28, .inr (2, [.int 0, .int 0, .ref q16, .ref q18, .ref q20, .int 0, .ref q29, .ref q30, .ref q31])), (q29, .inl (cs 0, 30, .inl (fun _ => 0))), (q30, .inl (cs 0, 16, .inl (fun _ => 0))), (q31, .inl (cs 0, 16, .inl (fun _ => 0))), (q32, .inr (8, [.int 0, .ref q14, .ref q18, .ref q20, .ref q33, .ref q34, .ref q35, .ref q36, .ref q37])), (q33, .inl (cs 0, 10, .inl (fun _ => 0))), (q34, .inl (cs 0, 10, .inl (fun _ => 0))), (q35, .inl (cs 0, 10, .inl (fun _ => 0))), (q36, .inl (cs 0, 496, .inl (fun _ => 0))), (q37, .inl (cs 0, 30, .inl (fun _ => 0)))]) rfl ?_
  refine gy_aload_n C dX11_init_177 rfl ?_
  refine gy_iconst (v := (-1)) C dX11_init_178 (by decide) ?_
  refine gy_put (q := 0) C dX11_init_179 xfX11_94 rfl rfl rfl rfl (Nat.le_of_ble_eq_true rfl) ?_
  refine gy_w (w2 := [(h0, .inr (11, [.ref q1, .ref q3, .ref q8, .ref q10, .ref q12, .ref q13, .ref q14, .ref q16, .ref q18, .ref q20, .ref q23, .ref q28, .ref q32, .int 0, .int 0, .int (-1), .int 0, .long 0])), (q1, .inr (9, [.ref q2, .int 0, .int 0, .int 0, .int 0])), (q2, .inl (cs 0, 240, .inl (fun _ => 0))), (q3, .inr (7, [.ref q1, .ref q4, .ref q5, .ref q6, .ref q7, .int 0, .int 0, .int 0])), (q4, .inl (cs 0, 4, .inl (fun _ => 0))), (q5, .inl (cs 0, 16, .inl (fun _ => 0))), (q6, .inl (cs 0, 30, .inl (fun _ => 0))), (q7, .inl (cs 0, 5, .inl (fun _ => 0))), (q8, .inr (4, [.ref q1, .ref q9, .int 0])), (q9, .inl (cs 0, 241, .inl (fun _ => 0))), (q10, .inr (1, [.ref q1, .ref q11, .int 0])), (q11, .inl (cs 0, 48, .inl (fun _ => 0))), (q12, .inl (cs 3, 4, .inr (.inr (.inr (.inr (fun _ => none)))))), (q13, .inl (cs 4, 4, .inr (.inr (.inr (.inr (fun _ => none)))))), (q14, .inr (6, [.ref q15])), (q15, .inl (cs 0, 61, .inl (fun _ => 0))), (q16, .inr (6, [.ref q17])), (q17, .inl (cs 0, 61, .inl (fun _ => 0))), (q18, .inr (6, [.ref q19])), (q19, .inl (cs 0, 61, .inl (fun _ => 0))), (q20, .inr (10, [.null, .int 0, .int 0, .ref q21, .ref q22])), (q21, .inl (cs 0, 6, .inl (fun _ => 0))), (q22, .inl (cs 0, 240, .inl (fun _ => 0))), (q23, .inr (5, [.int 0, .ref q24, .ref q25, .ref q26, .ref q27, .int 0, .int 0])), (q24, .inl (cs 0, 2000, .inl (fun _ => 0))), (q25, .inl (cs 0, 100, .inl (fun _ => 0))), (q26, .inl (cs 0, 50, .inl (fun _ => 0))), (q27, .inl (cs 0, 100, .inl (fun _ => 0))), (q28, .inr (2, [.int 0, .int 0, .ref q16, .ref q18, .ref q20, .int 0, .ref q29, .ref q30, .ref q31])), (q29, .inl (cs 0, 30, .inl (fun _ => 0))), (q30, .inl (cs 0, 16, .inl (fun _ => 0))), (q31, .inl (cs 0, 16, .inl (fun _ => 0))), (q32, .inr (8, [.int 0, .ref q14, .ref q18, .ref q20, .ref q33, .ref q34, .ref q35, .ref q36, .ref q37])), (q33, .inl (cs 0, 10, .inl (fun _ => 0))), (q34, .inl (cs 0, 10, .inl (fun _ => 0))), (q35, .inl (cs 0, 10, .inl (fun _ => 0))), (q36, .inl (cs 0, 496, .inl (fun _ => 0))), (q37, .inl (cs 0, 30, .inl (fun _ => 0)))]) rfl ?_
  refine gy_aload_n C dX11_init_182 rfl ?_
  refine gy_iconst (v := 3) C dX11_init_183 (by decide) ?_
  refine gy_put (q := 0) C dX11_init_184 xfX11_98 rfl rfl rfl rfl (Nat.le_of_ble_eq_true rfl) ?_
  refine gy_w (w2 := [(h0, .inr (11, [.ref q1, .ref q3, .ref q8, .ref q10, .ref q12, .ref q13, .ref q14, .ref q16, .ref q18, .ref q20, .ref q23, .ref q28, .ref q32, .int 0, .int 0, .int (-1), .int 3, .long 0])), (q1, .inr (9, [.ref q2, .int 0, .int 0, .int 0, .int 0])), (q2, .inl (cs 0, 240, .inl (fun _ => 0))), (q3, .inr (7, [.ref q1, .ref q4, .ref q5, .ref q6, .ref q7, .int 0, .int 0, .int 0])), (q4, .inl (cs 0, 4, .inl (fun _ => 0))), (q5, .inl (cs 0, 16, .inl (fun _ => 0))), (q6, .inl (cs 0, 30, .inl (fun _ => 0))), (q7, .inl (cs 0, 5, .inl (fun _ => 0))), (q8, .inr (4, [.ref q1, .ref q9, .int 0])), (q9, .inl (cs 0, 241, .inl (fun _ => 0))), (q10, .inr (1, [.ref q1, .ref q11, .int 0])), (q11, .inl (cs 0, 48, .inl (fun _ => 0))), (q12, .inl (cs 3, 4, .inr (.inr (.inr (.inr (fun _ => none)))))), (q13, .inl (cs 4, 4, .inr (.inr (.inr (.inr (fun _ => none)))))), (q14, .inr (6, [.ref q15])), (q15, .inl (cs 0, 61, .inl (fun _ => 0))), (q16, .inr (6, [.ref q17])), (q17, .inl (cs 0, 61, .inl (fun _ => 0))), (q18, .inr (6, [.ref q19])), (q19, .inl (cs 0, 61, .inl (fun _ => 0))), (q20, .inr (10, [.null, .int 0, .int 0, .ref q21, .ref q22])), (q21, .inl (cs 0, 6, .inl (fun _ => 0))), (q22, .inl (cs 0, 240, .inl (fun _ => 0))), (q23, .inr (5, [.int 0, .ref q24, .ref q25, .ref q26, .ref q27, .int 0, .int 0])), (q24, .inl (cs 0, 2000, .inl (fun _ => 0))), (q25, .inl (cs 0, 100, .inl (fun _ => 0))), (q26, .inl (cs 0, 50, .inl (fun _ => 0))), (q27, .inl (cs 0, 100, .inl (fun _ => 0))), (q28, .inr (2, [.int 0, .int 0, .ref q16, .ref q18, .ref q20, .int 0, .ref q29, .ref q30, .ref q31])), (q29, .inl (cs 0, 30, .inl (fun _ => 0))), (q30, .inl (cs 0, 16, .inl (fun _ => 0))), (q31, .inl (cs 0, 16, .inl (fun _ => 0))), (q32, .inr (8, [.int 0, .ref q14, .ref q18, .ref q20, .ref q33, .ref q34, .ref q35, .ref q36, .ref q37])), (q33, .inl (cs 0, 10, .inl (fun _ => 0))), (q34, .inl (cs 0, 10, .inl (fun _ => 0))), (q35, .inl (cs 0, 10, .inl (fun _ => 0))), (q36, .inl (cs 0, 496, .inl (fun _ => 0))), (q37, .inl (cs 0, 30, .inl (fun _ => 0)))]) rfl ?_
  exact gy_ret C E dX11_init_187 rfl ⟨rfl, q1, q2, q3, q4, q5, q6, q7, q8, q9, q10, q11, q12, q13, q14, q15, q16, q17, q18, q19, q20, q21, q22, q23, q24, q25, q26, q27, q28, q29, q30, q31, q32, q33, q34, q35, q36, q37, rfl⟩
