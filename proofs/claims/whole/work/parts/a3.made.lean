/-! Arrays.copyOf, made: over any world -/
abbrev mJ7_copyOf_59c91 : gz_M := (yJ7_copyOf_59c91, cJ7_copyOf_59c91, 3, some (.array .int))
theorem dJ7_copyOf_59c91_0 : decode mJ7_copyOf_59c91.2.1 0 = .ok (.iload_n 1, 1) := by decide +kernel
theorem dJ7_copyOf_59c91_1 : decode mJ7_copyOf_59c91.2.1 1 = .ok (.aload_n 0, 1) := by decide +kernel
theorem dJ7_copyOf_59c91_2 : decode mJ7_copyOf_59c91.2.1 2 = .ok (.arraylength, 1) := by decide +kernel
theorem dJ7_copyOf_59c91_3 : decode mJ7_copyOf_59c91.2.1 3 = .ok (.if_icmp .ne 11, 3) := by decide +kernel
theorem dJ7_copyOf_59c91_6 : decode mJ7_copyOf_59c91.2.1 6 = .ok (.aload_n 0, 1) := by decide +kernel
theorem dJ7_copyOf_59c91_7 : decode mJ7_copyOf_59c91.2.1 7 = .ok (.invokevirtual 316, 3) := by decide +kernel
theorem dJ7_copyOf_59c91_10 : decode mJ7_copyOf_59c91.2.1 10 = .ok (.checkcast 317, 3) := by decide +kernel
theorem dJ7_copyOf_59c91_13 : decode mJ7_copyOf_59c91.2.1 13 = .ok (.areturn, 1) := by decide +kernel
theorem dJ7_copyOf_59c91_14 : decode mJ7_copyOf_59c91.2.1 14 = .ok (.iload_n 1, 1) := by decide +kernel
theorem dJ7_copyOf_59c91_15 : decode mJ7_copyOf_59c91.2.1 15 = .ok (.newarray .int, 2) := by decide +kernel
theorem dJ7_copyOf_59c91_17 : decode mJ7_copyOf_59c91.2.1 17 = .ok (.astore_n 2, 1) := by decide +kernel
theorem dJ7_copyOf_59c91_18 : decode mJ7_copyOf_59c91.2.1 18 = .ok (.aload_n 0, 1) := by decide +kernel
theorem dJ7_copyOf_59c91_19 : decode mJ7_copyOf_59c91.2.1 19 = .ok (.iconst 0, 1) := by decide +kernel
theorem dJ7_copyOf_59c91_20 : decode mJ7_copyOf_59c91.2.1 20 = .ok (.aload_n 2, 1) := by decide +kernel
theorem dJ7_copyOf_59c91_21 : decode mJ7_copyOf_59c91.2.1 21 = .ok (.iconst 0, 1) := by decide +kernel
theorem dJ7_copyOf_59c91_22 : decode mJ7_copyOf_59c91.2.1 22 = .ok (.aload_n 0, 1) := by decide +kernel
theorem dJ7_copyOf_59c91_23 : decode mJ7_copyOf_59c91.2.1 23 = .ok (.arraylength, 1) := by decide +kernel
theorem dJ7_copyOf_59c91_24 : decode mJ7_copyOf_59c91.2.1 24 = .ok (.iload_n 1, 1) := by decide +kernel
theorem dJ7_copyOf_59c91_25 : decode mJ7_copyOf_59c91.2.1 25 = .ok (.invokestatic 304, 3) := by decide +kernel
theorem dJ7_copyOf_59c91_28 : decode mJ7_copyOf_59c91.2.1 28 = .ok (.invokestatic 150, 3) := by decide +kernel
theorem dJ7_copyOf_59c91_31 : decode mJ7_copyOf_59c91.2.1 31 = .ok (.aload_n 2, 1) := by decide +kernel
theorem dJ7_copyOf_59c91_32 : decode mJ7_copyOf_59c91.2.1 32 = .ok (.areturn, 1) := by decide +kernel
abbrev mX4_made : gz_M := (yX4_made, cX4_made, 1, some (.object "PrintsGoOn$Law"))
theorem dX4_made_0 : decode mX4_made.2.1 0 = .ok (.new 21, 3) := by decide +kernel
theorem dX4_made_3 : decode mX4_made.2.1 3 = .ok (.dup, 1) := by decide +kernel
theorem dX4_made_4 : decode mX4_made.2.1 4 = .ok (.aload_n 0, 1) := by decide +kernel
theorem dX4_made_5 : decode mX4_made.2.1 5 = .ok (.getfield 11, 3) := by decide +kernel
theorem dX4_made_8 : decode mX4_made.2.1 8 = .ok (.aload_n 0, 1) := by decide +kernel
theorem dX4_made_9 : decode mX4_made.2.1 9 = .ok (.getfield 23, 3) := by decide +kernel
theorem dX4_made_12 : decode mX4_made.2.1 12 = .ok (.invokestatic 27, 3) := by decide +kernel
theorem dX4_made_15 : decode mX4_made.2.1 15 = .ok (.invokespecial 33, 3) := by decide +kernel
theorem dX4_made_18 : decode mX4_made.2.1 18 = .ok (.areturn, 1) := by decide +kernel
abbrev mX1_made : gz_M := (yX1_made, cX1_made, 1, some (.object "PrintsGoOn$Evening"))
theorem dX1_made_0 : decode mX1_made.2.1 0 = .ok (.new 9, 3) := by decide +kernel
theorem dX1_made_3 : decode mX1_made.2.1 3 = .ok (.dup, 1) := by decide +kernel
theorem dX1_made_4 : decode mX1_made.2.1 4 = .ok (.aload_n 0, 1) := by decide +kernel
theorem dX1_made_5 : decode mX1_made.2.1 5 = .ok (.getfield 11, 3) := by decide +kernel
theorem dX1_made_8 : decode mX1_made.2.1 8 = .ok (.aload_n 0, 1) := by decide +kernel
theorem dX1_made_9 : decode mX1_made.2.1 9 = .ok (.getfield 21, 3) := by decide +kernel
theorem dX1_made_12 : decode mX1_made.2.1 12 = .ok (.iconst 3, 1) := by decide +kernel
theorem dX1_made_13 : decode mX1_made.2.1 13 = .ok (.imul, 1) := by decide +kernel
theorem dX1_made_14 : decode mX1_made.2.1 14 = .ok (.invokestatic 25, 3) := by decide +kernel
theorem dX1_made_17 : decode mX1_made.2.1 17 = .ok (.aload_n 0, 1) := by decide +kernel
theorem dX1_made_18 : decode mX1_made.2.1 18 = .ok (.getfield 21, 3) := by decide +kernel
theorem dX1_made_21 : decode mX1_made.2.1 21 = .ok (.invokespecial 31, 3) := by decide +kernel
theorem dX1_made_24 : decode mX1_made.2.1 24 = .ok (.areturn, 1) := by decide +kernel
abbrev mX0_init : gz_M := (yX0_init, cX0_init, 3, none)
theorem dX0_init_0 : decode mX0_init.2.1 0 = .ok (.aload_n 0, 1) := by decide +kernel
theorem dX0_init_1 : decode mX0_init.2.1 1 = .ok (.invokespecial 1, 3) := by decide +kernel
theorem dX0_init_4 : decode mX0_init.2.1 4 = .ok (.aload_n 0, 1) := by decide +kernel
theorem dX0_init_5 : decode mX0_init.2.1 5 = .ok (.aload_n 1, 1) := by decide +kernel
theorem dX0_init_6 : decode mX0_init.2.1 6 = .ok (.putfield 7, 3) := by decide +kernel
theorem dX0_init_9 : decode mX0_init.2.1 9 = .ok (.aload_n 0, 1) := by decide +kernel
theorem dX0_init_10 : decode mX0_init.2.1 10 = .ok (.iload_n 2, 1) := by decide +kernel
theorem dX0_init_11 : decode mX0_init.2.1 11 = .ok (.putfield 13, 3) := by decide +kernel
theorem dX0_init_14 : decode mX0_init.2.1 14 = .ok (.return_, 1) := by decide +kernel
theorem mkJ7_copyOf_59c91 : gz_mk mJ7_copyOf_59c91 2 := ⟨by decide +kernel, ⟨by decide +kernel, by decide +kernel, by decide +kernel⟩, (gz_mem 639 (by decide +kernel) (by decide +kernel)), by decide, (gz_mem 119 (by decide +kernel) (by decide +kernel))⟩
theorem mkX4_made : gz_mk mX4_made 0 := ⟨by decide +kernel, ⟨by decide +kernel, by decide +kernel, by decide +kernel⟩, (gz_mem 634 (by decide +kernel) (by decide +kernel)), by decide, (gz_mem 111 (by decide +kernel) (by decide +kernel))⟩
theorem mkX1_made : gz_mk mX1_made 0 := ⟨by decide +kernel, ⟨by decide +kernel, by decide +kernel, by decide +kernel⟩, (gz_mem 662 (by decide +kernel) (by decide +kernel)), by decide, (gz_mem 112 (by decide +kernel) (by decide +kernel))⟩
theorem mkX0_init : gz_mk mX0_init 2 := ⟨by decide +kernel, ⟨by decide +kernel, by decide +kernel, by decide +kernel⟩, (gz_mem 668 (by decide +kernel) (by decide +kernel)), by decide, (gz_mem 127 (by decide +kernel) (by decide +kernel))⟩
theorem mkX3_init : gz_mk mX3_init 1 := ⟨by decide +kernel, ⟨by decide +kernel, by decide +kernel, by decide +kernel⟩, (gz_mem 653 (by decide +kernel) (by decide +kernel)), by decide, (gz_mem 120 (by decide +kernel) (by decide +kernel))⟩
theorem xfX0_7 : gz_fl RX0 7 0 1 := ⟨by decide, by decide +kernel, (gz_mem 672 (by decide +kernel) (by decide +kernel))⟩
theorem xfX0_13 : gz_fl RX0 13 0 0 := ⟨by decide, by decide +kernel, (gz_mem 670 (by decide +kernel) (by decide +kernel))⟩
theorem xfX4_23 : gz_fl RX4 23 4 2 := ⟨by decide, by decide +kernel, (gz_mem 211 (by decide +kernel) (by decide +kernel))⟩
theorem xfX1_21 : gz_fl RX1 21 1 2 := ⟨by decide, by decide +kernel, (gz_mem 227 (by decide +kernel) (by decide +kernel))⟩
theorem xw_cln : Cond.methodLink RJ7 316 ⟨"[I", "clone", "()Ljava/lang/Object;"⟩ ∈ gz_U ∧ Cond.sameMethod "[I" "java/lang/Object" "clone" "()Ljava/lang/Object;" ∈ gz_U ∧ Cond.native ⟨"java/lang/Object", "clone", "()Ljava/lang/Object;"⟩ ∈ gz_U ∧ Cond.instanceMethod ⟨"java/lang/Object", "clone", "()Ljava/lang/Object;"⟩ ∈ gz_U ∧ Cond.selects "[I" ⟨"[I", "clone", "()Ljava/lang/Object;"⟩ ⟨"java/lang/Object", "clone", "()Ljava/lang/Object;"⟩ ∈ gz_U := ⟨(gz_mem 640 (by decide +kernel) (by decide +kernel)), (gz_mem 641 (by decide +kernel) (by decide +kernel)), (gz_mem 642 (by decide +kernel) (by decide +kernel)), (gz_mem 643 (by decide +kernel) (by decide +kernel)), (gz_mem 644 (by decide +kernel) (by decide +kernel))⟩
theorem xw_cla : Cond.classLink RJ7 317 "[I" ∈ gz_U := gz_mem 646 (by decide +kernel) (by decide +kernel)
theorem xw_min : Cond.methodLink RJ7 304 Lib.Math.min.name ∈ gz_U ∧ Cond.static Lib.Math.min.name ∈ gz_U ∧ Cond.initialized "java/lang/Math" ∈ gz_U ∧ Cond.code Lib.Math.min.name Lib.Math.min.code 2 (some .int) ∈ gz_U := ⟨(gz_mem 647 (by decide +kernel) (by decide +kernel)), (gz_mem 648 (by decide +kernel) (by decide +kernel)), (gz_mem 125 (by decide +kernel) (by decide +kernel)), (gz_mem 649 (by decide +kernel) (by decide +kernel))⟩
theorem xw_acy : Cond.methodLink RJ7 150 arraycopyName ∈ gz_U ∧ Cond.native arraycopyName ∈ gz_U ∧ Cond.static arraycopyName ∈ gz_U ∧ Cond.initialized "java/lang/System" ∈ gz_U := ⟨(gz_mem 650 (by decide +kernel) (by decide +kernel)), (gz_mem 618 (by decide +kernel) (by decide +kernel)), (gz_mem 617 (by decide +kernel) (by decide +kernel)), (gz_mem 126 (by decide +kernel) (by decide +kernel))⟩
theorem xsX4_27 : gz_ms RX4 27 mJ7_copyOf_59c91 2 := ⟨mkJ7_copyOf_59c91, (gz_mem 637 (by decide +kernel) (by decide +kernel)), (gz_mem 638 (by decide +kernel) (by decide +kernel))⟩
theorem xsX1_25 : gz_ms RX1 25 mJ7_copyOf_59c91 2 := ⟨mkJ7_copyOf_59c91, (gz_mem 665 (by decide +kernel) (by decide +kernel)), (gz_mem 638 (by decide +kernel) (by decide +kernel))⟩
theorem mxX4_33 : gz_mi RX4 33 mX3_init 1 := ⟨mkX3_init, (gz_mem 651 (by decide +kernel) (by decide +kernel)), (gz_mem 652 (by decide +kernel) (by decide +kernel)), rfl, rfl⟩
theorem mxX1_31 : gz_mi RX1 31 mX0_init 2 := ⟨mkX0_init, (gz_mem 666 (by decide +kernel) (by decide +kernel)), (gz_mem 667 (by decide +kernel) (by decide +kernel)), rfl, rfl⟩
theorem xn3 : Cond.classLink RX4 21 (gz_kR 3) ∈ gz_U ∧ Cond.instantiable (gz_kR 3) (gz_nf 3) ∈ gz_U ∧ Cond.initialized (gz_kR 3) ∈ gz_U := ⟨(gz_mem 635 (by decide +kernel) (by decide +kernel)), (gz_mem 636 (by decide +kernel) (by decide +kernel)), (gz_mem 120 (by decide +kernel) (by decide +kernel))⟩
theorem xn0 : Cond.classLink RX1 9 (gz_kR 0) ∈ gz_U ∧ Cond.instantiable (gz_kR 0) (gz_nf 0) ∈ gz_U ∧ Cond.initialized (gz_kR 0) ∈ gz_U := ⟨(gz_mem 663 (by decide +kernel) (by decide +kernel)), (gz_mem 664 (by decide +kernel) (by decide +kernel)), (gz_mem 127 (by decide +kernel) (by decide +kernel))⟩
theorem gx_setl {α : Type} (w : List α) (x y : α) : (w ++ [x]).set w.length y = w ++ [y] := by
  induction w with
  | nil => rfl
  | cons b t ih => exact congrArg (b :: ·) ih
theorem gx_getl {α : Type} (w : List α) (x : α) : (w ++ [x])[w.length]? = some x := by simp
theorem gx_geto {α : Type} {w : List α} {q : Nat} {x : α} (v : List α) (h : w[q]? = some x) : (w ++ v)[q]? = some x := by
  rw [List.getElem?_append_left (List.getElem?_eq_some_iff.mp h).1]; exact h
section GX
variable {X : gx_T} {M : gz_M} {cs : Nat → ClassId} {hh kc nc : Nat} {w : va_W} {pc : Nat} {ls : List (Option Value)} {st : List Value}
/-- a constructor's call that the whole world goes into -/
theorem gy_callIW {ix h2 b mc ms : Nat} {N : gz_M} (As : List Value) {Ps : Option Value → va_W → Prop} (C : gx_C X M cs hh) (hd : decode M.2.1 pc = .ok (.invokespecial ix, 3)) (hm : gz_mi M.1.cls ix N As.length) (hh2 : h2 < hh) (hst : (st.map fun v => v.category).sum ≤ 8) (hR : gx_ok X (kc + mc) (nc + ms))
    (kcn : gx_K (gx_l X) (gx_D X) cs h2 N mc ms (.ref b :: As) w Ps)
    (nx : ∀ v w', Ps v w' → gx X M (kc + mc) (nc + ms) w' (pc + 3) ls (v.toList ++ st)) : gx X M kc nc w pc ls (As.reverse ++ .ref b :: st) := by
  obtain ⟨p, l, e, R, s, m, args, below, meth, c, D, A, Q⟩ := X
  intro H locs lsA hP hD hS hl
  obtain ⟨hx, hb, hml, hr, hlk, hown, hts, hK, hX, hA, hf1, hf2⟩ := C
  obtain ⟨hmk, hm1, hm2, hm3, hm4⟩ := hm
  have hF := gx_A1 (H := H) hD hS hA
  have cb : CallB R s args M.1.cls ix N.1 N.2.1 N.2.2.1 N.2.2.2 (gz_ws N) (gx_rm h2 mc ms) mc ms As.length := callB_of As.length hts (gx_GI hmk) rfl rfl rfl (hts _ hmk.2.2.2.2) (hts _ hm1) hmk.2.1 ⟨by show h2 + 1 ≤ R.frames; omega, by show 8 + (N.2.2.1 + 11) + 64 * h2 ≤ R.locals; have := hmk.2.2.2.1; omega⟩
  rw [hm4] at cb
  have hrun := va_runI (p := p) (l := l) (e := e) (below := below) (meth := meth) (locs := locs) (cells := kc) (slots := nc) (H := H) (As := As) (rest := st) (b := b) (g := F0 m pc lsA (As.reverse ++ .ref b :: st)) ⟨hx, hb, hml, hown, hts⟩ (kcn H.size) ⟨cb, hm3, hts _ hm2⟩
    ⟨gx_blind, fun U hU hW => ⟨rfl, by rw [hU], by rw [hU]; exact hP, va_K.moved hW.alike hK, hD.weaken (fun _ _ _ _ => trivial), gx_X.warm hW hX⟩⟩ rfl rfl hl.1 rfl (lv_room (m := m) (pc := pc) (ls := lsA) (rest := []) hst) hd hR
  refine gx_callg hrun hS hF (fun v w1 H1 locs1 hp hP1 hD1 hk1 hS1 => ?_)
  exact nx v w1 hp H1 locs1 lsA hP1 (hD1.weaken (fun _ q _ z => hF q.1 z)) hS1 hl
end GX
section MD
variable {l : Launch} {D : va_G} {cs : Nat → ClassId} {w : va_W}
set_option maxRecDepth 100000 in
set_option maxHeartbeats 4000000 in
theorem kJ7_copyOf {q b N n : Nat} {f : Nat → Int32} (hw : w[q]? = some (b, .inl (cs 0, N, .inl f))) (hn : n ≤ N) (hN : N ≤ 1000) :
    gx_K l D cs 2 mJ7_copyOf_59c91 1 n [.ref b, .int (nI n)] w (fun v w' => ∃ z : Nat, v = some (.ref z) ∧ w' = w ++ [(z, .inl (cs 0, n, .inl f))]) := by
  refine gx_K.of 1 (by decide +kernel) rfl (fun X C E Rk _ => ?_)
  refine gy_ls (l2 := [some (.ref b), some (.int (nI n)), none]) rfl ?_
  refine gy_iload_n C dJ7_copyOf_59c91_0 rfl ?_
  refine gy_aload_n C dJ7_copyOf_59c91_1 rfl ?_
  refine gy_alen C dJ7_copyOf_59c91_2 hw (v := nI N) rfl ?_
  refine gy_icmp_ne 14 C dJ7_copyOf_59c91_3 (by decide) (fun c => ?_) (fun c => ?_)
  · have hlt : n < N := by
      rcases Nat.lt_or_ge n N with h | h
      · exact h
      · exact absurd (by rw [show n = N by omega]) c
    refine gy_iload_n C dJ7_copyOf_59c91_14 rfl ?_
    refine gy_newaI (N := n) C dJ7_copyOf_59c91_15 xw_aint (show ¬ nI n < nI 0 by rw [n_lt (by omega) (by omega)]; omega) (n_cl (by omega)) (by omega) (Rk.mo (by omega) (by omega)) (fun z => ?_)
    refine gy_astore_n C dJ7_copyOf_59c91_17 (k := 2) rfl (by decide) rfl ?_
    refine gy_ls (l2 := [some (.ref b), some (.int (nI n)), some (.ref z)]) rfl ?_
    refine gy_aload_n C dJ7_copyOf_59c91_18 rfl ?_
    refine gy_iconst (v := 0) C dJ7_copyOf_59c91_19 (by decide) ?_
    refine gy_aload_n C dJ7_copyOf_59c91_20 rfl ?_
    refine gy_iconst (v := 0) C dJ7_copyOf_59c91_21 (by decide) ?_
    refine gy_aload_n C dJ7_copyOf_59c91_22 rfl ?_
    refine gy_alen C dJ7_copyOf_59c91_23 (gx_geto _ hw) (v := nI N) rfl ?_
    refine gy_iload_n C dJ7_copyOf_59c91_24 rfl ?_
    refine gy_mmin C dJ7_copyOf_59c91_25 xw_min (by decide) (Nat.le_of_ble_eq_true rfl) (Rk.mo (by omega) (by omega)) ?_
    refine gy_st (st2 := [.int (nI n), .int 0, .ref z, .int 0, .ref b]) (by rw [if_pos (show nI n < nI N by rw [n_lt (by omega) (by omega)]; exact hlt)]) ?_
    have cl : (nI n).toNatClampNeg = n := n_cl (by omega)
    have c0 : (0 : Int32).toNatClampNeg = 0 := by decide
    refine gy_copyi (q0 := q) (q1 := w.length) C dJ7_copyOf_59c91_28 xw_acy (by decide) rfl (gx_geto _ hw) (gx_getl _ _) (by decide) (by decide) (show ¬ nI n < nI 0 by rw [n_lt (by omega) (by omega)]; omega) (by rw [cl, c0]; omega) (by rw [cl, c0]; omega) ?_
    rw [gx_setl, cl, c0]
    refine gy_row (q := w.length) (f2 := f) (gx_getl _ _) (fun j hj => ?_) ?_
    · unfold va_cpy
      rw [if_pos ⟨Nat.zero_le _, by omega⟩, Nat.zero_add, Nat.sub_zero]
    rw [gx_setl]
    refine gy_aload_n C dJ7_copyOf_59c91_31 rfl ?_
    refine gy_widen (k2 := 1) (n2 := n) (by omega) (by omega) ?_
    exact gy_aret C E dJ7_copyOf_59c91_32 rfl (Or.inr ⟨_, rfl⟩) ⟨z, rfl, rfl⟩
  · have hnN : n = N := n_inj (by omega) (by omega) c
    subst hnN
    refine gy_aload_n C dJ7_copyOf_59c91_6 rfl ?_
    refine gy_clone C dJ7_copyOf_59c91_7 xw_cln (by decide) (Nat.le_of_ble_eq_true rfl) hw (Rk.mo (by omega) (by omega)) (fun z => ?_)
    refine gy_castA C dJ7_copyOf_59c91_10 xw_cla (gx_getl _ _) ?_
    refine gy_widen (k2 := 1) (n2 := n) (by omega) (by omega) ?_
    exact gy_aret C E dJ7_copyOf_59c91_13 rfl (Or.inr ⟨_, rfl⟩) ⟨z, rfl, rfl⟩
set_option maxRecDepth 100000 in
set_option maxHeartbeats 4000000 in
theorem kX3_initW {q b x : Nat} (hw : w[q]? = some (b, .inr (3, [.null]))) : gx_K l D cs 2 mX3_init 0 0 [.ref b, .ref x] w (fun v w' => v = none ∧ w' = w.set q (b, .inr (3, [.ref x]))) := by
  refine gx_K.of 0 (by decide +kernel) rfl (fun X C E Rk I0 => ?_)
  have I := I0 rfl
  refine gy_ls (l2 := [some (.ref b), some (.ref x)]) rfl ?_
  refine gy_aload_n C dX3_init_0 rfl ?_
  refine gy_objInit C dX3_init_1 (gz_mem 654 (by decide +kernel) (by decide +kernel)) xw_oi xw_oc (by decide) (Nat.le_of_ble_eq_true rfl) ?_
  refine gy_aload_n C dX3_init_4 rfl ?_
  refine gy_aload_n C dX3_init_5 rfl ?_
  refine gy_putF (q := q) C I dX3_init_6 xfX3_9 hw rfl rfl rfl rfl (Nat.le_of_ble_eq_true rfl) ?_
  exact gy_ret C E dX3_init_9 rfl ⟨rfl, rfl⟩
set_option maxRecDepth 100000 in
set_option maxHeartbeats 4000000 in
theorem kX0_initW {q b x : Nat} {n : Int32} (hw : w[q]? = some (b, .inr (0, [.int 0, .null]))) : gx_K l D cs 2 mX0_init 0 0 [.ref b, .ref x, .int n] w (fun v w' => v = none ∧ w' = w.set q (b, .inr (0, [.int n, .ref x]))) := by
  refine gx_K.of 0 (by decide +kernel) rfl (fun X C E Rk I0 => ?_)
  have I := I0 rfl
  refine gy_ls (l2 := [some (.ref b), some (.ref x), some (.int n)]) rfl ?_
  refine gy_aload_n C dX0_init_0 rfl ?_
  refine gy_objInit C dX0_init_1 (gz_mem 669 (by decide +kernel) (by decide +kernel)) xw_oi xw_oc (by decide) (Nat.le_of_ble_eq_true rfl) ?_
  refine gy_aload_n C dX0_init_4 rfl ?_
  refine gy_aload_n C dX0_init_5 rfl ?_
  refine gy_putF (q := q) C I dX0_init_6 xfX0_7 hw rfl rfl rfl rfl (Nat.le_of_ble_eq_true rfl) ?_
  refine gy_aload_n C dX0_init_9 rfl ?_
  refine gy_iload_n C dX0_init_10 rfl ?_
  have hlt : q < w.length := (List.getElem?_eq_some_iff.mp hw).1
  refine gy_putF (q := q) (fs := [.int 0, .ref x]) C I dX0_init_11 xfX0_13 (by rw [List.getElem?_set]; simp [hlt]) rfl rfl rfl rfl (Nat.le_of_ble_eq_true rfl) ?_
  refine gy_w (w2 := w.set q (b, .inr (0, [.int n, .ref x]))) (List.set_set _) ?_
  exact gy_ret C E dX0_init_14 rfl ⟨rfl, rfl⟩
set_option maxRecDepth 100000 in
set_option maxHeartbeats 4000000 in
theorem kX4_made {q0 q1 b t cd N n : Nat} {f : Nat → Int32} (h0 : w[q0]? = some (b, .inr (4, [.ref t, .ref cd, .int (nI n)]))) (h1 : w[q1]? = some (cd, .inl (cs 0, N, .inl f))) (hn : n ≤ N) (hN : N ≤ 1000) :
    gx_K l D cs 4 mX4_made 2 (1 + n) [.ref b] w (fun v w' => ∃ z1 z2 : Nat, v = some (.ref z1) ∧ w' = w ++ [(z1, .inr (3, [.ref z2])), (z2, .inl (cs 0, n, .inl f))]) := by
  refine gx_K.of 0 (by decide +kernel) rfl (fun X C E Rk _ => ?_)
  refine gy_ls (l2 := [some (.ref b)]) rfl ?_
  refine gy_new (ci := 3) (N := 1) (fs := [.null]) C dX4_made_0 (by decide) rfl xn3.1 xn3.2.1 xn3.2.2 (by decide) (Rk.mo (by omega) (by omega)) (fun z1 => ?_)
  refine gy_dup C dX4_made_3 rfl ?_
  refine gy_aload_n C dX4_made_4 rfl ?_
  refine gy_get (q := q0) C dX4_made_5 xfX4_11 (gx_geto _ h0) rfl ?_
  refine gy_aload_n C dX4_made_8 rfl ?_
  refine gy_get (q := q0) C dX4_made_9 xfX4_23 (gx_geto _ h0) rfl ?_
  refine gy_callS (mc := 1) (ms := n) (h2 := 2) (st := [.ref z1, .ref z1]) [.ref cd, .int (nI n)] C dX4_made_12 xsX4_27 (by decide) (Nat.le_of_ble_eq_true rfl) (Rk.mo (by omega) (by omega)) (kJ7_copyOf (gx_geto _ h1) hn hN) (fun v w' hp => ?_)
  obtain ⟨z2, rfl, rfl⟩ := hp
  refine gy_st (st2 := [.ref z2, .ref z1, .ref z1]) rfl ?_
  refine gy_w (w2 := w ++ [(z1, .inr (3, [.null])), (z2, .inl (cs 0, n, .inl f))]) (by simp) ?_
  have hz : (w ++ [(z1, (.inr (3, [.null]) : va_E)), (z2, .inl (cs 0, n, .inl f))])[w.length]? = some (z1, .inr (3, [.null])) := by simp
  refine gy_callIW (mc := 0) (ms := 0) (h2 := 2) (b := z1) (st := [.ref z1]) [.ref z2] C dX4_made_15 mxX4_33 (by decide) (Nat.le_of_ble_eq_true rfl) (Rk.mo (by omega) (by omega)) (kX3_initW hz) (fun v w' hp => ?_)
  obtain ⟨rfl, rfl⟩ := hp
  refine gy_st (st2 := [.ref z1]) rfl ?_
  refine gy_w (w2 := w ++ [(z1, .inr (3, [.ref z2])), (z2, .inl (cs 0, n, .inl f))]) (by simp) ?_
  refine gy_widen (k2 := 2) (n2 := 1 + n) (by omega) (by omega) ?_
  exact gy_aret C E dX4_made_18 rfl (Or.inl ⟨_, rfl⟩) ⟨z1, z2, rfl, rfl⟩
set_option maxRecDepth 100000 in
set_option maxHeartbeats 4000000 in
theorem kX1_made {q0 q1 b t cd N n : Nat} {f : Nat → Int32} (h0 : w[q0]? = some (b, .inr (1, [.ref t, .ref cd, .int (nI n)]))) (h1 : w[q1]? = some (cd, .inl (cs 0, N, .inl f))) (hn : 3 * n ≤ N) (hN : N ≤ 1000) :
    gx_K l D cs 4 mX1_made 2 (2 + 3 * n) [.ref b] w (fun v w' => ∃ z1 z2 : Nat, v = some (.ref z1) ∧ w' = w ++ [(z1, .inr (0, [.int (nI n), .ref z2])), (z2, .inl (cs 0, 3 * n, .inl f))]) := by
  refine gx_K.of 0 (by decide +kernel) rfl (fun X C E Rk _ => ?_)
  refine gy_ls (l2 := [some (.ref b)]) rfl ?_
  refine gy_new (ci := 0) (N := 2) (fs := [.int 0, .null]) C dX1_made_0 (by decide) rfl xn0.1 xn0.2.1 xn0.2.2 (by decide) (Rk.mo (by omega) (by omega)) (fun z1 => ?_)
  refine gy_dup C dX1_made_3 rfl ?_
  refine gy_aload_n C dX1_made_4 rfl ?_
  refine gy_get (q := q0) C dX1_made_5 xfX1_11 (gx_geto _ h0) rfl ?_
  refine gy_aload_n C dX1_made_8 rfl ?_
  refine gy_get (q := q0) C dX1_made_9 xfX1_21 (gx_geto _ h0) rfl ?_
  refine gy_iconst (v := 3) C dX1_made_12 (by decide) ?_
  refine gy_imul C dX1_made_13 ?_
  refine gy_st (st2 := [.int (nI (3 * n)), .ref cd, .ref z1, .ref z1]) (by rw [show nI n * (3 : Int32) = nI (n * 3) from n_mul n 3, Nat.mul_comm]) ?_
  refine gy_callS (mc := 1) (ms := 3 * n) (h2 := 2) (st := [.ref z1, .ref z1]) [.ref cd, .int (nI (3 * n))] C dX1_made_14 xsX1_25 (by decide) (Nat.le_of_ble_eq_true rfl) (Rk.mo (by omega) (by omega)) (kJ7_copyOf (gx_geto _ h1) hn hN) (fun v w' hp => ?_)
  obtain ⟨z2, rfl, rfl⟩ := hp
  refine gy_st (st2 := [.ref z2, .ref z1, .ref z1]) rfl ?_
  refine gy_w (w2 := w ++ [(z1, .inr (0, [.int 0, .null])), (z2, .inl (cs 0, 3 * n, .inl f))]) (by simp) ?_
  have hz : (w ++ [(z1, (.inr (0, [.int 0, .null]) : va_E)), (z2, .inl (cs 0, 3 * n, .inl f))])[w.length]? = some (z1, .inr (0, [.int 0, .null])) := by simp
  refine gy_aload_n C dX1_made_17 rfl ?_
  refine gy_get (q := q0) C dX1_made_18 xfX1_21 (gx_geto _ h0) rfl ?_
  refine gy_callIW (mc := 0) (ms := 0) (h2 := 2) (b := z1) (st := [.ref z1]) [.ref z2, .int (nI n)] C dX1_made_21 mxX1_31 (by decide) (Nat.le_of_ble_eq_true rfl) (Rk.mo (by omega) (by omega)) (kX0_initW hz) (fun v w' hp => ?_)
  obtain ⟨rfl, rfl⟩ := hp
  refine gy_st (st2 := [.ref z1]) rfl ?_
  refine gy_w (w2 := w ++ [(z1, .inr (0, [.int (nI n), .ref z2])), (z2, .inl (cs 0, 3 * n, .inl f))]) (by simp) ?_
  refine gy_widen (k2 := 2) (n2 := 2 + 3 * n) (by omega) (by omega) ?_
  exact gy_aret C E dX1_made_24 rfl (Or.inl ⟨_, rfl⟩) ⟨z1, z2, rfl, rfl⟩
end MD

