/-! rows: one an instruction -/
section SZ
variable {La : gz_L} {h : Nat} {M : gz_M} {pc : Nat} {ls : List (Option Value)} {st : List Value} {g : gz_S} {Ph : Option Value → gz_S → Prop}
theorem sz_weak {l2 : List (Option Value)} (hs : gz_sub l2 ls) (n : gz_J La h M pc l2 st g Ph) : gz_J La h M pc ls st g Ph := by
  intro p l e s m args below meth c D cs a A H locs lsA C hP hD hS hl
  exact (n p l e s m args below meth c D cs a A H locs lsA C hP hD hS (hl.sub hs))
theorem sz_iconst {n0 : Int} {v : Int32} (hd : decode M.2.1 pc = .ok (.iconst n0, 1)) (hv : Int32.ofInt n0 = v) (n : gz_J La h M (pc + 1) ls (.int v :: st) g Ph) : gz_J La h M pc ls st g Ph := by
  intro p l e s m args below meth c D cs a A H locs lsA C hP hD hS hl
  exact lv_iconst C.1 C.2.1 hd hv (n p l e s m args below meth c D cs a A H locs lsA C hP hD hS hl)
theorem sz_bipush {n0 : Int} {v : Int32} (hd : decode M.2.1 pc = .ok (.bipush n0, 2)) (hv : (Int8.ofInt n0).toInt32 = v) (n : gz_J La h M (pc + 2) ls (.int v :: st) g Ph) : gz_J La h M pc ls st g Ph := by
  intro p l e s m args below meth c D cs a A H locs lsA C hP hD hS hl
  exact lv_bipush C.1 C.2.1 hd hv (n p l e s m args below meth c D cs a A H locs lsA C hP hD hS hl)
theorem sz_sipush {n0 : Int} {v : Int32} (hd : decode M.2.1 pc = .ok (.sipush n0, 3)) (hv : (Int16.ofInt n0).toInt32 = v) (n : gz_J La h M (pc + 3) ls (.int v :: st) g Ph) : gz_J La h M pc ls st g Ph := by
  intro p l e s m args below meth c D cs a A H locs lsA C hP hD hS hl
  exact lv_sipush C.1 C.2.1 hd hv (n p l e s m args below meth c D cs a A H locs lsA C hP hD hS hl)
theorem sz_lconst {n0 : Fin 2} {v : Int64} (hd : decode M.2.1 pc = .ok (.lconst n0, 1)) (hv : Int64.ofNat (n0 : Nat) = v) (n : gz_J La h M (pc + 1) ls (.long v :: st) g Ph) : gz_J La h M pc ls st g Ph := by
  intro p l e s m args below meth c D cs a A H locs lsA C hP hD hS hl
  exact lv_lconst C.1 C.2.1 hd hv (n p l e s m args below meth c D cs a A H locs lsA C hP hD hS hl)
theorem sz_null (hd : decode M.2.1 pc = .ok (.aconst_null, 1)) (n : gz_J La h M (pc + 1) ls (.null :: st) g Ph) : gz_J La h M pc ls st g Ph := by
  intro p l e s m args below meth c D cs a A H locs lsA C hP hD hS hl
  exact lv_null C.1 C.2.1 hd (n p l e s m args below meth c D cs a A H locs lsA C hP hD hS hl)
theorem sz_ldc {ix : Nat} {v : Int32} (hd : decode M.2.1 pc = .ok (.ldc ix, 2)) (hw : Cond.constant M.1.cls ix v ∈ gz_U) (n : gz_J La h M (pc + 2) ls (.int v :: st) g Ph) : gz_J La h M pc ls st g Ph := by
  intro p l e s m args below meth c D cs a A H locs lsA C hP hD hS hl
  exact lv_ldc C.1 C.2.1 C.2.2.2.2.2.1 (C.2.2.2.2.2.2.1 _ (List.mem_cons_of_mem _ hw)) hd (n p l e s m args below meth c D cs a A H locs lsA C hP hD hS hl)
theorem sz_ldcw {ix : Nat} {v : Int32} (hd : decode M.2.1 pc = .ok (.ldc_w ix, 3)) (hw : Cond.constant M.1.cls ix v ∈ gz_U) (n : gz_J La h M (pc + 3) ls (.int v :: st) g Ph) : gz_J La h M pc ls st g Ph := by
  intro p l e s m args below meth c D cs a A H locs lsA C hP hD hS hl
  exact lv_ldcw C.1 C.2.1 C.2.2.2.2.2.1 (C.2.2.2.2.2.2.1 _ (List.mem_cons_of_mem _ hw)) hd (n p l e s m args below meth c D cs a A H locs lsA C hP hD hS hl)
theorem sz_ldc2 {ix : Nat} {v : Int64} (hd : decode M.2.1 pc = .ok (.ldc2_w ix, 3)) (hw : Cond.constantLong M.1.cls ix v ∈ gz_U) (n : gz_J La h M (pc + 3) ls (.long v :: st) g Ph) : gz_J La h M pc ls st g Ph := by
  intro p l e s m args below meth c D cs a A H locs lsA C hP hD hS hl
  exact lv_ldc2 C.1 C.2.1 C.2.2.2.2.2.1 (C.2.2.2.2.2.2.1 _ (List.mem_cons_of_mem _ hw)) hd (n p l e s m args below meth c D cs a A H locs lsA C hP hD hS hl)
theorem sz_iload_n {k : Fin 4} {x : Int32} (hd : decode M.2.1 pc = .ok (.iload_n k, 1)) (hv : ls[(k : Nat)]? = some (some (.int x))) (n : gz_J La h M (pc + 1) ls (.int x :: st) g Ph) : gz_J La h M pc ls st g Ph := by
  intro p l e s m args below meth c D cs a A H locs lsA C hP hD hS hl
  exact lv_iload_n C.1 C.2.1 hd rfl (hl.at hv) (n p l e s m args below meth c D cs a A H locs lsA C hP hD hS hl)
theorem sz_iload {k : Nat} {x : Int32} (hd : decode M.2.1 pc = .ok (.iload k, 2)) (hv : ls[k]? = some (some (.int x))) (n : gz_J La h M (pc + 2) ls (.int x :: st) g Ph) : gz_J La h M pc ls st g Ph := by
  intro p l e s m args below meth c D cs a A H locs lsA C hP hD hS hl
  exact lv_iload C.1 C.2.1 hd (hl.at hv) (n p l e s m args below meth c D cs a A H locs lsA C hP hD hS hl)
theorem sz_istore_n {k : Nat} {kf : Fin 4} {x : Int32} (hd : decode M.2.1 pc = .ok (.istore_n kf, 1)) (hk : (kf : Nat) = k) (hn : k < M.2.2.1) (hc : gz_c1 ls k = true) (n : gz_J La h M (pc + 1) (ls.set k (some (.int x))) st g Ph) : gz_J La h M pc ls (.int x :: st) g Ph := by
  intro p l e s m args below meth c D cs a A H locs lsA C hP hD hS hl
  exact lv_istore_n C.1 C.2.1 hd hk hl hn rfl (fun lsA hl => (n p l e s m args below meth c D cs a A H locs lsA C hP hD hS (gz_has.set1 (v := .int x) hc hl)))
theorem sz_istore {k : Nat} {x : Int32} (hd : decode M.2.1 pc = .ok (.istore k, 2)) (hn : k < M.2.2.1) (hc : gz_c1 ls k = true) (n : gz_J La h M (pc + 2) (ls.set k (some (.int x))) st g Ph) : gz_J La h M pc ls (.int x :: st) g Ph := by
  intro p l e s m args below meth c D cs a A H locs lsA C hP hD hS hl
  exact lv_istore C.1 C.2.1 hd hl hn rfl (fun lsA hl => (n p l e s m args below meth c D cs a A H locs lsA C hP hD hS (gz_has.set1 (v := .int x) hc hl)))
theorem sz_lload_n {k : Fin 4} {x : Int64} (hd : decode M.2.1 pc = .ok (.lload_n k, 1)) (hv : ls[(k : Nat)]? = some (some (.long x))) (n : gz_J La h M (pc + 1) ls (.long x :: st) g Ph) : gz_J La h M pc ls st g Ph := by
  intro p l e s m args below meth c D cs a A H locs lsA C hP hD hS hl
  exact lv_lload_n C.1 C.2.1 hd rfl (hl.at hv) (n p l e s m args below meth c D cs a A H locs lsA C hP hD hS hl)
theorem sz_lload {k : Nat} {x : Int64} (hd : decode M.2.1 pc = .ok (.lload k, 2)) (hv : ls[k]? = some (some (.long x))) (n : gz_J La h M (pc + 2) ls (.long x :: st) g Ph) : gz_J La h M pc ls st g Ph := by
  intro p l e s m args below meth c D cs a A H locs lsA C hP hD hS hl
  exact lv_lload C.1 C.2.1 hd (hl.at hv) (n p l e s m args below meth c D cs a A H locs lsA C hP hD hS hl)
theorem sz_lstore_n {k : Nat} {kf : Fin 4} {x : Int64} (hd : decode M.2.1 pc = .ok (.lstore_n kf, 1)) (hk : (kf : Nat) = k) (hn : k + 1 < M.2.2.1) (hc : gz_c1 ls k = true) (n : gz_J La h M (pc + 1) ((ls.set (k + 1) none).set k (some (.long x))) st g Ph) : gz_J La h M pc ls (.long x :: st) g Ph := by
  intro p l e s m args below meth c D cs a A H locs lsA C hP hD hS hl
  exact lv_lstore_n C.1 C.2.1 hd hk hl hn rfl (fun lsA hl => (n p l e s m args below meth c D cs a A H locs lsA C hP hD hS (gz_has.set2 (v := .long x) hc hl)))
theorem sz_lstore {k : Nat} {x : Int64} (hd : decode M.2.1 pc = .ok (.lstore k, 2)) (hn : k + 1 < M.2.2.1) (hc : gz_c1 ls k = true) (n : gz_J La h M (pc + 2) ((ls.set (k + 1) none).set k (some (.long x))) st g Ph) : gz_J La h M pc ls (.long x :: st) g Ph := by
  intro p l e s m args below meth c D cs a A H locs lsA C hP hD hS hl
  exact lv_lstore C.1 C.2.1 hd hl hn rfl (fun lsA hl => (n p l e s m args below meth c D cs a A H locs lsA C hP hD hS (gz_has.set2 (v := .long x) hc hl)))
theorem sz_aload_n {k : Fin 4} {x : Nat} (hd : decode M.2.1 pc = .ok (.aload_n k, 1)) (hv : ls[(k : Nat)]? = some (some (.ref x))) (n : gz_J La h M (pc + 1) ls (.ref x :: st) g Ph) : gz_J La h M pc ls st g Ph := by
  intro p l e s m args below meth c D cs a A H locs lsA C hP hD hS hl
  exact lv_aload_n C.1 C.2.1 hd rfl (hl.at hv) (n p l e s m args below meth c D cs a A H locs lsA C hP hD hS hl)
theorem sz_aload {k : Nat} {x : Nat} (hd : decode M.2.1 pc = .ok (.aload k, 2)) (hv : ls[k]? = some (some (.ref x))) (n : gz_J La h M (pc + 2) ls (.ref x :: st) g Ph) : gz_J La h M pc ls st g Ph := by
  intro p l e s m args below meth c D cs a A H locs lsA C hP hD hS hl
  exact lv_aload C.1 C.2.1 hd (hl.at hv) (n p l e s m args below meth c D cs a A H locs lsA C hP hD hS hl)
theorem sz_astore_n {k : Nat} {kf : Fin 4} {x : Nat} (hd : decode M.2.1 pc = .ok (.astore_n kf, 1)) (hk : (kf : Nat) = k) (hn : k < M.2.2.1) (hc : gz_c1 ls k = true) (n : gz_J La h M (pc + 1) (ls.set k (some (.ref x))) st g Ph) : gz_J La h M pc ls (.ref x :: st) g Ph := by
  intro p l e s m args below meth c D cs a A H locs lsA C hP hD hS hl
  exact lv_astore_n C.1 C.2.1 hd hk hl hn rfl (fun lsA hl => (n p l e s m args below meth c D cs a A H locs lsA C hP hD hS (gz_has.set1 (v := .ref x) hc hl)))
theorem sz_astore {k : Nat} {x : Nat} (hd : decode M.2.1 pc = .ok (.astore k, 2)) (hn : k < M.2.2.1) (hc : gz_c1 ls k = true) (n : gz_J La h M (pc + 2) (ls.set k (some (.ref x))) st g Ph) : gz_J La h M pc ls (.ref x :: st) g Ph := by
  intro p l e s m args below meth c D cs a A H locs lsA C hP hD hS hl
  exact lv_astore C.1 C.2.1 hd hl hn rfl (fun lsA hl => (n p l e s m args below meth c D cs a A H locs lsA C hP hD hS (gz_has.set1 (v := .ref x) hc hl)))
theorem sz_aload_nN {k : Fin 4} (hd : decode M.2.1 pc = .ok (.aload_n k, 1)) (hv : ls[(k : Nat)]? = some (some .null)) (n : gz_J La h M (pc + 1) ls (.null :: st) g Ph) : gz_J La h M pc ls st g Ph := by
  intro p l e s m args below meth c D cs a A H locs lsA C hP hD hS hl
  exact lv_aload_nN C.1 C.2.1 hd rfl (hl.at hv) (n p l e s m args below meth c D cs a A H locs lsA C hP hD hS hl)
theorem sz_aloadN {k : Nat} (hd : decode M.2.1 pc = .ok (.aload k, 2)) (hv : ls[k]? = some (some .null)) (n : gz_J La h M (pc + 2) ls (.null :: st) g Ph) : gz_J La h M pc ls st g Ph := by
  intro p l e s m args below meth c D cs a A H locs lsA C hP hD hS hl
  exact lv_aloadN C.1 C.2.1 hd (hl.at hv) (n p l e s m args below meth c D cs a A H locs lsA C hP hD hS hl)
theorem sz_astore_nN {k : Nat} {kf : Fin 4} (hd : decode M.2.1 pc = .ok (.astore_n kf, 1)) (hk : (kf : Nat) = k) (hn : k < M.2.2.1) (hc : gz_c1 ls k = true) (n : gz_J La h M (pc + 1) (ls.set k (some .null)) st g Ph) : gz_J La h M pc ls (.null :: st) g Ph := by
  intro p l e s m args below meth c D cs a A H locs lsA C hP hD hS hl
  exact lv_astore_nN C.1 C.2.1 hd hk hl hn rfl (fun lsA hl => (n p l e s m args below meth c D cs a A H locs lsA C hP hD hS (gz_has.set1 (v := .null) hc hl)))
theorem sz_astoreN {k : Nat} (hd : decode M.2.1 pc = .ok (.astore k, 2)) (hn : k < M.2.2.1) (hc : gz_c1 ls k = true) (n : gz_J La h M (pc + 2) (ls.set k (some .null)) st g Ph) : gz_J La h M pc ls (.null :: st) g Ph := by
  intro p l e s m args below meth c D cs a A H locs lsA C hP hD hS hl
  exact lv_astoreN C.1 C.2.1 hd hl hn rfl (fun lsA hl => (n p l e s m args below meth c D cs a A H locs lsA C hP hD hS (gz_has.set1 (v := .null) hc hl)))
theorem gz_kn_get {a : Nat → Nat} {ls : List (Option Value)} {k : Nat} {v : Value} (hv : ls[k]? = some (some v)) : ∃ q : Nat, (gz_kn a 0 ls)[q]? = some (k, gz_cv a v) := List.getElem?_of_mem (gz_kn_mem.mpr ⟨k, v, by omega, hv, rfl⟩)
theorem sz_iinc {k : Nat} {n0 : Int} {x v : Int32} (hd : decode M.2.1 pc = .ok (.iinc k n0, 3)) (hv : ls[k]? = some (some (.int x))) (he : x + Int32.ofInt n0 = v) (hn : k < M.2.2.1) (hc : gz_c1 ls k = true) (n : gz_J La h M (pc + 3) (ls.set k (some (.int v))) st g Ph) : gz_J La h M pc ls st g Ph := by
  intro p l e s m args below meth c D cs a A H locs lsA C hP hD hS hl
  obtain ⟨q, hq⟩ := gz_kn_get (a := a) hv
  exact lv_iinc C.1 C.2.1 hd hl hq he hn rfl (fun lsA hl => (n p l e s m args below meth c D cs a A H locs lsA C hP hD hS (gz_has.set1 (v := .int v) hc hl)))
theorem sz_iadd {x y : Int32} (hd : decode M.2.1 pc = .ok (.iadd, 1)) (n : gz_J La h M (pc + 1) ls (.int (x + y) :: st) g Ph) : gz_J La h M pc ls (.int y :: .int x :: st) g Ph := by
  intro p l e s m args below meth c D cs a A H locs lsA C hP hD hS hl
  exact lv_iadd C.1 C.2.1 hd (n p l e s m args below meth c D cs a A H locs lsA C hP hD hS hl)
theorem sz_isub {x y : Int32} (hd : decode M.2.1 pc = .ok (.isub, 1)) (n : gz_J La h M (pc + 1) ls (.int (x - y) :: st) g Ph) : gz_J La h M pc ls (.int y :: .int x :: st) g Ph := by
  intro p l e s m args below meth c D cs a A H locs lsA C hP hD hS hl
  exact lv_isub C.1 C.2.1 hd (n p l e s m args below meth c D cs a A H locs lsA C hP hD hS hl)
theorem sz_imul {x y : Int32} (hd : decode M.2.1 pc = .ok (.imul, 1)) (n : gz_J La h M (pc + 1) ls (.int (x * y) :: st) g Ph) : gz_J La h M pc ls (.int y :: .int x :: st) g Ph := by
  intro p l e s m args below meth c D cs a A H locs lsA C hP hD hS hl
  exact lv_imul C.1 C.2.1 hd (n p l e s m args below meth c D cs a A H locs lsA C hP hD hS hl)
theorem sz_iand {x y : Int32} (hd : decode M.2.1 pc = .ok (.iand, 1)) (n : gz_J La h M (pc + 1) ls (.int (x &&& y) :: st) g Ph) : gz_J La h M pc ls (.int y :: .int x :: st) g Ph := by
  intro p l e s m args below meth c D cs a A H locs lsA C hP hD hS hl
  exact lv_iand C.1 C.2.1 hd (n p l e s m args below meth c D cs a A H locs lsA C hP hD hS hl)
theorem sz_ior {x y : Int32} (hd : decode M.2.1 pc = .ok (.ior, 1)) (n : gz_J La h M (pc + 1) ls (.int (x ||| y) :: st) g Ph) : gz_J La h M pc ls (.int y :: .int x :: st) g Ph := by
  intro p l e s m args below meth c D cs a A H locs lsA C hP hD hS hl
  exact lv_ior C.1 C.2.1 hd (n p l e s m args below meth c D cs a A H locs lsA C hP hD hS hl)
theorem sz_ixor {x y : Int32} (hd : decode M.2.1 pc = .ok (.ixor, 1)) (n : gz_J La h M (pc + 1) ls (.int (x ^^^ y) :: st) g Ph) : gz_J La h M pc ls (.int y :: .int x :: st) g Ph := by
  intro p l e s m args below meth c D cs a A H locs lsA C hP hD hS hl
  exact lv_ixor C.1 C.2.1 hd (n p l e s m args below meth c D cs a A H locs lsA C hP hD hS hl)
theorem sz_ishl {x y : Int32} (hd : decode M.2.1 pc = .ok (.ishl, 1)) (n : gz_J La h M (pc + 1) ls (.int (x <<< (y &&& 31)) :: st) g Ph) : gz_J La h M pc ls (.int y :: .int x :: st) g Ph := by
  intro p l e s m args below meth c D cs a A H locs lsA C hP hD hS hl
  exact lv_ishl C.1 C.2.1 hd (n p l e s m args below meth c D cs a A H locs lsA C hP hD hS hl)
theorem sz_ishr {x y : Int32} (hd : decode M.2.1 pc = .ok (.ishr, 1)) (n : gz_J La h M (pc + 1) ls (.int (x >>> (y &&& 31)) :: st) g Ph) : gz_J La h M pc ls (.int y :: .int x :: st) g Ph := by
  intro p l e s m args below meth c D cs a A H locs lsA C hP hD hS hl
  exact lv_ishr C.1 C.2.1 hd (n p l e s m args below meth c D cs a A H locs lsA C hP hD hS hl)
theorem sz_idiv {x y : Int32} (hd : decode M.2.1 pc = .ok (.idiv, 1)) (hne : ¬ y = 0) (n : gz_J La h M (pc + 1) ls (.int (x / y) :: st) g Ph) : gz_J La h M pc ls (.int y :: .int x :: st) g Ph := by
  intro p l e s m args below meth c D cs a A H locs lsA C hP hD hS hl
  exact lv_idiv C.1 C.2.1 hd hne (n p l e s m args below meth c D cs a A H locs lsA C hP hD hS hl)
theorem sz_irem {x y : Int32} (hd : decode M.2.1 pc = .ok (.irem, 1)) (hne : ¬ y = 0) (n : gz_J La h M (pc + 1) ls (.int (x - x / y * y) :: st) g Ph) : gz_J La h M pc ls (.int y :: .int x :: st) g Ph := by
  intro p l e s m args below meth c D cs a A H locs lsA C hP hD hS hl
  exact lv_irem C.1 C.2.1 hd hne (n p l e s m args below meth c D cs a A H locs lsA C hP hD hS hl)
theorem sz_ladd {x y : Int64} (hd : decode M.2.1 pc = .ok (.ladd, 1)) (n : gz_J La h M (pc + 1) ls (.long (x + y) :: st) g Ph) : gz_J La h M pc ls (.long y :: .long x :: st) g Ph := by
  intro p l e s m args below meth c D cs a A H locs lsA C hP hD hS hl
  exact lv_ladd C.1 C.2.1 hd (n p l e s m args below meth c D cs a A H locs lsA C hP hD hS hl)
theorem sz_lsub {x y : Int64} (hd : decode M.2.1 pc = .ok (.lsub, 1)) (n : gz_J La h M (pc + 1) ls (.long (x - y) :: st) g Ph) : gz_J La h M pc ls (.long y :: .long x :: st) g Ph := by
  intro p l e s m args below meth c D cs a A H locs lsA C hP hD hS hl
  exact lv_lsub C.1 C.2.1 hd (n p l e s m args below meth c D cs a A H locs lsA C hP hD hS hl)
theorem sz_lmul {x y : Int64} (hd : decode M.2.1 pc = .ok (.lmul, 1)) (n : gz_J La h M (pc + 1) ls (.long (x * y) :: st) g Ph) : gz_J La h M pc ls (.long y :: .long x :: st) g Ph := by
  intro p l e s m args below meth c D cs a A H locs lsA C hP hD hS hl
  exact lv_lmul C.1 C.2.1 hd (n p l e s m args below meth c D cs a A H locs lsA C hP hD hS hl)
theorem sz_land {x y : Int64} (hd : decode M.2.1 pc = .ok (.land, 1)) (n : gz_J La h M (pc + 1) ls (.long (x &&& y) :: st) g Ph) : gz_J La h M pc ls (.long y :: .long x :: st) g Ph := by
  intro p l e s m args below meth c D cs a A H locs lsA C hP hD hS hl
  exact lv_land C.1 C.2.1 hd (n p l e s m args below meth c D cs a A H locs lsA C hP hD hS hl)
theorem sz_lor {x y : Int64} (hd : decode M.2.1 pc = .ok (.lor, 1)) (n : gz_J La h M (pc + 1) ls (.long (x ||| y) :: st) g Ph) : gz_J La h M pc ls (.long y :: .long x :: st) g Ph := by
  intro p l e s m args below meth c D cs a A H locs lsA C hP hD hS hl
  exact lv_lor C.1 C.2.1 hd (n p l e s m args below meth c D cs a A H locs lsA C hP hD hS hl)
theorem sz_ldiv {x y : Int64} (hd : decode M.2.1 pc = .ok (.ldiv, 1)) (hne : ¬ y = 0) (n : gz_J La h M (pc + 1) ls (.long (x / y) :: st) g Ph) : gz_J La h M pc ls (.long y :: .long x :: st) g Ph := by
  intro p l e s m args below meth c D cs a A H locs lsA C hP hD hS hl
  exact lv_ldiv C.1 C.2.1 hd hne (n p l e s m args below meth c D cs a A H locs lsA C hP hD hS hl)
theorem sz_lrem {x y : Int64} (hd : decode M.2.1 pc = .ok (.lrem, 1)) (hne : ¬ y = 0) (n : gz_J La h M (pc + 1) ls (.long (x - x / y * y) :: st) g Ph) : gz_J La h M pc ls (.long y :: .long x :: st) g Ph := by
  intro p l e s m args below meth c D cs a A H locs lsA C hP hD hS hl
  exact lv_lrem C.1 C.2.1 hd hne (n p l e s m args below meth c D cs a A H locs lsA C hP hD hS hl)
def gz_ushr (x y : Int32) : Int32 := (x.toUInt32 >>> (y.toUInt32 &&& Int32.toUInt32 31)).toInt32
def gz_lushr (x : Int64) (y : Int32) : Int64 := (x.toUInt64 >>> (y.toInt64.toUInt64 &&& Int64.toUInt64 63)).toInt64
def gz_lshl (x : Int64) (y : Int32) : Int64 := x <<< (y.toInt64 &&& 63)
theorem sz_iushr {x y : Int32} (hd : decode M.2.1 pc = .ok (.iushr, 1)) (n : gz_J La h M (pc + 1) ls (.int (gz_ushr x y) :: st) g Ph) : gz_J La h M pc ls (.int y :: .int x :: st) g Ph := by
  intro p l e s m args below meth c D cs a A H locs lsA C hP hD hS hl
  exact lv_iushr C.1 C.2.1 hd rfl (n p l e s m args below meth c D cs a A H locs lsA C hP hD hS hl)
theorem sz_lushr {x : Int64} {y : Int32} (hd : decode M.2.1 pc = .ok (.lushr, 1)) (n : gz_J La h M (pc + 1) ls (.long (gz_lushr x y) :: st) g Ph) : gz_J La h M pc ls (.int y :: .long x :: st) g Ph := by
  intro p l e s m args below meth c D cs a A H locs lsA C hP hD hS hl
  exact lv_lushr C.1 C.2.1 hd rfl (n p l e s m args below meth c D cs a A H locs lsA C hP hD hS hl)
theorem sz_lshl {x : Int64} {y : Int32} (hd : decode M.2.1 pc = .ok (.lshl, 1)) (n : gz_J La h M (pc + 1) ls (.long (gz_lshl x y) :: st) g Ph) : gz_J La h M pc ls (.int y :: .long x :: st) g Ph := by
  intro p l e s m args below meth c D cs a A H locs lsA C hP hD hS hl
  exact lv_lshl C.1 C.2.1 hd rfl (n p l e s m args below meth c D cs a A H locs lsA C hP hD hS hl)
theorem sz_lcmp {x y : Int64} (hd : decode M.2.1 pc = .ok (.lcmp, 1)) (n : gz_J La h M (pc + 1) ls (.int (lg_cmp x y) :: st) g Ph) : gz_J La h M pc ls (.long y :: .long x :: st) g Ph := by
  intro p l e s m args below meth c D cs a A H locs lsA C hP hD hS hl
  exact W.lcmp C.1 C.2.1 hd (n p l e s m args below meth c D cs a A H locs lsA C hP hD hS hl)
theorem sz_i2l {x : Int32} (hd : decode M.2.1 pc = .ok (.i2l, 1)) (n : gz_J La h M (pc + 1) ls (.long x.toInt64 :: st) g Ph) : gz_J La h M pc ls (.int x :: st) g Ph := by
  intro p l e s m args below meth c D cs a A H locs lsA C hP hD hS hl
  exact lv_i2l C.1 C.2.1 hd rfl (n p l e s m args below meth c D cs a A H locs lsA C hP hD hS hl)
theorem sz_l2i {x : Int64} (hd : decode M.2.1 pc = .ok (.l2i, 1)) (n : gz_J La h M (pc + 1) ls (.int x.toInt32 :: st) g Ph) : gz_J La h M pc ls (.long x :: st) g Ph := by
  intro p l e s m args below meth c D cs a A H locs lsA C hP hD hS hl
  exact lv_l2i C.1 C.2.1 hd rfl (n p l e s m args below meth c D cs a A H locs lsA C hP hD hS hl)
theorem sz_i2b {x : Int32} (hd : decode M.2.1 pc = .ok (.i2b, 1)) (n : gz_J La h M (pc + 1) ls (.int x.toInt8.toInt32 :: st) g Ph) : gz_J La h M pc ls (.int x :: st) g Ph := by
  intro p l e s m args below meth c D cs a A H locs lsA C hP hD hS hl
  exact lv_i2b C.1 C.2.1 hd rfl (n p l e s m args below meth c D cs a A H locs lsA C hP hD hS hl)
theorem sz_dup {v : Value} (hd : decode M.2.1 pc = .ok (.dup, 1)) (hc : v.category = 1) (n : gz_J La h M (pc + 1) ls (v :: v :: st) g Ph) : gz_J La h M pc ls (v :: st) g Ph := by
  intro p l e s m args below meth c D cs a A H locs lsA C hP hD hS hl
  exact lv_dup C.1 C.2.1 hd ((gz_cv_cat a v).trans hc) (n p l e s m args below meth c D cs a A H locs lsA C hP hD hS hl)
theorem sz_dup2 {v u : Value} (hd : decode M.2.1 pc = .ok (.dup2, 1)) (hc : v.category = 1) (hc2 : u.category = 1) (n : gz_J La h M (pc + 1) ls (v :: u :: v :: u :: st) g Ph) : gz_J La h M pc ls (v :: u :: st) g Ph := by
  intro p l e s m args below meth c D cs a A H locs lsA C hP hD hS hl
  exact lv_dup2_11 C.1 C.2.1 hd ((gz_cv_cat a v).trans hc) ((gz_cv_cat a u).trans hc2) (n p l e s m args below meth c D cs a A H locs lsA C hP hD hS hl)
theorem sz_dup_x1 {v u : Value} (hd : decode M.2.1 pc = .ok (.dup_x1, 1)) (hc : v.category = 1) (hc2 : u.category = 1) (n : gz_J La h M (pc + 1) ls (v :: u :: v :: st) g Ph) : gz_J La h M pc ls (v :: u :: st) g Ph := by
  intro p l e s m args below meth c D cs a A H locs lsA C hP hD hS hl
  exact lv_dup_x1 C.1 C.2.1 hd ((gz_cv_cat a v).trans hc) ((gz_cv_cat a u).trans hc2) (n p l e s m args below meth c D cs a A H locs lsA C hP hD hS hl)
theorem sz_pop {v : Value} (hd : decode M.2.1 pc = .ok (.pop, 1)) (hc : v.category = 1) (n : gz_J La h M (pc + 1) ls st g Ph) : gz_J La h M pc ls (v :: st) g Ph := by
  intro p l e s m args below meth c D cs a A H locs lsA C hP hD hS hl
  exact lv_pop C.1 C.2.1 hd ((gz_cv_cat a v).trans hc) (n p l e s m args below meth c D cs a A H locs lsA C hP hD hS hl)
theorem sz_if_eq {x : Int32} {off : Int} (tgt : Nat) (hd : decode M.2.1 pc = .ok (.ifCond .eq off, 3)) (ht : (pc : Int) + off = (tgt : Int)) (kt : x = 0 → gz_J La h M tgt ls st g Ph) (kf : ¬ (x = 0) → gz_J La h M (pc + 3) ls st g Ph) : gz_J La h M pc ls (.int x :: st) g Ph := by
  intro p l e s m args below meth c D cs a A H locs lsA C hP hD hS hl
  exact lv_if_eq C.1 C.2.1 hd ht (fun z => (kt z p l e s m args below meth c D cs a A H locs lsA C hP hD hS hl)) (fun z => (kf z p l e s m args below meth c D cs a A H locs lsA C hP hD hS hl))
theorem sz_icmp_eq {x y : Int32} {off : Int} (tgt : Nat) (hd : decode M.2.1 pc = .ok (.if_icmp .eq off, 3)) (ht : (pc : Int) + off = (tgt : Int)) (kt : x = y → gz_J La h M tgt ls st g Ph) (kf : ¬ (x = y) → gz_J La h M (pc + 3) ls st g Ph) : gz_J La h M pc ls (.int y :: .int x :: st) g Ph := by
  intro p l e s m args below meth c D cs a A H locs lsA C hP hD hS hl
  exact lv_icmp_eq C.1 C.2.1 hd ht (fun z => (kt z p l e s m args below meth c D cs a A H locs lsA C hP hD hS hl)) (fun z => (kf z p l e s m args below meth c D cs a A H locs lsA C hP hD hS hl))
theorem sz_if_ne {x : Int32} {off : Int} (tgt : Nat) (hd : decode M.2.1 pc = .ok (.ifCond .ne off, 3)) (ht : (pc : Int) + off = (tgt : Int)) (kt : ¬ x = 0 → gz_J La h M tgt ls st g Ph) (kf : x = 0 → gz_J La h M (pc + 3) ls st g Ph) : gz_J La h M pc ls (.int x :: st) g Ph := by
  intro p l e s m args below meth c D cs a A H locs lsA C hP hD hS hl
  exact lv_if_ne C.1 C.2.1 hd ht (fun z => (kt z p l e s m args below meth c D cs a A H locs lsA C hP hD hS hl)) (fun z => (kf z p l e s m args below meth c D cs a A H locs lsA C hP hD hS hl))
theorem sz_icmp_ne {x y : Int32} {off : Int} (tgt : Nat) (hd : decode M.2.1 pc = .ok (.if_icmp .ne off, 3)) (ht : (pc : Int) + off = (tgt : Int)) (kt : ¬ x = y → gz_J La h M tgt ls st g Ph) (kf : x = y → gz_J La h M (pc + 3) ls st g Ph) : gz_J La h M pc ls (.int y :: .int x :: st) g Ph := by
  intro p l e s m args below meth c D cs a A H locs lsA C hP hD hS hl
  exact lv_icmp_ne C.1 C.2.1 hd ht (fun z => (kt z p l e s m args below meth c D cs a A H locs lsA C hP hD hS hl)) (fun z => (kf z p l e s m args below meth c D cs a A H locs lsA C hP hD hS hl))
theorem sz_if_lt {x : Int32} {off : Int} (tgt : Nat) (hd : decode M.2.1 pc = .ok (.ifCond .lt off, 3)) (ht : (pc : Int) + off = (tgt : Int)) (kt : x < 0 → gz_J La h M tgt ls st g Ph) (kf : ¬ (x < 0) → gz_J La h M (pc + 3) ls st g Ph) : gz_J La h M pc ls (.int x :: st) g Ph := by
  intro p l e s m args below meth c D cs a A H locs lsA C hP hD hS hl
  exact lv_if_lt C.1 C.2.1 hd ht (fun z => (kt z p l e s m args below meth c D cs a A H locs lsA C hP hD hS hl)) (fun z => (kf z p l e s m args below meth c D cs a A H locs lsA C hP hD hS hl))
theorem sz_icmp_lt {x y : Int32} {off : Int} (tgt : Nat) (hd : decode M.2.1 pc = .ok (.if_icmp .lt off, 3)) (ht : (pc : Int) + off = (tgt : Int)) (kt : x < y → gz_J La h M tgt ls st g Ph) (kf : ¬ (x < y) → gz_J La h M (pc + 3) ls st g Ph) : gz_J La h M pc ls (.int y :: .int x :: st) g Ph := by
  intro p l e s m args below meth c D cs a A H locs lsA C hP hD hS hl
  exact lv_icmp_lt C.1 C.2.1 hd ht (fun z => (kt z p l e s m args below meth c D cs a A H locs lsA C hP hD hS hl)) (fun z => (kf z p l e s m args below meth c D cs a A H locs lsA C hP hD hS hl))
theorem sz_if_ge {x : Int32} {off : Int} (tgt : Nat) (hd : decode M.2.1 pc = .ok (.ifCond .ge off, 3)) (ht : (pc : Int) + off = (tgt : Int)) (kt : 0 ≤ x → gz_J La h M tgt ls st g Ph) (kf : ¬ (0 ≤ x) → gz_J La h M (pc + 3) ls st g Ph) : gz_J La h M pc ls (.int x :: st) g Ph := by
  intro p l e s m args below meth c D cs a A H locs lsA C hP hD hS hl
  exact lv_if_ge C.1 C.2.1 hd ht (fun z => (kt z p l e s m args below meth c D cs a A H locs lsA C hP hD hS hl)) (fun z => (kf z p l e s m args below meth c D cs a A H locs lsA C hP hD hS hl))
theorem sz_icmp_ge {x y : Int32} {off : Int} (tgt : Nat) (hd : decode M.2.1 pc = .ok (.if_icmp .ge off, 3)) (ht : (pc : Int) + off = (tgt : Int)) (kt : y ≤ x → gz_J La h M tgt ls st g Ph) (kf : ¬ (y ≤ x) → gz_J La h M (pc + 3) ls st g Ph) : gz_J La h M pc ls (.int y :: .int x :: st) g Ph := by
  intro p l e s m args below meth c D cs a A H locs lsA C hP hD hS hl
  exact lv_icmp_ge C.1 C.2.1 hd ht (fun z => (kt z p l e s m args below meth c D cs a A H locs lsA C hP hD hS hl)) (fun z => (kf z p l e s m args below meth c D cs a A H locs lsA C hP hD hS hl))
theorem sz_if_gt {x : Int32} {off : Int} (tgt : Nat) (hd : decode M.2.1 pc = .ok (.ifCond .gt off, 3)) (ht : (pc : Int) + off = (tgt : Int)) (kt : 0 < x → gz_J La h M tgt ls st g Ph) (kf : ¬ (0 < x) → gz_J La h M (pc + 3) ls st g Ph) : gz_J La h M pc ls (.int x :: st) g Ph := by
  intro p l e s m args below meth c D cs a A H locs lsA C hP hD hS hl
  exact lv_if_gt C.1 C.2.1 hd ht (fun z => (kt z p l e s m args below meth c D cs a A H locs lsA C hP hD hS hl)) (fun z => (kf z p l e s m args below meth c D cs a A H locs lsA C hP hD hS hl))
theorem sz_icmp_gt {x y : Int32} {off : Int} (tgt : Nat) (hd : decode M.2.1 pc = .ok (.if_icmp .gt off, 3)) (ht : (pc : Int) + off = (tgt : Int)) (kt : y < x → gz_J La h M tgt ls st g Ph) (kf : ¬ (y < x) → gz_J La h M (pc + 3) ls st g Ph) : gz_J La h M pc ls (.int y :: .int x :: st) g Ph := by
  intro p l e s m args below meth c D cs a A H locs lsA C hP hD hS hl
  exact lv_icmp_gt C.1 C.2.1 hd ht (fun z => (kt z p l e s m args below meth c D cs a A H locs lsA C hP hD hS hl)) (fun z => (kf z p l e s m args below meth c D cs a A H locs lsA C hP hD hS hl))
theorem sz_if_le {x : Int32} {off : Int} (tgt : Nat) (hd : decode M.2.1 pc = .ok (.ifCond .le off, 3)) (ht : (pc : Int) + off = (tgt : Int)) (kt : x ≤ 0 → gz_J La h M tgt ls st g Ph) (kf : ¬ (x ≤ 0) → gz_J La h M (pc + 3) ls st g Ph) : gz_J La h M pc ls (.int x :: st) g Ph := by
  intro p l e s m args below meth c D cs a A H locs lsA C hP hD hS hl
  exact lv_if_le C.1 C.2.1 hd ht (fun z => (kt z p l e s m args below meth c D cs a A H locs lsA C hP hD hS hl)) (fun z => (kf z p l e s m args below meth c D cs a A H locs lsA C hP hD hS hl))
theorem sz_icmp_le {x y : Int32} {off : Int} (tgt : Nat) (hd : decode M.2.1 pc = .ok (.if_icmp .le off, 3)) (ht : (pc : Int) + off = (tgt : Int)) (kt : x ≤ y → gz_J La h M tgt ls st g Ph) (kf : ¬ (x ≤ y) → gz_J La h M (pc + 3) ls st g Ph) : gz_J La h M pc ls (.int y :: .int x :: st) g Ph := by
  intro p l e s m args below meth c D cs a A H locs lsA C hP hD hS hl
  exact lv_icmp_le C.1 C.2.1 hd ht (fun z => (kt z p l e s m args below meth c D cs a A H locs lsA C hP hD hS hl)) (fun z => (kf z p l e s m args below meth c D cs a A H locs lsA C hP hD hS hl))
theorem sz_goto {off : Int} (tgt : Nat) (hd : decode M.2.1 pc = .ok (.goto off, 3)) (ht : (pc : Int) + off = (tgt : Int)) (n : gz_J La h M tgt ls st g Ph) : gz_J La h M pc ls st g Ph := by
  intro p l e s m args below meth c D cs a A H locs lsA C hP hD hS hl
  exact lv_goto C.1 C.2.1 hd ht (n p l e s m args below meth c D cs a A H locs lsA C hP hD hS hl)
theorem sz_ifnull {off : Int} {x : Nat} (hd : decode M.2.1 pc = .ok (.ifnull off, 3)) (n : gz_J La h M (pc + 3) ls st g Ph) : gz_J La h M pc ls (.ref x :: st) g Ph := by
  intro p l e s m args below meth c D cs a A H locs lsA C hP hD hS hl
  exact lv_ifnull C.1 C.2.1 hd (n p l e s m args below meth c D cs a A H locs lsA C hP hD hS hl)
theorem sz_ifnullN {off : Int} (tgt : Nat) (hd : decode M.2.1 pc = .ok (.ifnull off, 3)) (ht : (pc : Int) + off = (tgt : Int)) (n : gz_J La h M tgt ls st g Ph) : gz_J La h M pc ls (.null :: st) g Ph := by
  intro p l e s m args below meth c D cs a A H locs lsA C hP hD hS hl
  exact lv_ifnullN C.1 C.2.1 hd ht (n p l e s m args below meth c D cs a A H locs lsA C hP hD hS hl)
theorem sz_ifnonnull {off : Int} (tgt : Nat) {x : Nat} (hd : decode M.2.1 pc = .ok (.ifnonnull off, 3)) (ht : (pc : Int) + off = (tgt : Int)) (n : gz_J La h M tgt ls st g Ph) : gz_J La h M pc ls (.ref x :: st) g Ph := by
  intro p l e s m args below meth c D cs a A H locs lsA C hP hD hS hl
  exact lv_ifnonnull C.1 C.2.1 hd ht (n p l e s m args below meth c D cs a A H locs lsA C hP hD hS hl)
theorem sz_ifnonnullN {off : Int} (hd : decode M.2.1 pc = .ok (.ifnonnull off, 3)) (n : gz_J La h M (pc + 3) ls st g Ph) : gz_J La h M pc ls (.null :: st) g Ph := by
  intro p l e s m args below meth c D cs a A H locs lsA C hP hD hS hl
  exact lv_ifnonnullN C.1 C.2.1 hd (n p l e s m args below meth c D cs a A H locs lsA C hP hD hS hl)
theorem sz_lookup {dflt : Int} {ps : Array (Int × Int)} {len : Nat} {x : Int32} {off : Int} (tgt : Nat) (hd : decode M.2.1 pc = .ok (.lookupswitch dflt ps, len)) (hp : (ps.toList.zip (ps.toList.drop 1)).all (fun (a, next) => a.1 < next.1) = true) (ho : Op.lookupswitch.offset ps.toList dflt x.toInt = off) (ht : (pc : Int) + off = (tgt : Int)) (n : gz_J La h M tgt ls st g Ph) : gz_J La h M pc ls (.int x :: st) g Ph := by
  intro p l e s m args below meth c D cs a A H locs lsA C hP hD hS hl
  exact lv_lookup C.1 C.2.1 hd hp ho ht (n p l e s m args below meth c D cs a A H locs lsA C hP hD hS hl)
theorem sz_tableOut {dflt lo hi : Int} {offs : Array Int} {len : Nat} {x : Int32} (tgt : Nat) (hd : decode M.2.1 pc = .ok (.tableswitch dflt lo hi offs, len)) (hh : x.toInt < lo ∨ hi < x.toInt) (ht : (pc : Int) + dflt = (tgt : Int)) (n : gz_J La h M tgt ls st g Ph) : gz_J La h M pc ls (.int x :: st) g Ph := by
  intro p l e s m args below meth c D cs a A H locs lsA C hP hD hS hl
  exact lv_tableOut C.1 C.2.1 hd hh ht (n p l e s m args below meth c D cs a A H locs lsA C hP hD hS hl)
theorem sz_tableIn {dflt lo hi : Int} {offs : Array Int} {len : Nat} {x : Int32} {off : Int} (tgt : Nat) (hd : decode M.2.1 pc = .ok (.tableswitch dflt lo hi offs, len)) (h1 : ¬ x.toInt < lo) (h2 : ¬ hi < x.toInt) (ho : offs[(x.toInt - lo).toNat]? = some off) (ht : (pc : Int) + off = (tgt : Int)) (n : gz_J La h M tgt ls st g Ph) : gz_J La h M pc ls (.int x :: st) g Ph := by
  intro p l e s m args below meth c D cs a A H locs lsA C hP hD hS hl
  exact lv_tableIn C.1 C.2.1 hd h1 h2 ho ht (n p l e s m args below meth c D cs a A H locs lsA C hP hD hS hl)
theorem sz_iret {x : Int32} {ty : FieldType} (hd : decode M.2.1 pc = .ok (.ireturn, 1)) (hr : M.2.2.2 = some ty) (hn : narrow ty (.int x) = .int x) (hq : Ph (some (.int x)) g) : gz_J La h M pc ls [.int x] g Ph := by
  intro p l e s m args below meth c D cs a A H locs lsA C hP hD hS hl
  exact W.zret C.1 C.2.1 (C.2.2.2.1.trans hr) hn (fun t ht hW => ⟨⟨some (.int x), g, rfl, hq, by rw [ht]; exact hP, va_K.moved hW.alike C.2.2.2.2.2.2.2.1, hD⟩, hS.F ht⟩) hS.2.2 hd C.2.2.2.2.1
theorem sz_lret {x : Int64} (hd : decode M.2.1 pc = .ok (.lreturn, 1)) (hr : M.2.2.2 = some .long) (hq : Ph (some (.long x)) g) : gz_J La h M pc ls [.long x] g Ph := by
  intro p l e s m args below meth c D cs a A H locs lsA C hP hD hS hl
  exact W.lret C.1 C.2.1 (C.2.2.2.1.trans hr) (fun t ht hW => ⟨⟨some (.long x), g, rfl, hq, by rw [ht]; exact hP, va_K.moved hW.alike C.2.2.2.2.2.2.2.1, hD⟩, hS.F ht⟩) hS.2.2 hd C.2.2.2.2.1
theorem sz_ret (hd : decode M.2.1 pc = .ok (.return_, 1)) (hr : M.2.2.2 = none) (hq : Ph none g) : gz_J La h M pc ls [] g Ph := by
  intro p l e s m args below meth c D cs a A H locs lsA C hP hD hS hl
  exact W.vret C.1 C.2.1 (C.2.2.2.1.trans hr) (fun t ht hW => ⟨⟨none, g, rfl, hq, by rw [ht]; exact hP, va_K.moved hW.alike C.2.2.2.2.2.2.2.1, hD⟩, hS.F ht⟩) hS.2.2 hd C.2.2.2.2.1
theorem sz_aret {x : Nat} {cn : String} (hd : decode M.2.1 pc = .ok (.areturn, 1)) (hr : M.2.2.2 = some (.object cn)) (hq : Ph (some (.ref x)) g) : gz_J La h M pc ls [.ref x] g Ph := by
  intro p l e s m args below meth c D cs a A H locs lsA C hP hD hS hl
  exact W.aret C.1 C.2.1 (C.2.2.2.1.trans hr) (Or.inl ⟨_, rfl⟩) (Or.inr ⟨_, rfl⟩) (fun t ht hW => ⟨⟨some (.ref x), g, rfl, hq, by rw [ht]; exact hP, va_K.moved hW.alike C.2.2.2.2.2.2.2.1, hD⟩, hS.F ht⟩) hS.2.2 hd C.2.2.2.2.1
theorem sz_aretN {cn : String} (hd : decode M.2.1 pc = .ok (.areturn, 1)) (hr : M.2.2.2 = some (.object cn)) (hq : Ph (some .null) g) : gz_J La h M pc ls [.null] g Ph := by
  intro p l e s m args below meth c D cs a A H locs lsA C hP hD hS hl
  exact W.aret C.1 C.2.1 (C.2.2.2.1.trans hr) (Or.inl ⟨_, rfl⟩) (Or.inl rfl) (fun t ht hW => ⟨⟨some .null, g, rfl, hq, by rw [ht]; exact hP, va_K.moved hW.alike C.2.2.2.2.2.2.2.1, hD⟩, hS.F ht⟩) hS.2.2 hd C.2.2.2.2.1
end SZ
