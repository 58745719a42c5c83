/-! rows over any world: a list of cells; the judgement gx -/
abbrev gx_T : Type := Program × Launch × Env × Room × State × MethodId × Array Value × List Frame × Method × Code × va_G × (Nat → Prop) × (State → Prop)
def gx (X : gx_T) (M : gz_M) (kc nc : Nat) (w : va_W) (pc : Nat) (ls : List (Option Value)) (st : List Value) : Prop := match X with
  | (p, l, e, R, s, m, args, below, meth, c, D, A, Q) => ∀ (H : Heap) (locs : List Loc) (lsA : Array Slot), va_P D vwCl w H → va_D A w → va_S A s.heap H locs → gz_has id lsA M.2.2.1 ls → W p l e R s m args below meth c H locs kc nc Q (F0 m pc lsA st)
/-- words that aren't told by lists -/
def gx_X (cs : Nat → ClassId) (s : State) : Prop := va_Nw (.methodLinkNest "PrintsGoOn" 9 yX9_init "PrintsGoOn") s ∧ va_Nw (.methodLinkNest "PrintsGoOn" 53 yX6_init "PrintsGoOn") s ∧ va_Nw (.methodLinkNest "PrintsGoOn" 66 yX10_init "PrintsGoOn") s ∧ va_Nw (.methodLinkNest "PrintsGoOn" 73 yX5_init "PrintsGoOn") s ∧
  (va_AO "PrintsGoOn$Law" s ∧ va_AO "PrintsGoOn$Evening" s) ∧ va_Nw (.castable "[I" "java/lang/Cloneable") s ∧ vk_R "PrintsGoOnModel" 26 "y" (cs 10) s ∧ vk_R "PrintsGoOnModel" 32 "barpnt" (cs 11) s
theorem gx_X.warm {cs : Nat → ClassId} {s U : State} (hW : s.WarmedH U.vm) (h : gx_X cs s) : gx_X cs U := ⟨va_Nw.warmM hW h.1, va_Nw.warmM hW h.2.1, va_Nw.warmM hW h.2.2.1, va_Nw.warmM hW h.2.2.2.1, ⟨va_AO.moved hW.alike h.2.2.2.2.1.1, va_AO.moved hW.alike h.2.2.2.2.1.2⟩, va_Nw.warmC hW h.2.2.2.2.2.1, vk_R.warm hW h.2.2.2.2.2.2.1, vk_R.warm hW h.2.2.2.2.2.2.2⟩
theorem gx_X.same {cs : Nat → ClassId} {u U : State} (hv : u.vm = U.vm) (h : gx_X cs u) : gx_X cs U := ⟨va_Nw.same rfl hv h.1, va_Nw.same rfl hv h.2.1, va_Nw.same rfl hv h.2.2.1, va_Nw.same rfl hv h.2.2.2.1, ⟨va_AO.moved (by rw [hv]; exact Vm.Alike.refl _) h.2.2.2.2.1.1, va_AO.moved (by rw [hv]; exact Vm.Alike.refl _) h.2.2.2.2.1.2⟩, va_Nw.same rfl hv h.2.2.2.2.2.1, vk_R.same hv.symm h.2.2.2.2.2.2.1, vk_R.same hv.symm h.2.2.2.2.2.2.2⟩
def gx_C (X : gx_T) (M : gz_M) (cs : Nat → ClassId) (hh : Nat) : Prop := match X with
  | (p, l, e, R, s, m, args, below, meth, c, D, A, Q) => p.tables.exec = Jvm.exec ∧ c.code = M.2.1 ∧ c.maxLocals = M.2.2.1 ∧ meth.sig.returnType = M.2.2.2 ∧ meth.locks = false ∧ s.vm.findClass M.1.cls = some m.cls ∧ (∀ w ∈ gz_U, w.before args s = true) ∧ va_K D vwCl (gz_ty cs) s ∧ gx_X cs s ∧ (∀ q : Nat, s.heap.size ≤ q → A q) ∧ hh ≤ R.frames ∧ 64 * hh ≤ R.locals
def gx_ok (X : gx_T) (kc nc : Nat) : Prop := match X with
  | (p, l, e, R, s, m, args, below, meth, c, D, A, Q) => kc ≤ R.cells ∧ nc ≤ R.slots
def gx_I (X : gx_T) : Prop := match X with
  | (p, l, e, R, s, m, args, below, meth, c, D, A, Q) => meth.name = "<init>"
def gx_rm (h mc ms : Nat) : Room := { frames := h, cells := mc, slots := ms, locals := 64 * h }
def gx_Q (D : va_G) (A : Nat → Prop) (Ph : Option Value → va_W → Prop) : Array Value → State → Outcome → State → Prop := fun _ st oc t =>
  (∃ (v : Option Value) (w : va_W), oc = .returned v ∧ Ph v w ∧ va_P D vwCl w t.heap ∧ va_D A w) ∧ va_F A st t
def gx_E (X : gx_T) (mc ms : Nat) (Ph : Option Value → va_W → Prop) : Prop := match X with
  | (p, l, e, R, s, m, args, below, meth, c, D, A, Q) => Q = MQ below (gx_Q D A Ph) args s mc ms A
/-- a method's contract over any world -/
def gx_K (l : Launch) (D : va_G) (cs : Nat → ClassId) (h : Nat) (M : gz_M) (mc ms : Nat) (av : List Value) (w : va_W) (Ph : Option Value → va_W → Prop) : Prop :=
  ∀ sz : Nat, Met l M.1 (gz_ws M) (gx_rm h mc ms) (va_Pc av (fun U => U.heap.size = sz ∧ va_P D vwCl w U.heap ∧ va_K D vwCl (gz_ty cs) U ∧ va_D (fun _ => True) w ∧ gx_X cs U)) (gx_Q D (va_A w sz) Ph) mc ms (va_A w sz)
section GX
variable {X : gx_T} {M : gz_M} {cs : Nat → ClassId} {hh kc nc : Nat} {w : va_W} {pc : Nat} {ls : List (Option Value)} {st : List Value}
theorem gx_has_id {l : List (Option Value)} {i : Nat} : gz_kn id i l = gz_kn id i l := rfl
theorem gy_iconst {n0 : Int} {v : Int32} (C : gx_C X M cs hh) (hd : decode M.2.1 pc = .ok (.iconst n0, 1)) (hv : Int32.ofInt n0 = v) (n : gx X M kc nc w (pc + 1) ls (.int v :: st)) : gx X M kc nc w pc ls st := by
  obtain ⟨p, l, e, R, s, m, args, below, meth, c, D, A, Q⟩ := X
  intro H locs lsA hP hD hS hl
  exact lv_iconst C.1 C.2.1 hd hv (n H locs lsA hP hD hS hl)
theorem gy_bipush {n0 : Int} {v : Int32} (C : gx_C X M cs hh) (hd : decode M.2.1 pc = .ok (.bipush n0, 2)) (hv : (Int8.ofInt n0).toInt32 = v) (n : gx X M kc nc w (pc + 2) ls (.int v :: st)) : gx X M kc nc w pc ls st := by
  obtain ⟨p, l, e, R, s, m, args, below, meth, c, D, A, Q⟩ := X
  intro H locs lsA hP hD hS hl
  exact lv_bipush C.1 C.2.1 hd hv (n H locs lsA hP hD hS hl)
theorem gy_sipush {n0 : Int} {v : Int32} (C : gx_C X M cs hh) (hd : decode M.2.1 pc = .ok (.sipush n0, 3)) (hv : (Int16.ofInt n0).toInt32 = v) (n : gx X M kc nc w (pc + 3) ls (.int v :: st)) : gx X M kc nc w pc ls st := by
  obtain ⟨p, l, e, R, s, m, args, below, meth, c, D, A, Q⟩ := X
  intro H locs lsA hP hD hS hl
  exact lv_sipush C.1 C.2.1 hd hv (n H locs lsA hP hD hS hl)
theorem gy_lconst {n0 : Fin 2} {v : Int64} (C : gx_C X M cs hh) (hd : decode M.2.1 pc = .ok (.lconst n0, 1)) (hv : Int64.ofNat (n0 : Nat) = v) (n : gx X M kc nc w (pc + 1) ls (.long v :: st)) : gx X M kc nc w pc ls st := by
  obtain ⟨p, l, e, R, s, m, args, below, meth, c, D, A, Q⟩ := X
  intro H locs lsA hP hD hS hl
  exact lv_lconst C.1 C.2.1 hd hv (n H locs lsA hP hD hS hl)
theorem gy_null (C : gx_C X M cs hh) (hd : decode M.2.1 pc = .ok (.aconst_null, 1)) (n : gx X M kc nc w (pc + 1) ls (.null :: st)) : gx X M kc nc w pc ls st := by
  obtain ⟨p, l, e, R, s, m, args, below, meth, c, D, A, Q⟩ := X
  intro H locs lsA hP hD hS hl
  exact lv_null C.1 C.2.1 hd (n H locs lsA hP hD hS hl)
theorem gy_ldc {ix : Nat} {v : Int32} (C : gx_C X M cs hh) (hd : decode M.2.1 pc = .ok (.ldc ix, 2)) (hw : Cond.constant M.1.cls ix v ∈ gz_U) (n : gx X M kc nc w (pc + 2) ls (.int v :: st)) : gx X M kc nc w pc ls st := by
  obtain ⟨p, l, e, R, s, m, args, below, meth, c, D, A, Q⟩ := X
  intro H locs lsA hP hD hS hl
  exact lv_ldc C.1 C.2.1 C.2.2.2.2.2.1 (C.2.2.2.2.2.2.1 _ hw) hd (n H locs lsA hP hD hS hl)
theorem gy_ldc2 {ix : Nat} {v : Int64} (C : gx_C X M cs hh) (hd : decode M.2.1 pc = .ok (.ldc2_w ix, 3)) (hw : Cond.constantLong M.1.cls ix v ∈ gz_U) (n : gx X M kc nc w (pc + 3) ls (.long v :: st)) : gx X M kc nc w pc ls st := by
  obtain ⟨p, l, e, R, s, m, args, below, meth, c, D, A, Q⟩ := X
  intro H locs lsA hP hD hS hl
  exact lv_ldc2 C.1 C.2.1 C.2.2.2.2.2.1 (C.2.2.2.2.2.2.1 _ hw) hd (n H locs lsA hP hD hS hl)
theorem gy_iload_n {k : Fin 4} {x : Int32} (C : gx_C X M cs hh) (hd : decode M.2.1 pc = .ok (.iload_n k, 1)) (hv : ls[(k : Nat)]? = some (some (.int x))) (n : gx X M kc nc w (pc + 1) ls (.int x :: st)) : gx X M kc nc w pc ls st := by
  obtain ⟨p, l, e, R, s, m, args, below, meth, c, D, A, Q⟩ := X
  intro H locs lsA hP hD hS hl
  exact lv_iload_n C.1 C.2.1 hd rfl (hl.at hv) (n H locs lsA hP hD hS hl)
theorem gy_iload {k : Nat} {x : Int32} (C : gx_C X M cs hh) (hd : decode M.2.1 pc = .ok (.iload k, 2)) (hv : ls[k]? = some (some (.int x))) (n : gx X M kc nc w (pc + 2) ls (.int x :: st)) : gx X M kc nc w pc ls st := by
  obtain ⟨p, l, e, R, s, m, args, below, meth, c, D, A, Q⟩ := X
  intro H locs lsA hP hD hS hl
  exact lv_iload C.1 C.2.1 hd (hl.at hv) (n H locs lsA hP hD hS hl)
theorem gy_istore_n {k : Nat} {kf : Fin 4} {x : Int32} (C : gx_C X M cs hh) (hd : decode M.2.1 pc = .ok (.istore_n kf, 1)) (hk : (kf : Nat) = k) (hn : k < M.2.2.1) (hc : gz_c1 ls k = true) (n : gx X M kc nc w (pc + 1) (ls.set k (some (.int x))) st) : gx X M kc nc w pc ls (.int x :: st) := by
  obtain ⟨p, l, e, R, s, m, args, below, meth, c, D, A, Q⟩ := X
  intro H locs lsA hP hD hS hl
  exact lv_istore_n C.1 C.2.1 hd hk hl hn rfl (fun lsA hl => (n H locs lsA hP hD hS (gz_has.set1 (v := .int x) hc hl)))
theorem gy_istore {k : Nat} {x : Int32} (C : gx_C X M cs hh) (hd : decode M.2.1 pc = .ok (.istore k, 2)) (hn : k < M.2.2.1) (hc : gz_c1 ls k = true) (n : gx X M kc nc w (pc + 2) (ls.set k (some (.int x))) st) : gx X M kc nc w pc ls (.int x :: st) := by
  obtain ⟨p, l, e, R, s, m, args, below, meth, c, D, A, Q⟩ := X
  intro H locs lsA hP hD hS hl
  exact lv_istore C.1 C.2.1 hd hl hn rfl (fun lsA hl => (n H locs lsA hP hD hS (gz_has.set1 (v := .int x) hc hl)))
theorem gy_lload_n {k : Fin 4} {x : Int64} (C : gx_C X M cs hh) (hd : decode M.2.1 pc = .ok (.lload_n k, 1)) (hv : ls[(k : Nat)]? = some (some (.long x))) (n : gx X M kc nc w (pc + 1) ls (.long x :: st)) : gx X M kc nc w pc ls st := by
  obtain ⟨p, l, e, R, s, m, args, below, meth, c, D, A, Q⟩ := X
  intro H locs lsA hP hD hS hl
  exact lv_lload_n C.1 C.2.1 hd rfl (hl.at hv) (n H locs lsA hP hD hS hl)
theorem gy_lload {k : Nat} {x : Int64} (C : gx_C X M cs hh) (hd : decode M.2.1 pc = .ok (.lload k, 2)) (hv : ls[k]? = some (some (.long x))) (n : gx X M kc nc w (pc + 2) ls (.long x :: st)) : gx X M kc nc w pc ls st := by
  obtain ⟨p, l, e, R, s, m, args, below, meth, c, D, A, Q⟩ := X
  intro H locs lsA hP hD hS hl
  exact lv_lload C.1 C.2.1 hd (hl.at hv) (n H locs lsA hP hD hS hl)
theorem gy_lstore_n {k : Nat} {kf : Fin 4} {x : Int64} (C : gx_C X M cs hh) (hd : decode M.2.1 pc = .ok (.lstore_n kf, 1)) (hk : (kf : Nat) = k) (hn : k + 1 < M.2.2.1) (hc : gz_c1 ls k = true) (n : gx X M kc nc w (pc + 1) ((ls.set (k + 1) none).set k (some (.long x))) st) : gx X M kc nc w pc ls (.long x :: st) := by
  obtain ⟨p, l, e, R, s, m, args, below, meth, c, D, A, Q⟩ := X
  intro H locs lsA hP hD hS hl
  exact lv_lstore_n C.1 C.2.1 hd hk hl hn rfl (fun lsA hl => (n H locs lsA hP hD hS (gz_has.set2 (v := .long x) hc hl)))
theorem gy_lstore {k : Nat} {x : Int64} (C : gx_C X M cs hh) (hd : decode M.2.1 pc = .ok (.lstore k, 2)) (hn : k + 1 < M.2.2.1) (hc : gz_c1 ls k = true) (n : gx X M kc nc w (pc + 2) ((ls.set (k + 1) none).set k (some (.long x))) st) : gx X M kc nc w pc ls (.long x :: st) := by
  obtain ⟨p, l, e, R, s, m, args, below, meth, c, D, A, Q⟩ := X
  intro H locs lsA hP hD hS hl
  exact lv_lstore C.1 C.2.1 hd hl hn rfl (fun lsA hl => (n H locs lsA hP hD hS (gz_has.set2 (v := .long x) hc hl)))
theorem gy_aload_n {k : Fin 4} {x : Nat} (C : gx_C X M cs hh) (hd : decode M.2.1 pc = .ok (.aload_n k, 1)) (hv : ls[(k : Nat)]? = some (some (.ref x))) (n : gx X M kc nc w (pc + 1) ls (.ref x :: st)) : gx X M kc nc w pc ls st := by
  obtain ⟨p, l, e, R, s, m, args, below, meth, c, D, A, Q⟩ := X
  intro H locs lsA hP hD hS hl
  exact lv_aload_n C.1 C.2.1 hd rfl (hl.at hv) (n H locs lsA hP hD hS hl)
theorem gy_aload {k : Nat} {x : Nat} (C : gx_C X M cs hh) (hd : decode M.2.1 pc = .ok (.aload k, 2)) (hv : ls[k]? = some (some (.ref x))) (n : gx X M kc nc w (pc + 2) ls (.ref x :: st)) : gx X M kc nc w pc ls st := by
  obtain ⟨p, l, e, R, s, m, args, below, meth, c, D, A, Q⟩ := X
  intro H locs lsA hP hD hS hl
  exact lv_aload C.1 C.2.1 hd (hl.at hv) (n H locs lsA hP hD hS hl)
theorem gy_astore_n {k : Nat} {kf : Fin 4} {x : Nat} (C : gx_C X M cs hh) (hd : decode M.2.1 pc = .ok (.astore_n kf, 1)) (hk : (kf : Nat) = k) (hn : k < M.2.2.1) (hc : gz_c1 ls k = true) (n : gx X M kc nc w (pc + 1) (ls.set k (some (.ref x))) st) : gx X M kc nc w pc ls (.ref x :: st) := by
  obtain ⟨p, l, e, R, s, m, args, below, meth, c, D, A, Q⟩ := X
  intro H locs lsA hP hD hS hl
  exact lv_astore_n C.1 C.2.1 hd hk hl hn rfl (fun lsA hl => (n H locs lsA hP hD hS (gz_has.set1 (v := .ref x) hc hl)))
theorem gy_astore {k : Nat} {x : Nat} (C : gx_C X M cs hh) (hd : decode M.2.1 pc = .ok (.astore k, 2)) (hn : k < M.2.2.1) (hc : gz_c1 ls k = true) (n : gx X M kc nc w (pc + 2) (ls.set k (some (.ref x))) st) : gx X M kc nc w pc ls (.ref x :: st) := by
  obtain ⟨p, l, e, R, s, m, args, below, meth, c, D, A, Q⟩ := X
  intro H locs lsA hP hD hS hl
  exact lv_astore C.1 C.2.1 hd hl hn rfl (fun lsA hl => (n H locs lsA hP hD hS (gz_has.set1 (v := .ref x) hc hl)))
theorem gy_iinc {k : Nat} {n0 : Int} {x v : Int32} (C : gx_C X M cs hh) (hd : decode M.2.1 pc = .ok (.iinc k n0, 3)) (hv : ls[k]? = some (some (.int x))) (he : x + Int32.ofInt n0 = v) (hn : k < M.2.2.1) (hc : gz_c1 ls k = true) (n : gx X M kc nc w (pc + 3) (ls.set k (some (.int v))) st) : gx X M kc nc w pc ls st := by
  obtain ⟨p, l, e, R, s, m, args, below, meth, c, D, A, Q⟩ := X
  intro H locs lsA hP hD hS hl
  obtain ⟨q, hq⟩ := gz_kn_get (a := id) hv
  exact lv_iinc C.1 C.2.1 hd hl hq he hn rfl (fun lsA hl => (n H locs lsA hP hD hS (gz_has.set1 (v := .int v) hc hl)))
theorem gy_iadd {x y : Int32} (C : gx_C X M cs hh) (hd : decode M.2.1 pc = .ok (.iadd, 1)) (n : gx X M kc nc w (pc + 1) ls (.int (x + y) :: st)) : gx X M kc nc w pc ls (.int y :: .int x :: st) := by
  obtain ⟨p, l, e, R, s, m, args, below, meth, c, D, A, Q⟩ := X
  intro H locs lsA hP hD hS hl
  exact lv_iadd C.1 C.2.1 hd (n H locs lsA hP hD hS hl)
theorem gy_isub {x y : Int32} (C : gx_C X M cs hh) (hd : decode M.2.1 pc = .ok (.isub, 1)) (n : gx X M kc nc w (pc + 1) ls (.int (x - y) :: st)) : gx X M kc nc w pc ls (.int y :: .int x :: st) := by
  obtain ⟨p, l, e, R, s, m, args, below, meth, c, D, A, Q⟩ := X
  intro H locs lsA hP hD hS hl
  exact lv_isub C.1 C.2.1 hd (n H locs lsA hP hD hS hl)
theorem gy_imul {x y : Int32} (C : gx_C X M cs hh) (hd : decode M.2.1 pc = .ok (.imul, 1)) (n : gx X M kc nc w (pc + 1) ls (.int (x * y) :: st)) : gx X M kc nc w pc ls (.int y :: .int x :: st) := by
  obtain ⟨p, l, e, R, s, m, args, below, meth, c, D, A, Q⟩ := X
  intro H locs lsA hP hD hS hl
  exact lv_imul C.1 C.2.1 hd (n H locs lsA hP hD hS hl)
theorem gy_iand {x y : Int32} (C : gx_C X M cs hh) (hd : decode M.2.1 pc = .ok (.iand, 1)) (n : gx X M kc nc w (pc + 1) ls (.int (x &&& y) :: st)) : gx X M kc nc w pc ls (.int y :: .int x :: st) := by
  obtain ⟨p, l, e, R, s, m, args, below, meth, c, D, A, Q⟩ := X
  intro H locs lsA hP hD hS hl
  exact lv_iand C.1 C.2.1 hd (n H locs lsA hP hD hS hl)
theorem gy_lshl {x : Int64} {y : Int32} (C : gx_C X M cs hh) (hd : decode M.2.1 pc = .ok (.lshl, 1)) (n : gx X M kc nc w (pc + 1) ls (.long (gz_lshl x y) :: st)) : gx X M kc nc w pc ls (.int y :: .long x :: st) := by
  obtain ⟨p, l, e, R, s, m, args, below, meth, c, D, A, Q⟩ := X
  intro H locs lsA hP hD hS hl
  exact lv_lshl C.1 C.2.1 hd rfl (n H locs lsA hP hD hS hl)
theorem gy_i2l {x : Int32} (C : gx_C X M cs hh) (hd : decode M.2.1 pc = .ok (.i2l, 1)) (n : gx X M kc nc w (pc + 1) ls (.long x.toInt64 :: st)) : gx X M kc nc w pc ls (.int x :: st) := by
  obtain ⟨p, l, e, R, s, m, args, below, meth, c, D, A, Q⟩ := X
  intro H locs lsA hP hD hS hl
  exact lv_i2l C.1 C.2.1 hd rfl (n H locs lsA hP hD hS hl)
theorem gy_land {x y : Int64} (C : gx_C X M cs hh) (hd : decode M.2.1 pc = .ok (.land, 1)) (n : gx X M kc nc w (pc + 1) ls (.long (x &&& y) :: st)) : gx X M kc nc w pc ls (.long y :: .long x :: st) := by
  obtain ⟨p, l, e, R, s, m, args, below, meth, c, D, A, Q⟩ := X
  intro H locs lsA hP hD hS hl
  exact lv_land C.1 C.2.1 hd (n H locs lsA hP hD hS hl)
theorem gy_lor {x y : Int64} (C : gx_C X M cs hh) (hd : decode M.2.1 pc = .ok (.lor, 1)) (n : gx X M kc nc w (pc + 1) ls (.long (x ||| y) :: st)) : gx X M kc nc w pc ls (.long y :: .long x :: st) := by
  obtain ⟨p, l, e, R, s, m, args, below, meth, c, D, A, Q⟩ := X
  intro H locs lsA hP hD hS hl
  exact lv_lor C.1 C.2.1 hd (n H locs lsA hP hD hS hl)
theorem gy_dup {v : Value} (C : gx_C X M cs hh) (hd : decode M.2.1 pc = .ok (.dup, 1)) (hc : v.category = 1) (n : gx X M kc nc w (pc + 1) ls (v :: v :: st)) : gx X M kc nc w pc ls (v :: st) := by
  obtain ⟨p, l, e, R, s, m, args, below, meth, c, D, A, Q⟩ := X
  intro H locs lsA hP hD hS hl
  exact lv_dup C.1 C.2.1 hd hc (n H locs lsA hP hD hS hl)
theorem gy_if_eq {x : Int32} {off : Int} (tgt : Nat) (C : gx_C X M cs hh) (hd : decode M.2.1 pc = .ok (.ifCond .eq off, 3)) (ht : (pc : Int) + off = (tgt : Int)) (kt : x = 0 → gx X M kc nc w tgt ls st) (kf : ¬ (x = 0) → gx X M kc nc w (pc + 3) ls st) : gx X M kc nc w pc ls (.int x :: st) := by
  obtain ⟨p, l, e, R, s, m, args, below, meth, c, D, A, Q⟩ := X
  intro H locs lsA hP hD hS hl
  exact lv_if_eq C.1 C.2.1 hd ht (fun z => (kt z H locs lsA hP hD hS hl)) (fun z => (kf z H locs lsA hP hD hS hl))
theorem gy_if_ne {x : Int32} {off : Int} (tgt : Nat) (C : gx_C X M cs hh) (hd : decode M.2.1 pc = .ok (.ifCond .ne off, 3)) (ht : (pc : Int) + off = (tgt : Int)) (kt : ¬ x = 0 → gx X M kc nc w tgt ls st) (kf : x = 0 → gx X M kc nc w (pc + 3) ls st) : gx X M kc nc w pc ls (.int x :: st) := by
  obtain ⟨p, l, e, R, s, m, args, below, meth, c, D, A, Q⟩ := X
  intro H locs lsA hP hD hS hl
  exact lv_if_ne C.1 C.2.1 hd ht (fun z => (kt z H locs lsA hP hD hS hl)) (fun z => (kf z H locs lsA hP hD hS hl))
theorem gy_if_gt {x : Int32} {off : Int} (tgt : Nat) (C : gx_C X M cs hh) (hd : decode M.2.1 pc = .ok (.ifCond .gt off, 3)) (ht : (pc : Int) + off = (tgt : Int)) (kt : 0 < x → gx X M kc nc w tgt ls st) (kf : ¬ (0 < x) → gx X M kc nc w (pc + 3) ls st) : gx X M kc nc w pc ls (.int x :: st) := by
  obtain ⟨p, l, e, R, s, m, args, below, meth, c, D, A, Q⟩ := X
  intro H locs lsA hP hD hS hl
  exact lv_if_gt C.1 C.2.1 hd ht (fun z => (kt z H locs lsA hP hD hS hl)) (fun z => (kf z H locs lsA hP hD hS hl))
theorem gy_if_le {x : Int32} {off : Int} (tgt : Nat) (C : gx_C X M cs hh) (hd : decode M.2.1 pc = .ok (.ifCond .le off, 3)) (ht : (pc : Int) + off = (tgt : Int)) (kt : x ≤ 0 → gx X M kc nc w tgt ls st) (kf : ¬ (x ≤ 0) → gx X M kc nc w (pc + 3) ls st) : gx X M kc nc w pc ls (.int x :: st) := by
  obtain ⟨p, l, e, R, s, m, args, below, meth, c, D, A, Q⟩ := X
  intro H locs lsA hP hD hS hl
  exact lv_if_le C.1 C.2.1 hd ht (fun z => (kt z H locs lsA hP hD hS hl)) (fun z => (kf z H locs lsA hP hD hS hl))
theorem gy_icmp_eq {x y : Int32} {off : Int} (tgt : Nat) (C : gx_C X M cs hh) (hd : decode M.2.1 pc = .ok (.if_icmp .eq off, 3)) (ht : (pc : Int) + off = (tgt : Int)) (kt : x = y → gx X M kc nc w tgt ls st) (kf : ¬ (x = y) → gx X M kc nc w (pc + 3) ls st) : gx X M kc nc w pc ls (.int y :: .int x :: st) := by
  obtain ⟨p, l, e, R, s, m, args, below, meth, c, D, A, Q⟩ := X
  intro H locs lsA hP hD hS hl
  exact lv_icmp_eq C.1 C.2.1 hd ht (fun z => (kt z H locs lsA hP hD hS hl)) (fun z => (kf z H locs lsA hP hD hS hl))
theorem gy_icmp_ne {x y : Int32} {off : Int} (tgt : Nat) (C : gx_C X M cs hh) (hd : decode M.2.1 pc = .ok (.if_icmp .ne off, 3)) (ht : (pc : Int) + off = (tgt : Int)) (kt : ¬ x = y → gx X M kc nc w tgt ls st) (kf : x = y → gx X M kc nc w (pc + 3) ls st) : gx X M kc nc w pc ls (.int y :: .int x :: st) := by
  obtain ⟨p, l, e, R, s, m, args, below, meth, c, D, A, Q⟩ := X
  intro H locs lsA hP hD hS hl
  exact lv_icmp_ne C.1 C.2.1 hd ht (fun z => (kt z H locs lsA hP hD hS hl)) (fun z => (kf z H locs lsA hP hD hS hl))
theorem gy_icmp_gt {x y : Int32} {off : Int} (tgt : Nat) (C : gx_C X M cs hh) (hd : decode M.2.1 pc = .ok (.if_icmp .gt off, 3)) (ht : (pc : Int) + off = (tgt : Int)) (kt : y < x → gx X M kc nc w tgt ls st) (kf : ¬ (y < x) → gx X M kc nc w (pc + 3) ls st) : gx X M kc nc w pc ls (.int y :: .int x :: st) := by
  obtain ⟨p, l, e, R, s, m, args, below, meth, c, D, A, Q⟩ := X
  intro H locs lsA hP hD hS hl
  exact lv_icmp_gt C.1 C.2.1 hd ht (fun z => (kt z H locs lsA hP hD hS hl)) (fun z => (kf z H locs lsA hP hD hS hl))
theorem gy_icmp_ge {x y : Int32} {off : Int} (tgt : Nat) (C : gx_C X M cs hh) (hd : decode M.2.1 pc = .ok (.if_icmp .ge off, 3)) (ht : (pc : Int) + off = (tgt : Int)) (kt : y ≤ x → gx X M kc nc w tgt ls st) (kf : ¬ (y ≤ x) → gx X M kc nc w (pc + 3) ls st) : gx X M kc nc w pc ls (.int y :: .int x :: st) := by
  obtain ⟨p, l, e, R, s, m, args, below, meth, c, D, A, Q⟩ := X
  intro H locs lsA hP hD hS hl
  exact lv_icmp_ge C.1 C.2.1 hd ht (fun z => (kt z H locs lsA hP hD hS hl)) (fun z => (kf z H locs lsA hP hD hS hl))
theorem gy_icmp_lt {x y : Int32} {off : Int} (tgt : Nat) (C : gx_C X M cs hh) (hd : decode M.2.1 pc = .ok (.if_icmp .lt off, 3)) (ht : (pc : Int) + off = (tgt : Int)) (kt : x < y → gx X M kc nc w tgt ls st) (kf : ¬ (x < y) → gx X M kc nc w (pc + 3) ls st) : gx X M kc nc w pc ls (.int y :: .int x :: st) := by
  obtain ⟨p, l, e, R, s, m, args, below, meth, c, D, A, Q⟩ := X
  intro H locs lsA hP hD hS hl
  exact lv_icmp_lt C.1 C.2.1 hd ht (fun z => (kt z H locs lsA hP hD hS hl)) (fun z => (kf z H locs lsA hP hD hS hl))
theorem gy_icmp_le {x y : Int32} {off : Int} (tgt : Nat) (C : gx_C X M cs hh) (hd : decode M.2.1 pc = .ok (.if_icmp .le off, 3)) (ht : (pc : Int) + off = (tgt : Int)) (kt : x ≤ y → gx X M kc nc w tgt ls st) (kf : ¬ (x ≤ y) → gx X M kc nc w (pc + 3) ls st) : gx X M kc nc w pc ls (.int y :: .int x :: st) := by
  obtain ⟨p, l, e, R, s, m, args, below, meth, c, D, A, Q⟩ := X
  intro H locs lsA hP hD hS hl
  exact lv_icmp_le C.1 C.2.1 hd ht (fun z => (kt z H locs lsA hP hD hS hl)) (fun z => (kf z H locs lsA hP hD hS hl))
theorem gy_goto {off : Int} (tgt : Nat) (C : gx_C X M cs hh) (hd : decode M.2.1 pc = .ok (.goto off, 3)) (ht : (pc : Int) + off = (tgt : Int)) (n : gx X M kc nc w tgt ls st) : gx X M kc nc w pc ls st := by
  obtain ⟨p, l, e, R, s, m, args, below, meth, c, D, A, Q⟩ := X
  intro H locs lsA hP hD hS hl
  exact lv_goto C.1 C.2.1 hd ht (n H locs lsA hP hD hS hl)
theorem gy_tableIn {dflt lo hi : Int} {offs : Array Int} {len : Nat} {x : Int32} {off : Int} (tgt : Nat) (C : gx_C X M cs hh) (hd : decode M.2.1 pc = .ok (.tableswitch dflt lo hi offs, len)) (h1 : ¬ x.toInt < lo) (h2 : ¬ hi < x.toInt) (ho : offs[(x.toInt - lo).toNat]? = some off) (ht : (pc : Int) + off = (tgt : Int)) (n : gx X M kc nc w tgt ls st) : gx X M kc nc w pc ls (.int x :: st) := by
  obtain ⟨p, l, e, R, s, m, args, below, meth, c, D, A, Q⟩ := X
  intro H locs lsA hP hD hS hl
  exact lv_tableIn C.1 C.2.1 hd h1 h2 ho ht (n H locs lsA hP hD hS hl)
theorem gy_tableOut {dflt lo hi : Int} {offs : Array Int} {len : Nat} {x : Int32} (tgt : Nat) (C : gx_C X M cs hh) (hd : decode M.2.1 pc = .ok (.tableswitch dflt lo hi offs, len)) (hh : x.toInt < lo ∨ hi < x.toInt) (ht : (pc : Int) + dflt = (tgt : Int)) (n : gx X M kc nc w tgt ls st) : gx X M kc nc w pc ls (.int x :: st) := by
  obtain ⟨p, l, e, R, s, m, args, below, meth, c, D, A, Q⟩ := X
  intro H locs lsA hP hD hS hl
  exact lv_tableOut C.1 C.2.1 hd hh ht (n H locs lsA hP hD hS hl)
theorem gy_weak {l2 : List (Option Value)} (hs : gz_sub l2 ls) (nx : gx X M kc nc w pc l2 st) : gx X M kc nc w pc ls st := by
  obtain ⟨p, l, e, R, s, m, args, below, meth, c, D, A, Q⟩ := X
  intro H locs lsA hP hD hS hl
  exact nx H locs lsA hP hD hS (hl.sub hs)
theorem gy_ls {l2 : List (Option Value)} (he : ls = l2) (nx : gx X M kc nc w pc l2 st) : gx X M kc nc w pc ls st := by subst he; exact nx
theorem gy_w {w2 : va_W} (he : w = w2) (nx : gx X M kc nc w2 pc ls st) : gx X M kc nc w pc ls st := by subst he; exact nx
theorem gy_st {st2 : List Value} (he : st = st2) (nx : gx X M kc nc w pc ls st2) : gx X M kc nc w pc ls st := by subst he; exact nx
theorem gy_widen {k2 n2 : Nat} (h1 : kc ≤ k2) (h2 : nc ≤ n2) (nx : gx X M k2 n2 w pc ls st) : gx X M kc nc w pc ls st := by
  obtain ⟨p, l, e, R, s, m, args, below, meth, c, D, A, Q⟩ := X
  intro H locs lsA hP hD hS hl
  exact W.widen h1 h2 (nx H locs lsA hP hD hS hl)
theorem gy_sub {w2 : va_W} (is : List Nat) (hn : va_nd is = true) (hs : is.map (fun i => w[i]?) = w2.map some) (nx : gx X M kc nc w2 pc ls st) : gx X M kc nc w pc ls st := by
  obtain ⟨p, l, e, R, s, m, args, below, meth, c, D, A, Q⟩ := X
  intro H locs lsA hP hD hS hl
  have h2 : is.filterMap (fun i => w[i]?) = w2 := by
    have e : is.filterMap (fun i => w[i]?) = (is.map (fun i => w[i]?)).filterMap id := by rw [List.filterMap_map]; rfl
    rw [e, hs, List.filterMap_map]
    show List.filterMap some w2 = w2
    exact List.filterMap_some
  exact nx H locs lsA (hP.sub is h2) (hD.sub is hn hs) hS hl
theorem gy_new {ix ci N : Nat} {fs : List Value} (C : gx_C X M cs hh) (hd : decode M.2.1 pc = .ok (.new ix, 3)) (hci : ci < 13) (hN : gz_nf ci = N) (h1 : Cond.classLink M.1.cls ix (gz_kR ci) ∈ gz_U) (h2 : Cond.instantiable (gz_kR ci) (gz_nf ci) ∈ gz_U) (h3 : Cond.initialized (gz_kR ci) ∈ gz_U) (hfs : ∀ j, j < gz_nf ci → defaultValue (gz_kY ci j) = vp_V fs j) (hR : gx_ok X (kc + 1) (nc + N))
    (nx : ∀ q : Nat, gx X M (kc + 1) (nc + N) (w ++ [(q, .inr (ci, fs))]) (pc + 3) ls (.ref q :: st)) : gx X M kc nc w pc ls st := by
  subst hN
  obtain ⟨p, l, e, R, s, m, args, below, meth, c, D, A, Q⟩ := X
  intro H locs lsA hP hD hS hl
  exact va_new (C := gz_kR ci) (T := gz_kT ci) (N := gz_nf ci) C.1 C.2.1 C.2.2.2.2.2.2.1 (gz_uw hci) (gz_kY ci) (gz_tyok hci) C.2.2.2.2.2.1 (C.2.2.2.2.2.2.1 _ h1) (C.2.2.2.2.2.2.1 _ h2) (C.2.2.2.2.2.2.1 _ h3) C.2.2.2.2.2.2.2.1 hP hD hS C.2.2.2.2.2.2.2.2.2.1 (gz_cl hci) hfs hR.1 hR.2 hd (fun q H1 hP hD hS => nx q H1 locs lsA hP hD hS hl)
theorem gx_cA {D : va_G} {s : State} {cA : ClassId} {i : Nat} {ty : FieldType} (hK : va_K D vwCl (gz_ty cs) s) (hi : (gz_ty cs)[i]? = some (cs i, ty)) (hK2 : va_K D vwCl (gz_ty cs ++ [(cA, ty)]) s) : cA = cs i := by
  have h1 := (hK.2 i _ hi).2
  have h2 := (hK2.2 5 (cA, ty) rfl).2
  cases ty with
  | object C =>
    obtain ⟨_, _, _, _, _, a1⟩ := h1
    obtain ⟨_, _, _, _, _, a2⟩ := h2
    exact Option.some.inj (a2.symm.trans a1)
  | _ =>
    have h1 : s.vm.findClass _ = some (cs i) := h1
    have h2 : s.vm.findClass _ = some cA := h2
    exact Option.some.inj (h2.symm.trans h1)
theorem gy_newaI {n0 : Int32} {N : Nat} (C : gx_C X M cs hh) (hd : decode M.2.1 pc = .ok (.newarray .int, 2)) (hw : Cond.arrayClass .int ∈ gz_U) (hn : ¬ n0 < 0) (hN : n0.toNatClampNeg = N) (hb : N ≤ 100000) (hR : gx_ok X (kc + 1) (nc + N))
    (nx : ∀ q : Nat, gx X M (kc + 1) (nc + N) (w ++ [(q, .inl (cs 0, N, .inl (fun _ => 0)))]) (pc + 2) ls (.ref q :: st)) : gx X M kc nc w pc ls (.int n0 :: st) := by
  obtain ⟨p, l, e, R, s, m, args, below, meth, c, D, A, Q⟩ := X
  intro H locs lsA hP hD hS hl
  refine va_newa (atype := .int) (ty := .int) (a0 := (N, .inl (fun _ => 0))) C.1 C.2.1 (C.2.2.2.2.2.2.1 _ hw) rfl C.2.2.2.2.2.2.2.1 hP hD hS C.2.2.2.2.2.2.2.2.2.1 (fun cA => rfl) hn hN (by show N * 4 ≤ 536870912; omega) hR.1 hR.2 hd (fun q cA H1 hK1 hP hD hS => ?_)
  have := gx_cA (i := 0) C.2.2.2.2.2.2.2.1 rfl hK1
  subst this
  exact nx q H1 locs lsA hP hD hS hl
theorem gy_newaB {n0 : Int32} {N : Nat} (C : gx_C X M cs hh) (hd : decode M.2.1 pc = .ok (.newarray .byte, 2)) (hw : Cond.arrayClass .byte ∈ gz_U) (hn : ¬ n0 < 0) (hN : n0.toNatClampNeg = N) (hb : N ≤ 100000) (hR : gx_ok X (kc + 1) (nc + N))
    (nx : ∀ q : Nat, gx X M (kc + 1) (nc + N) (w ++ [(q, .inl (cs 1, N, .inl (fun _ => 0)))]) (pc + 2) ls (.ref q :: st)) : gx X M kc nc w pc ls (.int n0 :: st) := by
  obtain ⟨p, l, e, R, s, m, args, below, meth, c, D, A, Q⟩ := X
  intro H locs lsA hP hD hS hl
  refine va_newa (atype := .byte) (ty := .byte) (a0 := (N, .inl (fun _ => 0))) C.1 C.2.1 (C.2.2.2.2.2.2.1 _ hw) rfl C.2.2.2.2.2.2.2.1 hP hD hS C.2.2.2.2.2.2.2.2.2.1 (fun cA => rfl) hn hN (by show N * 1 ≤ 536870912; omega) hR.1 hR.2 hd (fun q cA H1 hK1 hP hD hS => ?_)
  have := gx_cA (i := 1) C.2.2.2.2.2.2.2.1 rfl hK1
  subst this
  exact nx q H1 locs lsA hP hD hS hl
theorem gy_newaL {n0 : Int32} {N : Nat} (C : gx_C X M cs hh) (hd : decode M.2.1 pc = .ok (.newarray .long, 2)) (hw : Cond.arrayClass .long ∈ gz_U) (hn : ¬ n0 < 0) (hN : n0.toNatClampNeg = N) (hb : N ≤ 100000) (hR : gx_ok X (kc + 1) (nc + N))
    (nx : ∀ q : Nat, gx X M (kc + 1) (nc + N) (w ++ [(q, .inl (cs 2, N, .inr (.inl (fun _ => 0))))]) (pc + 2) ls (.ref q :: st)) : gx X M kc nc w pc ls (.int n0 :: st) := by
  obtain ⟨p, l, e, R, s, m, args, below, meth, c, D, A, Q⟩ := X
  intro H locs lsA hP hD hS hl
  refine va_newa (atype := .long) (ty := .long) (a0 := (N, .inr (.inl (fun _ => 0)))) C.1 C.2.1 (C.2.2.2.2.2.2.1 _ hw) rfl C.2.2.2.2.2.2.2.1 hP hD hS C.2.2.2.2.2.2.2.2.2.1 (fun cA => rfl) hn hN (by show N * 8 ≤ 536870912; omega) hR.1 hR.2 hd (fun q cA H1 hK1 hP hD hS => ?_)
  have := gx_cA (i := 2) C.2.2.2.2.2.2.2.1 rfl hK1
  subst this
  exact nx q H1 locs lsA hP hD hS hl
theorem gy_newq {n0 : Int32} {N ix i : Nat} {cn : String} (C : gx_C X M cs hh) (hd : decode M.2.1 pc = .ok (.anewarray ix, 3)) (hw : Cond.classLink M.1.cls ix cn ∈ gz_U) (hcn : (i = 3 ∧ cn = "PrintsGoOn$Law") ∨ (i = 4 ∧ cn = "PrintsGoOn$Evening")) (hn : ¬ n0 < 0) (hN : n0.toNatClampNeg = N) (hb : N ≤ 100000) (hR : gx_ok X (kc + 1) (nc + N))
    (nx : ∀ q : Nat, gx X M (kc + 1) (nc + N) (w ++ [(q, .inl (cs i, N, .inr (.inr (.inr (.inr (fun _ => none))))))]) (pc + 3) ls (.ref q :: st)) : gx X M kc nc w pc ls (.int n0 :: st) := by
  obtain ⟨p, l, e, R, s, m, args, below, meth, c, D, A, Q⟩ := X
  intro H locs lsA hP hD hS hl
  have hao : va_AO cn s := by
    rcases hcn with ⟨_, rfl⟩ | ⟨_, rfl⟩
    · exact C.2.2.2.2.2.2.2.2.1.2.2.2.2.1.1
    · exact C.2.2.2.2.2.2.2.2.1.2.2.2.2.1.2
  refine va_newq (C := cn) C.1 C.2.1 C.2.2.2.2.2.1 (C.2.2.2.2.2.2.1 _ hw) hao C.2.2.2.2.2.2.2.1 hP hD hS C.2.2.2.2.2.2.2.2.2.1 hn hN (by omega) hR.1 hR.2 hd (fun q cA H1 hK1 hP hD hS => ?_)
  have : cA = cs i := by
    rcases hcn with ⟨rfl, rfl⟩ | ⟨rfl, rfl⟩
    · exact gx_cA (i := 3) C.2.2.2.2.2.2.2.1 rfl hK1
    · exact gx_cA (i := 4) C.2.2.2.2.2.2.2.1 rfl hK1
  subst this
  exact nx q H1 locs lsA hP hD hS hl
theorem gy_objInit {ix a : Nat} (C : gx_C X M cs hh) (hd : decode M.2.1 pc = .ok (.invokespecial ix, 3)) (h1 : Cond.methodLink M.1.cls ix objectInit ∈ gz_U) (h2 : Cond.instanceMethod objectInit ∈ gz_U) (h3 : Cond.code objectInit ⟨#[0xb1]⟩ 1 none ∈ gz_U) (hh1 : 1 ≤ hh) (hst : (st.map fun v => v.category).sum ≤ 8)
    (nx : gx X M kc nc w (pc + 3) ls st) : gx X M kc nc w pc ls (.ref a :: st) := by
  obtain ⟨p, l, e, R, s, m, args, below, meth, c, D, A, Q⟩ := X
  intro H locs lsA hP hD hS hl
  have hr := lv_room (m := m) (pc := pc) (ls := lsA) (rest := (.ref a :: st)) hst
  have hf : hh ≤ R.frames := C.2.2.2.2.2.2.2.2.2.2.1
  have hlo : 64 * hh ≤ R.locals := C.2.2.2.2.2.2.2.2.2.2.2
  exact W.objInit C.1 C.2.1 C.2.2.2.2.2.1 (C.2.2.2.2.2.2.1 _ h1) (C.2.2.2.2.2.2.1 _ h2) (C.2.2.2.2.2.2.1 _ h3) (g := F0 m pc lsA (.ref a :: st)) rfl (by rw [C.2.2.1]; exact hl.1) rfl hd (by omega) (by omega) (W.eq (g2 := F0 m (pc + 3) lsA st) rfl (nx H locs lsA hP hD hS hl))
theorem gy_put {q ci kf ix a : Nat} {fs : List Value} {v : Value} (C : gx_C X M cs hh) (hd : decode M.2.1 pc = .ok (.putfield ix, 3)) (hf : gz_fl M.1.cls ix ci kf) (he : w[q]? = some (a, .inr (ci, fs))) (hn : narrow (gz_kY ci kf) v = v) (hft : fits (gz_kY ci kf) v = true) (hfin : (gz_kT ci kf).2.2.2 = false) (hlen : kf < fs.length)
    (nx : gx X M kc nc (w.set q (a, .inr (ci, fs.set kf v))) (pc + 3) ls st) : gx X M kc nc w pc ls (v :: .ref a :: st) := by
  obtain ⟨p, l, e, R, s, m, args, below, meth, c, D, A, Q⟩ := X
  intro H locs lsA hP hD hS hl
  exact va_put (D := D) (ty := gz_kY ci kf) (C := gz_kR ci) (T := gz_kT ci) (N := gz_nf ci) C.1 C.2.1 C.2.2.2.2.2.2.1 (gz_uw hf.1) (gz_kY ci) (gz_tyok hf.1) (gz_nmok hf.1) C.2.2.2.2.2.1 C.2.2.2.2.2.2.2.1 hP hD hS q he (gz_cl hf.1) kf hf.2.1 (C.2.2.2.2.2.2.1 _ hf.2.2) (fun _ h => h) hfin (gz_tyok hf.1 kf hf.2.1) hn hft hlen hd (fun H locs hP hD2 hS => nx H locs lsA hP hD2 hS hl)
theorem gy_putF {q ci kf ix a : Nat} {fs : List Value} {v : Value} (C : gx_C X M cs hh) (I : gx_I X) (hd : decode M.2.1 pc = .ok (.putfield ix, 3)) (hf : gz_fl M.1.cls ix ci kf) (he : w[q]? = some (a, .inr (ci, fs))) (hn : narrow (gz_kY ci kf) v = v) (hft : fits (gz_kY ci kf) v = true) (hfin : (gz_kT ci kf).2.2.2 = true) (hdc : (gz_kT ci kf).1 = M.1.cls) (hlen : kf < fs.length)
    (nx : gx X M kc nc (w.set q (a, .inr (ci, fs.set kf v))) (pc + 3) ls st) : gx X M kc nc w pc ls (v :: .ref a :: st) := by
  obtain ⟨p, l, e, R, s, m, args, below, meth, c, D, A, Q⟩ := X
  intro H locs lsA hP hD hS hl
  exact va_putF (D := D) (ty := gz_kY ci kf) (C := gz_kR ci) (T := gz_kT ci) (N := gz_nf ci) C.1 C.2.1 C.2.2.2.2.2.2.1 (gz_uw hf.1) (gz_kY ci) (gz_tyok hf.1) (gz_nmok hf.1) C.2.2.2.2.2.1 C.2.2.2.2.2.2.2.1 hP hD hS q he (gz_cl hf.1) kf hf.2.1 (C.2.2.2.2.2.2.1 _ hf.2.2) (fun _ h => h) hfin I hdc (gz_tyok hf.1 kf hf.2.1) hn hft hlen hd (fun H locs hP hD2 hS => nx H locs lsA hP hD2 hS hl)
theorem gy_get {q ci kf ix a : Nat} {fs : List Value} {v : Value} (C : gx_C X M cs hh) (hd : decode M.2.1 pc = .ok (.getfield ix, 3)) (hf : gz_fl M.1.cls ix ci kf) (he : w[q]? = some (a, .inr (ci, fs))) (hv : fs[kf]? = some v)
    (nx : gx X M kc nc w (pc + 3) ls (v :: st)) : gx X M kc nc w pc ls (.ref a :: st) := by
  obtain ⟨p, l, e, R, s, m, args, below, meth, c, D, A, Q⟩ := X
  intro H locs lsA hP hD hS hl
  exact va_get (D := D) (v := v) (C := gz_kR ci) (T := gz_kT ci) (N := gz_nf ci) C.1 C.2.1 C.2.2.2.2.2.2.1 (gz_uw hf.1) C.2.2.2.2.2.1 C.2.2.2.2.2.2.2.1 hP q he (gz_cl hf.1) kf hf.2.1 (C.2.2.2.2.2.2.1 _ hf.2.2) (fun _ h => h) hv hd (nx H locs lsA hP hD hS hl)
theorem gy_ret {Ph : Option Value → va_W → Prop} (C : gx_C X M cs hh) (E : gx_E X kc nc Ph) (hd : decode M.2.1 pc = .ok (.return_, 1)) (hr : M.2.2.2 = none) (hq : Ph none w) : gx X M kc nc w pc ls [] := by
  obtain ⟨p, l, e, R, s, m, args, below, meth, c, D, A, Q⟩ := X
  have E : Q = MQ below (gx_Q D A Ph) args s kc nc A := E
  subst E
  intro H locs lsA hP hD hS hl
  exact W.vret C.1 C.2.1 (C.2.2.2.1.trans hr) (fun t ht hW => ⟨⟨none, w, rfl, hq, by rw [ht]; exact hP, hD⟩, hS.F ht⟩) hS.2.2 hd C.2.2.2.2.1
theorem gy_iret {x : Int32} {Ph : Option Value → va_W → Prop} (C : gx_C X M cs hh) (E : gx_E X kc nc Ph) (hd : decode M.2.1 pc = .ok (.ireturn, 1)) (hr : M.2.2.2 = some .int) (hq : Ph (some (.int x)) w) : gx X M kc nc w pc ls [.int x] := by
  obtain ⟨p, l, e, R, s, m, args, below, meth, c, D, A, Q⟩ := X
  have E : Q = MQ below (gx_Q D A Ph) args s kc nc A := E
  subst E
  intro H locs lsA hP hD hS hl
  exact W.zret C.1 C.2.1 (C.2.2.2.1.trans hr) rfl (fun t ht hW => ⟨⟨some (.int x), w, rfl, hq, by rw [ht]; exact hP, hD⟩, hS.F ht⟩) hS.2.2 hd C.2.2.2.2.1
theorem gy_aret {x : Nat} {rt : FieldType} {Ph : Option Value → va_W → Prop} (C : gx_C X M cs hh) (E : gx_E X kc nc Ph) (hd : decode M.2.1 pc = .ok (.areturn, 1)) (hr : M.2.2.2 = some rt) (hrt : (∃ n, rt = .object n) ∨ ∃ t, rt = .array t) (hq : Ph (some (.ref x)) w) : gx X M kc nc w pc ls [.ref x] := by
  obtain ⟨p, l, e, R, s, m, args, below, meth, c, D, A, Q⟩ := X
  have E : Q = MQ below (gx_Q D A Ph) args s kc nc A := E
  subst E
  intro H locs lsA hP hD hS hl
  exact W.aret C.1 C.2.1 (C.2.2.2.1.trans hr) hrt (Or.inr ⟨_, rfl⟩) (fun t ht hW => ⟨⟨some (.ref x), w, rfl, hq, by rw [ht]; exact hP, hD⟩, hS.F ht⟩) hS.2.2 hd C.2.2.2.2.1
end GX
