/-! the goer that throws, and the law that catches -/
abbrev mX11_goer : gz_M := (yX11_goer, cX11_goer, 3, some .int)
theorem dX11_goer_0 : decode mX11_goer.2.1 0 = .ok (.aload_n 0, 1) := by decide +kernel
theorem dX11_goer_1 : decode mX11_goer.2.1 1 = .ok (.getfield 58, 3) := by decide +kernel
theorem dX11_goer_4 : decode mX11_goer.2.1 4 = .ok (.iload_n 1, 1) := by decide +kernel
theorem dX11_goer_5 : decode mX11_goer.2.1 5 = .ok (.invokevirtual 166, 3) := by decide +kernel
theorem dX11_goer_8 : decode mX11_goer.2.1 8 = .ok (.ifCond .ne 13, 3) := by decide +kernel
theorem dX11_goer_11 : decode mX11_goer.2.1 11 = .ok (.new 169, 3) := by decide +kernel
theorem dX11_goer_14 : decode mX11_goer.2.1 14 = .ok (.dup, 1) := by decide +kernel
theorem dX11_goer_15 : decode mX11_goer.2.1 15 = .ok (.ldc 171, 2) := by decide +kernel
theorem dX11_goer_17 : decode mX11_goer.2.1 17 = .ok (.invokespecial 173, 3) := by decide +kernel
theorem dX11_goer_20 : decode mX11_goer.2.1 20 = .ok (.athrow, 1) := by decide +kernel
theorem dX11_goer_21 : decode mX11_goer.2.1 21 = .ok (.iload_n 2, 1) := by decide +kernel
theorem dX11_goer_22 : decode mX11_goer.2.1 22 = .ok (.tableswitch 99 0 4 #[34, 47, 60, 73, 86], 34) := by decide +kernel
theorem dX11_goer_56 : decode mX11_goer.2.1 56 = .ok (.aload_n 0, 1) := by decide +kernel
theorem dX11_goer_57 : decode mX11_goer.2.1 57 = .ok (.getfield 58, 3) := by decide +kernel
theorem dX11_goer_60 : decode mX11_goer.2.1 60 = .ok (.getfield 176, 3) := by decide +kernel
theorem dX11_goer_63 : decode mX11_goer.2.1 63 = .ok (.bipush 30, 2) := by decide +kernel
theorem dX11_goer_65 : decode mX11_goer.2.1 65 = .ok (.iload_n 1, 1) := by decide +kernel
theorem dX11_goer_66 : decode mX11_goer.2.1 66 = .ok (.iadd, 1) := by decide +kernel
theorem dX11_goer_67 : decode mX11_goer.2.1 67 = .ok (.iaload, 1) := by decide +kernel
theorem dX11_goer_68 : decode mX11_goer.2.1 68 = .ok (.ireturn, 1) := by decide +kernel
theorem dX11_goer_69 : decode mX11_goer.2.1 69 = .ok (.aload_n 0, 1) := by decide +kernel
theorem dX11_goer_70 : decode mX11_goer.2.1 70 = .ok (.getfield 58, 3) := by decide +kernel
theorem dX11_goer_73 : decode mX11_goer.2.1 73 = .ok (.getfield 176, 3) := by decide +kernel
theorem dX11_goer_76 : decode mX11_goer.2.1 76 = .ok (.bipush 34, 2) := by decide +kernel
theorem dX11_goer_78 : decode mX11_goer.2.1 78 = .ok (.iload_n 1, 1) := by decide +kernel
theorem dX11_goer_79 : decode mX11_goer.2.1 79 = .ok (.iadd, 1) := by decide +kernel
theorem dX11_goer_80 : decode mX11_goer.2.1 80 = .ok (.iaload, 1) := by decide +kernel
theorem dX11_goer_81 : decode mX11_goer.2.1 81 = .ok (.ireturn, 1) := by decide +kernel
theorem dX11_goer_82 : decode mX11_goer.2.1 82 = .ok (.aload_n 0, 1) := by decide +kernel
theorem dX11_goer_83 : decode mX11_goer.2.1 83 = .ok (.getfield 58, 3) := by decide +kernel
theorem dX11_goer_86 : decode mX11_goer.2.1 86 = .ok (.getfield 176, 3) := by decide +kernel
theorem dX11_goer_89 : decode mX11_goer.2.1 89 = .ok (.bipush 50, 2) := by decide +kernel
theorem dX11_goer_91 : decode mX11_goer.2.1 91 = .ok (.iload_n 1, 1) := by decide +kernel
theorem dX11_goer_92 : decode mX11_goer.2.1 92 = .ok (.iadd, 1) := by decide +kernel
theorem dX11_goer_93 : decode mX11_goer.2.1 93 = .ok (.iaload, 1) := by decide +kernel
theorem dX11_goer_94 : decode mX11_goer.2.1 94 = .ok (.ireturn, 1) := by decide +kernel
theorem dX11_goer_95 : decode mX11_goer.2.1 95 = .ok (.aload_n 0, 1) := by decide +kernel
theorem dX11_goer_96 : decode mX11_goer.2.1 96 = .ok (.getfield 58, 3) := by decide +kernel
theorem dX11_goer_99 : decode mX11_goer.2.1 99 = .ok (.getfield 176, 3) := by decide +kernel
theorem dX11_goer_102 : decode mX11_goer.2.1 102 = .ok (.bipush 38, 2) := by decide +kernel
theorem dX11_goer_104 : decode mX11_goer.2.1 104 = .ok (.iload_n 1, 1) := by decide +kernel
theorem dX11_goer_105 : decode mX11_goer.2.1 105 = .ok (.iadd, 1) := by decide +kernel
theorem dX11_goer_106 : decode mX11_goer.2.1 106 = .ok (.iaload, 1) := by decide +kernel
theorem dX11_goer_107 : decode mX11_goer.2.1 107 = .ok (.ireturn, 1) := by decide +kernel
theorem dX11_goer_108 : decode mX11_goer.2.1 108 = .ok (.aload_n 0, 1) := by decide +kernel
theorem dX11_goer_109 : decode mX11_goer.2.1 109 = .ok (.getfield 58, 3) := by decide +kernel
theorem dX11_goer_112 : decode mX11_goer.2.1 112 = .ok (.getfield 176, 3) := by decide +kernel
theorem dX11_goer_115 : decode mX11_goer.2.1 115 = .ok (.bipush 42, 2) := by decide +kernel
theorem dX11_goer_117 : decode mX11_goer.2.1 117 = .ok (.iload_n 1, 1) := by decide +kernel
theorem dX11_goer_118 : decode mX11_goer.2.1 118 = .ok (.iadd, 1) := by decide +kernel
theorem dX11_goer_119 : decode mX11_goer.2.1 119 = .ok (.iaload, 1) := by decide +kernel
theorem dX11_goer_120 : decode mX11_goer.2.1 120 = .ok (.ireturn, 1) := by decide +kernel
theorem dX11_goer_121 : decode mX11_goer.2.1 121 = .ok (.new 169, 3) := by decide +kernel
theorem dX11_goer_124 : decode mX11_goer.2.1 124 = .ok (.dup, 1) := by decide +kernel
theorem dX11_goer_125 : decode mX11_goer.2.1 125 = .ok (.ldc 180, 2) := by decide +kernel
theorem dX11_goer_127 : decode mX11_goer.2.1 127 = .ok (.invokespecial 173, 3) := by decide +kernel
theorem dX11_goer_130 : decode mX11_goer.2.1 130 = .ok (.athrow, 1) := by decide +kernel
theorem mkX11_goer : gz_mk mX11_goer 2 := ⟨by decide +kernel, ⟨by decide +kernel, by decide +kernel, by decide +kernel⟩, (gz_mem 1199 (by decide +kernel) (by decide +kernel)), by decide, (gz_mem 108 (by decide +kernel) (by decide +kernel))⟩
theorem mvL_7 : gz_mv RL 7 mX11_goer 2 := ⟨mkX11_goer, (gz_mem 1196 (by decide +kernel) (by decide +kernel)), (gz_mem 1197 (by decide +kernel) (by decide +kernel)), (gz_mem 1198 (by decide +kernel) (by decide +kernel))⟩
abbrev mL_goer : gz_M := (yL_goer, cL_goer, 5, some .int)
theorem dL_goer_0 : decode mL_goer.2.1 0 = .ok (.aload_n 3, 1) := by decide +kernel
theorem dL_goer_1 : decode mL_goer.2.1 1 = .ok (.iconst 0, 1) := by decide +kernel
theorem dL_goer_2 : decode mL_goer.2.1 2 = .ok (.aload_n 0, 1) := by decide +kernel
theorem dL_goer_3 : decode mL_goer.2.1 3 = .ok (.iload_n 1, 1) := by decide +kernel
theorem dL_goer_4 : decode mL_goer.2.1 4 = .ok (.iload_n 2, 1) := by decide +kernel
theorem dL_goer_5 : decode mL_goer.2.1 5 = .ok (.invokevirtual 7, 3) := by decide +kernel
theorem dL_goer_8 : decode mL_goer.2.1 8 = .ok (.i2l, 1) := by decide +kernel
theorem dL_goer_9 : decode mL_goer.2.1 9 = .ok (.lastore, 1) := by decide +kernel
theorem dL_goer_10 : decode mL_goer.2.1 10 = .ok (.goto 7, 3) := by decide +kernel
theorem dL_goer_13 : decode mL_goer.2.1 13 = .ok (.astore 4, 2) := by decide +kernel
theorem dL_goer_15 : decode mL_goer.2.1 15 = .ok (.iconst 1, 1) := by decide +kernel
theorem dL_goer_16 : decode mL_goer.2.1 16 = .ok (.ireturn, 1) := by decide +kernel
theorem dL_goer_17 : decode mL_goer.2.1 17 = .ok (.iconst 0, 1) := by decide +kernel
theorem dL_goer_18 : decode mL_goer.2.1 18 = .ok (.ireturn, 1) := by decide +kernel
theorem xg_k1 : Cond.classLink RX11 169 "java/util/NoSuchElementException" ∈ gz_U := gz_mem 1200 (by decide +kernel) (by decide +kernel)
theorem xg_k2 : Cond.initialized "java/util/NoSuchElementException" ∈ gz_U := gz_mem 131 (by decide +kernel) (by decide +kernel)
theorem xg_k3 : Cond.classLink RL 13 "java/util/NoSuchElementException" ∈ gz_U := gz_mem 1195 (by decide +kernel) (by decide +kernel)
theorem xg_k4 : Cond.codeWith yL_goer cL_goer 5 (some .int) [(0, 10, 13, 13)] ∈ gz_U := gz_mem 1194 (by decide +kernel) (by decide +kernel)
theorem xg_k5 : Cond.methodLink RL 42 yL_goer ∈ gz_U ∧ Cond.static yL_goer ∈ gz_U ∧ Cond.initialized RL ∈ gz_U := ⟨(gz_mem 1192 (by decide +kernel) (by decide +kernel)), (gz_mem 1193 (by decide +kernel) (by decide +kernel)), (gz_mem 107 (by decide +kernel) (by decide +kernel))⟩
def gx_B : List Cond := [.castable gx_N gx_N, .declares (Bundle.initS "java/lang/RuntimeException"), .declares (Bundle.initS "java/lang/Exception"), .declares (Bundle.initS Bundle.tN)]
/-- what a throw rests on -/
def gx_EX (cs : Nat → ClassId) (A : Nat → Prop) (U : State) (H : Heap) : Prop :=
  (va_Nw (.castable gx_N gx_N) U ∧ va_Nw (.declares (Bundle.initS "java/lang/RuntimeException")) U ∧ va_Nw (.declares (Bundle.initS "java/lang/Exception")) U ∧ va_Nw (.declares (Bundle.initS Bundle.tN)) U) ∧
  (vk_R "PrintsGoOn" 171 "no such goer" (cs 12) U ∧ vk_R "PrintsGoOn" 180 "nothing of this kind is told of a goer" (cs 13) U) ∧ vx_Zq Bundle.tN "UNASSIGNED_STACK" Bundle.steD A U H ∧ vx_Zq Bundle.tN "SUPPRESSED_SENTINEL" Bundle.listD A U H
theorem gx_EX.warm {cs : Nat → ClassId} {A : Nat → Prop} {s U : State} {H : Heap} (hW : s.WarmedH U.vm) (h : gx_EX cs A s H) : gx_EX cs A U H :=
  ⟨⟨va_Nw.warmC hW h.1.1, va_Nw.warmD hW h.1.2.1, va_Nw.warmD hW h.1.2.2.1, va_Nw.warmD hW h.1.2.2.2⟩, ⟨vk_R.warm hW h.2.1.1, vk_R.warm hW h.2.1.2⟩, vx_Zq.moved hW.alike h.2.2.1, vx_Zq.moved hW.alike h.2.2.2⟩
theorem gx_EX.same {cs : Nat → ClassId} {A : Nat → Prop} {u U : State} {H : Heap} (hv : u.vm = U.vm) (h : gx_EX cs A u H) : gx_EX cs A U H :=
  ⟨⟨va_Nw.same rfl hv h.1.1, va_Nw.same rfl hv h.1.2.1, va_Nw.same rfl hv h.1.2.2.1, va_Nw.same rfl hv h.1.2.2.2⟩, ⟨vk_R.same hv.symm h.2.1.1, vk_R.same hv.symm h.2.1.2⟩, vx_Zq.moved (by rw [hv]; exact Vm.Alike.refl _) h.2.2.1, vx_Zq.moved (by rw [hv]; exact Vm.Alike.refl _) h.2.2.2⟩
theorem gx_EX.kept {cs : Nat → ClassId} {A : Nat → Prop} {U : State} {H H1 : Heap} (h : gx_EX cs A U H) (hq : ∀ a : Nat, a < H.size → ¬ A a → H1[a]? = H[a]?) : gx_EX cs A U H1 := ⟨h.1, h.2.1, h.2.2.1.kept hq, h.2.2.2.kept hq⟩
theorem gx_EX.narrow {cs : Nat → ClassId} {A B : Nat → Prop} {U : State} {H : Heap} (h : gx_EX cs A U H) (hAB : ∀ q, B q → A q) : gx_EX cs B U H := ⟨h.1, h.2.1, h.2.2.1.narrow hAB, h.2.2.2.narrow hAB⟩
def gx_XC (D : va_G) (Px : va_W → Prop) (A : Nat → Prop) : String → State → State → Prop := fun E st t => E = gx_N ∧ ∃ w, Px w ∧ va_P D vwCl w t.heap ∧ va_D A w ∧ va_F A st t
def gx_Pc (D : va_G) (cs : Nat → ClassId) (av : List Value) (w : va_W) (a : Nat → Nat) (sz : Nat) : Array Value → State → Prop := va_Pc av (fun U => U.heap.size = sz ∧ va_P D vwCl w U.heap ∧ va_K D vwCl (gz_ty cs) U ∧ va_D (fun _ => True) w ∧ gx_X cs U ∧ gz_RO a (va_A w sz) U U.heap ∧ gx_EX cs (va_A w sz) U U.heap)
theorem gx_blindX {D : va_G} {cs : Nat → ClassId} {av : List Value} {w : va_W} {a : Nat → Nat} {sz : Nat} : FrameBlind (gx_Pc D cs av w a sz) := by
  intro b U f mk q
  obtain ⟨q0, q1, qP, qK, qD, qX, qR, qE⟩ := q
  exact ⟨q0, q1, qP, va_K.moved (u := U) (U := U.calling f mk b) (Vm.Alike.refl U.vm) qK, qD, gx_X.same (u := U) (U := U.calling f mk b) rfl qX, gz_RO.same (u := U) (U := U.calling f mk b) rfl qR, gx_EX.same (u := U) (U := U.calling f mk b) rfl qE⟩
def gx_KX (l : Launch) (D : va_G) (cs : Nat → ClassId) (h : Nat) (M : gz_M) (mc ms : Nat) (av : List Value) (w : va_W) (a : Nat → Nat) (Ph : Option Value → va_W → Prop) (Px : va_W → Prop) : Prop :=
  ∀ sz : Nat, vx_Met l M.1 (gz_ws M) (gx_rm h mc ms) (gx_Pc D cs av w a sz) (gx_Q D (va_A w sz) Ph) (gx_XC D Px (va_A w sz)) mc ms (va_A w sz)
def gx_EV (X : gx_T) (mc ms : Nat) (Ph : Option Value → va_W → Prop) (Px : va_W → Prop) : Prop := match X with
  | (p, l, e, R, s, m, args, below, meth, c, D, A, Q) => Q = vx_MQ below (gx_Q D A Ph) (gx_XC D Px A) args s mc ms A
def gx_RE (X : gx_T) (cs : Nat → ClassId) : Prop := match X with
  | (p, l, e, R, s, m, args, below, meth, c, D, A, Q) => gx_EX cs A s s.heap
def gx_TB (X : gx_T) : List ExceptionTableEntry := match X with
  | (p, l, e, R, s, m, args, below, meth, c, D, A, Q) => c.exceptionTable.toList
theorem gx_KX.of {l : Launch} {D : va_G} {cs : Nat → ClassId} {h : Nat} {M : gz_M} {mc ms : Nat} {av : List Value} {w : va_W} {a : Nat → Nat} {Ph : Option Value → va_W → Prop} {Px : va_W → Prop} (n : Nat) (hp : plainName M.1.cls = true) (hn : (gz_en av).length + n = M.2.2.1)
    (kk : ∀ X : gx_T, gx_l X = l → gx_D X = D → gx_C X M cs h → gx_EV X mc ms Ph Px → gx_ok X mc ms → gx_RO X a → gx_RE X cs → (∀ x ∈ gx_TB X, False) → gx X M 0 0 w 0 (gz_en av ++ List.replicate n none) []) : gx_KX l D cs h M mc ms av w a Ph Px := by
  intro sz
  refine vx_ofW (cc := M.2.1) (maxL := M.2.2.1) (ret := M.2.2.2) hp rfl ?_
  intro p e s m args below meth c s₁ B hml ht hv
  obtain ⟨rfl, hsz, hP, hK, hD0, hX, hRO, hRE⟩ := hv
  subst hsz
  have hts := atoms_spec (ws := gz_ws M) B.pre
  have hown : s.vm.findClass M.1.cls = some m.cls := findClass_of_methodNamed B.named
  have hl := lv_entry av (n := M.2.2.1) (by rw [gx_lgsl]; omega)
  rw [lg_entry_eq]
  exact kk (p, l, e, gx_rm h mc ms, s, m, _, below, meth, c, D, va_A w s.heap.size, _) rfl rfl ⟨B.exec, B.bytes, hml, B.returns, B.notSynchronized, hown, fun w hw => hts w (List.mem_cons_of_mem _ hw), hK, hX, fun q hq => Or.inr hq, Nat.le_refl _, Nat.le_refl _⟩ rfl ⟨Nat.le_refl _, Nat.le_refl _⟩ hRO hRE ht s.heap [] _ hP (hD0.self) va_S.rf
    ⟨hl.1, hl.2.1, fun q hq => hl.2.2 q (gx_en_has (by rw [gz_kn_app] at hq; exact hq))⟩
theorem gx_atg : (Cond.classLink RX11 169 gx_N :: Cond.initialized gx_N :: gx_at).all vx_ot = true := by decide +kernel
theorem gx_at0 : ∀ w ∈ gx_at.filter goodWord, w ∈ lw_tbl := by decide +kernel
theorem gx_at1 : ∀ w ∈ gx_at.filter (fun w => !goodWord w), w ∈ gx_B := by decide +kernel
/-- a frame over which something was thrown -/
def gxx (X : gx_T) (M : gz_M) (kc nc : Nat) (w : va_W) (pc : Nat) (ls : List (Option Value)) (st : List Value) (q : Nat) : Prop := match X with
  | (p, l, e, R, s, m, args, below, meth, c, D, A, Q) => ∀ (H : Heap) (locs : List Loc) (lsA : Array Slot) (ce : Cell), va_P D vwCl w H → va_D A w → va_S A s.heap H locs → gz_has id lsA M.2.2.1 ls → H[q]? = some ce → ce.vm = .none → s.vm.findClass gx_N = some ce.cls → vx_W p l e R s m args below meth c H locs kc nc Q (F0 m pc lsA st) q
section GX9
variable {X : gx_T} {M : gz_M} {cs : Nat → ClassId} {hh kc nc mc ms : Nat} {w : va_W} {pc : Nat} {ls : List (Option Value)} {st : List Value} {Ph : Option Value → va_W → Prop} {Px : va_W → Prop} {La : gz_L} {a : Nat → Nat} {g : gz_S}
theorem gy_iretX {x : Int32} (C : gx_C X M cs hh) (E : gx_EV X kc nc Ph Px) (hd : decode M.2.1 pc = .ok (.ireturn, 1)) (hr : M.2.2.2 = some .int) (hq : Ph (some (.int x)) w) : gx X M kc nc w pc ls [.int x] := by
  obtain ⟨p, l, e, R, s, m, args, below, meth, c, D, A, Q⟩ := X
  have E : Q = vx_MQ below (gx_Q D A Ph) (gx_XC D Px A) args s kc nc A := E
  subst E
  intro H locs lsA hP hD hS hl
  exact vx_ret (W.zret C.1 C.2.1 (C.2.2.2.1.trans hr) rfl (fun t ht hW => ⟨⟨some (.int x), w, rfl, hq, by rw [ht]; exact hP, hD⟩, hS.F ht⟩) hS.2.2 hd C.2.2.2.2.1)
theorem gy_throw {is z : Nat} {tx : String} (C : gx_C X M cs hh) (hM : M.1.cls = RX11) (E : gx_EV X mc ms Ph Px) (RE : gx_RE X cs) (TB : ∀ x ∈ gx_TB X, False) (hl9 : (gx_l X).stackTraces = false) (htx : (is = 171 ∧ tx = "no such goer" ∧ z = cs 12) ∨ (is = 180 ∧ tx = "nothing of this kind is told of a goer" ∧ z = cs 13))
    (d0 : decode M.2.1 pc = .ok (.new 169, 3)) (d3 : decode M.2.1 (pc + 3) = .ok (.dup, 1)) (d4 : decode M.2.1 (pc + 4) = .ok (.ldc is, 2)) (d6 : decode M.2.1 (pc + 6) = .ok (.invokespecial 173, 3)) (d9 : decode M.2.1 (pc + 9) = .ok (.athrow, 1)) (hh6 : 6 ≤ hh) (hR : gx_ok X (kc + 1) (nc + 6)) (h1 : kc + 1 ≤ mc) (h2 : nc + 6 ≤ ms) (hpx : Px w) : gx X M kc nc w pc ls [] := by
  obtain ⟨p, l, e, R, s, m, args, below, meth, c, D, A, Q⟩ := X
  have E : Q = vx_MQ below (gx_Q D A Ph) (gx_XC D Px A) args s mc ms A := E
  subst E
  intro H locs lsA hP hD hS hl
  obtain ⟨hx, hb, hml, hr, hlk, hown, hts, hK, hX, hA, hf1, hf2⟩ := C
  have RE : gx_EX cs A s s.heap := RE
  have hl9 : l.stackTraces = false := hl9
  rw [hM] at hown
  have hstr : vk_R RX11 is tx z s := by
    rcases htx with ⟨rfl, rfl, rfl⟩ | ⟨rfl, rfl, rfl⟩
    · exact RE.2.1.1
    · exact RE.2.1.2
  have hB : ∀ w ∈ gx_B, w.before args s = true := vx_c (va_Nw.use rfl RE.1.1) (vx_c (va_Nw.use rfl RE.1.2.1) (vx_c (va_Nw.use rfl RE.1.2.2.1) (vx_c (va_Nw.use rfl RE.1.2.2.2) vx_n)))
  have hat : ∀ w ∈ gx_at, w.before args s = true := vx_hat (fun w hw => hts w (List.mem_filter.mpr ⟨gx_at0 w hw, (List.mem_filter.mp hw).2⟩)) gx_at1 hB
  refine gx_make (is := is) (text := tx) (sa := z) (A := A) hx hb hl9 hown (hts _ xg_k1) (hts _ xg_k2) hstr hat (fun w hw => List.all_eq_true.mp gx_atg w hw) RE.2.2.1 RE.2.2.2 hS (by rw [hml]; exact hl.1) d0 d3 d4 d6 (by omega) (by show 0 + (13 * 3 + 43) ≤ R.locals; omega) hR.1 hR.2 (fun q H1 ce hz hq hce hv hcl => ?_)
  refine vx_athrow hx hb d9 ?_
  exact vx_out (E := gx_N) (ce := ce) (fun x hx => (TB x hx).elim) hlk hce hv hcl (fun t ht hal => ⟨rfl, w, hpx, by rw [ht]; exact hP.kept (fun k q hk => hq q.1 (vx_lt hP hk)), hD, ⟨by rw [ht]; exact Nat.le_trans hS.1 hz, fun q h1 h2 => by rw [ht, hq q (Nat.lt_of_lt_of_le h1 hS.1)]; exact hS.2.1 q h1 h2⟩⟩) hS.2.2 h1 h2
theorem gy_ialdW {j N : Nat} {i : Int32} (C : gx_C X M cs hh) (hd : decode M.2.1 pc = .ok (.iaload, 1)) (hk : gz_kd La j = (1, N)) (hin : vp_in i N) (nx : gx X M kc nc (gz_w cs La a g) (pc + 1) ls (.int (g.1 j i.toNatClampNeg) :: st)) : gx X M kc nc (gz_w cs La a g) pc ls (.int i :: .ref (a j) :: st) := by
  obtain ⟨p, l, e, R, s, m, args, below, meth, c, D, A, Q⟩ := X
  intro H locs lsA hP hD hS hl
  obtain ⟨q, -, hq⟩ := gz_at (cs := cs) (a := a) (g := g) (La := La) (j := j) (by rw [hk]; exact (by decide : 1 < 9))
  rw [gz_ce1 hk] at hq
  exact va_iald C.1 C.2.1 C.2.2.2.2.2.2.2.1 hP q 0 hq rfl hin hd (nx H locs lsA hP hD hS hl)
theorem gy_lastW {j N : Nat} {i : Int32} {x : Int64} (C : gx_C X M cs hh) (hd : decode M.2.1 pc = .ok (.lastore, 1)) (hk : gz_kd La j = (3, N)) (hin : vp_in i N) (nx : gx X M kc nc (gz_w cs La a (gz_wl g j i.toNatClampNeg x)) (pc + 1) ls st) : gx X M kc nc (gz_w cs La a g) pc ls (.long x :: .int i :: .ref (a j) :: st) := by
  obtain ⟨p, l, e, R, s, m, args, below, meth, c, D, A, Q⟩ := X
  intro H locs lsA hP hD hS hl
  obtain ⟨q, hq0, hq⟩ := gz_at (cs := cs) (a := a) (g := g) (La := La) (j := j) (by rw [hk]; exact (by decide : 3 < 9))
  rw [gz_ce3 hk] at hq
  refine va_last C.1 C.2.1 C.2.2.2.2.2.2.2.1 hP hD hS q 2 hq rfl hin hd (fun H locs hP hD2 hS => ?_)
  have ew := gz_set (cs := cs) (g' := gz_wl g j i.toNatClampNeg x) hD hq0 (gz_ce3 hk) gz_ce_wl
  have e1 : (gz_wl g j i.toNatClampNeg x).2.1 j = vp_updL (g.2.1 j) i.toNatClampNeg x := if_pos rfl
  rw [e1] at ew
  exact nx H locs lsA (ew ▸ hP) (ew ▸ hD2) hS hl
theorem gy_laldW {j N : Nat} {i : Int32} (C : gx_C X M cs hh) (hd : decode M.2.1 pc = .ok (.laload, 1)) (hk : gz_kd La j = (3, N)) (hin : vp_in i N) (nx : gx X M kc nc (gz_w cs La a g) (pc + 1) ls (.long (g.2.1 j i.toNatClampNeg) :: st)) : gx X M kc nc (gz_w cs La a g) pc ls (.int i :: .ref (a j) :: st) := by
  obtain ⟨p, l, e, R, s, m, args, below, meth, c, D, A, Q⟩ := X
  intro H locs lsA hP hD hS hl
  obtain ⟨q, -, hq⟩ := gz_at (cs := cs) (a := a) (g := g) (La := La) (j := j) (by rw [hk]; exact (by decide : 3 < 9))
  rw [gz_ce3 hk] at hq
  exact va_lald C.1 C.2.1 C.2.2.2.2.2.2.2.1 hP q 2 hq rfl hin hd (nx H locs lsA hP hD hS hl)
/-- a call of a method that may throw -/
theorem gy_callX {ix h2 j ci : Nat} {N : gz_M} (As : List Value) (C : gx_C X M cs hh) (hRO : gx_RO X a) (RE : gx_RE X cs) (hd : decode M.2.1 pc = .ok (.invokevirtual ix, 3)) (hm : gz_mv M.1.cls ix N As.length) (hh2 : h2 < hh) (hci : ci < 13) (hk : gz_kd La j = (0, ci)) (hc : gz_kR ci = N.1.cls) (hst : (st.map fun v => v.category).sum ≤ 8) (hR : gx_ok X (kc + mc) (nc + ms))
    (kcn : gx_KX (gx_l X) (gx_D X) cs h2 N mc ms (.ref (a j) :: As) (gz_w cs La a g) a Ph Px)
    (nx : ∀ v w', Ph v w' → gx X M (kc + mc) (nc + ms) w' (pc + 3) ls (v.toList ++ st)) (kx : ∀ w' q, Px w' → gxx X M (kc + mc) (nc + ms) w' pc ls st q) : gx X M kc nc (gz_w cs La a g) pc ls (As.reverse ++ .ref (a j) :: st) := by
  obtain ⟨p, l, e, R, s, m, args, below, meth, c, D, A, Q⟩ := X
  intro H locs lsA hP hD hS hl
  obtain ⟨hx, hb, hml, hr, hlk, hown, hts, hK, hX, hA, hf1, hf2⟩ := C
  have hRO : gz_RO a A s s.heap := hRO
  have RE : gx_EX cs A s s.heap := RE
  have hF := gx_A1 (H := H) hD hS hA
  obtain ⟨q, -, hq⟩ := gz_at (cs := cs) (a := a) (g := g) (La := La) (j := j) (by rw [hk]; exact (by decide : 0 < 9))
  rw [gz_ceO hk] at hq
  have cb : CallB R s args M.1.cls ix N.1 N.2.1 N.2.2.1 N.2.2.2 (gz_ws N) (gx_rm h2 mc ms) mc ms As.length := callB_of As.length hts (gx_GI hm.1) rfl rfl rfl (hts _ hm.1.2.2.2.2) (hts _ hm.2.1) hm.1.2.1 ⟨by show h2 + 1 ≤ R.frames; omega, by show 8 + (N.2.2.1 + 11) + 64 * h2 ≤ R.locals; have := hm.1.2.2.2.1; omega⟩
  have hRO2 : ∀ U : State, U.heap = H → s.WarmedH U.vm → gz_RO a (va_A (gz_w cs La a g) H.size) U U.heap := fun U hU hW => by
    rw [hU]; exact ((hRO.kept (fun q h1 h2 => hS.2.1 q h1 h2)).narrow hF).warm hW
  have hRE2 : ∀ U : State, U.heap = H → s.WarmedH U.vm → gx_EX cs (va_A (gz_w cs La a g) H.size) U U.heap := fun U hU hW => by
    rw [hU]; exact ((RE.kept (fun q h1 h2 => hS.2.1 q h1 h2)).narrow hF).warm hW
  have hcl := gz_cl hci
  rw [hc] at hcl
  have hrun := vx_runV (p := p) (l := l) (e := e) (below := below) (meth := meth) (locs := locs) (cells := kc) (slots := nc) (H := H) (As := As) (rest := st) (b := a j) (g := F0 m pc lsA (As.reverse ++ .ref (a j) :: st)) ⟨hx, hb, hml, hown, hts⟩ (kcn H.size) (C := N.1.cls) ⟨cb, hts _ hm.2.2.1, hts _ hm.2.2.2⟩
    ⟨gx_blindX, va_recv hK hP (ci := ci) (q0 := q) hcl hq, fun U hU hW => ⟨rfl, by rw [hU], by rw [hU]; exact hP, va_K.moved hW.alike hK, hD.weaken (fun _ _ _ _ => trivial), gx_X.warm hW hX, hRO2 U hU hW, hRE2 U hU hW⟩⟩ rfl rfl hl.1 rfl (lv_room (m := m) (pc := pc) (ls := lsA) (rest := []) hst) hd hR
  intro T hT XX
  rcases hrun T hT XX with ⟨v, st₀, t, T', L, h0, X', hL, e1, e2, ⟨⟨r, u, hv, hp, hP1, hD1⟩, hz, hk1⟩, st1⟩ | ⟨qq, st₀, t, T', L, E, ce, h0, X', hL, e1, e2, ⟨hE, u, hp, hP1, hD1, hz, hk1⟩, hce, hcv, hcl, st1⟩
  · cases hv
    rw [h0] at hz hk1
    obtain ⟨t2, a1, b1⟩ := nx v u hp T'.heap (locs ++ L) lsA (by rw [e1]; exact hP1) (hD1.weaken (fun _ q _ z => hF q.1 z))
      ⟨Nat.le_trans hS.1 (by rw [e1]; exact hz), fun q h1 h2 => by rw [e1, hk1 q (Nat.lt_of_lt_of_le h1 hS.1) (fun z => h2 (hF q z))]; exact hS.2.1 q h1 h2, fun q hq => by
        rcases List.mem_append.mp hq with h | h
        · exact hS.2.2 q h
        · exact hF _ (hL q h)⟩ hl T' rfl X'
    exact ⟨t2, st1 t2 a1, b1⟩
  · rw [h0] at hz hk1
    subst hE
    obtain ⟨t2, a1, b1⟩ := kx u qq hp T'.heap (locs ++ L) lsA ce (by rw [e1]; exact hP1) (hD1.weaken (fun _ q _ z => hF q.1 z))
      ⟨Nat.le_trans hS.1 (by rw [e1]; exact hz), fun q h1 h2 => by rw [e1, hk1 q (Nat.lt_of_lt_of_le h1 hS.1) (fun z => h2 (hF q z))]; exact hS.2.1 q h1 h2, fun q hq => by
        rcases List.mem_append.mp hq with h | h
        · exact hS.2.2 q h
        · exact hF _ (hL q h)⟩ hl (by rw [e1]; exact hce) hcv hcl T' rfl X'
    exact ⟨t2, st1.trans a1, b1⟩
end GX9
set_option maxRecDepth 100000 in
set_option maxHeartbeats 4000000 in
/-- the class's goer -/
theorem kX11_goer {l : Launch} {D : va_G} {cs : Nat → ClassId} {La : gz_L} {a : Nat → Nat} {g : gz_S} {x y : Int32} {r : Option Int32 × gz_S} (hl9 : l.stackTraces = false) (hf : fX11_goer La x y g = some r) :
    gx_KX l D cs 8 mX11_goer 1 6 [.ref (a 0), .int x, .int y] (gz_w cs La a g) a (fun v w' => ∃ k, r.1 = some k ∧ v = some (.int k) ∧ w' = gz_w cs La a r.2) (fun w' => r.1 = none ∧ w' = gz_w cs La a r.2) := by
  refine gx_KX.of 0 (by decide +kernel) rfl (fun X el ed C E Rk RO RE TB => ?_)
  have hl9 : (gx_l X).stackTraces = false := by rw [el]; exact hl9
  refine gy_ls (l2 := [some (.ref (a 0)), some (.int x), some (.int y)]) rfl ?_
  unfold fX11_goer at hf
  obtain ⟨q, hq, hf⟩ := gz_bd hf
  refine gy_aload_n C dX11_goer_0 rfl ?_
  refine gy_getW (j := 0) (v := .ref (a 6)) C dX11_goer_1 flX11_58 kd0 rfl ?_
  refine gy_iload_n C dX11_goer_4 rfl ?_
  refine gy_callKV (j := 6) (ci := 6) (h2 := 1) (st := []) [.int x] C RO dX11_goer_5 mvX11_166 (Nat.le_of_ble_eq_true rfl) (by decide) kd6 rfl (Nat.le_of_ble_eq_true rfl) (Rk.mo (by omega) (by omega)) (kX6_hasGoer (by decide) hq) rfl (fun u g2 hu => ?_)
  obtain ⟨rfl, rfl⟩ := hu
  refine gy_st (st2 := [.int q.1]) rfl ?_
  refine gy_if_ne 21 C dX11_goer_8 (by decide) (fun c => ?_) (fun c => ?_)
  · rw [if_neg c] at hf
    have tl : ∀ (P : Nat) (K : Int) (kv : Int32), (Int8.ofInt K).toInt32 = kv → decode mX11_goer.2.1 P = .ok (.aload_n 0, 1) → decode mX11_goer.2.1 (P + 1) = .ok (.getfield 58, 3) → decode mX11_goer.2.1 (P + 1 + 3) = .ok (.getfield 176, 3) → decode mX11_goer.2.1 (P + 1 + 3 + 3) = .ok (.bipush K, 2) → decode mX11_goer.2.1 (P + 1 + 3 + 3 + 2) = .ok (.iload_n 1, 1) → decode mX11_goer.2.1 (P + 1 + 3 + 3 + 2 + 1) = .ok (.iadd, 1) → decode mX11_goer.2.1 (P + 1 + 3 + 3 + 2 + 1 + 1) = .ok (.iaload, 1) → decode mX11_goer.2.1 (P + 1 + 3 + 3 + 2 + 1 + 1 + 1) = .ok (.ireturn, 1) → gz_gof La kv x q.2 = some r →
        gx X mX11_goer 0 0 (gz_w cs La a q.2) P [some (.ref (a 0)), some (.int x), some (.int y)] [] := by
      intro P K kv hK d0 d1 d2 d3 d4 d5 d6 d7 hg
      unfold gz_gof at hg
      obtain ⟨ok, hg⟩ := gz_gd hg
      cases hg
      refine gy_aload_n C d0 rfl ?_
      refine gy_getW (j := 0) (v := .ref (a 6)) C d1 flX11_58 kd0 rfl ?_
      refine gy_getW (j := 6) (v := .ref (a 22)) C d2 flX11_176 kd6 rfl ?_
      refine gy_bipush C d3 hK ?_
      refine gy_iload_n C d4 rfl ?_
      refine gy_iadd C d5 ?_
      refine gy_ialdW (j := 22) C d6 kd22 ok ?_
      refine gy_widen (k2 := 1) (n2 := 6) (by omega) (by omega) ?_
      exact gy_iretX C E d7 rfl ⟨_, rfl, rfl, rfl⟩
    refine gy_iload_n C dX11_goer_21 rfl ?_
    by_cases y0 : y = 0
    · subst y0
      rw [if_pos rfl] at hf
      refine gy_tableIn 56 C dX11_goer_22 (by decide) (by decide) (off := 34) (by decide) (by decide) ?_
      exact tl 56 30 30 (by decide) dX11_goer_56 dX11_goer_57 dX11_goer_60 dX11_goer_63 dX11_goer_65 dX11_goer_66 dX11_goer_67 dX11_goer_68 hf
    rw [if_neg y0] at hf
    by_cases y1 : y = 1
    · subst y1
      rw [if_pos rfl] at hf
      refine gy_tableIn 69 C dX11_goer_22 (by decide) (by decide) (off := 47) (by decide) (by decide) ?_
      exact tl 69 34 34 (by decide) dX11_goer_69 dX11_goer_70 dX11_goer_73 dX11_goer_76 dX11_goer_78 dX11_goer_79 dX11_goer_80 dX11_goer_81 hf
    rw [if_neg y1] at hf
    by_cases y2 : y = 2
    · subst y2
      rw [if_pos rfl] at hf
      refine gy_tableIn 82 C dX11_goer_22 (by decide) (by decide) (off := 60) (by decide) (by decide) ?_
      exact tl 82 50 50 (by decide) dX11_goer_82 dX11_goer_83 dX11_goer_86 dX11_goer_89 dX11_goer_91 dX11_goer_92 dX11_goer_93 dX11_goer_94 hf
    rw [if_neg y2] at hf
    by_cases y3 : y = 3
    · subst y3
      rw [if_pos rfl] at hf
      refine gy_tableIn 95 C dX11_goer_22 (by decide) (by decide) (off := 73) (by decide) (by decide) ?_
      exact tl 95 38 38 (by decide) dX11_goer_95 dX11_goer_96 dX11_goer_99 dX11_goer_102 dX11_goer_104 dX11_goer_105 dX11_goer_106 dX11_goer_107 hf
    rw [if_neg y3] at hf
    by_cases y4 : y = 4
    · subst y4
      rw [if_pos rfl] at hf
      refine gy_tableIn 108 C dX11_goer_22 (by decide) (by decide) (off := 86) (by decide) (by decide) ?_
      exact tl 108 42 42 (by decide) dX11_goer_108 dX11_goer_109 dX11_goer_112 dX11_goer_115 dX11_goer_117 dX11_goer_118 dX11_goer_119 dX11_goer_120 hf
    rw [if_neg y4] at hf
    cases hf
    have hy : y.toInt < 0 ∨ 4 < y.toInt := by
      rcases Int.lt_or_le y.toInt 0 with h | h
      · exact Or.inl h
      · rcases Int.lt_or_le 4 y.toInt with h4 | h4
        · exact Or.inr h4
        · exfalso
          obtain ⟨n, n1, rfl, n3⟩ := x_of h
          have hn : n = 0 ∨ n = 1 ∨ n = 2 ∨ n = 3 ∨ n = 4 := by omega
          rcases hn with rfl | rfl | rfl | rfl | rfl
          · exact y0 rfl
          · exact y1 rfl
          · exact y2 rfl
          · exact y3 rfl
          · exact y4 rfl
    refine gy_tableOut 121 C dX11_goer_22 hy (by decide) ?_
    exact gy_throw C rfl E RE TB hl9 (Or.inr ⟨rfl, rfl, rfl⟩) dX11_goer_121 dX11_goer_124 dX11_goer_125 dX11_goer_127 dX11_goer_130 (by decide) (Rk.mo (by omega) (by omega)) (by omega) (by omega) ⟨rfl, rfl⟩
  · rw [if_pos c] at hf
    cases hf
    exact gy_throw C rfl E RE TB hl9 (Or.inl ⟨rfl, rfl, rfl⟩) dX11_goer_11 dX11_goer_14 dX11_goer_15 dX11_goer_17 dX11_goer_20 (by decide) (Rk.mo (by omega) (by omega)) (by omega) (by omega) ⟨rfl, rfl⟩
theorem gx_ofWH {l : Launch} {y : MethodName} {ws ws' : List Cond} {rm : Room} {Pc : Array Value → State → Prop} {Qc : Array Value → State → Outcome → State → Prop} {mc ms : Nat} {free : Addr → Prop} {cc : ByteArray} {maxL : Nat} {ret : Option FieldType} {hh : List (Nat × Nat × Nat × Nat)}
    (hy : plainName y.cls = true) (hw : ws = Cond.codeWith y cc maxL ret hh :: ws')
    (body : ∀ p e s m args below meth c s₁, BodyLoose p l y (headSpec ws rm) cc maxL ret e s m args below meth c s₁ → c.maxLocals = maxL → Pc args s →
      W p l e (headSpec ws rm).room s m args below meth c s.heap [] 0 0 (MQ below Qc args s mc ms free) (entryFrame m args maxL)) : Met l y ws rm Pc Qc mc ms free := by
  refine MetFree.of_bodyS (code := cc) (maxLocals := maxL) (ret := ret) hy ?_ ?_
  · intro args s m h hn
    obtain ⟨m9, meth, c, hn9, h1, h2, h3, h4, -, h5, h6, -⟩ := Cond.codeWith_spec (atoms_spec (ws := ws) h _ (by rw [hw]; exact List.mem_cons_self))
    cases hn.symm.trans hn9
    exact ⟨meth, c, h1, h2, h3, h4, h5, h6⟩
  · intro p e s m args below meth c s₁ B hml hP _
    have hh0 : s₁.heap = s.heap := by rw [B.state]; rfl
    obtain ⟨t, a1, o, b1, b2, b3⟩ := body p e s m args below meth c s₁ B hml hP s₁ hh0 (Stand.of_body B)
    exact ⟨t, o, a1, b1, b2, ⟨b3.1, b3.2⟩⟩
def gz_wL : List Cond := Cond.codeWith yL_goer cL_goer 5 (some .int) [(0, 10, 13, 13)] :: gz_U
set_option maxRecDepth 100000 in
set_option maxHeartbeats 4000000 in
/-- the law's goer: 1 where the class throws -/
theorem kL_goer {l : Launch} {D : va_G} {cs : Nat → ClassId} {La : gz_L} {a : Nat → Nat} {g : gz_S} {x y : Int32} {r : Option Int32 × gz_S} (hl9 : l.stackTraces = false) (hf : fX11_goer La x y g = some r) (sz : Nat) :
    Met l yL_goer gz_wL (gx_rm 12 1 6) (gx_Pc D cs [.ref (a 0), .int x, .int y, .ref (a 38)] (gz_w cs La a g) a sz) (gx_Q D (va_A (gz_w cs La a g) sz) (fun v w' => v = some (.int (if r.1 = none then 1 else 0)) ∧ w' = gz_w cs La a (gz_go1 r))) 1 6 (va_A (gz_w cs La a g) sz) := by
  refine gx_ofWH (cc := cL_goer) (maxL := 5) (ret := some .int) (by decide +kernel) rfl ?_
  intro p e s m args below meth c s₁ B hml hv
  obtain ⟨rfl, hsz, hP, hK, hD0, hX, hRO, hRE⟩ := hv
  subst hsz
  have hts := atoms_spec (ws := gz_wL) B.pre
  have htab := vx_table (x := yL_goer) B (hts _ List.mem_cons_self)
  have hown : s.vm.findClass RL = some m.cls := findClass_of_methodNamed B.named
  have hl := lv_entry [.ref (a 0), .int x, .int y, .ref (a 38)] (n := 5) (Nat.le_of_ble_eq_true rfl)
  rw [lg_entry_eq]
  have C : gx_C (p, l, e, gx_rm 12 1 6, s, m, _, below, meth, c, D, va_A (gz_w cs La a g) s.heap.size, MQ below (gx_Q D (va_A (gz_w cs La a g) s.heap.size) (fun v w' => v = some (.int (if r.1 = none then 1 else 0)) ∧ w' = gz_w cs La a (gz_go1 r))) ([.ref (a 0), .int x, .int y, .ref (a 38)] : List Value).toArray s 1 6 (va_A (gz_w cs La a g) s.heap.size)) mL_goer cs 12 :=
    ⟨B.exec, B.bytes, hml, B.returns, B.notSynchronized, hown, fun w hw => hts w (List.mem_cons_of_mem _ hw), hK, hX, fun q hq => Or.inr hq, Nat.le_refl _, Nat.le_refl _⟩
  generalize eX : (p, l, e, gx_rm 12 1 6, s, m, _, below, meth, c, D, va_A (gz_w cs La a g) s.heap.size, MQ below (gx_Q D (va_A (gz_w cs La a g) s.heap.size) (fun v w' => v = some (.int (if r.1 = none then 1 else 0)) ∧ w' = gz_w cs La a (gz_go1 r))) ([.ref (a 0), .int x, .int y, .ref (a 38)] : List Value).toArray s 1 6 (va_A (gz_w cs La a g) s.heap.size)) = X at C
  have el : gx_l X = l := by rw [← eX]; rfl
  have ed : gx_D X = D := by rw [← eX]; rfl
  have Rk : gx_ok X 1 6 := by rw [← eX]; exact ⟨Nat.le_refl _, Nat.le_refl _⟩
  have RO : gx_RO X a := by rw [← eX]; exact hRO
  have RE : gx_RE X cs := by rw [← eX]; exact hRE
  have E : gx_E X 1 6 (fun v w' => v = some (.int (if r.1 = none then 1 else 0)) ∧ w' = gz_w cs La a (gz_go1 r)) := by rw [← eX]; exact rfl
  have main : gx X mL_goer 0 0 (gz_w cs La a g) 0 [some (.ref (a 0)), some (.int x), some (.int y), some (.ref (a 38)), none] [] := by
    refine gy_aload_n C dL_goer_0 rfl ?_
    refine gy_iconst (v := 0) C dL_goer_1 (by decide) ?_
    refine gy_aload_n C dL_goer_2 rfl ?_
    refine gy_iload_n C dL_goer_3 rfl ?_
    refine gy_iload_n C dL_goer_4 rfl ?_
    refine gy_callX (j := 0) (ci := 11) (h2 := 8) (mc := 1) (ms := 6) (st := [.int 0, .ref (a 38)]) [.int x, .int y] C RO RE dL_goer_5 mvL_7 (by decide) (by decide) kd0 rfl (Nat.le_of_ble_eq_true rfl) (Rk.mo (by omega) (by omega)) (kX11_goer (by rw [el]; exact hl9) hf) (fun v w' hp => ?_) (fun w' q hp => ?_)
    · obtain ⟨k, hk, rfl, rfl⟩ := hp
      refine gy_st (st2 := [.int k, .int 0, .ref (a 38)]) rfl ?_
      refine gy_i2l C dL_goer_8 ?_
      refine gy_lastW (j := 38) (N := 1) C dL_goer_9 rfl (n_okP (a := 0) (n := 1) (by decide) (by decide)) ?_
      refine gy_goto 17 C dL_goer_10 (by decide) ?_
      refine gy_iconst (v := 0) C dL_goer_17 (by decide) ?_
      refine gy_iret C E dL_goer_18 rfl ⟨by rw [hk]; rfl, ?_⟩
      have e : gz_go1 r = gz_wl r.2 38 0 k.toInt64 := by unfold gz_go1; rw [hk]
      rw [e]; rfl
    · obtain ⟨hn, rfl⟩ := hp
      have nx : gx X mL_goer 1 6 (gz_w cs La a r.2) 13 [some (.ref (a 0)), some (.int x), some (.int y), some (.ref (a 38)), none] [.ref q] := by
        refine gy_astore (k := 4) C dL_goer_13 (by decide) rfl ?_
        refine gy_iconst (v := 1) C dL_goer_15 (by decide) ?_
        refine gy_iret C E dL_goer_16 rfl ⟨by rw [hn]; rfl, ?_⟩
        have e : gz_go1 r = r.2 := by unfold gz_go1; rw [hn]
        rw [e]
      subst eX
      intro H locs lsA ce hP1 hD1 hS1 hl1 hce hcv hcl
      have RE : gx_EX cs (va_A (gz_w cs La a g) s.heap.size) s s.heap := RE
      refine vx_catch (own := RL) (name := gx_N) (E := gx_N) hown [] { startPc := 0, endPc := 10, handlerPc := 13, catchType := 13 } [] htab (fun z hz => nomatch hz) (by decide) (by decide) (hts _ (List.mem_cons_of_mem _ xg_k3)) (va_Nw.use rfl RE.1.1) hce hcv hcl ?_
      exact nx H locs lsA hP1 hD1 hS1 hl1
  subst eX
  exact main s.heap [] _ hP (hD0.self) va_S.rf ⟨hl.1, hl.2.1, fun q hq => hl.2.2 q (gx_en_has (by rw [show [some (Value.ref (a 0)), some (.int x), some (.int y), some (.ref (a 38)), none] = gz_en [.ref (a 0), .int x, .int y, .ref (a 38)] ++ List.replicate 1 none from rfl, gz_kn_app] at hq; exact hq))⟩

