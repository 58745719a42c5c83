/-! calls -/
theorem gz_good {w : Cond} (h : w ∈ gz_U) : (w.onTables && w.keeps) = true ∨ ∃ ty, w = .arrayClass ty := good_of_word (List.mem_filter.mp h).2
theorem gz_GI {M N : gz_M} {n : Nat} (h : gz_mk N n) : GoodIn (gz_ws M) (gz_ws N) := by
  intro w hw
  have hu : w ∈ gz_U := by
    rcases List.mem_cons.mp hw with e | e
    · rw [e]; exact h.2.2.1
    · exact e
  exact ⟨List.mem_cons_of_mem _ hu, gz_good hu⟩
section GZR
variable {p : Program} {l : Launch} {e : Env} {R : Room} {s : State} {m : MethodId} {args : Array Value} {below : List Frame} {meth : Method} {c : Code} {H : Heap} {locs : List Loc} {Q : State → Prop} {pc : Nat} {lsA : Array Slot} {rest st0 : List Value} {av : Array Value} {A0 A1 : Nat → Prop} {H0 : Heap}
variable {La : gz_L} {D : va_G} {cs : Nat → ClassId} {a : Nat → Nat} {Ps : Option Value → gz_S → Prop}
theorem gz_callg (hr : va_Run p l e R s m args below meth c H locs 0 0 0 0 (F0 m pc lsA st0) rest (gz_Q La D cs a A1 Ps av) A1) (hS : va_S A0 H0 H locs) (hA : ∀ q, A1 q → A0 q)
    (kk : ∀ (v : Option Value) (g : gz_S) (H1 : Heap) (locs1 : List Loc), Ps v g → va_P D vwCl (gz_w cs La a g) H1 → va_D A1 (gz_w cs La a g) → va_S A0 H0 H1 locs1 → W p l e R s m args below meth c H1 locs1 0 0 Q (F0 m (pc + 3) lsA ((v.map (gz_cv a)).toList ++ rest))) : W p l e R s m args below meth c H locs 0 0 Q (F0 m pc lsA st0) := by
  intro T hT X
  obtain ⟨v, st₀, t, T', L, h0, X', hL, e1, e2, ⟨⟨r, u, hv, hp, hP, hK, hD⟩, hz, hk⟩, st⟩ := hr T hT X
  cases hv
  rw [h0] at hz hk
  obtain ⟨t2, a1, b1⟩ := kk r u T'.heap (locs ++ L) hp (by rw [e1]; exact hP) hD
    ⟨Nat.le_trans hS.1 (by rw [e1]; exact hz), fun q h1 h2 => by rw [e1, hk q (Nat.lt_of_lt_of_le h1 hS.1) (fun z => h2 (hA q z))]; exact hS.2.1 q h1 h2, fun q hq => by
      rcases List.mem_append.mp hq with h | h
      · exact hS.2.2 q h
      · exact hA _ (hL q h)⟩ T' rfl X'
  exact ⟨t2, st t2 a1, b1⟩
theorem gz_A1 {cs : Nat → ClassId} {La : gz_L} {a : Nat → Nat} {g : gz_S} (hD : va_D A0 (gz_w cs La a g)) (hS : va_S A0 H0 H locs) (hA : ∀ q, H0.size ≤ q → A0 q) : ∀ q, va_A (gz_w cs La a g) H.size q → A0 q := by
  intro q h
  rcases h with ⟨k, x, h⟩ | h
  · exact hD.2 k (q, x) h
  · exact hA q (Nat.le_trans hS.1 h)
end GZR
section SZC
variable {La : gz_L} {h : Nat} {M : gz_M} {pc : Nat} {ls : List (Option Value)} {st : List Value} {g : gz_S} {Ph : Option Value → gz_S → Prop}
theorem gz_mapcat (a : Nat → Nat) (st : List Value) : ((st.map (gz_cv a)).map fun v => v.category) = st.map fun v => v.category := by
  rw [List.map_map]; congr 1; funext v; exact gz_cv_cat a v
theorem gz_blind {La : gz_L} {D : va_G} {cs : Nat → ClassId} {a : Nat → Nat} {g : gz_S} {av : List Value} {sz : Nat} : FrameBlind (va_Pc (av.map (gz_cv a)) (fun U => U.heap.size = sz ∧ va_P D vwCl (gz_w cs La a g) U.heap ∧ va_K D vwCl (gz_ty cs) U ∧ va_D (fun _ => True) (gz_w cs La a g) ∧ gz_RO a (va_A (gz_w cs La a g) sz) U U.heap)) := by
  intro b U f mk q
  obtain ⟨q0, q1, qP, qK, qD, qR⟩ := q
  exact ⟨q0, q1, qP, va_K.moved (u := U) (U := U.calling f mk b) (Vm.Alike.refl U.vm) qK, qD, gz_RO.same (u := U) (U := U.calling f mk b) rfl qR⟩
theorem sz_callV {ix h2 j ci : Nat} {N : gz_M} {As : List Value} {Ps : Option Value → gz_S → Prop} (hd : decode M.2.1 pc = .ok (.invokevirtual ix, 3)) (hm : gz_mv M.1.cls ix N As.length) (hh : h2 < h) (hci : ci < 13) (hk : gz_kd La j = (0, ci)) (hc : gz_kR ci = N.1.cls) (hst : (st.map fun v => v.category).sum ≤ 8)
    (kc : gz_K La h2 N (.ref j :: As) g Ps) (n : ∀ v g2, Ps v g2 → gz_J La h M (pc + 3) ls (v.toList ++ st) g2 Ph) : gz_J La h M pc ls (As.reverse ++ .ref j :: st) g Ph := by
  intro p l e s m args below meth c D cs a A H locs lsA C hP hD hS hl
  obtain ⟨hx, hb, hml, hr, hlk, hown, hts, hK, hR, hA⟩ := C
  have hA1 := gz_A1 (H := H) hD hS hA
  obtain ⟨q, -, hq⟩ := gz_at (cs := cs) (a := a) (g := g) (La := La) (j := j) (by rw [hk]; exact (by decide : 0 < 9))
  rw [gz_ceO hk] at hq
  have hts' : ∀ w ∈ gz_U, w.before args s = true := fun w hw => hts w (List.mem_cons_of_mem _ hw)
  have cb : CallB (gz_rm h) s args M.1.cls ix N.1 N.2.1 N.2.2.1 N.2.2.2 (gz_ws N) (gz_rm h2) 0 0 As.length := callB_of As.length hts (gz_GI hm.1) rfl rfl rfl (hts' _ hm.1.2.2.2.2) (hts' _ hm.2.1) hm.1.2.1 ⟨hh, by show 8 + (N.2.2.1 + 11) + 64 * h2 ≤ 64 * h; have := hm.1.2.2.2.1; omega⟩
  have hRO : ∀ U : State, U.heap = H → s.WarmedH U.vm → gz_RO a (va_A (gz_w cs La a g) H.size) U U.heap := fun U hU hW => by
    rw [hU]; exact ((hR.kept (fun q h1 h2 => hS.2.1 q h1 h2)).narrow hA1).warm hW
  have hcl := gz_cl hci
  rw [hc] at hcl
  have hrun := va_runV (p := p) (l := l) (e := e) (below := below) (meth := meth) (locs := locs) (cells := 0) (slots := 0) (H := H) (As := As.map (gz_cv a)) (rest := st.map (gz_cv a)) (b := a j) (g := F0 m pc lsA ((As.reverse ++ .ref j :: st).map (gz_cv a))) ⟨hx, hb, hml, hown, hts⟩ (kc l D cs a H.size) (C := N.1.cls) ⟨cb, hts' _ hm.2.2.1, hts' _ hm.2.2.2⟩
    ⟨gz_blind, va_recv hK hP (ci := ci) (q0 := q) hcl hq, fun U hU hW => ⟨rfl, by rw [hU], by rw [hU]; exact hP, va_K.moved hW.alike hK, ⟨hD.1, fun _ _ _ => trivial⟩, hRO U hU hW⟩⟩ rfl (by simp) hl.1 (by simp [List.map_append, List.map_reverse, gz_cv]) (lv_room (m := m) (pc := pc) (ls := lsA) (rest := []) (by rw [gz_mapcat]; exact hst)) hd ⟨Nat.le_refl 0, Nat.le_refl 0⟩
  refine gz_callg hrun hS hA1 (fun v g2 H1 locs1 hp hP1 hD1 hS1 => ?_)
  have k := n v g2 hp p l e s m args below meth c D cs a A H1 locs1 lsA ⟨hx, hb, hml, hr, hlk, hown, hts, hK, hR, hA⟩ hP1 (hD1.weaken (fun _ q _ z => hA1 q.1 z)) hS1 hl
  have ev : (v.toList ++ st).map (gz_cv a) = (v.map (gz_cv a)).toList ++ st.map (gz_cv a) := by cases v <;> rfl
  rw [ev] at k
  exact k
theorem sz_callS {ix h2 : Nat} {N : gz_M} {As : List Value} {Ps : Option Value → gz_S → Prop} (hd : decode M.2.1 pc = .ok (.invokestatic ix, 3)) (hm : gz_ms M.1.cls ix N As.length) (hh : h2 < h) (hst : (st.map fun v => v.category).sum ≤ 8)
    (kc : gz_K La h2 N As g Ps) (n : ∀ v g2, Ps v g2 → gz_J La h M (pc + 3) ls (v.toList ++ st) g2 Ph) : gz_J La h M pc ls (As.reverse ++ st) g Ph := by
  intro p l e s m args below meth c D cs a A H locs lsA C hP hD hS hl
  obtain ⟨hx, hb, hml, hr, hlk, hown, hts, hK, hR, hA⟩ := C
  have hA1 := gz_A1 (H := H) hD hS hA
  have hts' : ∀ w ∈ gz_U, w.before args s = true := fun w hw => hts w (List.mem_cons_of_mem _ hw)
  have cb : CallB (gz_rm h) s args M.1.cls ix N.1 N.2.1 N.2.2.1 N.2.2.2 (gz_ws N) (gz_rm h2) 0 0 As.length := callB_of As.length hts (gz_GI hm.1) rfl rfl rfl (hts' _ hm.1.2.2.2.2) (hts' _ hm.2.1) hm.1.2.1 ⟨hh, by show 8 + (N.2.2.1 + 11) + 64 * h2 ≤ 64 * h; have := hm.1.2.2.2.1; omega⟩
  have hRO : ∀ U : State, U.heap = H → s.WarmedH U.vm → gz_RO a (va_A (gz_w cs La a g) H.size) U U.heap := fun U hU hW => by
    rw [hU]; exact ((hR.kept (fun q h1 h2 => hS.2.1 q h1 h2)).narrow hA1).warm hW
  have hrun := va_runS (p := p) (l := l) (e := e) (below := below) (meth := meth) (locs := locs) (cells := 0) (slots := 0) (H := H) (As := As.map (gz_cv a)) (rest := st.map (gz_cv a)) (g := F0 m pc lsA ((As.reverse ++ st).map (gz_cv a))) ⟨hx, hb, hml, hown, hts⟩ (kc l D cs a H.size) ⟨cb, hts' _ hm.2.2⟩
    ⟨gz_blind, fun U hU hW => ⟨rfl, by rw [hU], by rw [hU]; exact hP, va_K.moved hW.alike hK, ⟨hD.1, fun _ _ _ => trivial⟩, hRO U hU hW⟩⟩ rfl (by simp) hl.1 (by simp [List.map_append, List.map_reverse]) (lv_room (m := m) (pc := pc) (ls := lsA) (rest := []) (by rw [gz_mapcat]; exact hst)) hd ⟨Nat.le_refl 0, Nat.le_refl 0⟩
  refine gz_callg hrun hS hA1 (fun v g2 H1 locs1 hp hP1 hD1 hS1 => ?_)
  have k := n v g2 hp p l e s m args below meth c D cs a A H1 locs1 lsA ⟨hx, hb, hml, hr, hlk, hown, hts, hK, hR, hA⟩ hP1 (hD1.weaken (fun _ q _ z => hA1 q.1 z)) hS1 hl
  have ev : (v.toList ++ st).map (gz_cv a) = (v.map (gz_cv a)).toList ++ st.map (gz_cv a) := by cases v <;> rfl
  rw [ev] at k
  exact k
/-- the ends of methods: int, nothing, long, a cell or null -/
def gz_Fi (r : Int32 × gz_S) : Option Value → gz_S → Prop := fun v g => v = some (.int r.1) ∧ g = r.2
def gz_Fl (r : Int64 × gz_S) : Option Value → gz_S → Prop := fun v g => v = some (.long r.1) ∧ g = r.2
def gz_Fv (r : gz_S) : Option Value → gz_S → Prop := fun v g => v = none ∧ g = r
def gz_Fr (r : Option Nat × gz_S) : Option Value → gz_S → Prop := fun v g => v = some (va_rf r.1) ∧ g = r.2
end SZC
