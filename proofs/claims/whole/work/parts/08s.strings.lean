/-! rows over the five texts: cells 210 .. 214, their bytes 220 .. 224 -/
section SZT
variable {La : gz_L} {h : Nat} {M : gz_M} {pc : Nat} {ls : List (Option Value)} {st : List Value} {g : gz_S} {Ph : Option Value → gz_S → Prop}
abbrev gz_str (w : Nat) : Prop := 210 ≤ w ∧ w < 215
abbrev gz_stb (w : Nat) : Prop := 220 ≤ w ∧ w < 225
theorem sz_strv {ix w : Nat} (hw : gz_str w) (hd : decode M.2.1 pc = .ok (.getfield ix, 3)) (hl1 : Cond.fieldLink M.1.cls ix "java/lang/String" "value" "[B" ∈ gz_U) (n : gz_J La h M (pc + 3) ls (.ref (w + 10) :: st) g Ph) : gz_J La h M pc ls (.ref w :: st) g Ph := by
  intro p l e s m args below meth c D cs a A H locs lsA C hP hD hS hl
  have hV := (C.2.2.2.2.2.2.2.2.1.2.1.1 (w - 210) (by omega)).2.2.1
  have e1 : 210 + (w - 210) = w := by omega
  have e2 : 220 + (w - 210) = w + 10 := by omega
  dsimp only at hV
  rw [e1, e2] at hV
  exact vk_getf C.1 C.2.1 hV hS C.2.2.2.2.2.1 (C.2.2.2.2.2.2.1 _ (List.mem_cons_of_mem _ hl1)) (fun _ h => h) hd (n p l e s m args below meth c D cs a A H locs lsA C hP hD hS hl)
theorem sz_strc {ix w : Nat} (hw : gz_str w) (hd : decode M.2.1 pc = .ok (.getfield ix, 3)) (hl1 : Cond.fieldLink M.1.cls ix "java/lang/String" "coder" "B" ∈ gz_U) (n : gz_J La h M (pc + 3) ls (.int 0 :: st) g Ph) : gz_J La h M pc ls (.ref w :: st) g Ph := by
  intro p l e s m args below meth c D cs a A H locs lsA C hP hD hS hl
  have hV := (C.2.2.2.2.2.2.2.2.1.2.1.1 (w - 210) (by omega)).2.1
  have e1 : 210 + (w - 210) = w := by omega
  dsimp only at hV
  rw [e1] at hV
  exact vk_getf C.1 C.2.1 hV hS C.2.2.2.2.2.1 (C.2.2.2.2.2.2.1 _ (List.mem_cons_of_mem _ hl1)) (fun _ h => h) hd (n p l e s m args below meth c D cs a A H locs lsA C hP hD hS hl)
theorem sz_gsC {ix : Nat} (hd : decode M.2.1 pc = .ok (.getstatic ix, 3)) (hl1 : Cond.fieldLink M.1.cls ix "java/lang/String" "COMPACT_STRINGS" "Z" ∈ gz_U) (n : gz_J La h M (pc + 3) ls (.int 1 :: st) g Ph) : gz_J La h M pc ls st g Ph := by
  intro p l e s m args below meth c D cs a A H locs lsA C hP hD hS hl
  exact va_gets C.1 C.2.1 C.2.2.2.2.2.2.2.2.1.2.2.1 hS C.2.2.2.2.2.1 (C.2.2.2.2.2.2.1 _ (List.mem_cons_of_mem _ hl1)) (fun _ h => h) hd (n p l e s m args below meth c D cs a A H locs lsA C hP hD hS hl)
theorem sz_gsF {ix : Nat} (hd : decode M.2.1 pc = .ok (.getstatic ix, 3)) (hl1 : Cond.fieldLink M.1.cls ix "jdk/internal/util/Preconditions" "SIOOBE_FORMATTER" "Ljava/util/function/BiFunction;" ∈ gz_U) (n : gz_J La h M (pc + 3) ls (.null :: st) g Ph) (n2 : gz_J La h M (pc + 3) ls (.ref 230 :: st) g Ph) : gz_J La h M pc ls st g Ph := by
  intro p l e s m args below meth c D cs a A H locs lsA C hP hD hS hl
  rcases C.2.2.2.2.2.2.2.2.1.2.2.2.1 with hZ | hZ
  · exact va_gets C.1 C.2.1 hZ hS C.2.2.2.2.2.1 (C.2.2.2.2.2.2.1 _ (List.mem_cons_of_mem _ hl1)) (fun _ h => h) hd (n p l e s m args below meth c D cs a A H locs lsA C hP hD hS hl)
  · exact va_gets C.1 C.2.1 hZ hS C.2.2.2.2.2.1 (C.2.2.2.2.2.2.1 _ (List.mem_cons_of_mem _ hl1)) (fun _ h => h) hd (n2 p l e s m args below meth c D cs a A H locs lsA C hP hD hS hl)
def gz_stn (w : Nat) : Nat := gz_sl.getD (w - 220) 0
def gz_stc (w i : Nat) : Int32 := (gz_sb.getD (w - 220) []).getD i 0
theorem sz_strb {w : Nat} {i : Int32} (hw : gz_stb w) (hd : decode M.2.1 pc = .ok (.baload, 1)) (hin : vp_in i (gz_stn w)) (n : gz_J La h M (pc + 1) ls (.int (gz_stc w i.toNatClampNeg) :: st) g Ph) : gz_J La h M pc ls (.int i :: .ref w :: st) g Ph := by
  intro p l e s m args below meth c D cs a A H locs lsA C hP hD hS hl
  have hV := (C.2.2.2.2.2.2.2.2.1.2.1.1 (w - 220) (by omega)).2.2.2
  have e2 : 220 + (w - 220) = w := by omega
  dsimp only at hV
  rw [e2] at hV
  exact va_tb C.1 C.2.1 hV hS hin rfl hd (n p l e s m args below meth c D cs a A H locs lsA C hP hD hS hl)
theorem sz_strl {w : Nat} {v : Int32} (hw : gz_stb w) (hd : decode M.2.1 pc = .ok (.arraylength, 1)) (hv : Int32.ofNat (gz_stn w) = v) (n : gz_J La h M (pc + 1) ls (.int v :: st) g Ph) : gz_J La h M pc ls (.ref w :: st) g Ph := by
  intro p l e s m args below meth c D cs a A H locs lsA C hP hD hS hl
  have hV := (C.2.2.2.2.2.2.2.2.1.2.1.1 (w - 220) (by omega)).2.2.2
  have e2 : 220 + (w - 220) = w := by omega
  dsimp only at hV
  rw [e2] at hV
  exact va_tlen C.1 C.2.1 hV hS hv hd (n p l e s m args below meth c D cs a A H locs lsA C hP hD hS hl)
theorem sz_ldcS {ix w : Nat} (hw : M.1.cls = "PrintsGoOnModel" ∧ ((ix = 259 ∧ w = 212) ∨ (ix = 268 ∧ w = 213) ∨ (ix = 276 ∧ w = 214))) (hd : decode M.2.1 pc = .ok (.ldc_w ix, 3)) (n : gz_J La h M (pc + 3) ls (.ref w :: st) g Ph) : gz_J La h M pc ls st g Ph := by
  intro p l e s m args below meth c D cs a A H locs lsA C hP hD hS hl
  have hown := C.2.2.2.2.2.1
  rw [hw.1] at hown
  have k := n p l e s m args below meth c D cs a A H locs lsA C hP hD hS hl
  have hR := C.2.2.2.2.2.2.2.2.1.2.2.2.2
  have go : ∀ {tx : String} {q : Nat}, vk_R "PrintsGoOnModel" ix tx (a q) s → w = q → W p l e (gz_rm h) s m args below meth c H locs 0 0 (MQ below (gz_Q La D cs a A Ph) args s 0 0 A) (F0 m pc lsA (st.map (gz_cv a))) := by
    intro tx q hZ hq
    subst hq
    intro T hT X
    obtain ⟨t, a1, b1⟩ := k T hT X
    exact ⟨t, X.ldcStringW C.1 hown (text := tx) (a := a w) hZ.1 hZ.2 (g := F0 m pc lsA (st.map (gz_cv a))) rfl (by rw [C.2.1]; exact hd) t a1, b1⟩
  rcases hw.2 with ⟨rfl, h2⟩ | ⟨rfl, h2⟩ | ⟨rfl, h2⟩
  · exact go hR.1 h2
  · exact go hR.2.1 h2
  · exact go hR.2.2.1 h2
theorem sz_ldcS2 {ix w : Nat} (hw : M.1.cls = "PrintsGoOnModel" ∧ ((ix = 26 ∧ w = 210) ∨ (ix = 32 ∧ w = 211))) (hd : decode M.2.1 pc = .ok (.ldc ix, 2)) (n : gz_J La h M (pc + 2) ls (.ref w :: st) g Ph) : gz_J La h M pc ls st g Ph := by
  intro p l e s m args below meth c D cs a A H locs lsA C hP hD hS hl
  have hown := C.2.2.2.2.2.1
  rw [hw.1] at hown
  have k := n p l e s m args below meth c D cs a A H locs lsA C hP hD hS hl
  have hR := C.2.2.2.2.2.2.2.2.1.2.2.2.2
  have go : ∀ {tx : String} {q : Nat}, vk_R "PrintsGoOnModel" ix tx (a q) s → w = q → W p l e (gz_rm h) s m args below meth c H locs 0 0 (MQ below (gz_Q La D cs a A Ph) args s 0 0 A) (F0 m pc lsA (st.map (gz_cv a))) := by
    intro tx q hZ hq
    subst hq
    intro T hT X
    obtain ⟨t, a1, b1⟩ := k T hT X
    exact ⟨t, X.ldcString C.1 hown (text := tx) (a := a w) hZ.1 hZ.2 (g := F0 m pc lsA (st.map (gz_cv a))) rfl (by rw [C.2.1]; exact hd) t a1, b1⟩
  rcases hw.2 with ⟨rfl, h2⟩ | ⟨rfl, h2⟩
  · exact go hR.2.2.2.1 h2
  · exact go hR.2.2.2.2 h2
/-- i2c -/
theorem sz_i2c {x : Int32} (hd : decode M.2.1 pc = .ok (.i2c, 1)) (n : gz_J La h M (pc + 1) ls (.int (x.toUInt32 % 65536).toInt32 :: st) g Ph) : gz_J La h M pc ls (.int x :: st) g Ph := by
  intro p l e s m args below meth c D cs a A H locs lsA C hP hD hS hl
  exact lv_i2c C.1 C.2.1 hd rfl (n p l e s m args below meth c D cs a A H locs lsA C hP hD hS hl)
/-- a call on one of the texts -/
theorem sz_callStr {ix h2 w : Nat} {N : gz_M} (As : List Value) (st : List Value) {r : Int32 × gz_S} (hw : gz_str w) (hd : decode M.2.1 pc = .ok (.invokevirtual ix, 3)) (hm : gz_mv M.1.cls ix N As.length) (hh : h2 < h) (hc : "java/lang/String" = N.1.cls) (hst : (st.map fun v => v.category).sum ≤ 8)
    (kc : gz_K La h2 N (.ref w :: As) g (gz_Fi r)) (n : gz_J La h M (pc + 3) ls (.int r.1 :: st) r.2 Ph) : gz_J La h M pc ls (As.reverse ++ .ref w :: st) g Ph := by
  intro p l e s m args below meth c D cs a A H locs lsA C hP hD hS hl
  obtain ⟨hx, hb, hml, hr, hlk, hown, hts, hK, hR, hA⟩ := C
  have hA1 := gz_A1 (H := H) hD hS hA
  have hts' : ∀ w ∈ gz_U, w.before args s = true := fun w hw => hts w (List.mem_cons_of_mem _ hw)
  have cb : CallB (gz_rm h) s args M.1.cls ix N.1 N.2.1 N.2.2.1 N.2.2.2 (gz_ws N) (gz_rm h2) 0 0 As.length := callB_of As.length hts (gz_GI hm.1) rfl rfl rfl (hts' _ hm.1.2.2.2.2) (hts' _ hm.2.1) hm.1.2.1 ⟨hh, by show 8 + (N.2.2.1 + 11) + 64 * h2 ≤ 64 * h; have := hm.1.2.2.2.1; omega⟩
  have hRO : ∀ U : State, U.heap = H → s.WarmedH U.vm → gz_RO a (va_A (gz_w cs La a g) H.size) U U.heap := fun U hU hW => by
    rw [hU]; exact ((hR.kept (fun q h1 h2 => hS.2.1 q h1 h2)).narrow hA1).warm hW
  have hrv := vk_recv (i := w - 210) hR.2.1 (by omega) hS
  have e1 : 210 + (w - 210) = w := by omega
  rw [e1, hc] at hrv
  have hrun := va_runV (p := p) (l := l) (e := e) (below := below) (meth := meth) (locs := locs) (cells := 0) (slots := 0) (H := H) (As := As.map (gz_cv a)) (rest := st.map (gz_cv a)) (b := a w) (g := F0 m pc lsA ((As.reverse ++ .ref w :: st).map (gz_cv a))) ⟨hx, hb, hml, hown, hts⟩ (kc l D cs a H.size) (C := N.1.cls) ⟨cb, hts' _ hm.2.2.1, hts' _ hm.2.2.2⟩
    ⟨gz_blind, hrv, fun U hU hW => ⟨rfl, by rw [hU], by rw [hU]; exact hP, va_K.moved hW.alike hK, ⟨hD.1, fun _ _ _ => trivial⟩, hRO U hU hW⟩⟩ rfl (by simp) hl.1 (by simp [List.map_append, List.map_reverse, gz_cv]) (lv_room (m := m) (pc := pc) (ls := lsA) (rest := []) (by rw [gz_mapcat]; exact hst)) hd ⟨Nat.le_refl 0, Nat.le_refl 0⟩
  refine gz_callg hrun hS hA1 (fun v g2 H1 locs1 hp hP1 hD1 hS1 => ?_)
  rw [hp.1]
  rw [hp.2] at hP1 hD1
  exact n p l e s m args below meth c D cs a A H1 locs1 lsA ⟨hx, hb, hml, hr, hlk, hown, hts, hK, hR, hA⟩ hP1 (hD1.weaken (fun _ q _ z => hA1 q.1 z)) hS1 hl
end SZT
theorem gz_sb_of {w : Nat} (h : gz_str w) : gz_stb (w + 10) := ⟨by omega, by omega⟩
