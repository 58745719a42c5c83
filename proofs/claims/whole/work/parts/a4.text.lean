/-! the class takes a text -/
abbrev mX11_text : gz_M := (yX11_text, cX11_text, 3, some .int)
theorem dX11_text_0 : decode mX11_text.2.1 0 = .ok (.iconst (-1), 1) := by decide +kernel
theorem dX11_text_1 : decode mX11_text.2.1 1 = .ok (.istore_n 2, 1) := by decide +kernel
theorem dX11_text_2 : decode mX11_text.2.1 2 = .ok (.iload_n 1, 1) := by decide +kernel
theorem dX11_text_3 : decode mX11_text.2.1 3 = .ok (.ifCond .ne 21, 3) := by decide +kernel
theorem dX11_text_6 : decode mX11_text.2.1 6 = .ok (.aload_n 0, 1) := by decide +kernel
theorem dX11_text_7 : decode mX11_text.2.1 7 = .ok (.getfield 21, 3) := by decide +kernel
theorem dX11_text_10 : decode mX11_text.2.1 10 = .ok (.invokevirtual 112, 3) := by decide +kernel
theorem dX11_text_13 : decode mX11_text.2.1 13 = .ok (.ifCond .eq 11, 3) := by decide +kernel
theorem dX11_text_16 : decode mX11_text.2.1 16 = .ok (.aload_n 0, 1) := by decide +kernel
theorem dX11_text_17 : decode mX11_text.2.1 17 = .ok (.invokevirtual 125, 3) := by decide +kernel
theorem dX11_text_20 : decode mX11_text.2.1 20 = .ok (.istore_n 2, 1) := by decide +kernel
theorem dX11_text_21 : decode mX11_text.2.1 21 = .ok (.goto 114, 3) := by decide +kernel
theorem dX11_text_24 : decode mX11_text.2.1 24 = .ok (.iload_n 1, 1) := by decide +kernel
theorem dX11_text_25 : decode mX11_text.2.1 25 = .ok (.iconst 1, 1) := by decide +kernel
theorem dX11_text_26 : decode mX11_text.2.1 26 = .ok (.if_icmp .ne 55, 3) := by decide +kernel
theorem dX11_text_29 : decode mX11_text.2.1 29 = .ok (.aload_n 0, 1) := by decide +kernel
theorem dX11_text_30 : decode mX11_text.2.1 30 = .ok (.getfield 129, 3) := by decide +kernel
theorem dX11_text_33 : decode mX11_text.2.1 33 = .ok (.iconst 4, 1) := by decide +kernel
theorem dX11_text_34 : decode mX11_text.2.1 34 = .ok (.if_icmp .ge 47, 3) := by decide +kernel
theorem dX11_text_37 : decode mX11_text.2.1 37 = .ok (.aload_n 0, 1) := by decide +kernel
theorem dX11_text_38 : decode mX11_text.2.1 38 = .ok (.getfield 28, 3) := by decide +kernel
theorem dX11_text_41 : decode mX11_text.2.1 41 = .ok (.invokevirtual 119, 3) := by decide +kernel
theorem dX11_text_44 : decode mX11_text.2.1 44 = .ok (.ifCond .eq 37, 3) := by decide +kernel
theorem dX11_text_47 : decode mX11_text.2.1 47 = .ok (.aload_n 0, 1) := by decide +kernel
theorem dX11_text_48 : decode mX11_text.2.1 48 = .ok (.getfield 41, 3) := by decide +kernel
theorem dX11_text_51 : decode mX11_text.2.1 51 = .ok (.aload_n 0, 1) := by decide +kernel
theorem dX11_text_52 : decode mX11_text.2.1 52 = .ok (.getfield 129, 3) := by decide +kernel
theorem dX11_text_55 : decode mX11_text.2.1 55 = .ok (.aload_n 0, 1) := by decide +kernel
theorem dX11_text_56 : decode mX11_text.2.1 56 = .ok (.getfield 28, 3) := by decide +kernel
theorem dX11_text_59 : decode mX11_text.2.1 59 = .ok (.invokevirtual 132, 3) := by decide +kernel
theorem dX11_text_62 : decode mX11_text.2.1 62 = .ok (.aastore, 1) := by decide +kernel
theorem dX11_text_63 : decode mX11_text.2.1 63 = .ok (.aload_n 0, 1) := by decide +kernel
theorem dX11_text_64 : decode mX11_text.2.1 64 = .ok (.getfield 129, 3) := by decide +kernel
theorem dX11_text_67 : decode mX11_text.2.1 67 = .ok (.istore_n 2, 1) := by decide +kernel
theorem dX11_text_68 : decode mX11_text.2.1 68 = .ok (.aload_n 0, 1) := by decide +kernel
theorem dX11_text_69 : decode mX11_text.2.1 69 = .ok (.dup, 1) := by decide +kernel
theorem dX11_text_70 : decode mX11_text.2.1 70 = .ok (.getfield 129, 3) := by decide +kernel
theorem dX11_text_73 : decode mX11_text.2.1 73 = .ok (.iconst 1, 1) := by decide +kernel
theorem dX11_text_74 : decode mX11_text.2.1 74 = .ok (.iadd, 1) := by decide +kernel
theorem dX11_text_75 : decode mX11_text.2.1 75 = .ok (.putfield 129, 3) := by decide +kernel
theorem dX11_text_78 : decode mX11_text.2.1 78 = .ok (.goto 57, 3) := by decide +kernel
theorem dX11_text_81 : decode mX11_text.2.1 81 = .ok (.iload_n 1, 1) := by decide +kernel
theorem dX11_text_82 : decode mX11_text.2.1 82 = .ok (.iconst 2, 1) := by decide +kernel
theorem dX11_text_83 : decode mX11_text.2.1 83 = .ok (.if_icmp .ne 52, 3) := by decide +kernel
theorem dX11_text_86 : decode mX11_text.2.1 86 = .ok (.aload_n 0, 1) := by decide +kernel
theorem dX11_text_87 : decode mX11_text.2.1 87 = .ok (.getfield 136, 3) := by decide +kernel
theorem dX11_text_90 : decode mX11_text.2.1 90 = .ok (.iconst 4, 1) := by decide +kernel
theorem dX11_text_91 : decode mX11_text.2.1 91 = .ok (.if_icmp .ge 44, 3) := by decide +kernel
theorem dX11_text_94 : decode mX11_text.2.1 94 = .ok (.aload_n 0, 1) := by decide +kernel
theorem dX11_text_95 : decode mX11_text.2.1 95 = .ok (.getfield 35, 3) := by decide +kernel
theorem dX11_text_98 : decode mX11_text.2.1 98 = .ok (.invokevirtual 122, 3) := by decide +kernel
theorem dX11_text_101 : decode mX11_text.2.1 101 = .ok (.ifCond .eq 34, 3) := by decide +kernel
theorem dX11_text_104 : decode mX11_text.2.1 104 = .ok (.aload_n 0, 1) := by decide +kernel
theorem dX11_text_105 : decode mX11_text.2.1 105 = .ok (.getfield 47, 3) := by decide +kernel
theorem dX11_text_108 : decode mX11_text.2.1 108 = .ok (.aload_n 0, 1) := by decide +kernel
theorem dX11_text_109 : decode mX11_text.2.1 109 = .ok (.getfield 136, 3) := by decide +kernel
theorem dX11_text_112 : decode mX11_text.2.1 112 = .ok (.aload_n 0, 1) := by decide +kernel
theorem dX11_text_113 : decode mX11_text.2.1 113 = .ok (.getfield 35, 3) := by decide +kernel
theorem dX11_text_116 : decode mX11_text.2.1 116 = .ok (.invokevirtual 139, 3) := by decide +kernel
theorem dX11_text_119 : decode mX11_text.2.1 119 = .ok (.aastore, 1) := by decide +kernel
theorem dX11_text_120 : decode mX11_text.2.1 120 = .ok (.aload_n 0, 1) := by decide +kernel
theorem dX11_text_121 : decode mX11_text.2.1 121 = .ok (.getfield 136, 3) := by decide +kernel
theorem dX11_text_124 : decode mX11_text.2.1 124 = .ok (.istore_n 2, 1) := by decide +kernel
theorem dX11_text_125 : decode mX11_text.2.1 125 = .ok (.aload_n 0, 1) := by decide +kernel
theorem dX11_text_126 : decode mX11_text.2.1 126 = .ok (.dup, 1) := by decide +kernel
theorem dX11_text_127 : decode mX11_text.2.1 127 = .ok (.getfield 136, 3) := by decide +kernel
theorem dX11_text_130 : decode mX11_text.2.1 130 = .ok (.iconst 1, 1) := by decide +kernel
theorem dX11_text_131 : decode mX11_text.2.1 131 = .ok (.iadd, 1) := by decide +kernel
theorem dX11_text_132 : decode mX11_text.2.1 132 = .ok (.putfield 136, 3) := by decide +kernel
theorem dX11_text_135 : decode mX11_text.2.1 135 = .ok (.iload_n 2, 1) := by decide +kernel
theorem dX11_text_136 : decode mX11_text.2.1 136 = .ok (.iconst (-1), 1) := by decide +kernel
theorem dX11_text_137 : decode mX11_text.2.1 137 = .ok (.if_icmp .eq 11, 3) := by decide +kernel
theorem dX11_text_140 : decode mX11_text.2.1 140 = .ok (.aload_n 0, 1) := by decide +kernel
theorem dX11_text_141 : decode mX11_text.2.1 141 = .ok (.getfield 10, 3) := by decide +kernel
theorem dX11_text_144 : decode mX11_text.2.1 144 = .ok (.iconst 0, 1) := by decide +kernel
theorem dX11_text_145 : decode mX11_text.2.1 145 = .ok (.putfield 105, 3) := by decide +kernel
theorem dX11_text_148 : decode mX11_text.2.1 148 = .ok (.iload_n 2, 1) := by decide +kernel
theorem dX11_text_149 : decode mX11_text.2.1 149 = .ok (.ireturn, 1) := by decide +kernel
theorem mkX11_takeShore : gz_mk mX11_takeShore 0 := ⟨by decide +kernel, ⟨by decide +kernel, by decide +kernel, by decide +kernel⟩, (gz_mem 607 (by decide +kernel) (by decide +kernel)), by decide, (gz_mem 108 (by decide +kernel) (by decide +kernel))⟩
theorem mvX11_125 : gz_mv RX11 125 mX11_takeShore 0 := ⟨mkX11_takeShore, (gz_mem 604 (by decide +kernel) (by decide +kernel)), (gz_mem 606 (by decide +kernel) (by decide +kernel)), (gz_mem 16 (by decide +kernel) (by decide +kernel))⟩
theorem mvX11_132 : gz_mv RX11 132 mX4_made 0 := ⟨mkX4_made, (gz_mem 631 (by decide +kernel) (by decide +kernel)), (gz_mem 632 (by decide +kernel) (by decide +kernel)), (gz_mem 633 (by decide +kernel) (by decide +kernel))⟩
theorem mvX11_139 : gz_mv RX11 139 mX1_made 0 := ⟨mkX1_made, (gz_mem 659 (by decide +kernel) (by decide +kernel)), (gz_mem 660 (by decide +kernel) (by decide +kernel)), (gz_mem 661 (by decide +kernel) (by decide +kernel))⟩
/-- a contract over any world, with what lies about -/
def gx_KR (l : Launch) (D : va_G) (cs : Nat → ClassId) (h : Nat) (M : gz_M) (mc ms : Nat) (av : List Value) (w : va_W) (a : Nat → Nat) (Ph : Option Value → va_W → Prop) : Prop :=
  ∀ sz : Nat, Met l M.1 (gz_ws M) (gx_rm h mc ms) (va_Pc av (fun U => U.heap.size = sz ∧ va_P D vwCl w U.heap ∧ va_K D vwCl (gz_ty cs) U ∧ va_D (fun _ => True) w ∧ gx_X cs U ∧ gz_RO a (va_A w sz) U U.heap)) (gx_Q D (va_A w sz) Ph) mc ms (va_A w sz)
theorem gx_KR.of {l : Launch} {D : va_G} {cs : Nat → ClassId} {h : Nat} {M : gz_M} {mc ms : Nat} {av : List Value} {w : va_W} {a : Nat → Nat} {Ph : Option Value → va_W → Prop} (n : Nat) (hp : plainFor M.1 = true) (hn : (gz_en av).length + n = M.2.2.1)
    (kk : ∀ X : gx_T, gx_C X M cs h → gx_E X mc ms Ph → gx_ok X mc ms → gx_RO X a → gx X M 0 0 w 0 (gz_en av ++ List.replicate n none) []) : gx_KR l D cs h M mc ms av w a Ph := by
  intro sz
  refine gz_ofWF (cc := M.2.1) (maxL := M.2.2.1) (ret := M.2.2.2) hp rfl ?_
  intro p e s m args below meth c s₁ B hml hv
  obtain ⟨rfl, hsz, hP, hK, hD0, hX, hRO⟩ := hv
  subst hsz
  have hts := atoms_spec (ws := gz_ws M) B.pre
  have hown : s.vm.findClass M.1.cls = some m.cls := findClass_of_methodNamed B.named
  have hl := lv_entry av (n := M.2.2.1) (by rw [gx_lgsl]; omega)
  rw [lg_entry_eq]
  exact kk (p, l, e, gx_rm h mc ms, s, m, _, below, meth, c, D, va_A w s.heap.size, _) ⟨B.exec, B.bytes, hml, B.returns, B.notSynchronized, hown, fun w hw => hts w (List.mem_cons_of_mem _ hw), hK, hX, fun q hq => Or.inr hq, Nat.le_refl _, Nat.le_refl _⟩ rfl ⟨Nat.le_refl _, Nat.le_refl _⟩ hRO s.heap [] _ hP (hD0.self) va_S.rf
    ⟨hl.1, hl.2.1, fun q hq => hl.2.2 q (gx_en_has (by rw [gz_kn_app] at hq; exact hq))⟩
section GX
variable {X : gx_T} {M : gz_M} {cs : Nat → ClassId} {hh kc nc : Nat} {w : va_W} {pc : Nat} {ls : List (Option Value)} {st : List Value} {La : gz_L} {a : Nat → Nat} {g : gz_S}
theorem gy_getW {j ci kf ix : Nat} {v : Value} (C : gx_C X M cs hh) (hd : decode M.2.1 pc = .ok (.getfield ix, 3)) (hf : gz_fl M.1.cls ix ci kf) (hk : gz_kd La j = (0, ci)) (hv : gz_fv La a g j ci kf = v)
    (nx : gx X M kc nc (gz_w cs La a g) (pc + 3) ls (v :: st)) : gx X M kc nc (gz_w cs La a g) pc ls (.ref (a j) :: st) := by
  obtain ⟨q, -, hq⟩ := gz_at (cs := cs) (a := a) (g := g) (La := La) (j := j) (by rw [hk]; exact (by decide : 0 < 9))
  rw [gz_ceO hk] at hq
  exact gy_get (q := q) C hd hf hq (by rw [gz_fvget hf.2.1, hv]) nx
theorem gy_putW {j ci kf ix : Nat} {v : Int32} (C : gx_C X M cs hh) (hd : decode M.2.1 pc = .ok (.putfield ix, 3)) (hf : gz_fl M.1.cls ix ci kf) (hk : gz_kd La j = (0, ci)) (hi : gz_fi ci kf)
    (nx : gx X M kc nc (gz_w cs La a (gz_wi g j kf v)) (pc + 3) ls st) : gx X M kc nc (gz_w cs La a g) pc ls (.int v :: .ref (a j) :: st) := by
  obtain ⟨p, l, e, R, s, m, args, below, meth, c, D, A, Q⟩ := X
  intro H locs lsA hP hD hS hl
  obtain ⟨q, hq0, hq⟩ := gz_at (cs := cs) (a := a) (g := g) (La := La) (j := j) (by rw [hk]; exact (by decide : 0 < 9))
  rw [gz_ceO hk] at hq
  refine va_put (D := D) (ty := gz_kY ci kf) (C := gz_kR ci) (T := gz_kT ci) (N := gz_nf ci) C.1 C.2.1 C.2.2.2.2.2.2.1 (gz_uw hf.1) (gz_kY ci) (gz_tyok hf.1) (gz_nmok hf.1) C.2.2.2.2.2.1 C.2.2.2.2.2.2.2.1 hP hD hS q hq (gz_cl hf.1) kf hf.2.1 (C.2.2.2.2.2.2.1 _ hf.2.2) (fun _ h => h) hi.2.2 (gz_tyok hf.1 kf hf.2.1) (v := .int v) (by rw [hi.2.1]; rfl) (by rw [hi.2.1]; rfl) (by simpa using hf.2.1) hd (fun H locs hP hD2 hS => ?_)
  have ew : (gz_w cs La a g).set q (a j, .inr (ci, ((List.range (gz_nf ci)).map (gz_fv La a g j ci)).set kf (.int v))) = gz_w cs La a (gz_wi g j kf v) := gz_set hD hq0 (gz_ceO_wi hk hi.1) gz_ce_wi
  exact nx H locs lsA (ew ▸ hP) (ew ▸ hD2) hS hl
/-- the same cells, told by another list -/
theorem gy_world {w2 : va_W} (h1 : ∀ x ∈ w2, x ∈ w) (h2 : ∀ A, va_D A w → va_D A w2) (nx : gx X M kc nc w2 pc ls st) : gx X M kc nc w pc ls st := by
  obtain ⟨p, l, e, R, s, m, args, below, meth, c, D, A, Q⟩ := X
  intro H locs lsA hP hD hS hl
  refine nx H locs lsA (fun k q hq => ?_) (h2 A hD) hS hl
  obtain ⟨i, hi⟩ := List.getElem?_of_mem (h1 q (List.mem_of_getElem? hq))
  exact hP i q hi
end GX
/-- where a cell's number stands in the list -/
def gz_pos (La : gz_L) (j : Nat) : Nat := if j < 64 then j else if j < 110 then j - 36 else 64 + 2 * La.1 + (j - 110)
theorem gz_lvp {La : gz_L} (hL : La.1 ≤ 4) {i j : Nat} (h : (gz_lv La)[i]? = some j) : i = gz_pos La j ∧ (j < 64 ∨ (100 ≤ j ∧ j < 100 + 2 * La.1) ∨ (110 ≤ j ∧ j < 110 + 2 * La.2.1)) := by
  unfold gz_lv at h
  rw [List.getElem?_append] at h
  by_cases h1 : i < (List.range 64).length
  · rw [if_pos h1] at h
    rw [List.length_range] at h1
    rw [List.getElem?_range h1] at h
    cases h
    exact ⟨(if_pos h1).symm, Or.inl h1⟩
  · rw [if_neg h1, List.length_range, List.getElem?_append] at h
    rw [List.length_range] at h1
    by_cases h2 : i - 64 < ((List.range (2 * La.1)).map (fun i => 100 + i)).length
    · rw [if_pos h2, List.getElem?_map] at h
      rw [List.length_map, List.length_range] at h2
      rw [List.getElem?_range h2] at h
      have h : some (100 + (i - 64)) = some j := h
      cases h
      refine ⟨?_, Or.inr (Or.inl ⟨by omega, by omega⟩)⟩
      unfold gz_pos
      rw [if_neg (by omega), if_pos (by omega)]; omega
    · rw [if_neg h2, List.getElem?_map] at h
      rw [List.length_map, List.length_range] at h2 h
      by_cases h3 : i - 64 - 2 * La.1 < 2 * La.2.1
      · rw [List.getElem?_range h3] at h
        have h : some (110 + (i - 64 - 2 * La.1)) = some j := h
        cases h
        refine ⟨?_, Or.inr (Or.inr ⟨by omega, by omega⟩)⟩
        unfold gz_pos
        rw [if_neg (by omega), if_neg (by omega)]; omega
      · rw [List.getElem?_eq_none (by rw [List.length_range]; omega)] at h
        cases h
theorem gz_mlv {La : gz_L} {j : Nat} : j ∈ gz_lv La ↔ j < 64 ∨ (100 ≤ j ∧ j < 100 + 2 * La.1) ∨ (110 ≤ j ∧ j < 110 + 2 * La.2.1) := by
  unfold gz_lv
  simp only [List.mem_append, List.mem_range, List.mem_map]
  constructor
  · rintro (h | ⟨i, h1, h2⟩ | ⟨i, h1, h2⟩)
    · exact Or.inl h
    · exact Or.inr (Or.inl (by omega))
    · exact Or.inr (Or.inr (by omega))
  · rintro (h | h | h)
    · exact Or.inl h
    · exact Or.inr (Or.inl ⟨j - 100, by omega, by omega⟩)
    · exact Or.inr (Or.inr ⟨j - 110, by omega, by omega⟩)
theorem gz_wm {cs : Nat → ClassId} {La : gz_L} {a : Nat → Nat} {g : gz_S} {x : Nat × va_E} : x ∈ gz_w cs La a g ↔ ∃ j, j ∈ gz_lv La ∧ x = (a j, gz_ce cs La a g j) := by
  unfold gz_w
  rw [List.mem_map]
  constructor
  · rintro ⟨j, h1, h2⟩; exact ⟨j, h1, h2.symm⟩
  · rintro ⟨j, h1, h2⟩; exact ⟨j, h1, h2.symm⟩
/-- addresses of the one world are apart, by their numbers -/
theorem gz_inj {cs : Nat → ClassId} {La : gz_L} {a : Nat → Nat} {g : gz_S} {A : Nat → Prop} {v : va_W} (hL : La.1 ≤ 4) (hD : va_D A (gz_w cs La a g ++ v)) {i j : Nat} (hi : i ∈ gz_lv La) (hj : j ∈ gz_lv La) (he : a i = a j) : i = j := by
  obtain ⟨p, hp⟩ := List.getElem?_of_mem hi
  obtain ⟨q, hq⟩ := List.getElem?_of_mem hj
  have e1 : (gz_w cs La a g)[p]? = some (a i, gz_ce cs La a g i) := by unfold gz_w; rw [List.getElem?_map, hp]; rfl
  have e2 : (gz_w cs La a g)[q]? = some (a j, gz_ce cs La a g j) := by unfold gz_w; rw [List.getElem?_map, hq]; rfl
  have := hD.1 p q _ _ (gx_geto v e1) (gx_geto v e2) he
  subst this
  rw [hp] at hq
  cases hq; rfl
theorem gz_len {cs : Nat → ClassId} {La : gz_L} {a : Nat → Nat} {g : gz_S} : (gz_w cs La a g).length = (gz_lv La).length := by unfold gz_w; rw [List.length_map]
theorem gz_new {cs : Nat → ClassId} {La : gz_L} {a : Nat → Nat} {g : gz_S} {A : Nat → Prop} {v : va_W} (hD : va_D A (gz_w cs La a g ++ v)) {i k : Nat} {x : Nat × va_E} (hi : i ∈ gz_lv La) (hk : v[k]? = some x) : ¬ a i = x.1 := by
  intro he
  obtain ⟨p, hp⟩ := List.getElem?_of_mem hi
  have e1 : (gz_w cs La a g)[p]? = some (a i, gz_ce cs La a g i) := by unfold gz_w; rw [List.getElem?_map, hp]; rfl
  have hlt : p < (gz_w cs La a g).length := (List.getElem?_eq_some_iff.mp e1).1
  have e2 : (gz_w cs La a g ++ v)[(gz_w cs La a g).length + k]? = some x := by
    rw [List.getElem?_append_right (by omega), Nat.add_sub_cancel_left]; exact hk
  have := hD.1 p _ _ _ (gx_geto v e1) e2 he
  omega
/-- two cells more: a law or an evening with its row -/
theorem gz_D2 {cs : Nat → ClassId} {La La' : gz_L} {a a' : Nat → Nat} {g g' : gz_S} {A : Nat → Prop} {e1 e2 : va_E} {z1 z2 j1 j2 : Nat} (hL : La.1 ≤ 4) (hL' : La'.1 ≤ 4) (h12 : j1 ≠ j2) (hn1 : ¬ j1 ∈ gz_lv La) (hn2 : ¬ j2 ∈ gz_lv La) (hlv : ∀ j, j ∈ gz_lv La' → j ∈ gz_lv La ∨ j = j1 ∨ j = j2) (ha1 : a' j1 = z1) (ha2 : a' j2 = z2) (hao : ∀ j, j ∈ gz_lv La → a' j = a j)
    (hD : va_D A (gz_w cs La a g ++ [(z1, e1), (z2, e2)])) : va_D A (gz_w cs La' a' g') := by
  have n1 : ∀ i, i ∈ gz_lv La → ¬ a i = z1 := fun i hi => gz_new hD hi (k := 0) (x := (z1, e1)) rfl
  have n2 : ∀ i, i ∈ gz_lv La → ¬ a i = z2 := fun i hi => gz_new hD hi (k := 1) (x := (z2, e2)) rfl
  have hw1 : (gz_w cs La a g ++ [(z1, e1), (z2, e2)])[(gz_w cs La a g).length]? = some (z1, e1) := by simp
  have hw2 : (gz_w cs La a g ++ [(z1, e1), (z2, e2)])[(gz_w cs La a g).length + 1]? = some (z2, e2) := by simp
  have nz : ¬ z1 = z2 := fun he => by
    have := hD.1 _ _ _ _ hw1 hw2 he
    omega
  have inj : ∀ i j, i ∈ gz_lv La' → j ∈ gz_lv La' → a' i = a' j → i = j := by
    intro i j hi hj he
    rcases hlv i hi with h | h | h <;> rcases hlv j hj with h' | h' | h'
    · rw [hao i h, hao j h'] at he; exact gz_inj hL hD h h' he
    · rw [hao i h, h', ha1] at he; exact absurd he (n1 i h)
    · rw [hao i h, h', ha2] at he; exact absurd he (n2 i h)
    · rw [hao j h', h, ha1] at he; exact absurd he.symm (n1 j h')
    · rw [h, h']
    · rw [h, h', ha1, ha2] at he; exact absurd he nz
    · rw [hao j h', h, ha2] at he; exact absurd he.symm (n2 j h')
    · rw [h, h', ha1, ha2] at he; exact absurd he.symm nz
    · rw [h, h']
  have atw : ∀ (i : Nat) (p : Nat × va_E), (gz_w cs La' a' g')[i]? = some p → ∃ j, (gz_lv La')[i]? = some j ∧ p.1 = a' j := by
    intro i p hp
    unfold gz_w at hp
    rw [List.getElem?_map] at hp
    cases hj : (gz_lv La')[i]? with
    | none => rw [hj] at hp; cases hp
    | some j => rw [hj] at hp; cases hp; exact ⟨j, rfl, rfl⟩
  refine ⟨fun i j p q hp hq he => ?_, fun k q hq => ?_⟩
  · obtain ⟨x, hx, hx'⟩ := atw i p hp
    obtain ⟨y, hy, hy'⟩ := atw j q hq
    have := inj x y (List.mem_of_getElem? hx) (List.mem_of_getElem? hy) (by rw [← hx', ← hy']; exact he)
    subst this
    rw [(gz_lvp hL' hx).1, (gz_lvp hL' hy).1]
  · obtain ⟨x, hx, hx'⟩ := atw k q hq
    rw [hx']
    rcases hlv x (List.mem_of_getElem? hx) with h | h | h
    · rw [hao x h]
      obtain ⟨i, hi⟩ := List.getElem?_of_mem h
      have e : (gz_w cs La a g)[i]? = some (a x, gz_ce cs La a g x) := by unfold gz_w; rw [List.getElem?_map, hi]; rfl
      exact hD.2 i _ (gx_geto _ e)
    · rw [h, ha1]; exact hD.2 _ _ hw1
    · rw [h, ha2]; exact hD.2 _ _ hw2
theorem gz_ce_cg {cs : Nat → ClassId} {La La' : gz_L} {a a' : Nat → Nat} {g g' : gz_S} {j : Nat} (hk : gz_kd La' j = gz_kd La j) (h1 : g'.1 j = g.1 j) (h2 : g'.2.1 j = g.2.1 j) (hr : ((gz_kd La j).1 = 0 ∨ 4 ≤ (gz_kd La j).1) → ∀ i, (gz_rf La' g' j i).map a' = (gz_rf La g j i).map a) : gz_ce cs La' a' g' j = gz_ce cs La a g j := by
  unfold gz_ce
  rw [hk, h1, h2]
  by_cases k0 : (gz_kd La j).1 = 0
  · rw [if_pos k0, if_pos k0]
    have hr := hr (Or.inl k0)
    have e : ∀ ci, gz_fv La' a' g' j ci = gz_fv La a g j ci := by
      intro ci; funext i; unfold gz_fv; rw [h1, h2, hr i]
    rw [e]
  rw [if_neg k0, if_neg k0]
  by_cases k1 : (gz_kd La j).1 = 1
  · rw [if_pos k1, if_pos k1]
  rw [if_neg k1, if_neg k1]
  by_cases k2 : (gz_kd La j).1 = 2
  · rw [if_pos k2, if_pos k2]
  rw [if_neg k2, if_neg k2]
  by_cases k3 : (gz_kd La j).1 = 3
  · rw [if_pos k3, if_pos k3]
  rw [if_neg k3, if_neg k3]
  have hr := hr (Or.inr (by omega))
  have e : (fun i => (gz_rf La' g' j i).map a') = fun i => (gz_rf La g j i).map a := funext hr
  rw [e]
theorem gz_rft_ok : (gz_rft.all (fun r => r.all (fun o => match o with | none => true | some e => decide (e < 100) || decide (200 ≤ e)))) = true := by decide +kernel
theorem gz_rft_b {j i e : Nat} (h : ((gz_rft.getD j []).getD i none) = some e) : e < 100 ∨ 200 ≤ e := by
  have h0 := gz_rft_ok
  rw [List.all_eq_true] at h0
  rw [List.getD_eq_getElem?_getD, List.getD_eq_getElem?_getD] at h
  cases h1 : gz_rft[j]? with
  | none => rw [h1] at h; cases h
  | some r =>
    rw [h1] at h
    have h2 := h0 r (List.mem_of_getElem? h1)
    rw [List.all_eq_true] at h2
    cases h3 : r[i]? with
    | none =>
      have h : (r[i]?).getD none = some e := h
      rw [h3] at h; cases h
    | some q =>
      have h : (r[i]?).getD none = some e := h
      rw [h3] at h
      have h : q = some e := h
      have h4 := h2 q (List.mem_of_getElem? h3)
      rw [h] at h4
      have h4 : (decide (e < 100) || decide (200 ≤ e)) = true := h4
      rw [Bool.or_eq_true, decide_eq_true_eq, decide_eq_true_eq] at h4
      exact h4
/-- refs of the one world under new numbers -/
theorem gz_rf_cg {La La' : gz_L} {a a' : Nat → Nat} {g g' : gz_S} {j : Nat} (hj : j ∈ gz_lv La) (hL : La.1 ≤ 4 ∧ La.2.1 ≤ 4) (hk : (gz_kd La j).1 = 0 ∨ 4 ≤ (gz_kd La j).1) (hA : j = 12 → La'.1 = La.1) (hB : j = 13 → La'.2.1 = La.2.1) (hg : g'.2.2 = g.2.2) (ha : ∀ i, (i < 100 ∨ 200 ≤ i ∨ i ∈ gz_lv La) → a' i = a i) (h0 : (g.2.2 0).getD 0 < 100 ∨ (g.2.2 0).getD 0 ∈ gz_lv La) (h1 : (g.2.2 1).getD 0 < 100) : ∀ i, (gz_rf La' g' j i).map a' = (gz_rf La g j i).map a := by
  intro i
  rw [gz_mlv] at hj
  unfold gz_rf
  rw [hg]
  by_cases c1 : j = 8 ∧ i = 0
  · rw [if_pos c1, if_pos c1]
    cases h : g.2.2 0 with
    | none => rfl
    | some x => rw [h] at h0; exact congrArg some (ha x (h0.elim (fun z => Or.inl z) (fun z => Or.inr (Or.inr z))))
  rw [if_neg c1, if_neg c1]
  by_cases c2 : j = 39 ∧ i = 5
  · rw [if_pos c2, if_pos c2]
    cases h : g.2.2 1 with
    | none => rfl
    | some x => rw [h] at h1; exact congrArg some (ha x (Or.inl h1))
  rw [if_neg c2, if_neg c2]
  by_cases c3 : j < 40
  · rw [if_pos c3, if_pos c3]
    by_cases c4 : j = 12
    · rw [if_pos c4, if_pos c4, hA c4]
      by_cases c5 : i < La.1
      · rw [if_pos c5]; exact congrArg some (ha _ (Or.inr (Or.inr (gz_mlv.mpr (by omega)))))
      · rw [if_neg c5]; rfl
    rw [if_neg c4, if_neg c4]
    by_cases c6 : j = 13
    · rw [if_pos c6, if_pos c6, hB c6]
      by_cases c5 : i < La.2.1
      · rw [if_pos c5]; exact congrArg some (ha _ (Or.inr (Or.inr (gz_mlv.mpr (by omega)))))
      · rw [if_neg c5]; rfl
    rw [if_neg c6, if_neg c6]
    cases h : (gz_rft.getD j []).getD i none with
    | none => rfl
    | some x =>
      have hx := gz_rft_b h
      exact congrArg some (ha x (hx.elim (fun z => Or.inl z) (fun z => Or.inr (Or.inl z))))
  rw [if_neg c3, if_neg c3]
  by_cases c7 : (100 ≤ j ∧ j < 108 ∧ i = 0) ∨ (110 ≤ j ∧ j < 118 ∧ i = 1)
  · rw [if_pos c7]
    refine congrArg some (ha _ (Or.inr (Or.inr (gz_mlv.mpr ?_))))
    unfold gz_kd at hk
    rw [if_neg (by omega)] at hk
    rcases hj with h | h | h
    · omega
    · rw [if_pos ⟨h.1, by omega, h.2⟩] at hk
      by_cases e : (j - 100) % 2 = 0
      · omega
      · rw [if_neg e] at hk
        have hk : (1 : Nat) = 0 ∨ 4 ≤ 1 := hk
        omega
    · rw [if_neg (by omega), if_pos ⟨h.1, by omega, h.2⟩] at hk
      by_cases e : (j - 110) % 2 = 0
      · omega
      · rw [if_neg e] at hk
        have hk : (1 : Nat) = 0 ∨ 4 ≤ 1 := hk
        omega
  · rw [if_neg c7]; rfl

