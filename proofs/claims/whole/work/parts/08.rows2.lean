/-! rows for the printed walks -/
def gz_let {α β : Type} (x : α) (f : α → Option β) : Option β := f x
theorem gz_lt {α β : Type} {x : α} {f : α → Option β} {r : β} (h : gz_let x f = some r) : ∃ y, y = x ∧ f y = some r := ⟨x, rfl, h⟩
theorem gz_bd {α β : Type} {x : Option α} {f : α → Option β} {r : β} (h : x.bind f = some r) : ∃ y, x = some y ∧ f y = some r := Option.bind_eq_some_iff.mp h
theorem gz_gd {β : Type} {c : Prop} {i : Decidable c} {x : Option β} {r : β} (h : (@ite _ c i x none) = some r) : c ∧ x = some r := by
  by_cases hc : c
  · rw [if_pos hc] at h; exact ⟨hc, h⟩
  · rw [if_neg hc] at h; cases h
theorem gz_ip {β : Type} {c : Prop} {i : Decidable c} {x y : Option β} {r : β} (hc : c) (h : (@ite _ c i x y) = some r) : x = some r := by rw [if_pos hc] at h; exact h
theorem gz_in1 {β : Type} {c : Prop} {i : Decidable c} {x y : Option β} {r : β} (hc : ¬ c) (h : (@ite _ c i x y) = some r) : y = some r := by rw [if_neg hc] at h; exact h
def gz_on {β : Type} (o : Option Nat) (a : Option β) (f : Nat → Option β) : Option β := match o with
  | none => a
  | some x => f x
theorem gz_nbx {x : Int32} (h : x = 0 ∨ x = 1) : narrow .boolean (.int x) = .int x := by rcases h with rfl | rfl <;> rfl
section SZ2
variable {La : gz_L} {h : Nat} {M : gz_M} {pc : Nat} {ls : List (Option Value)} {st : List Value} {g : gz_S} {Ph : Option Value → gz_S → Prop}
theorem sz_tog {g2 : gz_S} (he : g2 = g) (n : gz_J La h M pc ls st g2 Ph) : gz_J La h M pc ls st g Ph := by subst he; exact n
theorem sz_topi {x y : Int32} (he : y = x) (n : gz_J La h M pc ls (.int y :: st) g Ph) : gz_J La h M pc ls (.int x :: st) g Ph := by subst he; exact n
theorem sz_topl {x y : Int64} (he : y = x) (n : gz_J La h M pc ls (.long y :: st) g Ph) : gz_J La h M pc ls (.long x :: st) g Ph := by subst he; exact n
theorem sz_ialdL {j N k : Nat} {i : Int32} (hd : decode M.2.1 pc = .ok (.iaload, 1)) (hk : gz_kd La j = (1, N)) (hin : vp_in i N) (hi : i.toNatClampNeg = k) (n : gz_J La h M (pc + 1) ls (.int (g.1 j k) :: st) g Ph) : gz_J La h M pc ls (.int i :: .ref j :: st) g Ph := by
  subst hi; exact sz_iald hd hk hin n
theorem sz_baldL {j N k : Nat} {i : Int32} (hd : decode M.2.1 pc = .ok (.baload, 1)) (hk : gz_kd La j = (2, N)) (hin : vp_in i N) (hi : i.toNatClampNeg = k) (n : gz_J La h M (pc + 1) ls (.int (g.1 j k) :: st) g Ph) : gz_J La h M pc ls (.int i :: .ref j :: st) g Ph := by
  subst hi; exact sz_bald hd hk hin n
theorem sz_iastL {j N k : Nat} {i x : Int32} {g2 : gz_S} (hd : decode M.2.1 pc = .ok (.iastore, 1)) (hk : gz_kd La j = (1, N)) (hin : vp_in i N) (hi : i.toNatClampNeg = k) (he : g2 = gz_wi g j k x) (n : gz_J La h M (pc + 1) ls st g2 Ph) : gz_J La h M pc ls (.int x :: .int i :: .ref j :: st) g Ph := by
  subst hi; subst he; exact sz_iast hd hk hin n
theorem sz_bastL {j N k : Nat} {i x : Int32} {g2 : gz_S} (hd : decode M.2.1 pc = .ok (.bastore, 1)) (hk : gz_kd La j = (2, N)) (hin : vp_in i N) (hi : i.toNatClampNeg = k) (he : g2 = gz_wi g j k (vp_nar .byte x)) (n : gz_J La h M (pc + 1) ls st g2 Ph) : gz_J La h M pc ls (.int x :: .int i :: .ref j :: st) g Ph := by
  subst hi; subst he; exact sz_bast hd hk hin n
theorem sz_putI2 {j ci k ix : Nat} {v : Int32} {g2 : gz_S} (hd : decode M.2.1 pc = .ok (.putfield ix, 3)) (hf : gz_fl M.1.cls ix ci k) (hk : gz_kd La j = (0, ci)) (hi : gz_fi ci k) (he : g2 = gz_wi g j k v) (n : gz_J La h M (pc + 3) ls st g2 Ph) : gz_J La h M pc ls (.int v :: .ref j :: st) g Ph := by
  subst he; exact sz_putI hd hf hk hi.1 (by rw [hi.2.1]; rfl) (by rw [hi.2.1]; rfl) hi.2.2 n
theorem sz_putZ2 {j ci k ix : Nat} {v : Int32} {g2 : gz_S} (hd : decode M.2.1 pc = .ok (.putfield ix, 3)) (hf : gz_fl M.1.cls ix ci k) (hk : gz_kd La j = (0, ci)) (hi : gz_fz ci k) (hv : v = 0 ∨ v = 1) (he : g2 = gz_wi g j k v) (n : gz_J La h M (pc + 3) ls st g2 Ph) : gz_J La h M pc ls (.int v :: .ref j :: st) g Ph := by
  subst he
  refine sz_putI hd hf hk hi.1 ?_ ?_ hi.2.2 n
  · rw [hi.2.1]; exact gz_nbx hv
  · rw [hi.2.1]; rcases hv with rfl | rfl <;> rfl
theorem sz_putJ2 {j ci k ix : Nat} {v : Int64} {g2 : gz_S} (hd : decode M.2.1 pc = .ok (.putfield ix, 3)) (hf : gz_fl M.1.cls ix ci k) (hk : gz_kd La j = (0, ci)) (ht : gz_ft ci k = 1 ∧ gz_kY ci k = .long ∧ (gz_kT ci k).2.2.2 = false) (he : g2 = gz_wl g j k v) (n : gz_J La h M (pc + 3) ls st g2 Ph) : gz_J La h M pc ls (.long v :: .ref j :: st) g Ph := by
  subst he; exact sz_putJ hd hf hk ht.1 (by rw [ht.2.1]; rfl) (by rw [ht.2.1]; rfl) ht.2.2 n
theorem sz_callVi {ix h2 j ci : Nat} {N : gz_M} (As : List Value) (st : List Value) {r : Int32 × gz_S} (hd : decode M.2.1 pc = .ok (.invokevirtual ix, 3)) (hm : gz_mv M.1.cls ix N As.length) (hh : h2 < h) (hci : ci < 13) (hk : gz_kd La j = (0, ci)) (hc : gz_kR ci = N.1.cls) (hst : (st.map fun v => v.category).sum ≤ 8)
    (kc : gz_K La h2 N (.ref j :: As) g (gz_Fi r)) (n : gz_J La h M (pc + 3) ls (.int r.1 :: st) r.2 Ph) : gz_J La h M pc ls (As.reverse ++ .ref j :: st) g Ph :=
  sz_callV hd hm hh hci hk hc hst kc (fun _ _ e => by rw [e.1, e.2]; exact n)
theorem sz_callVv {ix h2 j ci : Nat} {N : gz_M} (As : List Value) (st : List Value) {r : gz_S} (hd : decode M.2.1 pc = .ok (.invokevirtual ix, 3)) (hm : gz_mv M.1.cls ix N As.length) (hh : h2 < h) (hci : ci < 13) (hk : gz_kd La j = (0, ci)) (hc : gz_kR ci = N.1.cls) (hst : (st.map fun v => v.category).sum ≤ 8)
    (kc : gz_K La h2 N (.ref j :: As) g (gz_Fv r)) (n : gz_J La h M (pc + 3) ls st r Ph) : gz_J La h M pc ls (As.reverse ++ .ref j :: st) g Ph :=
  sz_callV hd hm hh hci hk hc hst kc (fun _ _ e => by rw [e.1, e.2]; exact n)
theorem sz_callVr {ix h2 j ci : Nat} {N : gz_M} (As : List Value) (st : List Value) {r : Option Nat × gz_S} (hd : decode M.2.1 pc = .ok (.invokevirtual ix, 3)) (hm : gz_mv M.1.cls ix N As.length) (hh : h2 < h) (hci : ci < 13) (hk : gz_kd La j = (0, ci)) (hc : gz_kR ci = N.1.cls) (hst : (st.map fun v => v.category).sum ≤ 8)
    (kc : gz_K La h2 N (.ref j :: As) g (gz_Fr r)) (n : gz_J La h M (pc + 3) ls (va_rf r.1 :: st) r.2 Ph) : gz_J La h M pc ls (As.reverse ++ .ref j :: st) g Ph :=
  sz_callV hd hm hh hci hk hc hst kc (fun _ _ e => by rw [e.1, e.2]; exact n)
theorem sz_callSi {ix h2 : Nat} {N : gz_M} (As : List Value) (st : List Value) {r : Int32 × gz_S} (hd : decode M.2.1 pc = .ok (.invokestatic ix, 3)) (hm : gz_ms M.1.cls ix N As.length) (hh : h2 < h) (hst : (st.map fun v => v.category).sum ≤ 8)
    (kc : gz_K La h2 N As g (gz_Fi r)) (n : gz_J La h M (pc + 3) ls (.int r.1 :: st) r.2 Ph) : gz_J La h M pc ls (As.reverse ++ st) g Ph :=
  sz_callS hd hm hh hst kc (fun _ _ e => by rw [e.1, e.2]; exact n)
theorem sz_callSl {ix h2 : Nat} {N : gz_M} (As : List Value) (st : List Value) {r : Int64 × gz_S} (hd : decode M.2.1 pc = .ok (.invokestatic ix, 3)) (hm : gz_ms M.1.cls ix N As.length) (hh : h2 < h) (hst : (st.map fun v => v.category).sum ≤ 8)
    (kc : gz_K La h2 N As g (gz_Fl r)) (n : gz_J La h M (pc + 3) ls (.long r.1 :: st) r.2 Ph) : gz_J La h M pc ls (As.reverse ++ st) g Ph :=
  sz_callS hd hm hh hst kc (fun _ _ e => by rw [e.1, e.2]; exact n)
theorem sz_callSv {ix h2 : Nat} {N : gz_M} (As : List Value) (st : List Value) {r : gz_S} (hd : decode M.2.1 pc = .ok (.invokestatic ix, 3)) (hm : gz_ms M.1.cls ix N As.length) (hh : h2 < h) (hst : (st.map fun v => v.category).sum ≤ 8)
    (kc : gz_K La h2 N As g (gz_Fv r)) (n : gz_J La h M (pc + 3) ls st r Ph) : gz_J La h M pc ls (As.reverse ++ st) g Ph :=
  sz_callS hd hm hh hst kc (fun _ _ e => by rw [e.1, e.2]; exact n)
/-- System.arraycopy of ints -/
theorem sz_acopy {ix j0 j1 n0 n1 k0 k1 kn : Nat} {sp dp n : Int32} {g2 : gz_S} (hd : decode M.2.1 pc = .ok (.invokestatic ix, 3)) (hw : Cond.methodLink M.1.cls ix arraycopyName ∈ gz_U ∧ Cond.native arraycopyName ∈ gz_U ∧ Cond.static arraycopyName ∈ gz_U ∧ Cond.initialized "java/lang/System" ∈ gz_U)
    (hh : 1 ≤ h) (hst : st = []) (hk0 : gz_kd La j0 = (1, n0)) (hk1 : gz_kd La j1 = (1, n1)) (h1 : ¬ sp < 0) (h2 : ¬ dp < 0) (h3 : ¬ n < 0) (e0 : sp.toNatClampNeg = k0) (e1 : dp.toNatClampNeg = k1) (en : n.toNatClampNeg = kn) (h4 : k0 + kn ≤ n0) (h5 : k1 + kn ≤ n1) (he : g2 = gz_wa g j1 (va_cpy (g.1 j0) (g.1 j1) k0 k1 kn))
    (nx : gz_J La h M (pc + 3) ls st g2 Ph) : gz_J La h M pc ls (.int n :: .int dp :: .ref j1 :: .int sp :: .ref j0 :: st) g Ph := by
  subst e0; subst e1; subst en; subst he; subst hst
  intro p l e s m args below meth c D cs a A H locs lsA C hP hD hS hl
  obtain ⟨q0, -, hq0⟩ := gz_at (cs := cs) (a := a) (g := g) (La := La) (j := j0) (by rw [hk0]; exact (by decide : 1 < 9))
  obtain ⟨q1, hr1, hq1⟩ := gz_at (cs := cs) (a := a) (g := g) (La := La) (j := j1) (by rw [hk1]; exact (by decide : 1 < 9))
  rw [gz_ce1 hk0] at hq0
  rw [gz_ce1 hk1] at hq1
  have hts' : ∀ w ∈ gz_U, w.before args s = true := fun w hw => C.2.2.2.2.2.2.1 w (List.mem_cons_of_mem _ hw)
  refine va_copyi C.1 C.2.1 (by rw [C.2.2.1]; exact hl.1.symm) C.2.2.2.2.2.1 (hts' _ hw.1) (hts' _ hw.2.1) (hts' _ hw.2.2.1) (hts' _ hw.2.2.2) C.2.2.2.2.2.2.2.1 hP hD hS q0 q1 0 0 hq0 hq1 rfl rfl rfl h1 h2 h3 h4 h5 (fun _ _ => rfl) hh ?_ hd (fun H locs hP hD2 hS => ?_)
  · show 0 + (nativeFrameWords "java/lang/System" "arraycopy" 5 + 11) ≤ 64 * h
    have : nativeFrameWords "java/lang/System" "arraycopy" 5 + 11 ≤ 64 := by decide +kernel
    omega
  · have ew := gz_set (cs := cs) (g' := gz_wa g j1 (va_cpy (g.1 j0) (g.1 j1) sp.toNatClampNeg dp.toNatClampNeg n.toNatClampNeg)) hD hr1 (gz_ce1 hk1) gz_ce_wa
    have e1 : (gz_wa g j1 (va_cpy (g.1 j0) (g.1 j1) sp.toNatClampNeg dp.toNatClampNeg n.toNatClampNeg)).1 j1 = va_cpy (g.1 j0) (g.1 j1) sp.toNatClampNeg dp.toNatClampNeg n.toNatClampNeg := if_pos rfl
    rw [e1] at ew
    exact nx p l e s m args below meth c D cs a A H locs lsA C (ew ▸ hP) (ew ▸ hD2) hS hl
end SZ2
/-- the three scenes, by their cells -/
abbrev gz_sc (j : Nat) : Prop := j = 5 ∨ j = 6 ∨ j = 7
theorem kdS {La : gz_L} {j : Nat} (hj : gz_sc j) : gz_kd La j = (0, 6) := by rcases hj with rfl | rfl | rfl <;> rfl
theorem kdSv {La : gz_L} {j : Nat} (hj : gz_sc j) : gz_kd La (j + 16) = (1, 61) := by rcases hj with rfl | rfl | rfl <;> rfl
theorem rfS {La : gz_L} {g : gz_S} {j : Nat} (hj : gz_sc j) : gz_rf La g j 0 = some (j + 16) := by rcases hj with rfl | rfl | rfl <;> rfl
/-- evenings and laws -/
abbrev gz_ev (La : gz_L) (e : Nat) : Prop := 110 ≤ e ∧ e < 110 + 2 * La.2.1 ∧ e < 118 ∧ (e - 110) % 2 = 0
abbrev gz_lw (La : gz_L) (e : Nat) : Prop := 100 ≤ e ∧ e < 100 + 2 * La.1 ∧ e < 108 ∧ (e - 100) % 2 = 0
theorem kdE {La : gz_L} {e : Nat} (he : gz_ev La e) : gz_kd La e = (0, 0) := by
  obtain ⟨h1, h2, h3, h4⟩ := he
  unfold gz_kd
  rw [if_neg (by omega), if_neg (by omega), if_pos ⟨h1, h3, h2⟩, if_pos h4]
theorem kdEp {La : gz_L} {e : Nat} (he : gz_ev La e) : gz_kd La (e + 1) = (1, La.2.2 (e + 1)) := by
  obtain ⟨h1, h2, h3, h4⟩ := he
  unfold gz_kd
  rw [if_neg (by omega), if_neg (by omega), if_pos ⟨by omega, by omega, by omega⟩, if_neg (by omega)]
theorem rfE {La : gz_L} {g : gz_S} {e : Nat} (he : gz_ev La e) : gz_rf La g e 1 = some (e + 1) := by
  obtain ⟨h1, h2, h3, h4⟩ := he
  unfold gz_rf
  rw [if_neg (by omega), if_neg (by omega), if_neg (by omega), if_pos (Or.inr ⟨h1, h3, rfl⟩)]
theorem kdW {La : gz_L} {e : Nat} (he : gz_lw La e) : gz_kd La e = (0, 3) := by
  obtain ⟨h1, h2, h3, h4⟩ := he
  unfold gz_kd
  rw [if_neg (by omega), if_pos ⟨h1, h3, h2⟩, if_pos h4]
theorem kdWc {La : gz_L} {e : Nat} (he : gz_lw La e) : gz_kd La (e + 1) = (1, La.2.2 (e + 1)) := by
  obtain ⟨h1, h2, h3, h4⟩ := he
  unfold gz_kd
  rw [if_neg (by omega), if_pos ⟨by omega, by omega, by omega⟩, if_neg (by omega)]
theorem rfW {La : gz_L} {g : gz_S} {e : Nat} (he : gz_lw La e) : gz_rf La g e 0 = some (e + 1) := by
  obtain ⟨h1, h2, h3, h4⟩ := he
  unfold gz_rf
  rw [if_neg (by omega), if_neg (by omega), if_neg (by omega), if_pos (Or.inl ⟨h1, h3, rfl⟩)]
