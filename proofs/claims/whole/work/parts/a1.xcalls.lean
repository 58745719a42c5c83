/-! calls over any world -/
def gx_l (X : gx_T) : Launch := match X with
  | (p, l, e, R, s, m, args, below, meth, c, D, A, Q) => l
def gx_D (X : gx_T) : va_G := match X with
  | (p, l, e, R, s, m, args, below, meth, c, D, A, Q) => D
/-- what lies about: tables, texts -/
def gx_RO (X : gx_T) (a : Nat → Nat) : Prop := match X with
  | (p, l, e, R, s, m, args, below, meth, c, D, A, Q) => gz_RO a A s s.heap
theorem gx_ok.mo {X : gx_T} {kc nc kc2 nc2 : Nat} (h : gx_ok X kc nc) (h1 : kc2 ≤ kc) (h2 : nc2 ≤ nc) : gx_ok X kc2 nc2 := by
  obtain ⟨p, l, e, R, s, m, args, below, meth, c, D, A, Q⟩ := X
  exact ⟨Nat.le_trans h1 h.1, Nat.le_trans h2 h.2⟩
theorem gx_cv (v : Value) : gz_cv id v = v := by cases v <;> rfl
theorem gx_map (av : List Value) : av.map (gz_cv id) = av := by
  induction av with
  | nil => rfl
  | cons v t ih => rw [List.map_cons, ih, gx_cv]
theorem gx_lgsl (av : List Value) : (lg_sl av).length = (gz_en av).length := by
  have h := gz_lgsl (a := id) av
  rw [gx_map] at h; exact h
theorem gx_en_has {av : List Value} {i : Nat} {q : Nat × Value} (h : q ∈ gz_kn id i (gz_en av)) : q ∈ lv_args i av := by
  have h2 := gz_en_has (a := id) h
  rw [gx_map] at h2; exact h2
theorem gx_K.of {l : Launch} {D : va_G} {cs : Nat → ClassId} {h : Nat} {M : gz_M} {mc ms : Nat} {av : List Value} {w : va_W} {Ph : Option Value → va_W → Prop} (n : Nat) (hp : plainFor M.1 = true) (hn : (gz_en av).length + n = M.2.2.1)
    (kk : ∀ X : gx_T, gx_C X M cs h → gx_E X mc ms Ph → gx_ok X mc ms → (M.1.name = "<init>" → gx_I X) → gx X M 0 0 w 0 (gz_en av ++ List.replicate n none) []) : gx_K l D cs h M mc ms av w Ph := by
  intro sz
  refine gz_ofWF (cc := M.2.1) (maxL := M.2.2.1) (ret := M.2.2.2) hp rfl ?_
  intro p e s m args below meth c s₁ B hml hv
  obtain ⟨rfl, hsz, hP, hK, hD0, hX⟩ := hv
  subst hsz
  have hts := atoms_spec (ws := gz_ws M) B.pre
  have hown : s.vm.findClass M.1.cls = some m.cls := findClass_of_methodNamed B.named
  have hin : meth.name = M.1.name := (name_of_methodNamed B.named B.method).1
  have hl := lv_entry av (n := M.2.2.1) (by rw [gx_lgsl]; omega)
  rw [lg_entry_eq]
  exact kk (p, l, e, gx_rm h mc ms, s, m, _, below, meth, c, D, va_A w s.heap.size, _) ⟨B.exec, B.bytes, hml, B.returns, B.notSynchronized, hown, fun w hw => hts w (List.mem_cons_of_mem _ hw), hK, hX, fun q hq => Or.inr hq, Nat.le_refl _, Nat.le_refl _⟩ rfl ⟨Nat.le_refl _, Nat.le_refl _⟩ (fun hi => hin.trans hi) s.heap [] _ hP (hD0.self) va_S.rf
    ⟨hl.1, hl.2.1, fun q hq => hl.2.2 q (gx_en_has (by rw [gz_kn_app] at hq; exact hq))⟩
theorem gx_GI {N : gz_M} {n : Nat} (h : gz_mk N n) : GoodIn gz_U (gz_ws N) := by
  intro w hw
  have hu : w ∈ gz_U := by
    rcases List.mem_cons.mp hw with e | e
    · rw [e]; exact h.2.2.1
    · exact e
  exact ⟨hu, gz_good hu⟩
section GXR
variable {p : Program} {l : Launch} {e : Env} {R : Room} {s : State} {m : MethodId} {args : Array Value} {below : List Frame} {meth : Method} {c : Code} {H : Heap} {locs : List Loc} {Q : State → Prop} {pc kc nc mc ms : Nat} {lsA : Array Slot} {rest st0 : List Value} {av : Array Value} {A0 A1 : Nat → Prop} {H0 : Heap}
variable {D : va_G} {Ps : Option Value → va_W → Prop}
theorem gx_callg (hr : va_Run p l e R s m args below meth c H locs kc nc mc ms (F0 m pc lsA st0) rest (gx_Q D A1 Ps av) A1) (hS : va_S A0 H0 H locs) (hA : ∀ q, A1 q → A0 q)
    (kk : ∀ (v : Option Value) (w1 : va_W) (H1 : Heap) (locs1 : List Loc), Ps v w1 → va_P D vwCl w1 H1 → va_D A1 w1 → (∀ q : Nat, q < H.size → ¬ A1 q → H1[q]? = H[q]?) → va_S A0 H0 H1 locs1 → W p l e R s m args below meth c H1 locs1 (kc + mc) (nc + ms) Q (F0 m (pc + 3) lsA (v.toList ++ rest))) : W p l e R s m args below meth c H locs kc nc Q (F0 m pc lsA st0) := by
  intro T hT X
  obtain ⟨v, st₀, t, T', L, h0, X', hL, e1, e2, ⟨⟨r, u, hv, hp, hP, hD⟩, hz, hk⟩, st⟩ := hr T hT X
  cases hv
  rw [h0] at hz hk
  obtain ⟨t2, a1, b1⟩ := kk v u T'.heap (locs ++ L) hp (by rw [e1]; exact hP) hD (fun q h1 h2 => by rw [e1]; exact hk q h1 h2)
    ⟨Nat.le_trans hS.1 (by rw [e1]; exact hz), fun q h1 h2 => by rw [e1, hk q (Nat.lt_of_lt_of_le h1 hS.1) (fun z => h2 (hA q z))]; exact hS.2.1 q h1 h2, fun q hq => by
      rcases List.mem_append.mp hq with h | h
      · exact hS.2.2 q h
      · exact hA _ (hL q h)⟩ T' rfl X'
  exact ⟨t2, st t2 a1, b1⟩
theorem gx_callk {La : gz_L} {cs : Nat → ClassId} {a : Nat → Nat} {Pz : Option Value → gz_S → Prop} (hr : va_Run p l e R s m args below meth c H locs kc nc 0 0 (F0 m pc lsA st0) rest (gz_Q La D cs a A1 Pz av) A1) (hS : va_S A0 H0 H locs) (hA : ∀ q, A1 q → A0 q)
    (kk : ∀ (v : Option Value) (g : gz_S) (H1 : Heap) (locs1 : List Loc), Pz v g → va_P D vwCl (gz_w cs La a g) H1 → va_D A1 (gz_w cs La a g) → va_S A0 H0 H1 locs1 → W p l e R s m args below meth c H1 locs1 kc nc Q (F0 m (pc + 3) lsA ((v.map (gz_cv a)).toList ++ rest))) : W p l e R s m args below meth c H locs kc nc Q (F0 m pc lsA st0) := by
  intro T hT X
  obtain ⟨v, st₀, t, T', L, h0, X', hL, e1, e2, ⟨⟨r, u, hv, hp, hP, hK, hD⟩, hz, hk⟩, st⟩ := hr T hT X
  cases hv
  rw [h0] at hz hk
  obtain ⟨t2, a1, b1⟩ := kk r u T'.heap (locs ++ L) hp (by rw [e1]; exact hP) hD
    ⟨Nat.le_trans hS.1 (by rw [e1]; exact hz), fun q h1 h2 => by rw [e1, hk q (Nat.lt_of_lt_of_le h1 hS.1) (fun z => h2 (hA q z))]; exact hS.2.1 q h1 h2, fun q hq => by
      rcases List.mem_append.mp hq with h | h
      · exact hS.2.2 q h
      · exact hA _ (hL q h)⟩ T' rfl X'
  exact ⟨t2, st t2 a1, b1⟩
theorem gx_A1 {w : va_W} (hD : va_D A0 w) (hS : va_S A0 H0 H locs) (hA : ∀ q, H0.size ≤ q → A0 q) : ∀ q, va_A w H.size q → A0 q := by
  intro q h
  rcases h with ⟨k, x, h⟩ | h
  · exact hD.2 k (q, x) h
  · exact hA q (Nat.le_trans hS.1 h)
theorem gx_blind {D : va_G} {cs : Nat → ClassId} {w : va_W} {av : List Value} {sz : Nat} : FrameBlind (va_Pc av (fun U => U.heap.size = sz ∧ va_P D vwCl w U.heap ∧ va_K D vwCl (gz_ty cs) U ∧ va_D (fun _ => True) w ∧ gx_X cs U)) := by
  intro b U f mk q
  obtain ⟨q0, q1, qP, qK, qD, qX⟩ := q
  exact ⟨q0, q1, qP, va_K.moved (u := U) (U := U.calling f mk b) (Vm.Alike.refl U.vm) qK, qD, gx_X.same (u := U) (U := U.calling f mk b) rfl qX⟩
end GXR
def gz_mi (own : String) (ix : Nat) (N : gz_M) (n : Nat) : Prop := gz_mk N n ∧ Cond.methodLink own ix N.1 ∈ gz_U ∧ Cond.instanceMethod N.1 ∈ gz_U ∧ N.1.name = "<init>" ∧ N.2.2.2 = none
def gz_min (own : String) (ix : Nat) (N : gz_M) (n : Nat) : Prop := gz_mk N n ∧ Cond.instanceMethod N.1 ∈ gz_U ∧ N.1.name = "<init>" ∧ N.2.2.2 = none ∧ ∀ cs s, gx_X cs s → va_Nw (.methodLinkNest own ix N.1 "PrintsGoOn") s
section GX
variable {X : gx_T} {M : gz_M} {cs : Nat → ClassId} {hh kc nc : Nat} {w : va_W} {pc : Nat} {ls : List (Option Value)} {st : List Value}
theorem gy_callI {ix h2 b mc ms : Nat} {N : gz_M} (As : List Value) {wc wr : va_W} {Ps : Option Value → va_W → Prop} (isC isR : List Nat) (C : gx_C X M cs hh) (hd : decode M.2.1 pc = .ok (.invokespecial ix, 3)) (hm : gz_mi M.1.cls ix N As.length) (hh2 : h2 < hh) (hst : (st.map fun v => v.category).sum ≤ 8) (hR : gx_ok X (kc + mc) (nc + ms))
    (kcn : gx_K (gx_l X) (gx_D X) cs h2 N mc ms (.ref b :: As) wc Ps) (hC : isC.map (fun i => w[i]?) = wc.map some) (hRr : isR.map (fun i => w[i]?) = wr.map some) (hcd : va_nd isC = true) (hn : va_nd isR = true) (hdis : ∀ i ∈ isR, i ∉ isC)
    (nx : ∀ v w', Ps v w' → gx X M (kc + mc) (nc + ms) (wr ++ w') (pc + 3) ls (v.toList ++ st)) : gx X M kc nc w pc ls (As.reverse ++ .ref b :: st) := by
  obtain ⟨p, l, e, R, s, m, args, below, meth, c, D, A, Q⟩ := X
  intro H locs lsA hP hD hS hl
  obtain ⟨hx, hb, hml, hr, hlk, hown, hts, hK, hX, hA, hf1, hf2⟩ := C
  obtain ⟨hmk, hm1, hm2, hm3, hm4⟩ := hm
  have hF := va_free hD hS hA isC hC
  have hPc := hP.sub (ws' := wc) isC (by
    have e : isC.filterMap (fun i => w[i]?) = (isC.map (fun i => w[i]?)).filterMap id := by rw [List.filterMap_map]; rfl
    rw [e, hC, List.filterMap_map]
    show List.filterMap some wc = wc
    exact List.filterMap_some)
  have cb : CallB R s args M.1.cls ix N.1 N.2.1 N.2.2.1 N.2.2.2 (gz_ws N) (gx_rm h2 mc ms) mc ms As.length := callB_of As.length hts (gx_GI hmk) rfl rfl rfl (hts _ hmk.2.2.2.2) (hts _ hm1) hmk.2.1 ⟨by show h2 + 1 ≤ R.frames; omega, by show 8 + (N.2.2.1 + 11) + 64 * h2 ≤ R.locals; have := hmk.2.2.2.1; omega⟩
  rw [hm4] at cb
  have hDc := hD.sub (ws' := wc) isC hcd hC
  have hrun := va_runI (p := p) (l := l) (e := e) (below := below) (meth := meth) (locs := locs) (cells := kc) (slots := nc) (H := H) (As := As) (rest := st) (b := b) (g := F0 m pc lsA (As.reverse ++ .ref b :: st)) ⟨hx, hb, hml, hown, hts⟩ (kcn H.size) ⟨cb, hm3, hts _ hm2⟩
    ⟨gx_blind, fun U hU hW => ⟨rfl, by rw [hU], by rw [hU]; exact hPc, va_K.moved hW.alike hK, hDc.weaken (fun _ _ _ _ => trivial), gx_X.warm hW hX⟩⟩ rfl rfl hl.1 rfl (lv_room (m := m) (pc := pc) (ls := lsA) (rest := []) hst) hd hR
  refine gx_callg hrun hS hF (fun v w1 H1 locs1 hp hP1 hD1 hk1 hS1 => ?_)
  obtain ⟨hP2, hD2⟩ := va_join (wr := wr) (w1 := w1) hP hD isC isR hC hRr hn hdis hk1 hF hP1 hD1
  exact nx v w1 hp H1 locs1 lsA hP2 hD2 hS1 hl
theorem gy_callIN {ix h2 b mc ms : Nat} {N : gz_M} (As : List Value) {wc wr : va_W} {Ps : Option Value → va_W → Prop} (isC isR : List Nat) (C : gx_C X M cs hh) (hd : decode M.2.1 pc = .ok (.invokespecial ix, 3)) (hm : gz_min M.1.cls ix N As.length) (hh2 : h2 < hh) (hst : (st.map fun v => v.category).sum ≤ 8) (hR : gx_ok X (kc + mc) (nc + ms))
    (kcn : gx_K (gx_l X) (gx_D X) cs h2 N mc ms (.ref b :: As) wc Ps) (hC : isC.map (fun i => w[i]?) = wc.map some) (hRr : isR.map (fun i => w[i]?) = wr.map some) (hcd : va_nd isC = true) (hn : va_nd isR = true) (hdis : ∀ i ∈ isR, i ∉ isC)
    (nx : ∀ v w', Ps v w' → gx X M (kc + mc) (nc + ms) (wr ++ w') (pc + 3) ls (v.toList ++ st)) : gx X M kc nc w pc ls (As.reverse ++ .ref b :: st) := by
  obtain ⟨p, l, e, R, s, m, args, below, meth, c, D, A, Q⟩ := X
  intro H locs lsA hP hD hS hl
  obtain ⟨hx, hb, hml, hr, hlk, hown, hts, hK, hX, hA, hf1, hf2⟩ := C
  obtain ⟨hmk, hm2, hm3, hm4, hm5⟩ := hm
  have hF := va_free hD hS hA isC hC
  have hPc := hP.sub (ws' := wc) isC (by
    have e : isC.filterMap (fun i => w[i]?) = (isC.map (fun i => w[i]?)).filterMap id := by rw [List.filterMap_map]; rfl
    rw [e, hC, List.filterMap_map]
    show List.filterMap some wc = wc
    exact List.filterMap_some)
  have cb : va_CN R s args M.1.cls ix N.1 "PrintsGoOn" N.2.1 N.2.2.1 N.2.2.2 (gz_ws N) (gx_rm h2 mc ms) mc ms As.length := va_cnB As.length hts (gx_GI hmk) rfl rfl rfl (hm5 cs s hX) (hts _ hmk.2.2.2.2) hmk.2.1 ⟨by show h2 + 1 ≤ R.frames; omega, by show 8 + (N.2.2.1 + 11) + 64 * h2 ≤ R.locals; have := hmk.2.2.2.1; omega⟩
  rw [hm4] at cb
  have hDc := hD.sub (ws' := wc) isC hcd hC
  have hrun := va_runIN (p := p) (l := l) (e := e) (below := below) (meth := meth) (locs := locs) (cells := kc) (slots := nc) (H := H) (As := As) (rest := st) (b := b) (g := F0 m pc lsA (As.reverse ++ .ref b :: st)) ⟨hx, hb, hml, hown, hts⟩ (kcn H.size) ⟨cb, hm3, hts _ hm2⟩
    ⟨gx_blind, fun U hU hW => ⟨rfl, by rw [hU], by rw [hU]; exact hPc, va_K.moved hW.alike hK, hDc.weaken (fun _ _ _ _ => trivial), gx_X.warm hW hX⟩⟩ rfl rfl hl.1 rfl (lv_room (m := m) (pc := pc) (ls := lsA) (rest := []) hst) hd hR
  refine gx_callg hrun hS hF (fun v w1 H1 locs1 hp hP1 hD1 hk1 hS1 => ?_)
  obtain ⟨hP2, hD2⟩ := va_join (wr := wr) (w1 := w1) hP hD isC isR hC hRr hn hdis hk1 hF hP1 hD1
  exact nx v w1 hp H1 locs1 lsA hP2 hD2 hS1 hl
/-- a call that the whole world goes into -/
theorem gy_callS {ix h2 mc ms : Nat} {N : gz_M} (As : List Value) {Ps : Option Value → va_W → Prop} (C : gx_C X M cs hh) (hd : decode M.2.1 pc = .ok (.invokestatic ix, 3)) (hm : gz_ms M.1.cls ix N As.length) (hh2 : h2 < hh) (hst : (st.map fun v => v.category).sum ≤ 8) (hR : gx_ok X (kc + mc) (nc + ms))
    (kcn : gx_K (gx_l X) (gx_D X) cs h2 N mc ms As w Ps)
    (nx : ∀ v w', Ps v w' → gx X M (kc + mc) (nc + ms) w' (pc + 3) ls (v.toList ++ st)) : gx X M kc nc w pc ls (As.reverse ++ st) := by
  obtain ⟨p, l, e, R, s, m, args, below, meth, c, D, A, Q⟩ := X
  intro H locs lsA hP hD hS hl
  obtain ⟨hx, hb, hml, hr, hlk, hown, hts, hK, hX, hA, hf1, hf2⟩ := C
  obtain ⟨hmk, hm1, hm2⟩ := hm
  have hF := gx_A1 (H := H) hD hS hA
  have cb : CallB R s args M.1.cls ix N.1 N.2.1 N.2.2.1 N.2.2.2 (gz_ws N) (gx_rm h2 mc ms) mc ms As.length := callB_of As.length hts (gx_GI hmk) rfl rfl rfl (hts _ hmk.2.2.2.2) (hts _ hm1) hmk.2.1 ⟨by show h2 + 1 ≤ R.frames; omega, by show 8 + (N.2.2.1 + 11) + 64 * h2 ≤ R.locals; have := hmk.2.2.2.1; omega⟩
  have hrun := va_runS (p := p) (l := l) (e := e) (below := below) (meth := meth) (locs := locs) (cells := kc) (slots := nc) (H := H) (As := As) (rest := st) (g := F0 m pc lsA (As.reverse ++ st)) ⟨hx, hb, hml, hown, hts⟩ (kcn H.size) ⟨cb, hts _ hm2⟩
    ⟨gx_blind, fun U hU hW => ⟨rfl, by rw [hU], by rw [hU]; exact hP, va_K.moved hW.alike hK, hD.weaken (fun _ _ _ _ => trivial), gx_X.warm hW hX⟩⟩ rfl rfl hl.1 rfl (lv_room (m := m) (pc := pc) (ls := lsA) (rest := []) hst) hd hR
  refine gx_callg hrun hS hF (fun v w1 H1 locs1 hp hP1 hD1 hk1 hS1 => ?_)
  exact nx v w1 hp H1 locs1 lsA hP1 (hD1.weaken (fun _ q _ z => hF q.1 z)) hS1 hl
theorem gy_callV {ix h2 mc ms q0 b ci : Nat} {fs : List Value} {N : gz_M} (As : List Value) {Ps : Option Value → va_W → Prop} (C : gx_C X M cs hh) (hd : decode M.2.1 pc = .ok (.invokevirtual ix, 3)) (hm : gz_mv M.1.cls ix N As.length) (hh2 : h2 < hh) (hci : ci < 13) (he : w[q0]? = some (b, .inr (ci, fs))) (hc : gz_kR ci = N.1.cls) (hst : (st.map fun v => v.category).sum ≤ 8) (hR : gx_ok X (kc + mc) (nc + ms))
    (kcn : gx_K (gx_l X) (gx_D X) cs h2 N mc ms (.ref b :: As) w Ps)
    (nx : ∀ v w', Ps v w' → gx X M (kc + mc) (nc + ms) w' (pc + 3) ls (v.toList ++ st)) : gx X M kc nc w pc ls (As.reverse ++ .ref b :: st) := by
  obtain ⟨p, l, e, R, s, m, args, below, meth, c, D, A, Q⟩ := X
  intro H locs lsA hP hD hS hl
  obtain ⟨hx, hb, hml, hr, hlk, hown, hts, hK, hX, hA, hf1, hf2⟩ := C
  obtain ⟨hmk, hm1, hm2, hm3⟩ := hm
  have hF := gx_A1 (H := H) hD hS hA
  have hcl := gz_cl hci
  rw [hc] at hcl
  have cb : CallB R s args M.1.cls ix N.1 N.2.1 N.2.2.1 N.2.2.2 (gz_ws N) (gx_rm h2 mc ms) mc ms As.length := callB_of As.length hts (gx_GI hmk) rfl rfl rfl (hts _ hmk.2.2.2.2) (hts _ hm1) hmk.2.1 ⟨by show h2 + 1 ≤ R.frames; omega, by show 8 + (N.2.2.1 + 11) + 64 * h2 ≤ R.locals; have := hmk.2.2.2.1; omega⟩
  have hrun := va_runV (p := p) (l := l) (e := e) (below := below) (meth := meth) (locs := locs) (cells := kc) (slots := nc) (H := H) (As := As) (rest := st) (b := b) (g := F0 m pc lsA (As.reverse ++ .ref b :: st)) ⟨hx, hb, hml, hown, hts⟩ (kcn H.size) (C := N.1.cls) ⟨cb, hts _ hm2, hts _ hm3⟩
    ⟨gx_blind, va_recv hK hP (ci := ci) (q0 := q0) hcl he, fun U hU hW => ⟨rfl, by rw [hU], by rw [hU]; exact hP, va_K.moved hW.alike hK, hD.weaken (fun _ _ _ _ => trivial), gx_X.warm hW hX⟩⟩ rfl rfl hl.1 rfl (lv_room (m := m) (pc := pc) (ls := lsA) (rest := []) hst) hd hR
  refine gx_callg hrun hS hF (fun v w1 H1 locs1 hp hP1 hD1 hk1 hS1 => ?_)
  exact nx v w1 hp H1 locs1 lsA hP1 (hD1.weaken (fun _ q _ z => hF q.1 z)) hS1 hl
/-- a call of a walked method, over the one world -/
theorem gy_callKV {La : gz_L} {a : Nat → Nat} {g : gz_S} {ix h2 j ci : Nat} {N : gz_M} (As : List Value) {Ps : Option Value → gz_S → Prop} (C : gx_C X M cs hh) (hRO : gx_RO X a) (hd : decode M.2.1 pc = .ok (.invokevirtual ix, 3)) (hm : gz_mv M.1.cls ix N As.length) (hh2 : h2 < hh) (hci : ci < 13) (hk : gz_kd La j = (0, ci)) (hc : gz_kR ci = N.1.cls) (hst : (st.map fun v => v.category).sum ≤ 8)
    (hR : gx_ok X kc nc) (kcn : gz_K La h2 N (.ref j :: As) g Ps) (hw : w = gz_w cs La a g)
    (nx : ∀ v g2, Ps v g2 → gx X M kc nc (gz_w cs La a g2) (pc + 3) ls ((v.map (gz_cv a)).toList ++ st)) : gx X M kc nc w pc ls ((As.map (gz_cv a)).reverse ++ .ref (a j) :: st) := by
  subst hw
  obtain ⟨p, l, e, R, s, m, args, below, meth, c, D, A, Q⟩ := X
  intro H locs lsA hP hD hS hl
  obtain ⟨hx, hb, hml, hr, hlk, hown, hts, hK, hX, hA, hf1, hf2⟩ := C
  have hRO : gz_RO a A s s.heap := hRO
  have hA1 := gz_A1 (H := H) hD hS hA
  obtain ⟨q, -, hq⟩ := gz_at (cs := cs) (a := a) (g := g) (La := La) (j := j) (by rw [hk]; exact (by decide : 0 < 9))
  rw [gz_ceO hk] at hq
  have cb : CallB R s args M.1.cls ix N.1 N.2.1 N.2.2.1 N.2.2.2 (gz_ws N) (gz_rm h2) 0 0 As.length := callB_of As.length hts (gx_GI hm.1) rfl rfl rfl (hts _ hm.1.2.2.2.2) (hts _ hm.2.1) hm.1.2.1 ⟨by show h2 + 1 ≤ R.frames; omega, by show 8 + (N.2.2.1 + 11) + 64 * h2 ≤ R.locals; have := hm.1.2.2.2.1; omega⟩
  have hRO2 : ∀ U : State, U.heap = H → s.WarmedH U.vm → gz_RO a (va_A (gz_w cs La a g) H.size) U U.heap := fun U hU hW => by
    rw [hU]; exact ((hRO.kept (fun q h1 h2 => hS.2.1 q h1 h2)).narrow hA1).warm hW
  have hcl := gz_cl hci
  rw [hc] at hcl
  have hrun := va_runV (p := p) (l := l) (e := e) (below := below) (meth := meth) (locs := locs) (cells := kc) (slots := nc) (H := H) (As := As.map (gz_cv a)) (rest := st) (b := a j) (g := F0 m pc lsA ((As.map (gz_cv a)).reverse ++ .ref (a j) :: st)) ⟨hx, hb, hml, hown, hts⟩ (kcn l D cs a H.size) (C := N.1.cls) ⟨cb, hts _ hm.2.2.1, hts _ hm.2.2.2⟩
    ⟨gz_blind, va_recv hK hP (ci := ci) (q0 := q) hcl hq, fun U hU hW => ⟨rfl, by rw [hU], by rw [hU]; exact hP, va_K.moved hW.alike hK, ⟨hD.1, fun _ _ _ => trivial⟩, hRO2 U hU hW⟩⟩ rfl (by simp) hl.1 rfl (lv_room (m := m) (pc := pc) (ls := lsA) (rest := []) hst) hd hR
  refine gx_callk hrun hS hA1 (fun v g2 H1 locs1 hp hP1 hD1 hS1 => ?_)
  exact nx v g2 hp H1 locs1 lsA hP1 (hD1.weaken (fun _ q _ z => hA1 q.1 z)) hS1 hl
theorem gy_aast {q0 qk ci ix N v b : Nat} {vs : List Value} {f : Nat → Option Nat} {i : Int32} (C : gx_C X M cs hh) (hd : decode M.2.1 pc = .ok (.aastore, 1)) (hi : (ix = 3 ∧ ci = 3) ∨ (ix = 4 ∧ ci = 0)) (ha : w[q0]? = some (b, .inl (cs ix, N, .inr (.inr (.inr (.inr f)))))) (hv : w[qk]? = some (v, .inr (ci, vs))) (hin : vp_in i N)
    (nx : gx X M kc nc (w.set q0 (b, .inl (cs ix, N, .inr (.inr (.inr (.inr (va_up f i.toNatClampNeg (some v)))))))) (pc + 1) ls st) : gx X M kc nc w pc ls (.ref v :: .int i :: .ref b :: st) := by
  obtain ⟨p, l, e, R, s, m, args, below, meth, c, D, A, Q⟩ := X
  intro H locs lsA hP hD hS hl
  rcases hi with ⟨rfl, rfl⟩ | ⟨rfl, rfl⟩
  · exact va_astq C.1 C.2.1 C.2.2.2.2.2.2.2.1 hP hD hS q0 3 qk 3 ha rfl hv (gz_cl (ci := 3) (by decide)) hin hd (fun H1 locs1 hP1 hD1 hS1 => nx H1 locs1 lsA hP1 hD1 hS1 hl)
  · exact va_astq C.1 C.2.1 C.2.2.2.2.2.2.2.1 hP hD hS q0 4 qk 0 ha rfl hv (gz_cl (ci := 0) (by decide)) hin hd (fun H1 locs1 hP1 hD1 hS1 => nx H1 locs1 lsA hP1 hD1 hS1 hl)
theorem gy_copyi {ix q0 q1 a0 b n0 n1 : Nat} {f g : Nat → Int32} {sp dp z : Int32} (C : gx_C X M cs hh) (hd : decode M.2.1 pc = .ok (.invokestatic ix, 3)) (hw : Cond.methodLink M.1.cls ix arraycopyName ∈ gz_U ∧ Cond.native arraycopyName ∈ gz_U ∧ Cond.static arraycopyName ∈ gz_U ∧ Cond.initialized "java/lang/System" ∈ gz_U)
    (hh1 : 1 ≤ hh) (hst : st = []) (ha0 : w[q0]? = some (a0, .inl (cs 0, n0, .inl f))) (ha1 : w[q1]? = some (b, .inl (cs 0, n1, .inl g))) (h1 : ¬ sp < 0) (h2 : ¬ dp < 0) (h3 : ¬ z < 0) (h4 : sp.toNatClampNeg + z.toNatClampNeg ≤ n0) (h5 : dp.toNatClampNeg + z.toNatClampNeg ≤ n1)
    (nx : gx X M kc nc (w.set q1 (b, .inl (cs 0, n1, .inl (va_cpy f g sp.toNatClampNeg dp.toNatClampNeg z.toNatClampNeg)))) (pc + 3) ls st) : gx X M kc nc w pc ls (.int z :: .int dp :: .ref b :: .int sp :: .ref a0 :: st) := by
  subst hst
  obtain ⟨p, l, e, R, s, m, args, below, meth, c, D, A, Q⟩ := X
  intro H locs lsA hP hD hS hl
  have hf : hh ≤ R.frames := C.2.2.2.2.2.2.2.2.2.2.1
  have hlo : 64 * hh ≤ R.locals := C.2.2.2.2.2.2.2.2.2.2.2
  refine va_copyi C.1 C.2.1 (by rw [C.2.2.1]; exact hl.1.symm) C.2.2.2.2.2.1 (C.2.2.2.2.2.2.1 _ hw.1) (C.2.2.2.2.2.2.1 _ hw.2.1) (C.2.2.2.2.2.2.1 _ hw.2.2.1) (C.2.2.2.2.2.2.1 _ hw.2.2.2) C.2.2.2.2.2.2.2.1 hP hD hS q0 q1 0 0 ha0 ha1 rfl rfl rfl h1 h2 h3 h4 h5 (fun _ _ => rfl) (by omega) ?_ hd (fun H1 locs1 hP1 hD1 hS1 => nx H1 locs1 lsA hP1 hD1 hS1 hl)
  show 0 + (nativeFrameWords "java/lang/System" "arraycopy" 5 + 11) ≤ R.locals
  have : nativeFrameWords "java/lang/System" "arraycopy" 5 + 11 ≤ 64 := by decide +kernel
  omega
theorem gy_mmin {ix : Nat} {x y : Int32} (C : gx_C X M cs hh) (hd : decode M.2.1 pc = .ok (.invokestatic ix, 3)) (hw : Cond.methodLink M.1.cls ix Lib.Math.min.name ∈ gz_U ∧ Cond.static Lib.Math.min.name ∈ gz_U ∧ Cond.initialized "java/lang/Math" ∈ gz_U ∧ Cond.code Lib.Math.min.name Lib.Math.min.code 2 (some .int) ∈ gz_U)
    (hh1 : 1 ≤ hh) (hst : (st.map fun v => v.category).sum ≤ 8) (hR : gx_ok X kc nc)
    (nx : gx X M kc nc w (pc + 3) ls (.int (if y < x then y else x) :: st)) : gx X M kc nc w pc ls (.int y :: .int x :: st) := by
  obtain ⟨p, l, e, R, s, m, args, below, meth, c, D, A, Q⟩ := X
  intro H locs lsA hP hD hS hl
  have hf : hh ≤ R.frames := C.2.2.2.2.2.2.2.2.2.2.1
  have hlo : 64 * hh ≤ R.locals := C.2.2.2.2.2.2.2.2.2.2.2
  exact va_mmin C.1 C.2.1 (by rw [C.2.2.1]; exact hl.1.symm) C.2.2.2.2.2.1 (C.2.2.2.2.2.2.1 _ hw.1) (C.2.2.2.2.2.2.1 _ hw.2.1) (C.2.2.2.2.2.2.1 _ hw.2.2.1) (C.2.2.2.2.2.2.1 _ hw.2.2.2) (by omega) (by omega) hR.1 hR.2 hd (nx H locs lsA hP hD hS hl)
theorem gy_alen {q b N : Nat} {f : Nat → Int32} {v : Int32} (C : gx_C X M cs hh) (hd : decode M.2.1 pc = .ok (.arraylength, 1)) (ha : w[q]? = some (b, .inl (cs 0, N, .inl f))) (hv : Int32.ofNat N = v) (nx : gx X M kc nc w (pc + 1) ls (.int v :: st)) : gx X M kc nc w pc ls (.ref b :: st) := by
  obtain ⟨p, l, e, R, s, m, args, below, meth, c, D, A, Q⟩ := X
  intro H locs lsA hP hD hS hl
  exact va_alen C.1 C.2.1 C.2.2.2.2.2.2.2.1 hP q 0 ha rfl hv hd (nx H locs lsA hP hD hS hl)
theorem gy_castA {q ix b N : Nat} {f : Nat → Int32} (C : gx_C X M cs hh) (hd : decode M.2.1 pc = .ok (.checkcast ix, 3)) (hw : Cond.classLink M.1.cls ix "[I" ∈ gz_U) (ha : w[q]? = some (b, .inl (cs 0, N, .inl f))) (nx : gx X M kc nc w (pc + 3) ls (.ref b :: st)) : gx X M kc nc w pc ls (.ref b :: st) := by
  obtain ⟨p, l, e, R, s, m, args, below, meth, c, D, A, Q⟩ := X
  intro H locs lsA hP hD hS hl
  have hnm : s.vm.findClass "[I" = some (cs 0) := (C.2.2.2.2.2.2.2.1.2 0 (cs 0, .int) rfl).2
  exact va_castA C.1 C.2.1 C.2.2.2.2.2.1 (C.2.2.2.2.2.2.1 _ hw) hP q ha hnm hd (nx H locs lsA hP hD hS hl)
theorem gy_clone {q ix b N : Nat} {f : Nat → Int32} (C : gx_C X M cs hh) (hd : decode M.2.1 pc = .ok (.invokevirtual ix, 3))
    (hw : Cond.methodLink M.1.cls ix ⟨"[I", "clone", "()Ljava/lang/Object;"⟩ ∈ gz_U ∧ Cond.sameMethod "[I" "java/lang/Object" "clone" "()Ljava/lang/Object;" ∈ gz_U ∧ Cond.native ⟨"java/lang/Object", "clone", "()Ljava/lang/Object;"⟩ ∈ gz_U ∧ Cond.instanceMethod ⟨"java/lang/Object", "clone", "()Ljava/lang/Object;"⟩ ∈ gz_U ∧ Cond.selects "[I" ⟨"[I", "clone", "()Ljava/lang/Object;"⟩ ⟨"java/lang/Object", "clone", "()Ljava/lang/Object;"⟩ ∈ gz_U)
    (hh1 : 1 ≤ hh) (hst : (st.map fun v => v.category).sum ≤ 8) (ha : w[q]? = some (b, .inl (cs 0, N, .inl f))) (hR : gx_ok X (kc + 1) (nc + N))
    (nx : ∀ z : Nat, gx X M (kc + 1) (nc + N) (w ++ [(z, .inl (cs 0, N, .inl f))]) (pc + 3) ls (.ref z :: st)) : gx X M kc nc w pc ls (.ref b :: st) := by
  obtain ⟨p, l, e, R, s, m, args, below, meth, c, D, A, Q⟩ := X
  intro H locs lsA hP hD hS hl
  have hf : hh ≤ R.frames := C.2.2.2.2.2.2.2.2.2.2.1
  have hlo : 64 * hh ≤ R.locals := C.2.2.2.2.2.2.2.2.2.2.2
  have hnm : s.vm.findClass "[I" = some (cs 0) := (C.2.2.2.2.2.2.2.1.2 0 (cs 0, .int) rfl).2
  have hfit : ∀ (i : Nat) (v : Value), (vp_cell (cs 0) (N, .inl f)).slots[i]? = some v → fits .int v = true := by
    intro i v hv
    have hsz : (vp_cell (cs 0) (N, .inl f)).slots.size = N := arrV_size _ _ _
    have hi : i < (vp_cell (cs 0) (N, .inl f)).slots.size := (Array.getElem?_eq_some_iff.mp hv).1
    have hr : (vp_cell (cs 0) (N, .inl f)).slots[i]? = some (.int (f i)) := arrV_read (cs 0) (fun j => .int (f j)) (by omega)
    rw [hr] at hv
    cases hv; rfl
  exact va_clone (ad := "[I") C.1 C.2.1 (by rw [C.2.2.1]; exact hl.1.symm) C.2.2.2.2.2.1 (C.2.2.2.2.2.2.1 _ hw.1) (C.2.2.2.2.2.2.1 _ hw.2.1) (C.2.2.2.2.2.2.1 _ hw.2.2.1) (C.2.2.2.2.2.2.1 _ hw.2.2.2.1) (C.2.2.2.2.2.2.1 _ hw.2.2.2.2) C.2.2.2.2.2.2.2.2.1.2.2.2.2.2.1 C.2.2.2.2.2.2.2.1 hP hD hS C.2.2.2.2.2.2.2.2.2.1 q 0 (x := (N, .inl f)) (ty := .int) ha rfl hnm hfit (by omega) (by omega) hR.1 hR.2 hd (fun z H1 _ hP1 hD1 hS1 => nx z H1 locs lsA hP1 hD1 hS1 hl)
/-- rows that agree where they are -/
theorem gy_row {q b N : Nat} {f f2 : Nat → Int32} (ha : w[q]? = some (b, .inl (cs 0, N, .inl f))) (he : ∀ j, j < N → f j = f2 j) (nx : gx X M kc nc (w.set q (b, .inl (cs 0, N, .inl f2))) pc ls st) : gx X M kc nc w pc ls st := by
  obtain ⟨p, l, e, R, s, m, args, below, meth, c, D, A, Q⟩ := X
  intro H locs lsA hP hD hS hl
  refine nx H locs lsA (hP.set hD ha ?_ (fun _ _ => rfl)) (hD.set ha) hS hl
  have h1 := hP q _ ha
  have e2 : vp_cell (cs 0) (N, .inl f) = vp_cell (cs 0) (N, .inl f2) := by
    show arrV (cs 0) N (fun j => Value.int (f j)) = arrV (cs 0) N (fun j => Value.int (f2 j))
    have e3 : (fun j : Fin N => Value.int (f j.val)) = (fun j : Fin N => Value.int (f2 j.val)) := by
      funext j
      exact congrArg Value.int (he j.val j.isLt)
    unfold arrV
    rw [e3]
  show H[b]? = some (vp_cell (cs 0) (N, .inl f2))
  rw [← e2]; exact h1
theorem gy_ldcS {ix z : Nat} (C : gx_C X M cs hh) (hd : decode M.2.1 pc = .ok (.ldc ix, 2)) (hw : M.1.cls = "PrintsGoOnModel" ∧ ((ix = 26 ∧ z = cs 10) ∨ (ix = 32 ∧ z = cs 11))) (nx : gx X M kc nc w (pc + 2) ls (.ref z :: st)) : gx X M kc nc w pc ls st := by
  obtain ⟨p, l, e, R, s, m, args, below, meth, c, D, A, Q⟩ := X
  intro H locs lsA hP hD hS hl
  have hown := C.2.2.2.2.2.1
  rw [hw.1] at hown
  have k := nx H locs lsA hP hD hS hl
  have hR := C.2.2.2.2.2.2.2.2.1.2.2.2.2.2.2
  have go : ∀ {tx : String} {q : Nat}, vk_R "PrintsGoOnModel" ix tx q s → z = q → W p l e R s m args below meth c H locs kc nc Q (F0 m pc lsA st) := by
    intro tx q hZ hq
    subst hq
    intro T hT XX
    obtain ⟨t, a1, b1⟩ := k T hT XX
    exact ⟨t, XX.ldcString C.1 hown (text := tx) (a := z) hZ.1 hZ.2 (g := F0 m pc lsA st) rfl (by rw [C.2.1]; exact hd) t a1, b1⟩
  rcases hw.2 with ⟨rfl, h2⟩ | ⟨rfl, h2⟩
  · exact go hR.1 h2
  · exact go hR.2 h2
end GX
