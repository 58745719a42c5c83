/-! the reference reads evenings -/
def RP (g : gz_S) (e o : Nat) (b : Nat → Nat) (len a : Nat) : Prop := RT g e o b len a ∧ g.1 39 11 = -nI 1
def Fz (K S : Nat → Prop) (g g' : gz_S) : Prop := (∀ j, j ≠ 39 → ¬ S j → g'.1 j = g.1 j) ∧ (∀ k, ¬ K k → g'.1 39 k = g.1 39 k) ∧ g'.2 = g.2
theorem Fz.z0 {K S : Nat → Prop} {g : gz_S} : Fz K S g g := ⟨fun _ _ _ => rfl, fun _ _ => rfl, rfl⟩
theorem Fz.tr {K S : Nat → Prop} {g g' g'' : gz_S} (h : Fz K S g g') (h' : Fz K S g' g'') : Fz K S g g'' :=
  ⟨fun j hj hs => (h'.1 j hj hs).trans (h.1 j hj hs), fun k hk => (h'.2.1 k hk).trans (h.2.1 k hk), h'.2.2.trans h.2.2⟩
theorem Fz.w {K S : Nat → Prop} {g g' : gz_S} {k : Nat} {x : Int32} (h : Fz K S g g') (hk : K k) : Fz K S g (gz_wi g' 39 k x) :=
  ⟨fun j hj hs => by rw [wi_wa, wa_ne hj]; exact h.1 j hj hs, fun j hj => by rw [wi_wa, wa_at]; exact (if_neg (fun hh => hj (by rw [hh]; exact hk))).trans (h.2.1 j hj), h.2.2⟩
theorem Fz.s {K S : Nat → Prop} {g g' : gz_S} {j k : Nat} {x : Int32} (h : Fz K S g g') (hj : j ≠ 39) (hs : S j) : Fz K S g (gz_wi g' j k x) :=
  ⟨fun i hi hsi => by rw [wi_wa, wa_ne (fun hh => hsi (by rw [hh]; exact hs))]; exact h.1 i hi hsi, fun i hi => by rw [wi_wa, wa_ne (fun hh => hj hh.symm)]; exact h.2.1 i hi, h.2.2⟩
theorem Fz.r {K S : Nat → Prop} {g g' : gz_S} {p : Nat} (h : Fz K S g g') (hk : K 10) : Fz K S g (rs g' p) := by rw [← wi_rs]; exact h.w hk
theorem Fz.f {K S : Nat → Prop} {g g' : gz_S} {p : Nat} (h : Fz K S g g') (hk : K 11) : Fz K S g (rf g' p) := by
  have : rf g' p = gz_wi g' 39 11 (nI p) := by rw [wi_wa]; rfl
  rw [this]; exact h.w hk
abbrev KE : Nat → Prop := fun k => k = 10 ∨ k = 11
abbrev SE : Nat → Prop := fun j => j = 51 ∨ j = 52
theorem wi_39 {g : gz_S} {j k i : Nat} {x : Int32} (h : j ≠ 39) : (gz_wi g j k x).1 39 i = g.1 39 i := by rw [wi_wa, wa_ne (fun hh => h hh.symm)]
theorem wi_ss {g : gz_S} {j k : Nat} {x : Int32} : (gz_wi g j k x).1 j k = x := by rw [wi_wa, wa_at]; exact if_pos rfl
theorem wi_sn {g : gz_S} {j k i : Nat} {x : Int32} (h : i ≠ k) : (gz_wi g j k x).1 j i = g.1 j i := by rw [wi_wa, wa_at]; exact if_neg h
theorem wi_no {g : gz_S} {j k i : Nat} {x : Int32} (h : i ≠ j) : (gz_wi g j k x).1 i = g.1 i := by rw [wi_wa, wa_ne h]
section RP
variable {g : gz_S} {e o : Nat} {b : Nat → Nat} {len a : Nat} {La : gz_L}
theorem RP.ws {j k : Nat} {x : Int32} (h : RP g e o b len a) (hj : j ≠ 39 ∧ j ≠ 40 ∧ j ≠ 41) : RP (gz_wi g j k x) e o b len a := by
  obtain ⟨⟨h1, h2, h3, h4, h5, h6, h7, h8, h9⟩, h10⟩ := h
  have hne : e ≠ j := by rcases h2 with rfl | rfl <;> omega
  exact ⟨⟨h1, h2, by rw [wi_39 hj.1]; exact h3, by rw [wi_39 hj.1]; exact h4, by rw [wi_39 hj.1]; exact h5, h6, h7, h8, by rw [wi_no hne]; exact h9⟩, by rw [wi_39 hj.1]; exact h10⟩
theorem RP.wf {k : Nat} {x : Int32} (h : RP g e o b len a) (hk : k ≠ 8 ∧ k ≠ 9 ∧ k ≠ 10 ∧ k ≠ 11) : RP (gz_wi g 39 k x) e o b len a :=
  ⟨h.1.wf (by omega), by rw [wi_sn (by omega)]; exact h.2⟩
theorem RP.st {p : Nat} (h : RP g e o b len a) (hp : p ≤ len) : RP (rs g p) e o b len p := ⟨h.1.st hp, by rw [rs_f (by omega)]; exact h.2⟩
theorem RP.le (h : RP g e o b len a) : a ≤ len ∧ len ≤ 240 := ⟨h.1.2.2.2.2.2.1, h.1.2.2.2.2.2.2.1⟩
theorem RP.sgc (h : RP g e o b len a) {p c : Nat} (hs : sg b len p = some c) : c < 256 := by
  have h1 := sg_lt hs
  have h2 := (h.1.2.2.2.2.2.2.2.2 p h1.1).2
  omega
theorem RP.oc (h : RP g e o b len a) {p c : Nat} (hc : c < 256) : (oI (sg b len p) = nI c) = (sg b len p = some c) :=
  oI_eq (by omega) (fun d hd => by have := h.sgc hd; omega)
theorem RP.ta (h : RP g e o b len a) : g.1 39 10 = nI a := h.1.2.2.2.2.1
theorem r_lookR (h : RP g e o b len a) : fX12_look La g = some (oI (sg b len (nx b len a)), rs g (nx b len a)) := r_look h.1
theorem r_failsR (h : RP g e o b len a) : fX12_fails La g = some (nI 0, rf g a) := r_fails0 h.1 h.2
theorem r_isDigitR (h : RP g e o b len a) : fX12_isDigit La g = some (pI (dg b len a), g) := r_isDigit h.1
theorem r_step1 (h : RP g e o b len a) (ha : a < len) : gz_wi g 39 10 ((g.1 39 10) + 1) = rs g (a + 1) := by
  rw [h.ta, show nI a + (1 : Int32) = nI (a + 1) from n_add a 1, wi_rs]
theorem sg_dg {p : Nat} (h : dg b len p) : sg b len p = some (b p) := by unfold sg; rw [if_pos h.1]
/-- a digit -/
theorem r_digit (h : RP g e o b len a) : fX12_digit La g = some (if dg b len (nx b len a) then (nI (b (nx b len a) - 48), rs g (nx b len a + 1)) else (nI 0, rf (rs g (nx b len a)) (nx b len a))) := by
  have hx := nx_le (b := b) h.le.1
  have hS := h.st hx.2
  unfold fX12_digit
  rw [r_lookR h, Option.bind_some]
  generalize nx b len a = p at *
  show (fX12_isDigit La (rs g p)).bind _ = _
  rw [r_isDigitR hS, Option.bind_some]
  by_cases hd : dg b len p
  · rw [if_pos hd]
    refine (if_neg (by show ¬ pI _ = nI 0; rw [p_0]; exact fun hn => hn hd)).trans ?_
    show gz_let (gz_wi (rs g p) 39 10 (((rs g p).1 39 10) + 1)) (fun g26 => some (oI (sg b len p) - 48, g26)) = _
    rw [r_step1 hS hd.1, rs_rs, gz_let_eq, sg_dg hd]
    show some (nI (b p) - nI 48, _) = _
    rw [n_sub (by omega)]
  · rw [if_neg hd]
    refine (if_pos (by show pI _ = nI 0; rw [p_0]; exact hd)).trans ?_
    show (fX12_fails La (rs g p)).bind _ = _
    rw [r_failsR hS, Option.bind_some]; rfl
theorem pDs_n {k p : Nat} (h : ¬ dg b len (nx b len p)) : pDs b len k p = (nx b len p, none) := by
  unfold pDs; rw [pDg_n h]
theorem pDs_2 {p : Nat} (h : dg b len (nx b len p)) : pDs b len 2 p = (nx b len p + 1, some (2, some (b (nx b len p) - 48), none)) := by
  unfold pDs; rw [pDg_p h]; exact if_pos rfl
theorem pDs_m {k p : Nat} (h : dg b len (nx b len p)) (hk : ¬ k = 2) (h2 : ¬ dg b len (nx b len (nx b len p + 1))) : pDs b len k p = (nx b len (nx b len p + 1), none) := by
  unfold pDs; rw [pDg_p h]
  refine (if_neg hk).trans ?_
  show (match (pDg b len (nx b len p + 1)).2 with | none => ((pDg b len (nx b len p + 1)).1, none) | some e => ((pDg b len (nx b len p + 1)).1, some (if k = 3 then (3, some ((b (nx b len p) - 48) * 10 + e), none) else (k, some (b (nx b len p) - 48), some e)))) = _
  rw [pDg_n h2]
theorem pDs_y {k p : Nat} (h : dg b len (nx b len p)) (hk : ¬ k = 2) (h2 : dg b len (nx b len (nx b len p + 1))) : pDs b len k p = (nx b len (nx b len p + 1) + 1, some (if k = 3 then (3, some ((b (nx b len p) - 48) * 10 + (b (nx b len (nx b len p + 1)) - 48)), none) else (k, some (b (nx b len p) - 48), some (b (nx b len (nx b len p + 1)) - 48)))) := by
  unfold pDs; rw [pDg_p h]
  refine (if_neg hk).trans ?_
  show (match (pDg b len (nx b len p + 1)).2 with | none => ((pDg b len (nx b len p + 1)).1, none) | some e => ((pDg b len (nx b len p + 1)).1, some (if k = 3 then (3, some ((b (nx b len p) - 48) * 10 + e), none) else (k, some (b (nx b len p) - 48), some e)))) = _
  rw [pDg_p h2]
def RdEr (q : Option gz_S) (g : gz_S) (e o : Nat) (b : Nat → Nat) (len row : Nat) (s : Nat × Option eS) : Prop :=
  ∃ g', q = some g' ∧ Fz KE SE g g' ∧ (∀ j, ¬ (row ≤ j ∧ j < row + 3) → g'.1 51 j = g.1 51 j) ∧ g'.1 52 = g.1 52 ∧
    ((s.2 = none ∧ g'.1 39 11 = nI s.1 ∧ s.1 ≤ 240) ∨ ∃ x, s.2 = some x ∧ RP g' e o b len s.1 ∧ g'.1 51 row = nI x.1 ∧ g'.1 51 (row + 1) = oI x.2.1 ∧ g'.1 51 (row + 2) = oI x.2.2)
theorem sp_h {c : Nat} : sp (tx 214) c 0 = if c = 104 then some 0 else if c = 103 then some 1 else if c = 116 then some 2 else if c = 115 then some 3 else none := by
  have e : ∀ d, (d = c) = (c = d) := fun d => propext ⟨Eq.symm, Eq.symm⟩
  show (if 104 = c then some 0 else if 103 = c then some 1 else if 116 = c then some 2 else if 115 = c then some 3 else none) = _
  simp only [e]
theorem r_readStep (h : RP g e o b len a) {row : Nat} (hr : row + 3 ≤ 240) : RdEr (fX12_readStep La (nI row) g) g e o b len row (pStp b len a) := by
  have hx := nx_le (b := b) h.le.1
  have hS := h.st hx.2
  have h240 := h.le.2
  have hF0 : Fz KE SE g (rs g (nx b len a)) := Fz.z0.r (Or.inl rfl)
  have h51 : (rs g (nx b len a)).1 51 = g.1 51 := rs_n (by omega)
  have h52 : (rs g (nx b len a)).1 52 = g.1 52 := rs_n (by omega)
  have hA := r_spotOf (La := La) (g := rs g (nx b len a)) (w := 214) (by omega) (o := sg b len (nx b len a)) (fun c hc => h.sgc hc)
  unfold fX12_readStep pStp
  rw [r_lookR h, Option.bind_some]
  generalize nx b len a = p at *
  show RdEr ((fX12_spotOf La 214 (oI (sg b len p)) (rs g p)).bind _) _ _ _ _ _ _ _
  rw [hA, Option.bind_some]
  have key : ∀ m c, sg b len p = some c → sp (tx 214) c 0 = some m → m < 4 → RdEr (gz_let (gz_wi (rs g p) 39 10 (((rs g p).1 39 10) + 1)) (fun g29 => if gz_ok (nI row) 240 then gz_let (gz_wi g29 51 (Int32.toNatClampNeg (nI row)) (nI m)) (fun g38 => if gz_ok (nI row + 1) 240 then gz_let (gz_wi g38 51 (Int32.toNatClampNeg (nI row + 1)) (-1)) (fun g47 => if gz_ok (nI row + 2) 240 then gz_let (gz_wi g47 51 (Int32.toNatClampNeg (nI row + 2)) (-1)) (fun g56 => if nI m = 0 then some g56 else (fX12_digit La g56).bind (fun q70 => if gz_ok (nI row + 1) 240 then gz_let (gz_wi q70.2 51 (Int32.toNatClampNeg (nI row + 1)) q70.1) (fun g73 => if (g73.1 39 11) = (-1) then if nI m = 2 then some g73 else (fX12_digit La g73).bind (fun q89 => if nI m = 1 then if gz_ok (nI row + 2) 240 then gz_let (gz_wi q89.2 51 (Int32.toNatClampNeg (nI row + 2)) q89.1) (fun g106 => some g106) else none else if gz_ok (nI row + 1) 240 then if gz_ok (nI row + 1) 240 then gz_let (gz_wi q89.2 51 (Int32.toNatClampNeg (nI row + 1)) (((10 : Int32) * (q89.2.1 51 (Int32.toNatClampNeg (nI row + 1)))) + q89.1)) (fun g126 => some g126) else none else none) else some g73) else none)) else none) else none) else none)) g e o b len row
      (if m = 0 then (p + 1, some (0, none, none)) else pDs b len m (p + 1)) := by
    intro m c hc hm hm4
    have hpl := (sg_lt hc).1
    rw [r_step1 hS hpl, rs_rs, gz_let_eq, if_pos (n_okP (by omega) (by omega)), gz_let_eq, show nI row + (1 : Int32) = nI (row + 1) from n_add _ _, show nI row + (2 : Int32) = nI (row + 2) from n_add _ _,
      if_pos (n_okP (by omega) (by omega)), gz_let_eq, if_pos (n_okP (by omega) (by omega)), gz_let_eq]
    simp only [n_cl (show row < 2147483648 by omega), n_cl (show row + 1 < 2147483648 by omega), n_cl (show row + 2 < 2147483648 by omega)]
    have hS2 : RP (rs g (p + 1)) e o b len (p + 1) := h.st (by omega)
    have hS3 := ((hS2.ws (j := 51) (k := row) (x := nI m) (by omega)).ws (j := 51) (k := row + 1) (x := -1) (by omega)).ws (j := 51) (k := row + 2) (x := -1) (by omega)
    have hF3 : Fz KE SE g (gz_wi (gz_wi (gz_wi (rs g (p + 1)) 51 row (nI m)) 51 (row + 1) (-1)) 51 (row + 2) (-1)) := (((Fz.z0.r (Or.inl rfl)).s (by omega) (Or.inl rfl)).s (by omega) (Or.inl rfl)).s (by omega) (Or.inl rfl)
    have h51' : ∀ j, ¬ (row ≤ j ∧ j < row + 3) → (gz_wi (gz_wi (gz_wi (rs g (p + 1)) 51 row (nI m)) 51 (row + 1) (-1)) 51 (row + 2) (-1)).1 51 j = g.1 51 j := fun j hj => by
      rw [wi_sn (by omega), wi_sn (by omega), wi_sn (by omega), rs_n (by omega)]
    have h52' : (gz_wi (gz_wi (gz_wi (rs g (p + 1)) 51 row (nI m)) 51 (row + 1) (-1)) 51 (row + 2) (-1)).1 52 = g.1 52 := by
      rw [wi_no (by omega), wi_no (by omega), wi_no (by omega), rs_n (by omega)]
    have v0 : (gz_wi (gz_wi (gz_wi (rs g (p + 1)) 51 row (nI m)) 51 (row + 1) (-1)) 51 (row + 2) (-1)).1 51 row = nI m := by
      rw [wi_sn (by omega), wi_sn (by omega), wi_ss]
    have v1 : (gz_wi (gz_wi (gz_wi (rs g (p + 1)) 51 row (nI m)) 51 (row + 1) (-1)) 51 (row + 2) (-1)).1 51 (row + 1) = -1 := by
      rw [wi_sn (by omega), wi_ss]
    have v2 : (gz_wi (gz_wi (gz_wi (rs g (p + 1)) 51 row (nI m)) 51 (row + 1) (-1)) 51 (row + 2) (-1)).1 51 (row + 2) = -1 := by
      rw [wi_ss]
    generalize gz_wi (gz_wi (gz_wi (rs g (p + 1)) 51 row (nI m)) 51 (row + 1) (-1)) 51 (row + 2) (-1) = g3 at *
    by_cases m0 : m = 0
    · subst m0
      rw [if_pos rfl, if_pos (show nI 0 = (0 : Int32) from rfl)]
      exact ⟨g3, rfl, hF3, h51', h52', Or.inr ⟨(0, none, none), rfl, hS3, v0, v1, v2⟩⟩
    · have em0 : ¬ nI m = 0 := by show ¬ nI m = nI 0; rw [n_eq (by omega) (by omega)]; omega
      rw [if_neg em0, if_neg m0, r_digit hS3, Option.bind_some]
      have hy := nx_le (b := b) (show p + 1 ≤ len by omega)
      by_cases d1 : dg b len (nx b len (p + 1))
      · have hd1 := d1.1
        have hS4 := hS3.st (p := nx b len (p + 1) + 1) (by omega)
        have hS5 := hS4.ws (j := 51) (k := row + 1) (x := nI (b (nx b len (p + 1)) - 48)) (by omega)
        have hF5 : Fz KE SE g (gz_wi (rs g3 (nx b len (p + 1) + 1)) 51 (row + 1) (nI (b (nx b len (p + 1)) - 48))) := (hF3.r (Or.inl rfl)).s (by omega) (Or.inl rfl)
        have w51 : ∀ j, ¬ (row ≤ j ∧ j < row + 3) → (gz_wi (rs g3 (nx b len (p + 1) + 1)) 51 (row + 1) (nI (b (nx b len (p + 1)) - 48))).1 51 j = g.1 51 j := fun j hj => by
          rw [wi_sn (by omega), rs_n (by omega)]; exact h51' j hj
        have w52 : (gz_wi (rs g3 (nx b len (p + 1) + 1)) 51 (row + 1) (nI (b (nx b len (p + 1)) - 48))).1 52 = g.1 52 := by
          rw [wi_no (by omega), rs_n (by omega)]; exact h52'
        have w0 : (gz_wi (rs g3 (nx b len (p + 1) + 1)) 51 (row + 1) (nI (b (nx b len (p + 1)) - 48))).1 51 row = nI m := by
          rw [wi_sn (by omega), rs_n (by omega)]; exact v0
        have w1 : (gz_wi (rs g3 (nx b len (p + 1) + 1)) 51 (row + 1) (nI (b (nx b len (p + 1)) - 48))).1 51 (row + 1) = nI (b (nx b len (p + 1)) - 48) := by
          rw [wi_ss]
        have w2 : (gz_wi (rs g3 (nx b len (p + 1) + 1)) 51 (row + 1) (nI (b (nx b len (p + 1)) - 48))).1 51 (row + 2) = -1 := by
          rw [wi_sn (by omega), rs_n (by omega)]; exact v2
        have q2 : m = 2 → pDs b len m (p + 1) = (nx b len (p + 1) + 1, some (2, some (b (nx b len (p + 1)) - 48), none)) := fun hm => by rw [hm]; exact pDs_2 d1
        have q3 := fun hk h2 => pDs_m (k := m) d1 hk h2
        have q4 := fun hk h2 => pDs_y (k := m) d1 hk h2
        rw [if_pos d1]
        refine Eq.subst (motive := fun z => RdEr z _ _ _ _ _ _ _) (if_pos (n_okP (a := row + 1) (n := 240) (by omega) (by omega))).symm ?_
        show RdEr (gz_let (gz_wi (rs g3 (nx b len (p + 1) + 1)) 51 (row + 1) (nI (b (nx b len (p + 1)) - 48))) _) _ _ _ _ _ _ _
        rw [gz_let_eq]
        have hd48 : b (nx b len (p + 1)) - 48 ≤ 9 := by omega
        generalize b (nx b len (p + 1)) - 48 = d at *
        generalize nx b len (p + 1) + 1 = p2 at *
        generalize gz_wi (rs g3 p2) 51 (row + 1) (nI d) = g5 at *
        have hf5 : g5.1 39 11 = -1 := hS5.2
        rw [if_pos hf5]
        by_cases m2 : m = 2
        · rw [q2 m2]
          subst m2
          refine Eq.subst (motive := fun z => RdEr z _ _ _ _ _ _ _) (if_pos (show nI 2 = (2 : Int32) from rfl)).symm ?_
          exact ⟨g5, rfl, hF5, w51, w52, Or.inr ⟨(2, some d, none), rfl, hS5, w0, w1, w2⟩⟩
        · have em2 : ¬ nI m = 2 := by show ¬ nI m = nI 2; rw [n_eq (by omega) (by omega)]; omega
          rw [if_neg em2, r_digit hS5, Option.bind_some]
          have hy2 := nx_le (b := b) hS5.le.1
          by_cases d2 : dg b len (nx b len p2)
          · have hd2 := d2.1
            have hS6 := hS5.st (p := nx b len p2 + 1) (by omega)
            have hF6 : Fz KE SE g (rs g5 (nx b len p2 + 1)) := hF5.r (Or.inl rfl)
            rw [if_pos d2, q4 m2 d2]
            have x51 : (rs g5 (nx b len p2 + 1)).1 51 = g5.1 51 := rs_n (by omega)
            have x52 : (rs g5 (nx b len p2 + 1)).1 52 = g5.1 52 := rs_n (by omega)
            rw [← x51] at w51 w0 w1 w2
            rw [← x52] at w52
            generalize rs g5 (nx b len p2 + 1) = g6 at *
            generalize b (nx b len p2) - 48 = d' at *
            by_cases m1 : m = 1
            · subst m1
              have hS7 := hS6.ws (j := 51) (k := row + 2) (x := nI d') (by omega)
              refine Eq.subst (motive := fun z => RdEr z _ _ _ _ _ _ _) (if_pos (show nI 1 = (1 : Int32) from rfl)).symm ?_
              refine Eq.subst (motive := fun z => RdEr z _ _ _ _ _ _ _) (if_pos (n_okP (a := row + 2) (n := 240) (by omega) (by omega))).symm ?_
              refine ⟨gz_wi g6 51 (row + 2) (nI d'), rfl, hF6.s (by omega) (Or.inl rfl), fun j hj => ?_, ?_, Or.inr ⟨(1, some d, some d'), rfl, hS7, ?_, ?_, ?_⟩⟩
              · rw [wi_sn (by omega)]; exact w51 j hj
              · rw [wi_no (by omega)]; exact w52
              · rw [wi_sn (by omega)]; exact w0
              · rw [wi_sn (by omega)]; exact w1
              · rw [wi_ss]; rfl
            · have em1 : ¬ nI m = 1 := by show ¬ nI m = nI 1; rw [n_eq (by omega) (by omega)]; omega
              have m3 : m = 3 := by omega
              subst m3
              have ev : ((10 : Int32) * (g6.1 51 (row + 1))) + nI d' = nI (d * 10 + d') := by
                rw [w1, show (10 : Int32) = nI 10 from rfl, n_mul, n_add]; congr 1; omega
              have hS7 := hS6.ws (j := 51) (k := row + 1) (x := nI (d * 10 + d')) (by omega)
              refine Eq.subst (motive := fun z => RdEr z _ _ _ _ _ _ _) (if_neg em1).symm ?_
              refine Eq.subst (motive := fun z => RdEr z _ _ _ _ _ _ _) (if_pos (n_okP (a := row + 1) (n := 240) (by omega) (by omega))).symm ?_
              refine Eq.subst (motive := fun z => RdEr z _ _ _ _ _ _ _) (if_pos (n_okP (a := row + 1) (n := 240) (by omega) (by omega))).symm ?_
              refine ⟨gz_wi g6 51 (row + 1) (nI (d * 10 + d')), ?_, hF6.s (by omega) (Or.inl rfl), fun j hj => ?_, ?_, Or.inr ⟨(3, some (d * 10 + d'), none), rfl, hS7, ?_, ?_, ?_⟩⟩
              · show gz_let (gz_wi g6 51 (row + 1) (((10 : Int32) * (g6.1 51 (row + 1))) + nI d')) _ = _
                rw [ev]; rfl
              · rw [wi_sn (by omega)]; exact w51 j hj
              · rw [wi_no (by omega)]; exact w52
              · rw [wi_sn (by omega)]; exact w0
              · rw [wi_ss]; rfl
              · rw [wi_sn (by omega)]; exact w2
          · rw [if_neg d2, q3 m2 d2]
            have hF6 : Fz KE SE g (rf (rs g5 (nx b len p2)) (nx b len p2)) := (hF5.r (Or.inl rfl)).f (Or.inr rfl)
            have x51 : (rf (rs g5 (nx b len p2)) (nx b len p2)).1 51 = g5.1 51 := (wa_ne (by omega)).trans (rs_n (by omega))
            have x52 : (rf (rs g5 (nx b len p2)) (nx b len p2)).1 52 = g5.1 52 := (wa_ne (by omega)).trans (rs_n (by omega))
            have x11 : (rf (rs g5 (nx b len p2)) (nx b len p2)).1 39 11 = nI (nx b len p2) := rf_11 _ _
            rw [← x51] at w51
            rw [← x52] at w52
            generalize rf (rs g5 (nx b len p2)) (nx b len p2) = g6 at *
            have fin : ∀ q : Option gz_S, (∃ g7, q = some g7 ∧ Fz KE SE g6 g7 ∧ (∀ j, ¬ (row ≤ j ∧ j < row + 3) → g7.1 51 j = g6.1 51 j) ∧ g7.1 52 = g6.1 52 ∧ g7.1 39 11 = g6.1 39 11) → RdEr q g e o b len row (nx b len p2, none) := by
              rintro q ⟨g7, z1, z2, z3, z4, z5⟩
              exact ⟨g7, z1, hF6.tr z2, fun j hj => (z3 j hj).trans (w51 j hj), z4.trans w52, Or.inl ⟨rfl, z5.trans x11, by show nx b len p2 ≤ 240; omega⟩⟩
            refine fin _ ?_
            by_cases m1 : m = 1
            · subst m1
              exact ⟨gz_wi g6 51 (row + 2) (nI 0), (if_pos (show nI 1 = (1 : Int32) from rfl)).trans (if_pos (n_okP (a := row + 2) (n := 240) (by omega) (by omega))), Fz.z0.s (by omega) (Or.inl rfl), fun j hj => wi_sn (by omega), wi_no (by omega), wi_39 (by omega)⟩
            · have em1 : ¬ nI m = 1 := by show ¬ nI m = nI 1; rw [n_eq (by omega) (by omega)]; omega
              exact ⟨_, (if_neg em1).trans ((if_pos (n_okP (a := row + 1) (n := 240) (by omega) (by omega))).trans (if_pos (n_okP (a := row + 1) (n := 240) (by omega) (by omega)))), Fz.z0.s (by omega) (Or.inl rfl), fun j hj => wi_sn (by omega), wi_no (by omega), wi_39 (by omega)⟩
      · rw [if_neg d1, pDs_n d1]
        have hF6 : Fz KE SE g (rf (rs g3 (nx b len (p + 1))) (nx b len (p + 1))) := (hF3.r (Or.inl rfl)).f (Or.inr rfl)
        have x51 : (rf (rs g3 (nx b len (p + 1))) (nx b len (p + 1))).1 51 = g3.1 51 := (wa_ne (by omega)).trans (rs_n (by omega))
        have x52 : (rf (rs g3 (nx b len (p + 1))) (nx b len (p + 1))).1 52 = g3.1 52 := (wa_ne (by omega)).trans (rs_n (by omega))
        have x11 : (rf (rs g3 (nx b len (p + 1))) (nx b len (p + 1))).1 39 11 = nI (nx b len (p + 1)) := rf_11 _ _
        rw [← x51] at h51'
        rw [← x52] at h52'
        generalize rf (rs g3 (nx b len (p + 1))) (nx b len (p + 1)) = g6 at *
        refine Eq.subst (motive := fun z => RdEr z _ _ _ _ _ _ _) (if_pos (n_okP (a := row + 1) (n := 240) (by omega) (by omega))).symm ?_
        refine ⟨gz_wi g6 51 (row + 1) (nI 0), ?_, hF6.s (by omega) (Or.inl rfl), fun j hj => ?_, ?_, Or.inl ⟨rfl, ?_, by show nx b len (p + 1) ≤ 240; omega⟩⟩
        · refine if_neg ?_
          show ¬ (gz_wi g6 51 (row + 1) (nI 0)).1 39 11 = -1
          rw [wi_39 (by omega)]
          exact fault_ne (p := nx b len (p + 1)) (by omega) x11
        · rw [wi_sn (by omega)]; exact h51' j hj
        · rw [wi_no (by omega)]; exact h52'
        · rw [wi_39 (by omega)]; exact x11
  cases hs : sg b len p with
  | none =>
    refine ⟨rf (rs g p) p, ?_, hF0.f (Or.inr rfl), fun j hj => ?_, ?_, Or.inl ⟨rfl, rf_11 _ _, by show p ≤ 240; omega⟩⟩
    · refine (if_pos (show oI ((none : Option Nat).bind (fun c => sp (tx 214) c 0)) = (-1 : Int32) from rfl)).trans ?_
      show (fX12_fails La (rs g p)).bind _ = _
      rw [r_failsR hS, Option.bind_some]
    · rw [show (rf (rs g p) p).1 51 = (rs g p).1 51 from wa_ne (by omega), h51]
    · rw [show (rf (rs g p) p).1 52 = (rs g p).1 52 from wa_ne (by omega), h52]
  | some c =>
    have hpl := sg_lt hs
    have hsp := sp_h (c := c)
    show RdEr (if oI (sp (tx 214) c 0) = -1 then (fX12_fails La (rs g p)).bind (fun q17 => some q17.2) else _) _ _ _ _ _ _ _
    by_cases c3 : c = 103
    · subst c3
      have hm : sp (tx 214) 103 0 = some 1 := rfl
      rw [hm, if_pos rfl]
      refine Eq.subst (motive := fun z => RdEr z _ _ _ _ _ _ _) (if_neg (show ¬ oI (some 1) = (-1 : Int32) by decide)).symm ?_
      exact key 1 103 hs rfl (by omega)
    rw [if_neg (show ¬ some c = some 103 from fun h => c3 (Option.some.inj h))]
    by_cases c4 : c = 104
    · subst c4
      have hm : sp (tx 214) 104 0 = some 0 := rfl
      rw [hm, if_pos rfl]
      refine Eq.subst (motive := fun z => RdEr z _ _ _ _ _ _ _) (if_neg (show ¬ oI (some 0) = (-1 : Int32) by decide)).symm ?_
      exact key 0 104 hs rfl (by omega)
    rw [if_neg (show ¬ some c = some 104 from fun h => c4 (Option.some.inj h))]
    by_cases c5 : c = 115
    · subst c5
      have hm : sp (tx 214) 115 0 = some 3 := rfl
      rw [hm, if_pos rfl]
      refine Eq.subst (motive := fun z => RdEr z _ _ _ _ _ _ _) (if_neg (show ¬ oI (some 3) = (-1 : Int32) by decide)).symm ?_
      exact key 3 115 hs rfl (by omega)
    rw [if_neg (show ¬ some c = some 115 from fun h => c5 (Option.some.inj h))]
    by_cases c6 : c = 116
    · subst c6
      have hm : sp (tx 214) 116 0 = some 2 := rfl
      rw [hm, if_pos rfl]
      refine Eq.subst (motive := fun z => RdEr z _ _ _ _ _ _ _) (if_neg (show ¬ oI (some 2) = (-1 : Int32) by decide)).symm ?_
      exact key 2 116 hs rfl (by omega)
    rw [if_neg (show ¬ some c = some 116 from fun h => c6 (Option.some.inj h))]
    have hm : sp (tx 214) c 0 = none := by rw [hsp, if_neg c4, if_neg c3, if_neg c6, if_neg c5]
    rw [hm]
    refine ⟨rf (rs g p) p, ?_, hF0.f (Or.inr rfl), fun j hj => ?_, ?_, Or.inl ⟨rfl, rf_11 _ _, by show p ≤ 240; omega⟩⟩
    · refine (if_pos (show oI none = (-1 : Int32) from rfl)).trans ?_
      rw [r_failsR hS, Option.bind_some]
    · rw [show (rf (rs g p) p).1 51 = (rs g p).1 51 from wa_ne (by omega), h51]
    · rw [show (rf (rs g p) p).1 52 = (rs g p).1 52 from wa_ne (by omega), h52]
end RP
