/-! the reference's words, letters; a text under way -/
def tx (w : Nat) : List Nat := if w = 210 then [121] else if w = 211 then [98, 97, 114, 112, 110, 116] else if w = 212 then [119, 104, 116, 99] else if w = 213 then [120, 121, 98, 112] else [104, 103, 116, 115]
def txC (w k : Nat) : Int32 := ((Int32.toUInt32 ((gz_stc (w + 10) (Int32.toNatClampNeg (nI k))) &&& (255 : Int32))) % 65536).toInt32
def txOkB (w k : Nat) : Bool := decide (¬ nI k < 0) && (decide (nI k < Int32.ofNat (gz_stn (w + 10))) && (decide (gz_ok (nI k) (gz_stn (w + 10))) && (decide (narrow .char (.int (txC w k)) = .int (txC w k)) && (decide (txC w k = nI ((tx w).getD k 0)) && decide ((tx w).getD k 0 < 256)))))
def txOk (w k : Nat) : Prop := ¬ nI k < 0 ∧ nI k < Int32.ofNat (gz_stn (w + 10)) ∧ gz_ok (nI k) (gz_stn (w + 10)) ∧ narrow .char (.int (txC w k)) = .int (txC w k) ∧ txC w k = nI ((tx w).getD k 0) ∧ (tx w).getD k 0 < 256
theorem tx_okB : ∀ w, w < 5 → ∀ k, k < 6 → k < (tx (210 + w)).length → txOkB (210 + w) k = true := by decide +kernel
theorem tx_len : ∀ w, w < 5 → Int32.ofNat (gz_stn (210 + w + 10)) >>> ((0 : Int32) &&& 31) = nI (tx (210 + w)).length ∧ (tx (210 + w)).length ≤ 6 := by decide +kernel
theorem tx_ok : ∀ w, w < 5 → ∀ k, k < 6 → k < (tx (210 + w)).length → txOk (210 + w) k := by
  intro w hw k hk hl
  have h := tx_okB w hw k hk hl
  unfold txOkB at h
  simp only [Bool.and_eq_true, decide_eq_true_eq] at h
  exact h
def sp : List Nat → Nat → Nat → Option Nat
  | [], _, _ => none
  | d :: l, c, i => if d = c then some i else sp l c (i + 1)
section R12
variable {La : gz_L} {g : gz_S} {w : Nat}
theorem r_len (hw : 210 ≤ w ∧ w < 215) : fJ0_length_8abf5 La w g = some (nI (tx w).length, g) := by
  obtain ⟨v, rfl⟩ : ∃ v, w = 210 + v := ⟨w - 210, by omega⟩
  have e1 : fJ0_coder_7d493 La (210 + v) g = some (0, g) := by unfold fJ0_coder_7d493; rw [if_neg (by decide)]
  unfold fJ0_length_8abf5
  rw [e1, Option.bind_some, (tx_len v (by omega)).1]
theorem tx_le (hw : 210 ≤ w ∧ w < 215) : (tx w).length ≤ 6 := by
  obtain ⟨v, rfl⟩ : ∃ v, w = 210 + v := ⟨w - 210, by omega⟩
  exact (tx_len v (by omega)).2
theorem tx_256 (hw : 210 ≤ w ∧ w < 215) {k : Nat} (hk : k < (tx w).length) : (tx w).getD k 0 < 256 := by
  have h6 := tx_le hw
  obtain ⟨v, rfl⟩ : ∃ v, w = 210 + v := ⟨w - 210, by omega⟩
  exact (tx_ok v (by omega) k (by omega) hk).2.2.2.2.2
theorem r_charAt (hw : 210 ≤ w ∧ w < 215) {k : Nat} (hk : k < (tx w).length) : fJ0_charAt_5068e La w (nI k) g = some (nI ((tx w).getD k 0), g) := by
  have h6 := tx_le hw
  obtain ⟨v, rfl⟩ : ∃ v, w = 210 + v := ⟨w - 210, by omega⟩
  obtain ⟨a1, a2, a3, a4, a5, _⟩ := tx_ok v (by omega) k (by omega) hk
  have e1 : fJ0_isLatin1_aae02 La (210 + v) g = some (1, g) := by unfold fJ0_isLatin1_aae02; rw [if_neg (by decide), if_pos rfl]
  have e3 : fJ0_checkIndex_df160 La (nI k) (Int32.ofNat (gz_stn (210 + v + 10))) g = some g := by
    unfold fJ0_checkIndex_df160 fJ3_checkIndex
    rw [if_neg a1, if_pos a2, Option.bind_some]
  have e2 : fJ1_charAt_3b067 La (210 + v + 10) (nI k) g = some (nI ((tx (210 + v)).getD k 0), g) := by
    unfold fJ1_charAt_3b067
    rw [e3, Option.bind_some, if_pos a3]
    have e4 := a4
    unfold txC at e4
    rw [if_pos e4]
    have e5 := a5
    unfold txC at e5
    rw [e5]
  unfold fJ0_charAt_5068e
  rw [e1, Option.bind_some]
  refine (if_neg (show ¬ (1 : Int32) = 0 by decide)).trans ?_
  rw [e2, Option.bind_some]
  refine if_pos ?_
  rw [← a5]; exact a4
theorem r_among_l (hw : 210 ≤ w ∧ w < 215) {o : Option Nat} (ho : ∀ c, o = some c → c < 256) : ∀ l pre f, tx w = pre ++ l → l.length < f →
    fX12_isAmong_2 La w f (oI o) (nI pre.length) g = some (pI ((o.bind (fun c => sp l c pre.length)) ≠ none), g) := by
  intro l
  have h6 := tx_le hw
  induction l with
  | nil =>
    intro pre f hp hf
    obtain ⟨f, rfl⟩ : ∃ f', f = f' + 1 := ⟨f - 1, by omega⟩
    have hl : (tx w).length = pre.length := by rw [hp, List.append_nil]
    rw [fX12_isAmong_2, r_len hw, Option.bind_some]
    refine (if_pos ?_).trans (p_f ?_)
    · rw [hl, n_le (by omega) (by omega)]; exact Nat.le_refl _
    · cases o with
      | none => exact fun h => h rfl
      | some c => exact fun h => h rfl
  | cons d l ih =>
    intro pre f hp hf
    obtain ⟨f, rfl⟩ : ∃ f', f = f' + 1 := ⟨f - 1, by omega⟩
    have hl : (tx w).length = pre.length + (l.length + 1) := by rw [hp, List.length_append, List.length_cons]
    have hd : (tx w).getD pre.length 0 = d := by
      rw [hp, List.getD_eq_getElem?_getD, List.getElem?_append_right (Nat.le_refl _), Nat.sub_self]; rfl
    have h256 : d < 256 := by rw [← hd]; exact tx_256 hw (by omega)
    have hgo := ih (pre ++ [d]) f (by rw [hp, List.append_assoc]; rfl) (by rw [List.length_cons] at hf; omega)
    rw [List.length_append] at hgo
    have hgo : fX12_isAmong_2 La w f (oI o) (nI (pre.length + 1)) g = some (pI ((o.bind (fun c => sp l c (pre.length + 1))) ≠ none), g) := hgo
    have e1 : (oI o = nI d) = (o = some d) := oI_eq (by omega) (fun c hc => by have := ho c hc; omega)
    have e2 : (nI d = oI o) = (o = some d) := by rw [← e1]; exact propext ⟨Eq.symm, Eq.symm⟩
    rw [fX12_isAmong_2, r_len hw, Option.bind_some]
    refine (if_neg ?_).trans ?_
    · rw [n_le (by omega) (by omega)]; omega
    rw [r_charAt hw (by omega), hd, Option.bind_some]
    show (if nI d = oI o then some (1, g) else gz_let (nI pre.length + 1) (fun y21 => fX12_isAmong_2 La w f (oI o) y21 g)) = _
    by_cases c1 : o = some d
    · rw [if_pos (by rw [e2]; exact c1)]
      refine p_t ?_
      rw [c1]
      show (if d = d then some pre.length else sp l d (pre.length + 1)) ≠ none
      rw [if_pos rfl]; exact fun h => by cases h
    · rw [if_neg (by rw [e2]; exact c1), gz_let_eq, show nI pre.length + (1 : Int32) = nI (pre.length + 1) from n_add _ _, hgo]
      have e3 : (o.bind (fun c => sp l c (pre.length + 1))) = (o.bind (fun c => sp (d :: l) c pre.length)) := by
        cases o with
        | none => rfl
        | some c =>
          show sp l c (pre.length + 1) = (if d = c then some pre.length else sp l c (pre.length + 1))
          rw [if_neg (fun h => c1 (by rw [h]))]
      rw [e3]
theorem r_isAmong (hw : 210 ≤ w ∧ w < 215) {o : Option Nat} (ho : ∀ c, o = some c → c < 256) : fX12_isAmong La w (oI o) g = some (pI ((o.bind (fun c => sp (tx w) c 0)) ≠ none), g) :=
  r_among_l hw ho (tx w) [] gz_FU rfl (by have := tx_le hw; unfold gz_FU; omega)
theorem r_spot_l (hw : 210 ≤ w ∧ w < 215) {o : Option Nat} (ho : ∀ c, o = some c → c < 256) : ∀ l pre f, tx w = pre ++ l → l.length < f →
    fX12_spotOf_2 La w f (oI o) (nI pre.length) g = some (oI (o.bind (fun c => sp l c pre.length)), g) := by
  intro l
  have h6 := tx_le hw
  induction l with
  | nil =>
    intro pre f hp hf
    obtain ⟨f, rfl⟩ : ∃ f', f = f' + 1 := ⟨f - 1, by omega⟩
    have hl : (tx w).length = pre.length := by rw [hp, List.append_nil]
    rw [fX12_spotOf_2, r_len hw, Option.bind_some]
    refine (if_pos ?_).trans ?_
    · rw [hl, n_le (by omega) (by omega)]; exact Nat.le_refl _
    · cases o with
      | none => rfl
      | some c => rfl
  | cons d l ih =>
    intro pre f hp hf
    obtain ⟨f, rfl⟩ : ∃ f', f = f' + 1 := ⟨f - 1, by omega⟩
    have hl : (tx w).length = pre.length + (l.length + 1) := by rw [hp, List.length_append, List.length_cons]
    have hd : (tx w).getD pre.length 0 = d := by
      rw [hp, List.getD_eq_getElem?_getD, List.getElem?_append_right (Nat.le_refl _), Nat.sub_self]; rfl
    have h256 : d < 256 := by rw [← hd]; exact tx_256 hw (by omega)
    have hgo := ih (pre ++ [d]) f (by rw [hp, List.append_assoc]; rfl) (by rw [List.length_cons] at hf; omega)
    rw [List.length_append] at hgo
    have hgo : fX12_spotOf_2 La w f (oI o) (nI (pre.length + 1)) g = some (oI (o.bind (fun c => sp l c (pre.length + 1))), g) := hgo
    have e1 : (oI o = nI d) = (o = some d) := oI_eq (by omega) (fun c hc => by have := ho c hc; omega)
    have e2 : (nI d = oI o) = (o = some d) := by rw [← e1]; exact propext ⟨Eq.symm, Eq.symm⟩
    rw [fX12_spotOf_2, r_len hw, Option.bind_some]
    refine (if_neg ?_).trans ?_
    · rw [n_le (by omega) (by omega)]; omega
    rw [r_charAt hw (by omega), hd, Option.bind_some]
    show (if nI d = oI o then some (nI pre.length, g) else gz_let (nI pre.length + 1) (fun y21 => fX12_spotOf_2 La w f (oI o) y21 g)) = _
    by_cases c1 : o = some d
    · rw [if_pos (by rw [e2]; exact c1), c1]
      show _ = some (oI (if d = d then some pre.length else sp l d (pre.length + 1)), g)
      rw [if_pos rfl]; rfl
    · rw [if_neg (by rw [e2]; exact c1), gz_let_eq, show nI pre.length + (1 : Int32) = nI (pre.length + 1) from n_add _ _, hgo]
      have e3 : (o.bind (fun c => sp l c (pre.length + 1))) = (o.bind (fun c => sp (d :: l) c pre.length)) := by
        cases o with
        | none => rfl
        | some c =>
          show sp l c (pre.length + 1) = (if d = c then some pre.length else sp l c (pre.length + 1))
          rw [if_neg (fun h => c1 (by rw [h]))]
      rw [e3]
theorem r_spotOf (hw : 210 ≤ w ∧ w < 215) {o : Option Nat} (ho : ∀ c, o = some c → c < 256) : fX12_spotOf La w (oI o) g = some (oI (o.bind (fun c => sp (tx w) c 0)), g) :=
  r_spot_l hw ho (tx w) [] gz_FU rfl (by have := tx_le hw; unfold gz_FU; omega)
end R12
theorem sp_ltr (c : Nat) : sp (tx 211) c 0 = ltr c := by
  have e : ∀ d, (d = c) = (c = d) := fun d => propext ⟨Eq.symm, Eq.symm⟩
  show (if 98 = c then some 0 else if 97 = c then some 1 else if 114 = c then some 2 else if 112 = c then some 3 else if 110 = c then some 4 else if 116 = c then some 5 else none) = ltr c
  unfold ltr
  simp only [e]
/-! a text under way -/
def LL (g : gz_S) (lt : Nat → Int) : Prop := ∀ k, k < 6 → g.1 43 ((tx 211).getD k 0) = iI (lt k)
def RS (g : gz_S) (e o : Nat) (b : Nat → Nat) (len : Nat) (lt : Nat → Int) (r a : Nat) : Prop := RT g e o b len a ∧ g.1 39 11 = -nI 1 ∧ g.1 39 12 = nI (6 - r) ∧ r ≤ 6 ∧ LL g lt
def Fq (g g' : gz_S) : Prop := Fr (fun j => j = 39) g g' ∧ ∀ k, ¬ (k = 10 ∨ k = 11 ∨ k = 12) → g'.1 39 k = g.1 39 k
theorem Fq.z0 {g : gz_S} : Fq g g := ⟨Fr.rf, fun _ _ => rfl⟩
theorem Fq.tr {g g' g'' : gz_S} (h : Fq g g') (h' : Fq g' g'') : Fq g g'' := ⟨h.1.tr h'.1, fun k hk => (h'.2 k hk).trans (h.2 k hk)⟩
theorem Fq.wi {g g' : gz_S} {k : Nat} {x : Int32} (h : Fq g g') (hk : k = 10 ∨ k = 11 ∨ k = 12) : Fq g (gz_wi g' 39 k x) :=
  ⟨h.1.wi rfl, fun j hj => by rw [wi_wa, wa_at]; exact (if_neg (by omega)).trans (h.2 j hj)⟩
theorem Fq.rs {g g' : gz_S} {p : Nat} (h : Fq g g') : Fq g (rs g' p) := by rw [← wi_rs]; exact h.wi (Or.inl rfl)
theorem Fq.rF {g g' : gz_S} {p : Nat} (h : Fq g g') : Fq g (rf g' p) := by
  have : rf g' p = gz_wi g' 39 11 (nI p) := by rw [wi_wa]; rfl
  rw [this]; exact h.wi (Or.inr (Or.inl rfl))
theorem rf_11 (g : gz_S) (p : Nat) : (rf g p).1 39 11 = nI p := by unfold rf; rw [wa_at]; exact if_pos rfl
section RS
variable {g : gz_S} {e o : Nat} {b : Nat → Nat} {len : Nat} {lt : Nat → Int} {r a : Nat}
theorem RS.st (h : RS g e o b len lt r a) {p : Nat} (hp : p ≤ len) : RS (rs g p) e o b len lt r p :=
  ⟨h.1.st hp, by rw [rs_f (by omega)]; exact h.2.1, by rw [rs_f (by omega)]; exact h.2.2.1, h.2.2.2.1, fun k hk => by rw [rs_n (by omega)]; exact h.2.2.2.2 k hk⟩
theorem RS.sgc (h : RS g e o b len lt r a) {p c : Nat} (hs : sg b len p = some c) : c < 256 := by
  have h1 := sg_lt hs
  have h2 := (h.1.2.2.2.2.2.2.2.2 p h1.1).2
  omega
theorem RS.le (h : RS g e o b len lt r a) : a ≤ len ∧ len ≤ 240 := ⟨h.1.2.2.2.2.2.1, h.1.2.2.2.2.2.2.1⟩
theorem RS.dp (h : RS g e o b len lt r a) {r' : Nat} (hr : r' ≤ 6) : RS (gz_wi g 39 12 (nI (6 - r'))) e o b len lt r' a := by
  refine ⟨h.1.wf (by omega), ?_, ?_, hr, fun k hk => ?_⟩
  · rw [wi_wa, wa_at]; exact (if_neg (by omega)).trans h.2.1
  · rw [wi_wa, wa_at]; exact if_pos rfl
  · rw [wi_wa, wa_ne (by omega)]; exact h.2.2.2.2 k hk
variable {La : gz_L}
theorem r_lookS (h : RS g e o b len lt r a) : fX12_look La g = some (oI (sg b len (nx b len a)), rs g (nx b len a)) := r_look h.1
theorem r_failsS (h : RS g e o b len lt r a) : fX12_fails La g = some (nI 0, rf g a) := r_fails0 h.1 h.2.1
theorem r_failsA {p : Nat} (hp : p ≤ 240) (hf : g.1 39 11 = nI p) : fX12_fails La g = some (nI 0, g) := r_fails1 (by omega) hf
theorem r_takesA {p : Nat} {c : Int32} (hp : p ≤ 240) (hf : g.1 39 11 = nI p) : fX12_takes La c g = some (nI 0, g) := by
  have e1 : ¬ g.1 39 11 = -1 := by
    rw [hf, show (-1 : Int32) = -nI 1 from rfl, m_eq (by omega)]; exact id
  unfold fX12_takes
  rw [if_neg e1]
  unfold fX12_takes_16
  rw [r_failsA hp hf, Option.bind_some]
  exact if_pos (Or.inl rfl)
theorem r_isDigitS (h : RS g e o b len lt r a) : fX12_isDigit La g = some (pI (dg b len a), g) := r_isDigit h.1
theorem r_goesIn0 (h : RS g e o b len lt 0 a) : fX12_goesIn La g = some (nI 0, rf g a) := by
  unfold fX12_goesIn
  rw [if_pos (show g.1 39 12 = 6 from h.2.2.1), r_failsS h, Option.bind_some]
  exact if_pos (Or.inl rfl)
theorem r_goesIn1 {r' : Nat} (h : RS g e o b len lt (r' + 1) a) (ha : a < len) : fX12_goesIn La g = some (nI 1, rs (gz_wi g 39 12 (nI (6 - r'))) (a + 1)) ∧ RS (rs (gz_wi g 39 12 (nI (6 - r'))) (a + 1)) e o b len lt r' (a + 1) ∧ Fq g (rs (gz_wi g 39 12 (nI (6 - r'))) (a + 1)) := by
  have h6 := h.2.2.2.1
  have e1 : g.1 39 12 + 1 = nI (6 - r') := by
    rw [h.2.2.1, show (1 : Int32) = nI 1 from rfl, n_add]; congr 1; omega
  have e2 : ¬ g.1 39 12 = 6 := by
    rw [h.2.2.1, show (6 : Int32) = nI 6 from rfl, n_eq (by omega) (by omega)]; omega
  have hd := h.dp (r' := r') (by omega)
  refine ⟨?_, hd.st (by omega), (Fq.z0.wi (by omega)).rs⟩
  unfold fX12_goesIn
  rw [if_neg e2, gz_let_eq, e1, gz_let_eq, hd.1.2.2.2.2.1, show nI a + (1 : Int32) = nI (a + 1) from n_add a 1, wi_rs]
  rfl
theorem r_takesS (h : RS g e o b len lt r a) {c : Nat} (hc : c < 256) :
    fX12_takes La (nI c) g = some (if sg b len (nx b len a) = some c then (nI 1, rs g (nx b len a + 1)) else (nI 0, rf (rs g (nx b len a)) (nx b len a))) := r_takes h.1 h.2.1 hc
/-- what a reading gives: its answer x, and where it ends -/
def RdN (q : Option (Int32 × gz_S)) (g : gz_S) (e o : Nat) (b : Nat → Nat) (len : Nat) (lt : Nat → Int) (r : Nat) (P : Int32 → Prop) (s : pR) : Prop :=
  ∃ x g', q = some (x, g') ∧ Fq g g' ∧ ((s.2 = none ∧ P x ∧ g'.1 39 11 = nI s.1 ∧ s.1 ≤ 240) ∨ ∃ cv a', s.2 = some cv ∧ x = iI (cv.2 lt) ∧ nx b len a' = s.1 ∧ RS g' e o b len lt r a')
theorem RdN.no {P : Int32 → Prop} {q : Option (Int32 × gz_S)} {x : Int32} {g' : gz_S} {p : Nat} (hq : q = some (x, g')) (hF : Fq g g') (hP : P x) (hf : g'.1 39 11 = nI p) (hp : p ≤ 240) : RdN q g e o b len lt r P (p, none) :=
  ⟨x, g', hq, hF, Or.inl ⟨rfl, hP, hf, hp⟩⟩
theorem RdN.yes {P : Int32 → Prop} {q : Option (Int32 × gz_S)} {x : Int32} {g' : gz_S} {p a' : Nat} {cv : pV} (hq : q = some (x, g')) (hF : Fq g g') (hx : x = iI (cv.2 lt)) (hs : RS g' e o b len lt r a') (hn : nx b len a' = p) : RdN q g e o b len lt r P (p, some cv) :=
  ⟨x, g', hq, hF, Or.inr ⟨cv, a', rfl, hx, hn, hs⟩⟩
theorem RdN.of {P : Int32 → Prop} {q : Option (Int32 × gz_S)} {g1 : gz_S} {s : pR} (h : RdN q g1 e o b len lt r P s) (hF : Fq g g1) : RdN q g e o b len lt r P s := by
  obtain ⟨x, g', h1, h2, h3⟩ := h
  exact ⟨x, g', h1, hF.tr h2, h3⟩
/-- worths kept within -/
theorem r_within {z : Int} (h : -1000000000000000 ≤ z ∧ z ≤ 1000000000000000) : fX12_within La (Int64.ofInt z) g = some (iI (wi6 z), g) := by
  have h1 : (1000000 : Int64) = Int64.ofInt 1000000 := rfl
  have h2 : (-1000000 : Int64) = Int64.ofInt (-1000000) := rfl
  have e3 : ∀ z, Int64.toInt32 (Int64.ofInt z) = iI z := fun z => Int64.toInt32_ofInt
  unfold fX12_within fJ9_min_f86c9 fJ9_max_f86c9
  rw [h2, h1, j_cmp (show -1000000000000000 ≤ (1000000 : Int) ∧ (1000000 : Int) ≤ 1000000000000000 by omega) h]
  by_cases c1 : z < 1000000
  · have d1 : (0 : Int32) < (if z < 1000000 then 1 else if (1000000 : Int) = z then 0 else -1) := by rw [if_pos c1]; decide
    rw [if_pos d1, Option.bind_some]
    show Option.bind (if lg_cmp (Int64.ofInt (-1000000)) (Int64.ofInt z) < 0 then some (Int64.ofInt z, g) else some (Int64.ofInt (-1000000), g)) _ = _
    rw [j_cmp (show -1000000000000000 ≤ (-1000000 : Int) ∧ (-1000000 : Int) ≤ 1000000000000000 by omega) h]
    by_cases c2 : z ≤ -1000000
    · have d2 : ¬ (if z < -1000000 then (1 : Int32) else if (-1000000 : Int) = z then 0 else -1) < 0 := by
        split
        · decide
        · rw [if_pos (by omega)]; decide
      rw [if_neg d2, Option.bind_some]
      have : wi6 z = -1000000 := by unfold wi6; omega
      rw [this, ← e3]
    · have d2 : (if z < -1000000 then (1 : Int32) else if (-1000000 : Int) = z then 0 else -1) < 0 := by
        rw [if_neg (by omega), if_neg (by omega)]; decide
      rw [if_pos d2, Option.bind_some]
      have : wi6 z = z := by unfold wi6; omega
      rw [this, ← e3]
  · have d1 : ¬ (0 : Int32) < (if z < 1000000 then 1 else if (1000000 : Int) = z then 0 else -1) := by
      rw [if_neg c1]; split <;> decide
    rw [if_neg d1, Option.bind_some]
    show Option.bind (if lg_cmp (Int64.ofInt (-1000000)) (Int64.ofInt 1000000) < 0 then some (Int64.ofInt 1000000, g) else some (Int64.ofInt (-1000000), g)) _ = _
    rw [if_pos (by decide +kernel), Option.bind_some]
    have : wi6 z = 1000000 := by unfold wi6; omega
    rw [this, ← e3]
theorem r_withinA {s : Int64} : ∃ x, fX12_within La s g = some (x, g) := by
  unfold fX12_within fJ9_min_f86c9 fJ9_max_f86c9
  split
  · rw [Option.bind_some]
    show ∃ x, Option.bind (if lg_cmp (-1000000) s < 0 then some (s, g) else some (-1000000, g)) _ = _
    split
    · exact ⟨_, rfl⟩
    · exact ⟨_, rfl⟩
  · rw [Option.bind_some]
    show ∃ x, Option.bind (if lg_cmp (-1000000) 1000000 < 0 then some (1000000, g) else some (-1000000, g)) _ = _
    split
    · exact ⟨_, rfl⟩
    · exact ⟨_, rfl⟩
end RS
