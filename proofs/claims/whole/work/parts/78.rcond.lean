/-! the reference reads conditions -/
abbrev pB : Int32 → Prop := fun x => x = nI 0 ∨ x = nI 1
def pPt (b : Nat → Nat) (len r : Nat) (s : pR) : pR := match s with
  | (q, none) => (q, none)
  | (q, some cv) => pPart b len (pUnit b len r) (len + 1) q cv
def pC7 (b : Nat → Nat) (len r n q : Nat) (A : pV) : pR := if sg b len q = some 124 then pCondL b len (pUnit b len r) n (pUnit b len r (nx b len (q + 1))) (some A) else (q, some A)
theorem pCondL_s {b : Nat → Nat} {len r n : Nat} {s : pR} {acc : Option pV} : pCondL b len (pUnit b len r) (n + 1) s acc = match pPt b len r s with
    | (q, none) => (q, none)
    | (q, some cv2) => pC7 b len r n q (jO acc cv2) := by
  unfold pCondL pPt
  rcases s with ⟨q, _ | cv⟩
  · rfl
  · show (match pPart b len (pUnit b len r) (len + 1) q cv with | (q2, none) => (q2, none) | (q2, some cv2) => if sg b len q2 = some 124 then pCondL b len (pUnit b len r) n (pUnit b len r (nx b len (q2 + 1))) (some (jO acc cv2)) else (q2, some (jO acc cv2))) = (match pPart b len (pUnit b len r) (len + 1) q cv with | (q, none) => (q, none) | (q, some cv2) => pC7 b len r n q (jO acc cv2))
    rcases pPart b len (pUnit b len r) (len + 1) q cv with ⟨q2, _ | cv2⟩ <;> rfl
theorem pPt_good {b : Nat → Nat} {len r p : Nat} {s : pR} (h1 : pGood len p s) : pGood len p (pPt b len r s) := by
  unfold pPt
  rcases s with ⟨q, _ | cv⟩
  · exact ⟨h1.1, h1.2.1, fun cv h => by cases h⟩
  · have h2 : p ≤ q := h1.1
    have h3 : q ≤ len := h1.2.1
    have h4 : p < q := h1.2.2 cv rfl
    have h5 := pPart_good (b := b) (len := len) (U := pUnit b len r) (fun p hp => pUnit_good r p hp) (len + 1) q cv h3 (by omega)
    exact ⟨by show p ≤ (pPart b len (pUnit b len r) (len + 1) q cv).1; omega, h5.2, fun _ _ => by show p < (pPart b len (pUnit b len r) (len + 1) q cv).1; omega⟩
section RS
variable {g : gz_S} {e o : Nat} {b : Nat → Nat} {len : Nat} {lt : Nat → Int} {r a : Nat} {La : gz_L}
theorem pPt_sem (hlt : LtOk lt) {s : pR} (hl : s.1 ≤ len) (hs : pS (SemB La lt) s) : pS (SemB La lt) (pPt b len r s) := by
  unfold pPt
  rcases s with ⟨q, _ | cv⟩
  · exact fun cv h => by cases h
  · exact pPart_sem (fun p hp => pUnit_good r p hp) (fun p hp => pUnit_sem hlt r p hp) (len + 1) q cv hl (hs cv rfl)
theorem pB_i {z : Int} (h : z = 0 ∨ z = 1) : pB (iI z) := by
  rcases h with rfl | rfl
  · exact Or.inl rfl
  · exact Or.inr rfl
theorem r_isSign (h : RS g e o b len lt r a) {p : Nat} {g' : gz_S} : fX12_isSign La (oI (sg b len p)) g' = some (pI (opC (sg b len p) ≠ none), g') := by
  unfold fX12_isSign
  have e1 : (oI (sg b len p) = (61 : Int32)) = (sg b len p = some 61) := h.oc (c := 61) (by omega)
  have e2 : (oI (sg b len p) = (60 : Int32)) = (sg b len p = some 60) := h.oc (c := 60) (by omega)
  have e3 : (oI (sg b len p) = (62 : Int32)) = (sg b len p = some 62) := h.oc (c := 62) (by omega)
  simp only [e1, e2, e3]
  unfold opC
  by_cases c1 : sg b len p = some 61
  · rw [if_pos c1, if_pos c1]; exact p_t (fun hh => by cases hh)
  · rw [if_neg c1, if_neg c1]
    by_cases c2 : sg b len p = some 60
    · rw [if_pos c2, if_pos c2]; exact p_t (fun hh => by cases hh)
    · rw [if_neg c2, if_neg c2]
      by_cases c3 : sg b len p = some 62
      · rw [if_pos c3, if_pos c3]; exact p_t (fun hh => by cases hh)
      · rw [if_neg c3, if_neg c3]; exact p_f (fun hh => hh rfl)
theorem fault_ne {g : gz_S} {p : Nat} (hp : p ≤ 240) (hf : g.1 39 11 = nI p) : ¬ g.1 39 11 = -1 := by
  rw [hf, show (-1 : Int32) = -nI 1 from rfl, m_eq (by omega)]; exact id
theorem r_cmp {cv : pV} (hlt : LtOk lt) (h : RS g e o b len lt r a) (hcv : Bd6 (cv.2 lt)) : RdN (fX12_compares_12 La (iI (cv.2 lt)) g) g e o b len lt r pB (pCmp b len r (nx b len a) cv) := by
  have hx := nx_le (b := b) h.le.1
  have h240 := h.le.2
  have hS := h.st hx.2
  have hnx : nx b len (nx b len a) = nx b len a := nx_nx
  unfold fX12_compares_12
  rw [if_pos h.ne1, r_lookS h, Option.bind_some]
  refine RdN.of (g1 := rs g (nx b len a)) ?_ Fq.z0.rs
  generalize nx b len a = p at *
  generalize rs g p = g1 at *
  show RdN ((fX12_isSign La (oI (sg b len p)) g1).bind _) _ _ _ _ _ _ _ _ _
  rw [r_isSign hS, Option.bind_some]
  unfold pCmp
  cases ho : opC (sg b len p) with
  | none =>
    refine RdN.no (x := nI 0) (g' := rf g1 p) ?_ Fq.z0.rF (Or.inl rfl) (rf_11 _ _) (by omega)
    refine (if_pos (show pI ((none : Option Int32) ≠ none) = 0 from pI0 (fun hn => hn rfl))).trans ?_
    show (fX12_fails La g1).bind _ = _
    rw [r_failsS hS, Option.bind_some]
    exact if_pos (Or.inl rfl)
  | some op =>
    have hpl := opC_lt ho
    have hS2 := hS.st (p := p + 1) (by omega)
    have hy := nx_le (b := b) (show p + 1 ≤ len by omega)
    have hsum := r_sumT (La := La) hlt hS2
    have hsem := pSum_sem (La := La) (b := b) hlt r _ hy.2
    obtain ⟨x, g', r1, r2, r3⟩ := hsum
    have F2 : Fq g1 g' := Fq.z0.rs.tr r2
    have e61 : (oI (sg b len p) = (61 : Int32)) = (sg b len p = some 61) := hS.oc (c := 61) (by omega)
    have e60 : (oI (sg b len p) = (60 : Int32)) = (sg b len p = some 60) := hS.oc (c := 60) (by omega)
    have hq : ∀ s, RdN ((fX12_sumT La (rs g1 (p + 1))).bind (fun q53 => if sg b len p = some 61 then if iI (cv.2 lt) = q53.1 then some (1, q53.2) else some (0, q53.2) else if sg b len p = some 60 then if q53.1 ≤ iI (cv.2 lt) then some (0, q53.2) else some (1, q53.2) else if iI (cv.2 lt) ≤ q53.1 then some (0, q53.2) else some (1, q53.2))) g1 e o b len lt r pB s →
        RdN (if pI (some op ≠ none) = 0 then (fX12_fails La g1).bind (fun q38 => if q38.1 = 0 ∨ q38.1 = 1 then some (q38.1, q38.2) else none) else gz_let (gz_wi g1 39 10 ((g1.1 39 10) + 1)) (fun g49 => (fX12_sumT La g49).bind (fun q53 => if oI (sg b len p) = 61 then if iI (cv.2 lt) = q53.1 then some (1, q53.2) else some (0, q53.2) else if oI (sg b len p) = 60 then if q53.1 ≤ iI (cv.2 lt) then some (0, q53.2) else some (1, q53.2) else if iI (cv.2 lt) ≤ q53.1 then some (0, q53.2) else some (1, q53.2)))) g1 e o b len lt r pB s := by
      intro s hh
      rw [if_neg (by show ¬ pI _ = nI 0; rw [p_0]; exact fun hn => hn (fun h => by cases h)), hS.1.2.2.2.2.1, show nI p + (1 : Int32) = nI (p + 1) from n_add p 1, wi_rs, gz_let_eq]
      simp only [e61, e60]
      exact hh
    refine hq _ ?_
    rw [r1, Option.bind_some]
    show RdN (if sg b len p = some 61 then if iI (cv.2 lt) = x then some (1, g') else some (0, g') else if sg b len p = some 60 then if x ≤ iI (cv.2 lt) then some (0, g') else some (1, g') else if iI (cv.2 lt) ≤ x then some (0, g') else some (1, g')) _ _ _ _ _ _ _ _ (match pSum b len r (nx b len (p + 1)) with | (q, none) => (q, none) | (q, some cv2) => (q, some (jV op cv cv2)))
    rcases hp : pSum b len r (nx b len (p + 1)) with ⟨q, oc⟩
    rw [hp] at r3 hsem
    rcases r3 with ⟨t1, t2, t3, t4⟩ | ⟨cv2, a', t1, t2, t3, t4⟩
    · have t1 : oc = none := t1
      subst t1
      have : ∃ x', (if sg b len p = some 61 then if iI (cv.2 lt) = x then some ((1 : Int32), g') else some (0, g') else if sg b len p = some 60 then if x ≤ iI (cv.2 lt) then some (0, g') else some (1, g') else if iI (cv.2 lt) ≤ x then some (0, g') else some (1, g')) = some (x', g') ∧ pB x' := by
        repeat' split
        all_goals first
          | exact ⟨_, rfl, Or.inl rfl⟩
          | exact ⟨_, rfl, Or.inr rfl⟩
      obtain ⟨x', hx', hb⟩ := this
      rw [hx']
      exact RdN.no rfl F2 hb t3 t4
    · have t1 : oc = some cv2 := t1
      subst t1
      have t3 : nx b len a' = q := t3
      subst t3
      have hb2 : Bd6 (cv2.2 lt) := (hsem cv2 rfl).2.1
      have h1 := hcv.1
      have h2 := hcv.2
      have h3 := hb2.1
      have h4 := hb2.2
      have eqxy : (iI (cv.2 lt) = iI (cv2.2 lt)) = (cv.2 lt = cv2.2 lt) := iI_eq (by omega) (by omega)
      have lexy : (iI (cv.2 lt) ≤ iI (cv2.2 lt)) = (cv.2 lt ≤ cv2.2 lt) := by rw [Int32.le_iff_toInt_le, iI_ti (by omega), iI_ti (by omega)]
      have leyx : (iI (cv2.2 lt) ≤ iI (cv.2 lt)) = (cv2.2 lt ≤ cv.2 lt) := by rw [Int32.le_iff_toInt_le, iI_ti (by omega), iI_ti (by omega)]
      rw [t2]
      simp only [eqxy, lexy, leyx]
      have fin : ∀ (x' : Int32), x' = iI ((jV op cv cv2).2 lt) → RdN (some (x', g')) g1 e o b len lt r pB (nx b len a', some (jV op cv cv2)) := fun x' hx' => RdN.yes rfl F2 hx' t4 rfl
      unfold opC at ho
      by_cases c1 : sg b len p = some 61
      · rw [if_pos c1] at ho ⊢
        cases ho
        have ej : (jV (-15) cv cv2).2 lt = if cv.2 lt = cv2.2 lt then 1 else 0 := rfl
        by_cases c : cv.2 lt = cv2.2 lt
        · rw [if_pos c]; exact fin _ (by rw [ej, if_pos c]; rfl)
        · rw [if_neg c]; exact fin _ (by rw [ej, if_neg c]; rfl)
      · rw [if_neg c1] at ho ⊢
        by_cases c2 : sg b len p = some 60
        · rw [if_pos c2] at ho ⊢
          cases ho
          have ej : (jV (-16) cv cv2).2 lt = if cv.2 lt < cv2.2 lt then 1 else 0 := rfl
          by_cases c : cv2.2 lt ≤ cv.2 lt
          · rw [if_pos c]; exact fin _ (by rw [ej, if_neg (by omega)]; rfl)
          · rw [if_neg c]; exact fin _ (by rw [ej, if_pos (by omega)]; rfl)
        · rw [if_neg c2] at ho ⊢
          by_cases c3 : sg b len p = some 62
          · rw [if_pos c3] at ho
            cases ho
            have ej : (jV (-17) cv cv2).2 lt = if cv2.2 lt < cv.2 lt then 1 else 0 := rfl
            by_cases c : cv.2 lt ≤ cv2.2 lt
            · rw [if_pos c]; exact fin _ (by rw [ej, if_neg (by omega)]; rfl)
            · rw [if_neg c]; exact fin _ (by rw [ej, if_pos (by omega)]; rfl)
          · rw [if_neg c3] at ho; cases ho
theorem r_compares0 {y : Int32} (hlt : LtOk lt) (h : RS g e o b len lt r a) : RdN (fX12_compares La 0 y g) g e o b len lt r pB (pSC b len r (nx b len a)) := by
  have hx := nx_le (b := b) h.le.1
  have hsum := r_sumT (La := La) hlt h
  have hsem := pSum_sem (La := La) (b := b) hlt r _ hx.2
  obtain ⟨x, g', r1, r2, r3⟩ := hsum
  unfold fX12_compares pSC
  rw [if_pos rfl, r1, Option.bind_some]
  refine RdN.of (g1 := g') ?_ r2
  rcases hp : pSum b len r (nx b len a) with ⟨q, oc⟩
  rw [hp] at r3 hsem
  rcases r3 with ⟨t1, t2, t3, t4⟩ | ⟨cv2, a', t1, t2, t3, t4⟩
  · have t1 : oc = none := t1
    subst t1
    refine RdN.no (x := nI 0) ?_ Fq.z0 (Or.inl rfl) t3 t4
    show fX12_compares_12 La x g' = _
    unfold fX12_compares_12
    exact if_neg (fault_ne t4 t3)
  · have t1 : oc = some cv2 := t1
    subst t1
    have t3 : nx b len a' = q := t3
    subst t3
    rw [t2]
    exact r_cmp hlt t4 (hsem cv2 rfl).2.1
theorem r_compares1 {x : Int32} : fX12_compares La 1 x g = fX12_compares_12 La x g := by
  unfold fX12_compares
  exact if_neg (by decide)
def SubUR (La : gz_L) (b : Nat → Nat) (len : Nat) (e o : Nat) (lt : Nat → Int) (r : Nat) (F : gz_S → Option (Int32 × gz_S)) : Prop :=
  ∀ g a, RS g e o b len lt r a → RdN (F g) g e o b len lt r pB (pUnit b len r (nx b len a))
theorem r_part18 {F : gz_S → Option (Int32 × gz_S)} (hlt : LtOk lt) (hF : SubUR La b len e o lt r F) : ∀ n f a cv g, RS g e o b len lt r a → len - nx b len a < n → n < f → SemB La lt cv →
    RdN (fX12_part_18 La F f (iI (cv.2 lt)) g) g e o b len lt r pB (pPart b len (pUnit b len r) n (nx b len a) cv) := by
  intro n
  induction n with
  | zero => intro f a cv g _ h; omega
  | succ n ih =>
    intro f a cv g h hn hf hcv
    obtain ⟨f, rfl⟩ : ∃ f', f = f' + 1 := ⟨f - 1, by omega⟩
    obtain ⟨f, rfl⟩ : ∃ f', f = f' + 1 := ⟨f - 1, by omega⟩
    have hx := nx_le (b := b) h.le.1
    have hS := h.st hx.2
    have hnx : nx b len (nx b len a) = nx b len a := nx_nx
    rw [fX12_part_18, if_pos h.ne1, r_lookS h, Option.bind_some]
    refine RdN.of (g1 := rs g (nx b len a)) ?_ Fq.z0.rs
    generalize nx b len a = p at *
    generalize rs g p = g1 at *
    have hb := pB_i hcv.2
    show RdN (if oI (sg b len p) = nI 38 then gz_let (gz_wi g1 39 10 ((g1.1 39 10) + 1)) (fun g42 => (F g42).bind (fun q46 => if iI (cv.2 lt) = 0 then fX12_part_18 La F (f + 1) 0 q46.2 else if q46.1 = 0 then fX12_part_18 La F (f + 1) 0 q46.2 else fX12_part_18 La F (f + 1) 1 q46.2)) else if iI (cv.2 lt) = 0 ∨ iI (cv.2 lt) = 1 then some (iI (cv.2 lt), g1) else none) _ _ _ _ _ _ _ _ _
    simp only [hS.oc (c := 38) (by omega)]
    have hk0 : ∀ x g' p, p ≤ 240 → g'.1 39 11 = nI p → pB x → fX12_part_18 La F (f + 1) x g' = some (x, g') := fun x g' p hp hf hb => by
      rw [fX12_part_18, if_neg (fault_ne hp hf)]
      exact if_pos hb
    unfold pPart
    by_cases c1 : sg b len p = some 38
    · rw [if_pos c1, if_pos c1]
      have hpl := (sg_lt c1).1
      have hS2 := hS.st (p := p + 1) (by omega)
      have hy := nx_le (b := b) (show p + 1 ≤ len by omega)
      have hu := hF _ _ hS2
      have hsem := pUnit_sem (La := La) (b := b) hlt r _ hy.2
      have hgd := pUnit_good (b := b) r _ hy.2
      rw [hS.1.2.2.2.2.1, show nI p + (1 : Int32) = nI (p + 1) from n_add p 1, wi_rs, gz_let_eq]
      obtain ⟨x, g', r1, r2, r3⟩ := hu
      have F2 : Fq g1 g' := Fq.z0.rs.tr r2
      rw [r1, Option.bind_some]
      refine RdN.of (g1 := g') ?_ F2
      show RdN (if iI (cv.2 lt) = 0 then fX12_part_18 La F (f + 1) 0 g' else if x = 0 then fX12_part_18 La F (f + 1) 0 g' else fX12_part_18 La F (f + 1) 1 g') _ _ _ _ _ _ _ _ _
      rcases hp : pUnit b len r (nx b len (p + 1)) with ⟨q, oc⟩
      rw [hp] at r3 hsem hgd
      rcases r3 with ⟨t1, t2, t3, t4⟩ | ⟨cv2, a', t1, t2, t3, t4⟩
      · have t1 : oc = none := t1
        subst t1
        have : ∃ x', (if iI (cv.2 lt) = 0 then fX12_part_18 La F (f + 1) 0 g' else if x = 0 then fX12_part_18 La F (f + 1) 0 g' else fX12_part_18 La F (f + 1) 1 g') = some (x', g') ∧ pB x' := by
          repeat' split
          all_goals first
            | exact ⟨_, hk0 _ _ q t4 t3 (Or.inl rfl), Or.inl rfl⟩
            | exact ⟨_, hk0 _ _ q t4 t3 (Or.inr rfl), Or.inr rfl⟩
        obtain ⟨x', hx', hb'⟩ := this
        rw [hx']
        exact RdN.no rfl Fq.z0 hb' t3 t4
      · have t1 : oc = some cv2 := t1
        subst t1
        have t3 : nx b len a' = q := t3
        subst t3
        have hs2 := hsem cv2 rfl
        have hg3 : nx b len (p + 1) < nx b len a' := hgd.2.2 cv2 rfl
        have hgo := ih (f + 1) a' (jV (-18) cv cv2) g' t4 (by omega) (by omega) (hcv.a hs2)
        have ej : (jV (-18) cv cv2).2 lt = if cv.2 lt = 1 ∧ cv2.2 lt = 1 then 1 else 0 := rfl
        rw [ej] at hgo
        show RdN _ _ _ _ _ _ _ _ _ (pPart b len (pUnit b len r) n (nx b len a') (jV (-18) cv cv2))
        rw [t2]
        rcases hcv.2 with c2 | c2
        · rw [if_neg (by omega)] at hgo
          rw [c2, if_pos (by rfl)]
          exact hgo
        · rw [c2, if_neg (by decide)]
          rcases hs2.2 with c3 | c3
          · rw [if_neg (by omega)] at hgo
            rw [c3, if_pos (by rfl)]
            exact hgo
          · rw [if_pos ⟨c2, c3⟩] at hgo
            rw [c3, if_neg (by decide)]
            exact hgo
    · rw [if_neg c1, if_neg c1, if_pos (show iI (cv.2 lt) = 0 ∨ iI (cv.2 lt) = 1 from hb)]
      exact RdN.yes rfl Fq.z0 rfl hS hnx
theorem r_partS {F : gz_S → Option (Int32 × gz_S)} (hlt : LtOk lt) (hF : SubUR La b len e o lt r F) {q : Option (Int32 × gz_S)} {s : pR} (hl : s.1 ≤ len) (hs : pS (SemB La lt) s) (hq : RdN q g e o b len lt r pB s) :
    RdN (q.bind (fun q7 => fX12_part_17 La F q7.1 q7.2)) g e o b len lt r pB (pPt b len r s) := by
  obtain ⟨x, g', r1, r2, r3⟩ := hq
  rw [r1, Option.bind_some]
  refine RdN.of (g1 := g') ?_ r2
  unfold pPt
  rcases s with ⟨q, oc⟩
  rcases r3 with ⟨t1, t2, t3, t4⟩ | ⟨cv2, a', t1, t2, t3, t4⟩
  · have t1 : oc = none := t1
    subst t1
    refine RdN.no (x := x) ?_ Fq.z0 t2 t3 t4
    show fX12_part_18 La F (99999 + 1) x g' = _
    rw [fX12_part_18, if_neg (fault_ne t4 t3)]
    exact if_pos t2
  · have t1 : oc = some cv2 := t1
    subst t1
    have t3 : nx b len a' = q := t3
    subst t3
    show RdN (fX12_part_18 La F gz_FU x g') _ _ _ _ _ _ _ _ _
    rw [t2]
    have h240 := t4.le.2
    exact r_part18 hlt hF (len + 1) gz_FU a' cv2 g' t4 (by omega) (by unfold gz_FU; omega) (hs cv2 rfl)
theorem r_part0 {F : gz_S → Option (Int32 × gz_S)} {y : Int32} (hlt : LtOk lt) (hF : SubUR La b len e o lt r F) (h : RS g e o b len lt r a) : RdN (fX12_part La F 0 y g) g e o b len lt r pB (pPt b len r (pUnit b len r (nx b len a))) := by
  have hx := nx_le (b := b) h.le.1
  unfold fX12_part
  rw [if_pos rfl]
  exact r_partS hlt hF (pUnit_good r _ hx.2).2.1 (pUnit_sem hlt r _ hx.2) (hF g a h)
theorem r_part1 {F : gz_S → Option (Int32 × gz_S)} {cv : pV} (hlt : LtOk lt) (hF : SubUR La b len e o lt r F) (h : RS g e o b len lt r a) (hcv : SemV La lt cv) : RdN (fX12_part La F 1 (iI (cv.2 lt)) g) g e o b len lt r pB (pPt b len r (pCmp b len r (nx b len a) cv)) := by
  have hx := nx_le (b := b) h.le.1
  unfold fX12_part
  rw [if_neg (by decide), r_compares1]
  exact r_partS hlt hF (pCmp_good hx.2).2.1 (pCmp_sem hlt hx.2 hcv) (r_cmp hlt h hcv.2.1)
theorem r_cond7 {F : gz_S → Option (Int32 × gz_S)} (hlt : LtOk lt) (hF : SubUR La b len e o lt r F) : ∀ n f a cv g, RS g e o b len lt r a → len - nx b len a < n + 1 → n + 1 < f → SemB La lt cv →
    RdN (fX12_condition_7 La F f (iI (cv.2 lt)) g) g e o b len lt r pB (pC7 b len r n (nx b len a) cv) := by
  intro n
  induction n with
  | zero =>
    intro f a cv g h hn hf hcv
    obtain ⟨f, rfl⟩ : ∃ f', f = f' + 1 := ⟨f - 1, by omega⟩
    have hx := nx_le (b := b) h.le.1
    have hS := h.st hx.2
    have hnx : nx b len (nx b len a) = nx b len a := nx_nx
    rw [fX12_condition_7, if_pos h.ne1, r_lookS h, Option.bind_some]
    refine RdN.of (g1 := rs g (nx b len a)) ?_ Fq.z0.rs
    generalize nx b len a = p at *
    generalize rs g p = g1 at *
    have hsn : sg b len p = none := by unfold sg; rw [if_neg (by omega)]
    unfold pC7
    rw [hsn, if_neg (by exact fun hh => by cases hh)]
    refine RdN.yes (x := iI (cv.2 lt)) ?_ Fq.z0 rfl hS hnx
    dsimp only
    exact if_pos (show iI (cv.2 lt) = 0 ∨ iI (cv.2 lt) = 1 from pB_i hcv.2)
  | succ n ih =>
    intro f a cv g h hn hf hcv
    obtain ⟨f, rfl⟩ : ∃ f', f = f' + 1 := ⟨f - 1, by omega⟩
    obtain ⟨f, rfl⟩ : ∃ f', f = f' + 1 := ⟨f - 1, by omega⟩
    have hx := nx_le (b := b) h.le.1
    have hS := h.st hx.2
    have hnx : nx b len (nx b len a) = nx b len a := nx_nx
    rw [fX12_condition_7, if_pos h.ne1, r_lookS h, Option.bind_some]
    refine RdN.of (g1 := rs g (nx b len a)) ?_ Fq.z0.rs
    generalize nx b len a = p at *
    generalize rs g p = g1 at *
    have hb := pB_i hcv.2
    show RdN (if oI (sg b len p) = nI 124 then gz_let (gz_wi g1 39 10 ((g1.1 39 10) + 1)) (fun g31 => (fX12_part La F 0 0 g31).bind (fun q37 => if iI (cv.2 lt) = 0 then if q37.1 = 0 then fX12_condition_7 La F (f + 1) 0 q37.2 else fX12_condition_7 La F (f + 1) 1 q37.2 else fX12_condition_7 La F (f + 1) 1 q37.2)) else if iI (cv.2 lt) = 0 ∨ iI (cv.2 lt) = 1 then some (iI (cv.2 lt), g1) else none) _ _ _ _ _ _ _ _ _
    simp only [hS.oc (c := 124) (by omega)]
    have hk0 : ∀ x g' p, p ≤ 240 → g'.1 39 11 = nI p → pB x → fX12_condition_7 La F (f + 1) x g' = some (x, g') := fun x g' p hp hf hb => by
      rw [fX12_condition_7, if_neg (fault_ne hp hf)]
      exact if_pos hb
    unfold pC7
    by_cases c1 : sg b len p = some 124
    · rw [if_pos c1, if_pos c1]
      have hpl := (sg_lt c1).1
      have hS2 := hS.st (p := p + 1) (by omega)
      have hy := nx_le (b := b) (show p + 1 ≤ len by omega)
      have hu := r_part0 (La := La) (y := 0) hlt hF hS2
      have hug := pUnit_good (b := b) r _ hy.2
      have hsem := pPt_sem (La := La) (b := b) (r := r) hlt hug.2.1 (pUnit_sem (La := La) (b := b) hlt r _ hy.2)
      have hgd := pPt_good (b := b) (r := r) hug
      rw [hS.1.2.2.2.2.1, show nI p + (1 : Int32) = nI (p + 1) from n_add p 1, wi_rs, gz_let_eq, pCondL_s]
      obtain ⟨x, g', r1, r2, r3⟩ := hu
      have F2 : Fq g1 g' := Fq.z0.rs.tr r2
      rw [r1, Option.bind_some]
      refine RdN.of (g1 := g') ?_ F2
      show RdN (if iI (cv.2 lt) = 0 then if x = 0 then fX12_condition_7 La F (f + 1) 0 g' else fX12_condition_7 La F (f + 1) 1 g' else fX12_condition_7 La F (f + 1) 1 g') _ _ _ _ _ _ _ _ _
      rcases hp : pPt b len r (pUnit b len r (nx b len (p + 1))) with ⟨q, oc⟩
      rw [hp] at r3 hsem hgd
      rcases r3 with ⟨t1, t2, t3, t4⟩ | ⟨cv2, a', t1, t2, t3, t4⟩
      · have t1 : oc = none := t1
        subst t1
        have : ∃ x', (if iI (cv.2 lt) = 0 then if x = 0 then fX12_condition_7 La F (f + 1) 0 g' else fX12_condition_7 La F (f + 1) 1 g' else fX12_condition_7 La F (f + 1) 1 g') = some (x', g') ∧ pB x' := by
          repeat' split
          all_goals first
            | exact ⟨_, hk0 _ _ q t4 t3 (Or.inl rfl), Or.inl rfl⟩
            | exact ⟨_, hk0 _ _ q t4 t3 (Or.inr rfl), Or.inr rfl⟩
        obtain ⟨x', hx', hb'⟩ := this
        rw [hx']
        exact RdN.no rfl Fq.z0 hb' t3 t4
      · have t1 : oc = some cv2 := t1
        subst t1
        have t3 : nx b len a' = q := t3
        subst t3
        have hs2 := hsem cv2 rfl
        have hg3 : nx b len (p + 1) < nx b len a' := hgd.2.2 cv2 rfl
        have hgo := ih (f + 1) a' (jV (-19) cv cv2) g' t4 (by omega) (by omega) (hcv.o hs2)
        have ej : (jV (-19) cv cv2).2 lt = if cv.2 lt = 1 ∨ cv2.2 lt = 1 then 1 else 0 := rfl
        rw [ej] at hgo
        show RdN _ _ _ _ _ _ _ _ _ (pC7 b len r n (nx b len a') (jV (-19) cv cv2))
        rw [t2]
        rcases hcv.2 with c2 | c2
        · rw [c2, if_pos (by rfl)]
          rcases hs2.2 with c3 | c3
          · rw [if_neg (by omega)] at hgo
            rw [c3, if_pos (by rfl)]
            exact hgo
          · rw [if_pos (Or.inr c3)] at hgo
            rw [c3, if_neg (by decide)]
            exact hgo
        · rw [if_pos (Or.inl c2)] at hgo
          rw [c2, if_neg (by decide)]
          exact hgo
    · rw [if_neg c1, if_neg c1, if_pos (show iI (cv.2 lt) = 0 ∨ iI (cv.2 lt) = 1 from hb)]
      exact RdN.yes rfl Fq.z0 rfl hS hnx
theorem r_condS {F : gz_S → Option (Int32 × gz_S)} (hlt : LtOk lt) (hF : SubUR La b len e o lt r F) {q : Option (Int32 × gz_S)} {p : Nat} {s : pR} (hg : pGood len p s) (hs : pS (SemB La lt) s) (hq : RdN q g e o b len lt r pB (pPt b len r s)) :
    RdN (q.bind (fun q3 => fX12_condition_7 La F gz_FU q3.1 q3.2)) g e o b len lt r pB (pCondL b len (pUnit b len r) (len + 1) s none) := by
  have hsem := pPt_sem (La := La) (b := b) (r := r) hlt hg.2.1 hs
  have hgd := pPt_good (b := b) (r := r) hg
  rw [pCondL_s]
  obtain ⟨x, g', r1, r2, r3⟩ := hq
  rw [r1, Option.bind_some]
  refine RdN.of (g1 := g') ?_ r2
  rcases hp : pPt b len r s with ⟨q, oc⟩
  rw [hp] at r3 hsem hgd
  rcases r3 with ⟨t1, t2, t3, t4⟩ | ⟨cv2, a', t1, t2, t3, t4⟩
  · have t1 : oc = none := t1
    subst t1
    refine RdN.no (x := x) ?_ Fq.z0 t2 t3 t4
    show fX12_condition_7 La F (99999 + 1) x g' = _
    rw [fX12_condition_7, if_neg (fault_ne t4 t3)]
    exact if_pos t2
  · have t1 : oc = some cv2 := t1
    subst t1
    have t3 : nx b len a' = q := t3
    subst t3
    show RdN (fX12_condition_7 La F gz_FU x g') _ _ _ _ _ _ _ _ (pC7 b len r len (nx b len a') cv2)
    rw [t2]
    have h240 := t4.le.2
    exact r_cond7 hlt hF len gz_FU a' cv2 g' t4 (by omega) (by unfold gz_FU; omega) (hsem cv2 rfl)
theorem r_cond0 {F : gz_S → Option (Int32 × gz_S)} {y : Int32} (hlt : LtOk lt) (hF : SubUR La b len e o lt r F) (h : RS g e o b len lt r a) : RdN (fX12_condition La F 0 y g) g e o b len lt r pB (pCondL b len (pUnit b len r) (len + 1) (pUnit b len r (nx b len a)) none) := by
  have hx := nx_le (b := b) h.le.1
  exact r_condS hlt hF (pUnit_good r _ hx.2) (pUnit_sem hlt r _ hx.2) (r_part0 hlt hF h)
theorem r_cond1 {F : gz_S → Option (Int32 × gz_S)} {cv : pV} (hlt : LtOk lt) (hF : SubUR La b len e o lt r F) (h : RS g e o b len lt r a) (hcv : SemV La lt cv) : RdN (fX12_condition La F 1 (iI (cv.2 lt)) g) g e o b len lt r pB (pCondL b len (pUnit b len r) (len + 1) (pCmp b len r (nx b len a) cv) none) := by
  have hx := nx_le (b := b) h.le.1
  exact r_condS hlt hF (pCmp_good hx.2) (pCmp_sem hlt hx.2 hcv) (r_part1 hlt hF h hcv)
end RS
