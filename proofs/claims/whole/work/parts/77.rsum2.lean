/-! the reference reads terms and sums -/
theorem lg_0 {y : Int64} (h : ¬ lg_cmp y 0 = 0) : ¬ y = 0 := fun e => h (by rw [e]; decide)
theorem i64_div {x y : Int} (hx : Bd6 x) (hy : Bd6 y) : Int64.ofInt x / Int64.ofInt y = Int64.ofInt (x.tdiv y) := by
  have h1 := hx.1
  have h2 := hx.2
  have h3 := hy.1
  have h4 := hy.2
  exact (Int64.ofInt_tdiv (by have : Int64.minValue.toInt = -9223372036854775808 := rfl; omega) (by have : Int64.maxValue.toInt = 9223372036854775807 := rfl; omega) (by have : Int64.minValue.toInt = -9223372036854775808 := rfl; omega) (by have : Int64.maxValue.toInt = 9223372036854775807 := rfl; omega)).symm
theorem i64_0 {y : Int} (hy : Bd6 y) : (lg_cmp (Int64.ofInt y) 0 = 0) = (y = 0) := by
  have h3 := hy.1
  have h4 := hy.2
  rw [show (0 : Int64) = Int64.ofInt 0 from rfl, j_cmp (by omega) (by omega)]
  by_cases c1 : 0 < y
  · rw [if_pos c1]; exact propext ⟨fun h => absurd h (by decide), fun h => by omega⟩
  · rw [if_neg c1]
    by_cases c2 : y = 0
    · rw [if_pos c2]; exact propext ⟨fun _ => c2, fun _ => rfl⟩
    · rw [if_neg c2]; exact propext ⟨fun h => absurd h (by decide), fun h => absurd h c2⟩
def pTm (b : Nat → Nat) (len r p : Nat) : pR := match pAt b len r p with
  | (q, none) => (q, none)
  | (q, some cv) => pTerm b len (pAt b len r) (len + 1) q cv
def pS5 (b : Nat → Nat) (len r n q : Nat) (A : pV) : pR := match opS (sg b len q) with
  | none => (q, some A)
  | some op => pSumL b len (pAt b len r) n (nx b len (q + 1)) (some (op, A))
theorem pSumL_s {b : Nat → Nat} {len r n p : Nat} {acc : Option (Int32 × pV)} : pSumL b len (pAt b len r) (n + 1) p acc = match pTm b len r p with
    | (q, none) => (q, none)
    | (q, some cv2) => pS5 b len r n q (jA acc cv2) := by
  unfold pSumL pTm
  rcases pAt b len r p with ⟨q, _ | cv⟩
  · rfl
  · show (match pTerm b len (pAt b len r) (len + 1) q cv with | (q2, none) => (q2, none) | (q2, some cv2) => match opS (sg b len q2) with | none => (q2, some (jA acc cv2)) | some op => pSumL b len (pAt b len r) n (nx b len (q2 + 1)) (some (op, jA acc cv2))) = (match pTerm b len (pAt b len r) (len + 1) q cv with | (q, none) => (q, none) | (q, some cv2) => pS5 b len r n q (jA acc cv2))
    rcases pTerm b len (pAt b len r) (len + 1) q cv with ⟨q2, _ | cv2⟩ <;> rfl
theorem pTm_good {b : Nat → Nat} {len r p : Nat} (hp : p ≤ len) : pGood len p (pTm b len r p) := by
  have h1 := pAt_good (b := b) (r := r) hp
  unfold pTm
  rcases hat : pAt b len r p with ⟨q, _ | cv⟩
  · rw [hat] at h1; exact ⟨h1.1, h1.2.1, fun cv h => by cases h⟩
  · rw [hat] at h1
    have h2 : p ≤ q := h1.1
    have h3 : q ≤ len := h1.2.1
    have h4 : p < q := h1.2.2 cv rfl
    have h5 := pTerm_good (b := b) (len := len) (at0 := pAt b len r) (fun p hp => pAt_good hp) (len + 1) q cv h3 (by omega)
    exact ⟨by show p ≤ (pTerm b len (pAt b len r) (len + 1) q cv).1; omega, h5.2, fun _ _ => by show p < (pTerm b len (pAt b len r) (len + 1) q cv).1; omega⟩
section RS
variable {g : gz_S} {e o : Nat} {b : Nat → Nat} {len : Nat} {lt : Nat → Int} {r a : Nat} {La : gz_L}
theorem pAt_sem (hlt : LtOk lt) {p : Nat} (hp : p ≤ len) : pS (SemV La lt) (pAt b len r p) := by
  cases r with
  | zero => exact pAtom_sem hlt (fun f hf => by cases hf) hp
  | succ r => exact pAtom_sem hlt (fun f hf => by cases hf; exact pSum_sem hlt r) hp
theorem pTm_sem (hlt : LtOk lt) {p : Nat} (hp : p ≤ len) : pS (SemV La lt) (pTm b len r p) := by
  have h1 := pAt_good (b := b) (r := r) hp
  have h2 := pAt_sem (La := La) (b := b) (r := r) hlt hp
  unfold pTm
  rcases hat : pAt b len r p with ⟨q, _ | cv⟩
  · exact fun cv h => by cases h
  · rw [hat] at h1 h2
    exact pTerm_sem (fun p hp => pAt_good hp) (fun p hp => pAt_sem hlt hp) (len + 1) q cv h1.2.1 (h2 cv rfl)
theorem jn_t {x y : Int} : jn (-13) x y = wi6 (x * y) := rfl
theorem jn_b {x y : Int} : jn (-14) x y = wi6 (if y = 0 then 0 else x.tdiv y) := rfl
theorem r_lookP (h : RS g e o b len lt r a) (hn : nx b len a = a) : fX12_look La g = some (oI (sg b len a), g) := by
  have := r_lookS (La := La) h
  rw [hn, rs_id h.1.2.2.2.2.1] at this; exact this
theorem RS.oc (h : RS g e o b len lt r a) {p c : Nat} (hc : c < 256) : (oI (sg b len p) = nI c) = (sg b len p = some c) :=
  oI_eq (by omega) (fun d hd => by have := h.sgc hd; omega)
theorem RS.ne1 (h : RS g e o b len lt r a) : g.1 39 11 = -1 := h.2.1
/-- the second of two that are joined, read -/
theorem r_term45 {F : gz_S → Option (Int32 × gz_S)} {k : Int32 → gz_S → Option (Int32 × gz_S)} {cv : pV} {s0 op : Int32} {K : Nat → pV → pR} (hlt : LtOk lt) (hF : SubR La b len e o lt r F) (h : RS g e o b len lt r a) (ha : a < len)
    (hop : s0 = nI 1 ∧ op = -13 ∨ s0 = nI 0 ∧ op = -14) (hcv : Bd6 (cv.2 lt))
    (hk0 : ∀ x g' p, p ≤ 240 → g'.1 39 11 = nI p → k x g' = some (x, g'))
    (hk1 : ∀ cv2 a' g', RS g' e o b len lt r a' → pAt b len r (nx b len (a + 1)) = (nx b len a', some cv2) → RdN (k (iI ((jV op cv cv2).2 lt)) g') g' e o b len lt r pT0 (K (nx b len a') cv2)) :
    RdN (fX12_term_45 La F k (iI (cv.2 lt)) s0 g) g e o b len lt r pT0 (match pAt b len r (nx b len (a + 1)) with | (q, none) => (q, none) | (q, some cv2) => K q cv2) := by
  have hS := h.st (p := a + 1) (by omega)
  have hx := nx_le (b := b) (show a + 1 ≤ len by omega)
  have hat := r_atom (La := La) hF hS
  have hsem := pAt_sem (La := La) (b := b) (r := r) hlt hx.2
  unfold fX12_term_45
  rw [h.1.2.2.2.2.1, show nI a + (1 : Int32) = nI (a + 1) from n_add a 1, wi_rs, gz_let_eq]
  obtain ⟨x, g', r1, r2, r3⟩ := hat
  rw [r1, Option.bind_some, gz_let_eq]
  show RdN (if s0 = 0 then if lg_cmp (Int32.toInt64 x) 0 = 0 then fX12_term_87 La F k 0 g' else if ¬ Int32.toInt64 x = 0 then fX12_term_87 La F k ((Int32.toInt64 (iI (cv.2 lt))) / Int32.toInt64 x) g' else none else fX12_term_87 La F k ((Int32.toInt64 (iI (cv.2 lt))) * Int32.toInt64 x) g') _ _ _ _ _ _ _ _ _
  have F2 : Fq g g' := Fq.z0.rs.tr r2
  rcases hp : pAt b len r (nx b len (a + 1)) with ⟨q, oc⟩
  rw [hp] at r3 hsem
  rcases r3 with ⟨t1, t2, t3, t4⟩ | ⟨cv2, a', t1, t2, t3, t4⟩
  · have t1 : oc = none := t1
    subst t1
    have fin : ∀ s, ∃ x', fX12_term_87 La F k s g' = some (x', g') := fun s => by
      obtain ⟨x', hw⟩ := r_withinA (La := La) (g := g') (s := s)
      unfold fX12_term_87
      rw [hw, Option.bind_some]
      exact ⟨x', hk0 _ _ q t4 t3⟩
    have : ∃ x', (if s0 = 0 then if lg_cmp (Int32.toInt64 x) 0 = 0 then fX12_term_87 La F k 0 g' else if ¬ Int32.toInt64 x = 0 then fX12_term_87 La F k ((Int32.toInt64 (iI (cv.2 lt))) / Int32.toInt64 x) g' else none else fX12_term_87 La F k ((Int32.toInt64 (iI (cv.2 lt))) * Int32.toInt64 x) g') = some (x', g') := by
      by_cases c0 : s0 = 0
      · rw [if_pos c0]
        by_cases c1 : lg_cmp (Int32.toInt64 x) 0 = 0
        · rw [if_pos c1]; exact fin _
        · rw [if_neg c1, if_pos (lg_0 c1)]; exact fin _
      · rw [if_neg c0]; exact fin _
    obtain ⟨x', hx'⟩ := this
    rw [hx']
    exact RdN.nt rfl F2 t3 t4
  · have t1 : oc = some cv2 := t1
    subst t1
    have t3 : nx b len a' = q := t3
    subst t3
    have hb2 : Bd6 (cv2.2 lt) := (hsem cv2 rfl).2.1
    have h1 := hcv.1
    have h2 := hcv.2
    have h3 := hb2.1
    have h4 := hb2.2
    have hgo := hk1 cv2 a' g' t4 hp
    rw [t2, j_l (by omega), j_l (by omega)]
    refine RdN.of ?_ F2
    show RdN _ _ _ _ _ _ _ _ _ (K (nx b len a') cv2)
    rcases hop with ⟨rfl, rfl⟩ | ⟨rfl, rfl⟩
    · rw [if_neg (by decide)]
      unfold fX12_term_87
      have hm := mul_bd hcv hb2
      rw [← Int64.ofInt_mul, r_within (by omega), Option.bind_some]
      exact hgo
    · rw [if_pos (by decide)]
      unfold fX12_term_87
      have e0 : (jV (-14) cv cv2).2 lt = wi6 (if cv2.2 lt = 0 then 0 else (cv.2 lt).tdiv (cv2.2 lt)) := rfl
      rw [e0] at hgo
      by_cases c1 : cv2.2 lt = 0
      · rw [if_pos c1] at hgo
        rw [if_pos (show lg_cmp (Int64.ofInt (cv2.2 lt)) 0 = 0 by rw [i64_0 hb2]; exact c1)]
        rw [show (0 : Int64) = Int64.ofInt 0 from rfl, r_within (by omega), Option.bind_some]
        exact hgo
      · rw [if_neg c1] at hgo
        rw [if_neg (show ¬ lg_cmp (Int64.ofInt (cv2.2 lt)) 0 = 0 by rw [i64_0 hb2]; exact c1)]
        have hd := tdiv_bd (y := cv2.2 lt) hcv
        have hd1 := hd.1
        have hd2 := hd.2
        rw [if_pos (lg_0 (by rw [i64_0 hb2]; exact c1)), i64_div hcv hb2, r_within (by omega), Option.bind_some]
        exact hgo
theorem r_term5 {F : gz_S → Option (Int32 × gz_S)} (hlt : LtOk lt) (hF : SubR La b len e o lt r F) : ∀ n f a cv g, RS g e o b len lt r a → len - nx b len a < n → n < f → Bd6 (cv.2 lt) →
    RdN (fX12_term_5 La F f (iI (cv.2 lt)) g) g e o b len lt r pT0 (pTerm b len (pAt b len r) n (nx b len a) cv) := by
  intro n
  induction n with
  | zero => intro f a cv g _ h; omega
  | succ n ih =>
    intro f a cv g h hn hf hcv
    obtain ⟨f, rfl⟩ : ∃ f', f = f' + 1 := ⟨f - 1, by omega⟩
    obtain ⟨f, rfl⟩ : ∃ f', f = f' + 1 := ⟨f - 1, by omega⟩
    have hx := nx_le (b := b) h.le.1
    have hS := h.st hx.2
    have hnx : nx b len (nx b len a) = nx b len a := nx_nx
    rw [fX12_term_5, if_pos h.ne1, r_lookS h, Option.bind_some]
    refine RdN.of (g1 := rs g (nx b len a)) ?_ Fq.z0.rs
    generalize nx b len a = p at *
    generalize rs g p = g1 at *
    show RdN (if oI (sg b len p) = nI 42 then fX12_term_31 La F (fX12_term_5 La F (f + 1)) (iI (cv.2 lt)) g1 else (fX12_look La g1).bind (fun q23 => if q23.1 = nI 47 then fX12_term_31 La F (fX12_term_5 La F (f + 1)) (iI (cv.2 lt)) q23.2 else some (iI (cv.2 lt), q23.2))) _ _ _ _ _ _ _ _ _
    have hL := r_lookP (La := La) hS hnx
    have hk0 : ∀ x g' p, p ≤ 240 → g'.1 39 11 = nI p → fX12_term_5 La F (f + 1) x g' = some (x, g') := fun x g' p hp hf => by
      rw [fX12_term_5]
      refine if_neg ?_
      rw [hf, show (-1 : Int32) = -nI 1 from rfl, m_eq (by omega)]; exact id
    have e31 : ∀ x, fX12_term_31 La F (fX12_term_5 La F (f + 1)) x g1 = fX12_term_45 La F (fX12_term_5 La F (f + 1)) x (if sg b len p = some 42 then nI 1 else nI 0) g1 := fun x => by
      unfold fX12_term_31
      rw [hL, Option.bind_some]
      show (if oI (sg b len p) = nI 42 then _ else _) = _
      simp only [hS.oc (c := 42) (by omega)]
      by_cases c : sg b len p = some 42
      · rw [if_pos c, if_pos c]; rfl
      · rw [if_neg c, if_neg c]; rfl
    rw [hL, Option.bind_some, e31]
    show RdN (if oI (sg b len p) = nI 42 then fX12_term_45 La F (fX12_term_5 La F (f + 1)) (iI (cv.2 lt)) (if sg b len p = some 42 then nI 1 else nI 0) g1 else if oI (sg b len p) = nI 47 then fX12_term_45 La F (fX12_term_5 La F (f + 1)) (iI (cv.2 lt)) (if sg b len p = some 42 then nI 1 else nI 0) g1 else some (iI (cv.2 lt), g1)) _ _ _ _ _ _ _ _ _
    simp only [hS.oc (c := 42) (by omega), hS.oc (c := 47) (by omega)]
    unfold pTerm
    have go : ∀ s0 op, (s0 = nI 1 ∧ op = -13 ∨ s0 = nI 0 ∧ op = -14) → p < len → RdN (fX12_term_45 La F (fX12_term_5 La F (f + 1)) (iI (cv.2 lt)) s0 g1) g1 e o b len lt r pT0 (match pAt b len r (nx b len (p + 1)) with | (q, none) => (q, none) | (q, some cv2) => pTerm b len (pAt b len r) n q (jV op cv cv2)) := by
      intro s0 op hop hpl
      refine r_term45 (K := fun q cv2 => pTerm b len (pAt b len r) n q (jV op cv cv2)) hlt hF hS hpl hop hcv hk0 (fun cv2 a' g' hS' hq => ?_)
      have hy := nx_le (b := b) (show p + 1 ≤ len by omega)
      have hg := pAt_good (b := b) (r := r) hy.2
      rw [hq] at hg
      have hg3 : nx b len (p + 1) < nx b len a' := hg.2.2 cv2 rfl
      refine ih (f + 1) a' (jV op cv cv2) g' hS' (by omega) (by omega) ?_
      rcases hop with ⟨_, rfl⟩ | ⟨_, rfl⟩
      · exact wi6_bd _
      · exact wi6_bd _
    by_cases c1 : sg b len p = some 42
    · rw [if_pos c1, if_pos c1]
      have : opT (sg b len p) = some (-13) := by rw [c1]; rfl
      rw [this]
      exact go _ _ (Or.inl ⟨rfl, rfl⟩) (sg_lt c1).1
    · rw [if_neg c1, if_neg c1]
      by_cases c2 : sg b len p = some 47
      · rw [if_pos c2]
        have : opT (sg b len p) = some (-14) := by rw [c2]; rfl
        rw [this]
        exact go _ _ (Or.inr ⟨rfl, rfl⟩) (sg_lt c2).1
      · rw [if_neg c2]
        have : opT (sg b len p) = none := by unfold opT; rw [if_neg c1, if_neg c2]
        rw [this]
        exact RdN.yes rfl Fq.z0 rfl hS hnx
theorem r_term {F : gz_S → Option (Int32 × gz_S)} (hlt : LtOk lt) (hF : SubR La b len e o lt r F) (h : RS g e o b len lt r a) : RdN (fX12_term La F g) g e o b len lt r pT0 (pTm b len r (nx b len a)) := by
  have hat := r_atom (La := La) hF h
  have h240 := h.le.2
  have hx := nx_le (b := b) h.le.1
  have hsem := pAt_sem (La := La) (b := b) (r := r) hlt hx.2
  obtain ⟨x, g', r1, r2, r3⟩ := hat
  unfold fX12_term pTm
  rw [r1, Option.bind_some]
  refine RdN.of (g1 := g') ?_ r2
  rcases hp : pAt b len r (nx b len a) with ⟨q, oc⟩
  rw [hp] at r3 hsem
  rcases r3 with ⟨t1, t2, t3, t4⟩ | ⟨cv2, a', t1, t2, t3, t4⟩
  · have t1 : oc = none := t1
    subst t1
    refine RdN.nt (x := x) ?_ Fq.z0 t3 t4
    show fX12_term_5 La F (99999 + 1) x g' = _
    rw [fX12_term_5]
    refine if_neg ?_
    rw [show g'.1 39 11 = nI q from t3, show (-1 : Int32) = -nI 1 from rfl, m_eq (by have : q ≤ 240 := t4; omega)]; exact id
  · have t1 : oc = some cv2 := t1
    subst t1
    have t3 : nx b len a' = q := t3
    subst t3
    rw [t2]
    exact r_term5 hlt hF (len + 1) gz_FU a' cv2 g' t4 (by omega) (by unfold gz_FU; omega) (hsem cv2 rfl).2.1
theorem r_sum45 {F : gz_S → Option (Int32 × gz_S)} {k : Int32 → gz_S → Option (Int32 × gz_S)} {cv : pV} {s0 op : Int32} {K : Nat → pV → pR} (hlt : LtOk lt) (hF : SubR La b len e o lt r F) (h : RS g e o b len lt r a) (ha : a < len)
    (hop : s0 = nI 1 ∧ op = -11 ∨ s0 = nI 0 ∧ op = -12) (hcv : Bd6 (cv.2 lt))
    (hk0 : ∀ x g' p, p ≤ 240 → g'.1 39 11 = nI p → k x g' = some (x, g'))
    (hk1 : ∀ cv2 a' g', RS g' e o b len lt r a' → pTm b len r (nx b len (a + 1)) = (nx b len a', some cv2) → RdN (k (iI ((jV op cv cv2).2 lt)) g') g' e o b len lt r pT0 (K (nx b len a') cv2)) :
    RdN (fX12_sum_45 La F k (iI (cv.2 lt)) s0 g) g e o b len lt r pT0 (match pTm b len r (nx b len (a + 1)) with | (q, none) => (q, none) | (q, some cv2) => K q cv2) := by
  have hS := h.st (p := a + 1) (by omega)
  have hx := nx_le (b := b) (show a + 1 ≤ len by omega)
  have hat := r_term (La := La) hlt hF hS
  have hsem := pTm_sem (La := La) (b := b) (r := r) hlt hx.2
  unfold fX12_sum_45
  rw [h.1.2.2.2.2.1, show nI a + (1 : Int32) = nI (a + 1) from n_add a 1, wi_rs, gz_let_eq]
  obtain ⟨x, g', r1, r2, r3⟩ := hat
  rw [r1, Option.bind_some, gz_let_eq]
  show RdN (if s0 = 0 then fX12_sum_77 La F k ((Int32.toInt64 (iI (cv.2 lt))) - Int32.toInt64 x) g' else fX12_sum_77 La F k ((Int32.toInt64 (iI (cv.2 lt))) + Int32.toInt64 x) g') _ _ _ _ _ _ _ _ _
  have F2 : Fq g g' := Fq.z0.rs.tr r2
  rcases hp : pTm b len r (nx b len (a + 1)) with ⟨q, oc⟩
  rw [hp] at r3 hsem
  rcases r3 with ⟨t1, t2, t3, t4⟩ | ⟨cv2, a', t1, t2, t3, t4⟩
  · have t1 : oc = none := t1
    subst t1
    have fin : ∀ s, ∃ x', fX12_sum_77 La F k s g' = some (x', g') := fun s => by
      obtain ⟨x', hw⟩ := r_withinA (La := La) (g := g') (s := s)
      unfold fX12_sum_77
      rw [hw, Option.bind_some]
      exact ⟨x', hk0 _ _ q t4 t3⟩
    have : ∃ x', (if s0 = 0 then fX12_sum_77 La F k ((Int32.toInt64 (iI (cv.2 lt))) - Int32.toInt64 x) g' else fX12_sum_77 La F k ((Int32.toInt64 (iI (cv.2 lt))) + Int32.toInt64 x) g') = some (x', g') := by
      by_cases c0 : s0 = 0
      · rw [if_pos c0]; exact fin _
      · rw [if_neg c0]; exact fin _
    obtain ⟨x', hx'⟩ := this
    rw [hx']
    exact RdN.nt rfl F2 t3 t4
  · have t1 : oc = some cv2 := t1
    subst t1
    have t3 : nx b len a' = q := t3
    subst t3
    have hb2 : Bd6 (cv2.2 lt) := (hsem cv2 rfl).2.1
    have h1 := hcv.1
    have h2 := hcv.2
    have h3 := hb2.1
    have h4 := hb2.2
    have hgo := hk1 cv2 a' g' t4 hp
    rw [t2, j_l (by omega), j_l (by omega)]
    refine RdN.of ?_ F2
    show RdN _ _ _ _ _ _ _ _ _ (K (nx b len a') cv2)
    rcases hop with ⟨rfl, rfl⟩ | ⟨rfl, rfl⟩
    · rw [if_neg (by decide)]
      unfold fX12_sum_77
      rw [← Int64.ofInt_add, r_within (by omega), Option.bind_some]
      exact hgo
    · rw [if_pos (by decide)]
      unfold fX12_sum_77
      rw [← Int64.ofInt_sub, r_within (by omega), Option.bind_some]
      exact hgo
theorem r_sum5 {F : gz_S → Option (Int32 × gz_S)} (hlt : LtOk lt) (hF : SubR La b len e o lt r F) : ∀ n f a cv g, RS g e o b len lt r a → len - nx b len a < n + 1 → n + 1 < f → Bd6 (cv.2 lt) →
    RdN (fX12_sum_5 La F f (iI (cv.2 lt)) g) g e o b len lt r pT0 (pS5 b len r n (nx b len a) cv) := by
  intro n
  induction n with
  | zero =>
    intro f a cv g h hn hf hcv
    obtain ⟨f, rfl⟩ : ∃ f', f = f' + 1 := ⟨f - 1, by omega⟩
    have hx := nx_le (b := b) h.le.1
    have hS := h.st hx.2
    have hnx : nx b len (nx b len a) = nx b len a := nx_nx
    rw [fX12_sum_5, if_pos h.ne1, r_lookS h, Option.bind_some]
    refine RdN.of (g1 := rs g (nx b len a)) ?_ Fq.z0.rs
    generalize nx b len a = p at *
    generalize rs g p = g1 at *
    have hsn : sg b len p = none := by unfold sg; rw [if_neg (by omega)]
    have hL := r_lookP (La := La) hS hnx
    rw [hsn] at hL ⊢
    unfold pS5
    rw [hsn]
    refine RdN.yes (x := iI (cv.2 lt)) ?_ Fq.z0 rfl hS hnx
    refine (if_neg (show ¬ oI none = (43 : Int32) by decide)).trans ?_
    show (fX12_look La g1).bind _ = _
    rw [hL, Option.bind_some]
    exact if_neg (show ¬ oI none = (45 : Int32) by decide)
  | succ n ih =>
    intro f a cv g h hn hf hcv
    obtain ⟨f, rfl⟩ : ∃ f', f = f' + 1 := ⟨f - 1, by omega⟩
    obtain ⟨f, rfl⟩ : ∃ f', f = f' + 1 := ⟨f - 1, by omega⟩
    have hx := nx_le (b := b) h.le.1
    have hS := h.st hx.2
    have hnx : nx b len (nx b len a) = nx b len a := nx_nx
    rw [fX12_sum_5, if_pos h.ne1, r_lookS h, Option.bind_some]
    refine RdN.of (g1 := rs g (nx b len a)) ?_ Fq.z0.rs
    generalize nx b len a = p at *
    generalize rs g p = g1 at *
    show RdN (if oI (sg b len p) = nI 43 then fX12_sum_31 La F (fX12_sum_5 La F (f + 1)) (iI (cv.2 lt)) g1 else (fX12_look La g1).bind (fun q23 => if q23.1 = nI 45 then fX12_sum_31 La F (fX12_sum_5 La F (f + 1)) (iI (cv.2 lt)) q23.2 else some (iI (cv.2 lt), q23.2))) _ _ _ _ _ _ _ _ _
    have hL := r_lookP (La := La) hS hnx
    have hk0 : ∀ x g' p, p ≤ 240 → g'.1 39 11 = nI p → fX12_sum_5 La F (f + 1) x g' = some (x, g') := fun x g' p hp hf => by
      rw [fX12_sum_5]
      refine if_neg ?_
      rw [hf, show (-1 : Int32) = -nI 1 from rfl, m_eq (by omega)]; exact id
    have e31 : ∀ x, fX12_sum_31 La F (fX12_sum_5 La F (f + 1)) x g1 = fX12_sum_45 La F (fX12_sum_5 La F (f + 1)) x (if sg b len p = some 43 then nI 1 else nI 0) g1 := fun x => by
      unfold fX12_sum_31
      rw [hL, Option.bind_some]
      show (if oI (sg b len p) = nI 43 then _ else _) = _
      simp only [hS.oc (c := 43) (by omega)]
      by_cases c : sg b len p = some 43
      · rw [if_pos c, if_pos c]; rfl
      · rw [if_neg c, if_neg c]; rfl
    rw [hL, Option.bind_some, e31]
    show RdN (if oI (sg b len p) = nI 43 then fX12_sum_45 La F (fX12_sum_5 La F (f + 1)) (iI (cv.2 lt)) (if sg b len p = some 43 then nI 1 else nI 0) g1 else if oI (sg b len p) = nI 45 then fX12_sum_45 La F (fX12_sum_5 La F (f + 1)) (iI (cv.2 lt)) (if sg b len p = some 43 then nI 1 else nI 0) g1 else some (iI (cv.2 lt), g1)) _ _ _ _ _ _ _ _ _
    simp only [hS.oc (c := 43) (by omega), hS.oc (c := 45) (by omega)]
    unfold pS5
    have go : ∀ s0 op, (s0 = nI 1 ∧ op = -11 ∨ s0 = nI 0 ∧ op = -12) → p < len → RdN (fX12_sum_45 La F (fX12_sum_5 La F (f + 1)) (iI (cv.2 lt)) s0 g1) g1 e o b len lt r pT0 (pSumL b len (pAt b len r) (n + 1) (nx b len (p + 1)) (some (op, cv))) := by
      intro s0 op hop hpl
      rw [pSumL_s]
      refine r_sum45 (K := fun q cv2 => pS5 b len r n q (jA (some (op, cv)) cv2)) hlt hF hS hpl hop hcv hk0 (fun cv2 a' g' hS' hq => ?_)
      have hy := nx_le (b := b) (show p + 1 ≤ len by omega)
      have hg := pTm_good (b := b) (r := r) hy.2
      rw [hq] at hg
      have hg3 : nx b len (p + 1) < nx b len a' := hg.2.2 cv2 rfl
      refine ih (f + 1) a' (jV op cv cv2) g' hS' (by omega) (by omega) ?_
      rcases hop with ⟨_, rfl⟩ | ⟨_, rfl⟩
      · exact wi6_bd _
      · exact wi6_bd _
    by_cases c1 : sg b len p = some 43
    · rw [if_pos c1, if_pos c1]
      have : opS (sg b len p) = some (-11) := by rw [c1]; rfl
      rw [this]
      exact go _ _ (Or.inl ⟨rfl, rfl⟩) (sg_lt c1).1
    · rw [if_neg c1, if_neg c1]
      by_cases c2 : sg b len p = some 45
      · rw [if_pos c2]
        have : opS (sg b len p) = some (-12) := by rw [c2]; rfl
        rw [this]
        exact go _ _ (Or.inr ⟨rfl, rfl⟩) (sg_lt c2).1
      · rw [if_neg c2]
        have : opS (sg b len p) = none := by unfold opS; rw [if_neg c1, if_neg c2]
        rw [this]
        exact RdN.yes rfl Fq.z0 rfl hS hnx
theorem r_sum {F : gz_S → Option (Int32 × gz_S)} (hlt : LtOk lt) (hF : SubR La b len e o lt r F) (h : RS g e o b len lt r a) : RdN (fX12_sum La F g) g e o b len lt r pT0 (pSum b len r (nx b len a)) := by
  have hat := r_term (La := La) hlt hF h
  have h240 := h.le.2
  have hx := nx_le (b := b) h.le.1
  have hsem := pTm_sem (La := La) (b := b) (r := r) hlt hx.2
  have hgd := pTm_good (b := b) (r := r) hx.2
  obtain ⟨x, g', r1, r2, r3⟩ := hat
  rw [pSum_eq, pSumL_s]
  unfold fX12_sum
  rw [r1, Option.bind_some]
  refine RdN.of (g1 := g') ?_ r2
  rcases hp : pTm b len r (nx b len a) with ⟨q, oc⟩
  rw [hp] at r3 hsem hgd
  rcases r3 with ⟨t1, t2, t3, t4⟩ | ⟨cv2, a', t1, t2, t3, t4⟩
  · have t1 : oc = none := t1
    subst t1
    refine RdN.nt (x := x) ?_ Fq.z0 t3 t4
    show fX12_sum_5 La F (99999 + 1) x g' = _
    rw [fX12_sum_5]
    refine if_neg ?_
    rw [show g'.1 39 11 = nI q from t3, show (-1 : Int32) = -nI 1 from rfl, m_eq (by have : q ≤ 240 := t4; omega)]; exact id
  · have t1 : oc = some cv2 := t1
    subst t1
    have t3 : nx b len a' = q := t3
    subst t3
    rw [t2]
    exact r_sum5 hlt hF len gz_FU a' cv2 g' t4 (by omega) (by unfold gz_FU; omega) (hsem cv2 rfl).2.1
theorem r_sumD (hlt : LtOk lt) : ∀ r D, r < D → ∀ g a, RS g e o b len lt r a → RdN (fX12_sumD La D g) g e o b len lt r pT0 (pSum b len r (nx b len a)) := by
  intro r
  induction r with
  | zero =>
    intro D hD g a h
    obtain ⟨D, rfl⟩ : ∃ D', D = D' + 1 := ⟨D - 1, by omega⟩
    exact r_sum hlt (fun r' hr => by omega) h
  | succ r ih =>
    intro D hD g a h
    obtain ⟨D, rfl⟩ : ∃ D', D = D' + 1 := ⟨D - 1, by omega⟩
    refine r_sum hlt (fun r' hr g2 a2 h2 => ?_) h
    have e : r' = r := by omega
    subst e
    exact ih D (by omega) g2 a2 h2
theorem r_sumT (hlt : LtOk lt) (h : RS g e o b len lt r a) : RdN (fX12_sumT La g) g e o b len lt r pT0 (pSum b len r (nx b len a)) :=
  r_sumD hlt r 12 (by have := h.2.2.2.1; omega) g a h
end RS
