/-! calls fits and ask, the reference's -/
section US
variable {V : Nat → Nat} {T : sT} {s : sS} {i x h : Nat}
theorem sFits_bit : ∀ n j, (sFits T V s i n).testBit j = true ↔ j < n ∧ sFit T V s i j := by
  intro n
  induction n with
  | zero => intro j; exact ⟨fun hh => by (have hh : (0 : Nat).testBit j = true := hh; rw [Nat.zero_testBit] at hh; cases hh), fun hh => absurd hh.1 (Nat.not_lt_zero _)⟩
  | succ n ih =>
    intro j
    show (if sFit T V s i n then sFits T V s i n ||| 2 ^ n else sFits T V s i n).testBit j = true ↔ _
    by_cases c : sFit T V s i n
    · rw [if_pos c, Nat.testBit_or, Bool.or_eq_true, ih, Nat.testBit_two_pow, decide_eq_true_eq]
      constructor
      · rintro (hh | hh)
        · exact ⟨by omega, hh.2⟩
        · subst hh; exact ⟨by omega, c⟩
      · intro hh
        by_cases ce : n = j
        · exact Or.inr ce
        · exact Or.inl ⟨by omega, hh.2⟩
    · rw [if_neg c, ih]
      constructor
      · intro hh; exact ⟨by omega, hh.2⟩
      · intro hh
        by_cases ce : j = n
        · subst ce; exact absurd hh.2 c
        · exact ⟨by omega, hh.2⟩
theorem sTal_s (n c : Nat) : sTal T V x i h (n + 1) c = if x.testBit n = true ∧ sTr T V i n h = c then sTal T V x i h n c + 1 else sTal T V x i h n c := rfl
theorem sTal_le2 (c : Nat) : ∀ n, sTal T V x i h n c ≤ n := by
  intro n
  induction n with
  | zero => exact Nat.le_refl _
  | succ n ih => rw [sTal_s]; split <;> omega
theorem sAlike_s (n : Nat) : sAlike T V x i h (n + 1) = if x.testBit n then max (sAlike T V x i h n) (sTal T V x i h (n + 1) (sTr T V i n h)) else sAlike T V x i h n := rfl
def tMax (f : Nat → Nat) (n : Nat) : Nat := it (fun c m => max m (f c)) n 0
theorem tMax_s (f : Nat → Nat) (n : Nat) : tMax f (n + 1) = max (tMax f n) (f n) := rfl
theorem tMax_ge {f : Nat → Nat} : ∀ n c, c < n → f c ≤ tMax f n := by
  intro n
  induction n with
  | zero => intro c hc; exact absurd hc (Nat.not_lt_zero _)
  | succ n ih =>
    intro c hc
    rw [tMax_s]
    by_cases ce : c = n
    · subst ce; exact Nat.le_max_right _ _
    · exact Nat.le_trans (ih c (by omega)) (Nat.le_max_left _ _)
theorem tMax_le {f : Nat → Nat} {m : Nat} : ∀ n, (∀ c, c < n → f c ≤ m) → tMax f n ≤ m := by
  intro n
  induction n with
  | zero => intro _; exact Nat.zero_le _
  | succ n ih => intro hh; rw [tMax_s]; exact Nat.max_le.mpr ⟨ih (fun c hc => hh c (by omega)), hh n (by omega)⟩
theorem sAlike_tMax : ∀ n, (∀ q, q < n → sTr T V i q h < 30) → sAlike T V x i h n = tMax (fun c => sTal T V x i h n c) 30 := by
  intro n
  induction n with
  | zero => intro _; exact (Nat.le_antisymm (tMax_le 30 (fun c _ => Nat.le_refl 0)) (Nat.zero_le _)).symm
  | succ n ih =>
    intro hq
    rw [sAlike_s, ih (fun q hq' => hq q (by omega))]
    by_cases c : x.testBit n = true
    · rw [if_pos c]
      refine Nat.le_antisymm (Nat.max_le.mpr ⟨tMax_le 30 (fun e he => ?_), tMax_ge (f := fun c => sTal T V x i h (n + 1) c) 30 _ (hq n (by omega))⟩) (tMax_le 30 (fun e he => ?_))
      · refine Nat.le_trans ?_ (tMax_ge (f := fun c => sTal T V x i h (n + 1) c) 30 e he)
        show sTal T V x i h n e ≤ sTal T V x i h (n + 1) e
        rw [sTal_s]; split <;> omega
      · show sTal T V x i h (n + 1) e ≤ _
        by_cases ce : sTr T V i n h = e
        · rw [ce]; exact Nat.le_max_right _ _
        · rw [sTal_s, if_neg (fun hh => ce hh.2)]
          exact Nat.le_trans (tMax_ge (f := fun c => sTal T V x i h n c) 30 e he) (Nat.le_max_left _ _)
    · rw [if_neg c]
      congr 1
      funext e
      rw [sTal_s, if_neg (fun hh => c hh.1)]
theorem sAlike_0 (hx : x = 0) : ∀ n, sAlike T V x i h n = 0 := by
  intro n
  induction n with
  | zero => rfl
  | succ n ih => rw [sAlike_s, if_neg (by rw [hx, Nat.zero_testBit]; decide)]; exact ih
theorem sAlike_1 {q : Nat} (hq : x.testBit q = true) : ∀ n, q < n → 1 ≤ sAlike T V x i h n := by
  intro n
  induction n with
  | zero => intro hh; exact absurd hh (Nat.not_lt_zero _)
  | succ n ih =>
    intro hh
    rw [sAlike_s]
    by_cases ce : q = n
    · subst ce
      rw [if_pos hq, sTal_s, if_pos ⟨hq, rfl⟩]
      exact Nat.le_trans (show 1 ≤ sTal T V x i h q (sTr T V i q h) + 1 by omega) (Nat.le_max_right _ _)
    · have := ih (by omega)
      split
      · exact Nat.le_trans this (Nat.le_max_left _ _)
      · exact this
theorem sAlike_16 : ∀ n, sAlike T V x i h n ≤ n := by
  intro n
  induction n with
  | zero => exact Nat.le_refl _
  | succ n ih =>
    rw [sAlike_s]
    split
    · exact Nat.max_le.mpr ⟨by omega, sTal_le2 _ _⟩
    · omega
theorem sBest_s (n : Nat) : sBest T V x i (n + 1) = if sAlike T V x i (n + 1) 16 < (sBest T V x i n).2 then (some (n + 1), sAlike T V x i (n + 1) 16) else sBest T V x i n := rfl
end US
section RW
variable {g : gz_S} {V V0 W U : Nat → Nat} {B : Nat} {La : gz_L} {Ls : List (List Nat)} {cur : Option Nat} {T : sT} {s : sS} {i : Nat}
def FitS (g : gz_S) (T : sT) (V0 : Nat → Nat) (s : sS) (i : Nat) : Prop := (g.1 39 47 = nI s.1 ∧ s.1 ≤ 10 ∧ i < 4) ∧ (∀ k, k < s.1 → g.1 59 (3 * k) = nI (s.2.1 k) ∧ g.1 59 (3 * k + 1) = nI (s.2.2.1 k) ∧ g.1 59 (3 * k + 2) = nI (s.2.2.2 k) ∧ s.2.1 k < 4 ∧ s.2.2.1 k ≤ 30 ∧ s.2.2.2 k < 30) ∧ ∀ q, q < 16 → ∀ k, k < 31 → g.1 60 (31 * q + k) = nI (sTr T V0 i q k) ∧ sTr T V0 i q k < 30
theorem r_isFit (h : FitS g T V0 s i) {q : Nat} (hq : q < 16) : fX12_isFit La (nI i) (nI q) g = some (pI (sFit T V0 s i q), g) := by
  obtain ⟨⟨h1, h2, h4⟩, h3, h5⟩ := h
  unfold fX12_isFit
  refine lp (fun f k (_ : Unit) => fX12_isFit_2 La f (nI i) (nI q) (nI k) g) (fun k _ => ∀ j, j < k → s.2.1 j = i → sTr T V0 i q (s.2.2.1 j) = s.2.2.2 j) s.1 (fun r => r = some (pI (sFit T V0 s i q), g)) ?_ ?_ gz_FU 0 () (by omega) (by unfold gz_FU; omega) (fun j hj => absurd hj (Nat.not_lt_zero _))
  · intro f k _ hk hI
    obtain ⟨e1, e2, e3, b1, b2, b3⟩ := h3 k hk
    obtain ⟨p1, p2⟩ := h5 q hq (s.2.2.1 k) (by omega)
    have nx : fX12_isFit_57 La (fX12_isFit_2 La f) (nI i) (nI q) (nI k) g = fX12_isFit_2 La f (nI i) (nI q) (nI (k + 1)) g := by
      unfold fX12_isFit_57; rw [gz_let_eq, show nI k + (1 : Int32) = nI (k + 1) from n_add _ _]
    have m3 : (3 : Int32) * nI k = nI (3 * k) := n_mul 3 k
    have m31 : (31 : Int32) * nI q = nI (31 * q) := n_mul 31 q
    have step : (∀ j, j < k + 1 → s.2.1 j = i → sTr T V0 i q (s.2.2.1 j) = s.2.2.2 j) ∨ ¬ sFit T V0 s i q ∧ s.2.1 k = i ∧ ¬ sTr T V0 i q (s.2.2.1 k) = s.2.2.2 k := by
      by_cases c : s.2.1 k = i → sTr T V0 i q (s.2.2.1 k) = s.2.2.2 k
      · refine Or.inl (fun j hj hji => ?_)
        by_cases ce : j = k
        · subst ce; exact c hji
        · exact hI j (by omega) hji
      · have c1 : s.2.1 k = i := Classical.byContradiction (fun hh => c (fun h => absurd h hh))
        have c2 : ¬ sTr T V0 i q (s.2.2.1 k) = s.2.2.2 k := fun hh => c (fun _ => hh)
        exact Or.inr ⟨fun hh => c2 (hh k hk c1), c1, c2⟩
    show (fX12_isFit_2 La (f + 1) (nI i) (nI q) (nI k) g = _) ∨ ∃ g', fX12_isFit_2 La (f + 1) (nI i) (nI q) (nI k) g = _ ∧ _
    rw [fX12_isFit_2, h1, if_neg (show ¬ nI s.1 ≤ nI k by rw [n_le (by omega) (by omega)]; omega), m3, if_pos (n_okP (by omega) (by omega)), n_cl (by omega), e1]
    by_cases c1 : s.2.1 k = i
    · rw [if_pos (by rw [c1]), show nI (3 * k) + (1 : Int32) = nI (3 * k + 1) from n_add _ 1, show nI (3 * k) + (2 : Int32) = nI (3 * k + 2) from n_add _ 2, if_pos (n_okP (by omega) (by omega)), n_cl (by omega), e2, m31, n_add, if_pos (n_okP (by omega) (by omega)), if_pos (n_okP (by omega) (by omega)), n_cl (by omega), n_cl (by omega), p1, e3]
      rcases step with st | ⟨st1, _, st3⟩
      · have c2 := st k (by omega) c1
        exact Or.inr ⟨(), (if_pos (by rw [c2])).trans nx, st⟩
      · refine Or.inl ((if_neg (by rw [n_eq (by omega) (by omega)]; exact st3)).trans (p_f st1))
    · rw [if_neg (by rw [n_eq (by omega) (by omega)]; exact c1)]
      rcases step with st | ⟨_, st2, _⟩
      · exact Or.inr ⟨(), nx, st⟩
      · exact absurd st2 c1
  · intro f _ hI
    show fX12_isFit_2 La (f + 1) (nI i) (nI q) (nI s.1) g = _
    rw [fX12_isFit_2, h1, if_pos (show nI s.1 ≤ nI s.1 by rw [n_le (by omega) (by omega)]; omega)]
    exact p_t hI
def rFv (X : Nat) (x2 : Int32) : Int32 := if x2 = -1 then nI (pc 16 X) else oI ((sNth X x2).map (fun p => (p / 4 + 1) * 10 + p % 4))
theorem r_fits (h : FitS g T V0 s i) {x2 : Int32} :
    fX12_fits_30 La (fun (x2 : Int32) (x3 : Int32) g => if x2 = (-1) then some (x3, g) else some ((-1), g)) (fun (x4 : Int32) g => some (((10 : Int32) * ((x4 / 4) + 1)) + (x4 - x4 / 4 * 4), g)) gz_FU (nI i) x2 0 0 g = some (rFv (sFits T V0 s i 16) x2, g) := by
  have hbit := sFits_bit (T := T) (V := V0) (s := s) (i := i) 16
  generalize hX : sFits T V0 s i 16 = X at *
  have hno : ∀ {n : Nat}, n ≤ 16 → (∀ q, q < n → ¬ (X.testBit q = true ∧ nI (pc q X) = x2)) → ∀ q, q < n → (X.testBit q && decide ((pc q X : Int) = x2.toInt)) = false := by
    intro n hn hI q hq
    have h1 := hI q hq
    have h2 := pc_le q X
    cases hb : X.testBit q with
    | false => rfl
    | true =>
      rw [Bool.true_and]
      refine decide_eq_false (fun hh => h1 ⟨hb, ?_⟩)
      have : x2 = nI (pc q X) := by rw [x_eq (by omega)]; exact hh.symm
      exact this.symm
  refine lp (fun f q (_ : Unit) => fX12_fits_30 La _ _ f (nI i) x2 (nI (pc q X)) (nI q) g) (fun n _ => ∀ q, q < n → ¬ (X.testBit q = true ∧ nI (pc q X) = x2)) 16 (fun r => r = some (rFv X x2, g)) ?_ ?_ gz_FU 0 () (by omega) (by unfold gz_FU; omega) (fun q hq => absurd hq (Nat.not_lt_zero _))
  · intro f q _ hq hI
    have hpl := pc_le q X
    have hb2 := hbit q
    show (fX12_fits_30 La _ _ (f + 1) (nI i) x2 (nI (pc q X)) (nI q) g = _) ∨ ∃ g', fX12_fits_30 La _ _ (f + 1) (nI i) x2 (nI (pc q X)) (nI q) g = fX12_fits_30 La _ _ f (nI i) x2 (nI (pc (q + 1) X)) (nI (q + 1)) g ∧ _
    rw [fX12_fits_30, if_neg (show ¬ (16 : Int32) ≤ nI q by show ¬ nI 16 ≤ nI q; rw [n_le (by omega) (by omega)]; omega), r_isFit h hq, Option.bind_some]
    unfold fX12_fits_73
    by_cases c : sFit T V0 s i q
    · have hb3 : X.testBit q = true := hb2.mpr ⟨hq, c⟩
      rw [if_neg (pI1 c)]
      by_cases d : nI (pc q X) = x2
      · refine Or.inl ?_
        rw [if_pos d]
        have d2 : x2.toInt = (pc q X : Int) := by rw [← d, n_ti (by omega)]
        have d3 : sNth X x2 = some q := by
          unfold sNth
          rw [if_neg (by omega)]
          exact ff_some (hno (by omega) hI) (by show (X.testBit q && decide ((pc q X : Int) = x2.toInt)) = true; rw [hb3, decide_eq_true d2.symm]; rfl) (by omega)
        have d4 : ¬ x2 = -1 := fun hh => by rw [hh] at d2; have : (-1 : Int32).toInt = -1 := rfl; omega
        unfold rFv
        rw [if_neg d4, d3]
        show some (((10 : Int32) * ((nI q / 4) + 1)) + (nI q - nI q / 4 * 4), g) = some (nI ((q / 4 + 1) * 10 + q % 4), g)
        rw [show nI q - nI q / 4 * 4 = nI (q % 4) from n_mod (b := 4) (by omega) (by omega), show nI q / 4 = nI (q / 4) from n_div (b := 4) (by omega) (by omega), show nI (q / 4) + (1 : Int32) = nI (q / 4 + 1) from n_add _ 1, show (10 : Int32) * nI (q / 4 + 1) = nI (10 * (q / 4 + 1)) from n_mul 10 _, n_add, Nat.mul_comm]
      · refine Or.inr ⟨(), ?_, fun q' hq' => ?_⟩
        · rw [if_neg d, gz_let_eq, gz_let_eq, show nI q + (1 : Int32) = nI (q + 1) from n_add _ _, show nI (pc q X) + (1 : Int32) = nI (pc q X + 1) from n_add _ _, pc_s, if_pos hb3]
        · by_cases ce : q' = q
          · subst ce; exact fun hh => d hh.2
          · exact hI q' (by omega)
    · have hb3 : ¬ X.testBit q = true := fun hh => c (hb2.mp hh).2
      refine Or.inr ⟨(), ?_, fun q' hq' => ?_⟩
      · rw [if_pos (pI0 c), gz_let_eq, show nI q + (1 : Int32) = nI (q + 1) from n_add _ _, pc_s, if_neg hb3]
      · by_cases ce : q' = q
        · subst ce; exact fun hh => hb3 hh.1
        · exact hI q' (by omega)
  · intro f _ hI
    show fX12_fits_30 La _ _ (f + 1) (nI i) x2 (nI (pc 16 X)) (nI 16) g = _
    rw [fX12_fits_30, if_pos (show (16 : Int32) ≤ nI 16 by decide)]
    unfold rFv
    by_cases c : x2 = -1
    · rw [if_pos c, if_pos c]
    · rw [if_neg c, if_neg c]
      have : sNth X x2 = none := by
        unfold sNth
        split
        · rfl
        · exact ff_none (hno (by omega) hI)
      rw [this]; rfl
abbrev F61 (g z : gz_S) : Prop := Fz (fun _ => False) (fun j => j = 61) g z
theorem FitS.f61 {z : gz_S} (h : FitS g T V0 s i) (hF : F61 g z) : FitS z T V0 s i := by
  unfold FitS
  rw [hF.2.1 47 id, hF.1 59 (by omega) (by omega), hF.1 60 (by omega) (by omega)]; exact h
theorem r_clear {x1 x2 x3 x4 : Int32} {k58 : Int32 → Int32 → Int32 → Int32 → gz_S → Option (Int32 × gz_S)} : ∃ z, fX12_ask_37 La k58 gz_FU x1 x2 x3 x4 0 g = k58 x1 x2 x3 x4 z ∧ F61 g z ∧ ∀ c, c < 30 → z.1 61 c = 0 := by
  refine lp (fun f c z => fX12_ask_37 La k58 f x1 x2 x3 x4 (nI c) z) (fun n z => F61 g z ∧ ∀ c, c < n → z.1 61 c = 0) 30 (fun r => ∃ z, r = k58 x1 x2 x3 x4 z ∧ F61 g z ∧ ∀ c, c < 30 → z.1 61 c = 0) ?_ ?_ gz_FU 0 g (by omega) (by unfold gz_FU; omega) ⟨Fz.z0, fun c hc => absurd hc (Nat.not_lt_zero _)⟩
  · intro f c z hc ⟨q1, q2⟩
    refine Or.inr ⟨gz_wi z 61 c 0, ?_, q1.s (by omega) rfl, fun e he => ?_⟩
    · rw [fX12_ask_37, if_neg (show ¬ (30 : Int32) ≤ nI c by show ¬ nI 30 ≤ nI c; rw [n_le (by omega) (by omega)]; omega), if_pos (n_okP (by omega) (by omega)), gz_let_eq, gz_let_eq, n_cl (by omega), show nI c + (1 : Int32) = nI (c + 1) from n_add _ _]
    · by_cases ce : e = c
      · rw [ce, wi_ss]
      · rw [wi_sn ce]; exact q2 e (by omega)
  · intro f z ⟨q1, q2⟩
    refine ⟨z, ?_, q1, q2⟩
    rw [fX12_ask_37]; exact if_pos (by decide)
theorem r_tally (h : FitS g T V0 s i) (h0 : ∀ c, c < 30 → g.1 61 c = 0) {hr : Nat} (hh : hr < 31) {x2 x3 : Int32} {k106 : Int32 → Int32 → Int32 → Int32 → gz_S → Option (Int32 × gz_S)} : ∃ z, fX12_ask_61 La k106 gz_FU (nI i) x2 x3 (nI hr) 0 g = k106 (nI i) x2 x3 (nI hr) z ∧ F61 g z ∧ ∀ c, c < 30 → z.1 61 c = nI (sTal T V0 (sFits T V0 s i 16) i hr 16 c) := by
  have hbit := sFits_bit (T := T) (V := V0) (s := s) (i := i) 16
  generalize hX : sFits T V0 s i 16 = X at *
  refine lp (fun f q z => fX12_ask_61 La k106 f (nI i) x2 x3 (nI hr) (nI q) z) (fun q z => F61 g z ∧ ∀ c, c < 30 → z.1 61 c = nI (sTal T V0 X i hr q c)) 16 (fun r => ∃ z, r = k106 (nI i) x2 x3 (nI hr) z ∧ F61 g z ∧ ∀ c, c < 30 → z.1 61 c = nI (sTal T V0 X i hr 16 c)) ?_ ?_ gz_FU 0 g (by omega) (by unfold gz_FU; omega) ⟨Fz.z0, h0⟩
  · intro f q z hq ⟨q1, q2⟩
    have hz := h.f61 q1
    have hb2 := hbit q
    obtain ⟨p1, p2⟩ := hz.2.2 q hq hr hh
    have nx : ∀ z', fX12_ask_100 La (fX12_ask_61 La k106 f) (nI i) x2 x3 (nI hr) (nI q) z' = fX12_ask_61 La k106 f (nI i) x2 x3 (nI hr) (nI (q + 1)) z' := by
      intro z'; unfold fX12_ask_100; rw [gz_let_eq, show nI q + (1 : Int32) = nI (q + 1) from n_add _ _]
    refine Or.inr ?_
    rw [fX12_ask_61, if_neg (show ¬ (16 : Int32) ≤ nI q by show ¬ nI 16 ≤ nI q; rw [n_le (by omega) (by omega)]; omega), r_isFit hz hq, Option.bind_some]
    by_cases c : sFit T V0 s i q
    · have hb3 : X.testBit q = true := hb2.mpr ⟨hq, c⟩
      refine ⟨gz_wi z 61 (sTr T V0 i q hr) (nI (sTal T V0 X i hr q (sTr T V0 i q hr) + 1)), ?_, q1.s (by omega) rfl, fun e he => ?_⟩
      · rw [if_neg (pI1 c), show (31 : Int32) * nI q = nI (31 * q) from n_mul 31 q, n_add, if_pos (n_okP (by omega) (by omega)), n_cl (by omega)]
        show (if gz_ok (z.1 60 (31 * q + hr)) 30 then if gz_ok (z.1 60 (31 * q + hr)) 30 then gz_let (gz_wi z 61 (z.1 60 (31 * q + hr)).toNatClampNeg (z.1 61 (z.1 60 (31 * q + hr)).toNatClampNeg + 1)) _ else none else none) = _
        rw [p1, if_pos (n_okP (by omega) (by omega)), if_pos (n_okP (by omega) (by omega)), gz_let_eq, n_cl (by omega), q2 _ p2, show nI (sTal T V0 X i hr q (sTr T V0 i q hr)) + (1 : Int32) = nI (sTal T V0 X i hr q (sTr T V0 i q hr) + 1) from n_add _ 1]
        exact nx _
      · rw [sTal_s]
        by_cases ce : e = sTr T V0 i q hr
        · rw [ce, wi_ss, if_pos ⟨hb3, rfl⟩]
        · rw [wi_sn ce, if_neg (fun hx => ce hx.2.symm)]; exact q2 e he
    · have hb3 : ¬ X.testBit q = true := fun hx => c (hb2.mp hx).2
      refine ⟨z, (if_pos (pI0 c)).trans (nx z), q1, fun e he => ?_⟩
      rw [sTal_s, if_neg (fun hx => hb3 hx.1)]; exact q2 e he
  · intro f z ⟨q1, q2⟩
    refine ⟨z, ?_, q1, q2⟩
    rw [fX12_ask_61]; exact if_pos (by decide)
theorem r_tmax {F : Nat → Nat} (h : ∀ c, c < 30 → g.1 61 c = nI (F c)) (hF : ∀ c, c < 30 → F c < 1000) {x1 x2 x3 x4 : Int32} {k139 : Int32 → Int32 → Int32 → Int32 → Int32 → gz_S → Option (Int32 × gz_S)} : fX12_ask_112 La k139 gz_FU x1 x2 x3 x4 0 0 g = k139 x1 x2 x3 x4 (nI (tMax F 30)) g := by
  refine lp (fun f c (_ : Unit) => fX12_ask_112 La k139 f x1 x2 x3 x4 (nI (tMax F c)) (nI c) g) (fun _ _ => True) 30 (fun r => r = k139 x1 x2 x3 x4 (nI (tMax F 30)) g) ?_ ?_ gz_FU 0 () (by omega) (by unfold gz_FU; omega) trivial
  · intro f c _ hc _
    refine Or.inr ⟨(), ?_, trivial⟩
    have b1 : tMax F c ≤ 1000 := tMax_le c (fun e he => by have := hF e (by omega); omega)
    have b2 := hF c hc
    show fX12_ask_112 La k139 (f + 1) x1 x2 x3 x4 (nI (tMax F c)) (nI c) g = _
    rw [fX12_ask_112, if_neg (show ¬ (30 : Int32) ≤ nI c by show ¬ nI 30 ≤ nI c; rw [n_le (by omega) (by omega)]; omega), if_pos (n_okP (by omega) (by omega)), n_cl (by omega), h c hc, c_max (by omega) (by omega), Option.bind_some, gz_let_eq, show nI c + (1 : Int32) = nI (c + 1) from n_add _ _, ← tMax_s]
  · intro f _ _
    show fX12_ask_112 La k139 (f + 1) x1 x2 x3 x4 (nI (tMax F 30)) (nI 30) g = _
    rw [fX12_ask_112]; exact if_pos (by decide)
theorem r_ask (h : FitS g T V0 s i) : ∃ z, fX12_ask_27 La gz_FU (nI i) (-1) 0 1 g = some (oI (if sFits T V0 s i 16 = 0 then none else (sBest T V0 (sFits T V0 s i 16) i 30).1), z) ∧ F61 g z := by
  have hbit := sFits_bit (T := T) (V := V0) (s := s) (i := i) 16
  have hg : ∃ X, X = sFits T V0 s i 16 := ⟨_, rfl⟩
  obtain ⟨X, hX⟩ := hg
  rw [← hX] at hbit ⊢
  have some1 : ¬ X = 0 → ∃ q, q < 16 ∧ X.testBit q = true := by
    intro hx
    refine Classical.byContradiction (fun hh => hx (Nat.eq_of_testBit_eq (fun j => ?_)))
    rw [Nat.zero_testBit]
    cases hb : X.testBit j with
    | false => rfl
    | true => exact absurd ⟨j, ((hbit j).mp hb).1, hb⟩ hh
  refine lp (fun f k (p : gz_S × Int32 × Int32) => fX12_ask_27 La f (nI i) p.2.1 p.2.2 (nI (k + 1)) p.1)
    (fun k p => F61 g p.1 ∧ (k = 0 → p.2.1 = -1 ∧ p.2.2 = 0) ∧ (¬ k = 0 → ¬ X = 0 ∧ ∃ h' m, sBest T V0 X i k = (some h', m) ∧ h' ≤ 30 ∧ m ≤ 16 ∧ p.2.1 = nI h' ∧ p.2.2 = nI m)) 30
    (fun r => ∃ z, r = some (oI (if X = 0 then none else (sBest T V0 X i 30).1), z) ∧ F61 g z) ?_ ?_ gz_FU 0 (g, -1, 0) (by omega) (by unfold gz_FU; omega) ⟨Fz.z0, fun _ => ⟨rfl, rfl⟩, fun hh => absurd rfl hh⟩
  · intro f k p hk ⟨q1, q2, q3⟩
    obtain ⟨z, x2, x3⟩ := p
    show (∃ z', fX12_ask_27 La (f + 1) (nI i) x2 x3 (nI (k + 1)) z = _ ∧ _) ∨ ∃ p', fX12_ask_27 La (f + 1) (nI i) x2 x3 (nI (k + 1)) z = _ ∧ _
    rw [fX12_ask_27, if_neg (show ¬ (30 : Int32) < nI (k + 1) by show ¬ nI 30 < nI (k + 1); rw [n_lt (by omega) (by omega)]; omega)]
    obtain ⟨z1, u1, u2, u3⟩ := r_clear (La := La) (g := z) (x1 := nI i) (x2 := x2) (x3 := x3) (x4 := nI (k + 1)) (k58 := fun (x1 : Int32) (x2 : Int32) (x3 : Int32) (x4 : Int32) g => fX12_ask_61 La (fun (x1 : Int32) (x2 : Int32) (x3 : Int32) (x4 : Int32) g => fX12_ask_112 La (fun (x1 : Int32) (x2 : Int32) (x3 : Int32) (x4 : Int32) (x5 : Int32) g => if x5 = 0 then some ((-1), g) else if x2 = (-1) then fX12_ask_160 La (fX12_ask_27 La f) x1 x4 x5 g else if x5 < x3 then fX12_ask_160 La (fX12_ask_27 La f) x1 x4 x5 g else fX12_ask_166 La (fX12_ask_27 La f) x1 x2 x3 x4 g) gz_FU x1 x2 x3 x4 0 0 g) gz_FU x1 x2 x3 x4 0 g)
    have F1 := Fz.tr q1 u2
    obtain ⟨z2, v1, v2, v3⟩ := r_tally (La := La) (g := z1) (h.f61 F1) u3 (hr := k + 1) (by omega) (x2 := x2) (x3 := x3) (k106 := fun (x1 : Int32) (x2 : Int32) (x3 : Int32) (x4 : Int32) g => fX12_ask_112 La (fun (x1 : Int32) (x2 : Int32) (x3 : Int32) (x4 : Int32) (x5 : Int32) g => if x5 = 0 then some ((-1), g) else if x2 = (-1) then fX12_ask_160 La (fX12_ask_27 La f) x1 x4 x5 g else if x5 < x3 then fX12_ask_160 La (fX12_ask_27 La f) x1 x4 x5 g else fX12_ask_166 La (fX12_ask_27 La f) x1 x2 x3 x4 g) gz_FU x1 x2 x3 x4 0 0 g)
    have F2 := Fz.tr F1 v2
    rw [← hX] at v3
    have tm := r_tmax (La := La) (g := z2) v3 (fun c hc => by have := sTal_le2 (T := T) (V := V0) (x := X) (i := i) (h := k + 1) c 16; omega) (x1 := nI i) (x2 := x2) (x3 := x3) (x4 := nI (k + 1)) (k139 := fun (x1 : Int32) (x2 : Int32) (x3 : Int32) (x4 : Int32) (x5 : Int32) g => if x5 = 0 then some ((-1), g) else if x2 = (-1) then fX12_ask_160 La (fX12_ask_27 La f) x1 x4 x5 g else if x5 < x3 then fX12_ask_160 La (fX12_ask_27 La f) x1 x4 x5 g else fX12_ask_166 La (fX12_ask_27 La f) x1 x2 x3 x4 g)
    rw [u1]
    show (∃ z', fX12_ask_61 La _ gz_FU (nI i) x2 x3 (nI (k + 1)) 0 z1 = _ ∧ _) ∨ ∃ p', fX12_ask_61 La _ gz_FU (nI i) x2 x3 (nI (k + 1)) 0 z1 = _ ∧ _
    rw [v1]
    show (∃ z', fX12_ask_112 La _ gz_FU (nI i) x2 x3 (nI (k + 1)) 0 0 z2 = _ ∧ _) ∨ ∃ p', fX12_ask_112 La _ gz_FU (nI i) x2 x3 (nI (k + 1)) 0 0 z2 = _ ∧ _
    rw [tm, ← sAlike_tMax 16 (fun q hq => (h.2.2 q hq (k + 1) (by omega)).2)]
    have b16 := sAlike_16 (T := T) (V := V0) (x := X) (i := i) (h := k + 1) 16
    by_cases x0 : X = 0
    · refine Or.inl ⟨z2, ?_, F2⟩
      rw [if_pos x0]
      exact if_pos (by rw [sAlike_0 x0]; rfl)
    · obtain ⟨q, hq, hqb⟩ := some1 x0
      have b1 := sAlike_1 (T := T) (V := V0) (x := X) (i := i) (h := k + 1) hqb 16 hq
      have n0 : ¬ nI (sAlike T V0 X i (k + 1) 16) = 0 := by show ¬ _ = nI 0; rw [n_eq (by omega) (by omega)]; omega
      have take : fX12_ask_160 La (fX12_ask_27 La f) (nI i) (nI (k + 1)) (nI (sAlike T V0 X i (k + 1) 16)) z2 = fX12_ask_27 La f (nI i) (nI (k + 1)) (nI (sAlike T V0 X i (k + 1) 16)) (nI (k + 1 + 1)) z2 := by
        unfold fX12_ask_160 fX12_ask_166
        rw [gz_let_eq, show nI (k + 1) + (1 : Int32) = nI (k + 1 + 1) from n_add _ _]
      refine Or.inr ?_
      by_cases k0 : k = 0
      · obtain ⟨w1, w2⟩ := q2 k0
        have w1 : x2 = -1 := w1
        refine ⟨(z2, nI (k + 1), nI (sAlike T V0 X i (k + 1) 16)), (if_neg n0).trans ((if_pos w1).trans take), F2, fun hh => by omega, fun _ => ⟨x0, k + 1, _, ?_, by omega, b16, rfl, rfl⟩⟩
        rw [sBest_s]
        subst k0
        exact if_pos (show sAlike T V0 X i (0 + 1) 16 < 17 by omega)
      · obtain ⟨_, h', m, w1, w2, w3, w4, w5⟩ := q3 k0
        have w4 : x2 = nI h' := w4
        have w5 : x3 = nI m := w5
        have nm : ¬ x2 = -1 := by rw [w4]; show ¬ nI h' = -nI 1; rw [m_eq (by omega)]; exact id
        by_cases c : sAlike T V0 X i (k + 1) 16 < m
        · refine ⟨(z2, nI (k + 1), nI (sAlike T V0 X i (k + 1) 16)), (if_neg n0).trans ((if_neg nm).trans ((if_pos (by rw [w5, n_lt (by omega) (by omega)]; exact c)).trans take)), F2, fun hh => by omega, fun _ => ⟨x0, k + 1, _, ?_, by omega, b16, rfl, rfl⟩⟩
          rw [sBest_s, w1]; exact if_pos c
        · refine ⟨(z2, x2, x3), (if_neg n0).trans ((if_neg nm).trans ((if_neg (by rw [w5, n_lt (by omega) (by omega)]; exact c)).trans ?_)), F2, fun hh => by omega, fun _ => ⟨x0, h', m, ?_, w2, w3, w4, w5⟩⟩
          · unfold fX12_ask_166
            rw [gz_let_eq, show nI (k + 1) + (1 : Int32) = nI (k + 1 + 1) from n_add _ _]
          · rw [sBest_s, w1]; exact if_neg c
  · intro f p ⟨q1, q2, q3⟩
    obtain ⟨z, x2, x3⟩ := p
    obtain ⟨x0, h', m, w1, w2, w3, w4, w5⟩ := q3 (by omega)
    have w4 : x2 = nI h' := w4
    refine ⟨z, ?_, q1⟩
    show fX12_ask_27 La (f + 1) (nI i) x2 x3 (nI 31) z = _
    rw [fX12_ask_27, if_pos (show (30 : Int32) < nI 31 by decide), if_neg x0, w1, w4]; rfl
end RW
