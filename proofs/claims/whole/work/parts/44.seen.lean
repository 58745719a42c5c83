/-! the class's sightings -/
def sAl (V : Nat → Nat) (i j : Nat) : Nat → Nat := fun k => if 42 ≤ k ∧ k < 42 + j then (if k = 42 + i then 0 else 2) else V k
def sAlone (V : Nat → Nat) (i q : Nat) : Nat → Nat := uN (uN (sAl V i (V 60)) (34 + i) (q % 4)) (50 + i) (q / 4 + 1)
def sTr (T : sT) (V : Nat → Nat) (i q h : Nat) : Nat := sHrs T (sAlone V i q) h (30 + i)
/-- what was seen: how many, of whom, when, where -/
abbrev sS : Type := Nat × (Nat → Nat) × (Nat → Nat) × (Nat → Nat)
abbrev sFit (T : sT) (V : Nat → Nat) (s : sS) (i q : Nat) : Prop := ∀ k, k < s.1 → s.2.1 k = i → sTr T V i q (s.2.2.1 k) = s.2.2.2 k
def sFits (T : sT) (V : Nat → Nat) (s : sS) (i n : Nat) : Nat := it (fun q b => if sFit T V s i q then b ||| 2 ^ q else b) n 0
def sTal (T : sT) (V : Nat → Nat) (x i h : Nat) (n c : Nat) : Nat := it (fun q s => if x.testBit q = true ∧ sTr T V i q h = c then s + 1 else s) n 0
def sAlike (T : sT) (V : Nat → Nat) (x i h n : Nat) : Nat := it (fun q m => if x.testBit q then max m (sTal T V x i h (q + 1) (sTr T V i q h)) else m) n 0
def sBest (T : sT) (V : Nat → Nat) (x i n : Nat) : Option Nat × Nat := it (fun k s => if sAlike T V x i (k + 1) 16 < s.2 then (some (k + 1), sAlike T V x i (k + 1) 16) else s) n (none, 17)
theorem sAl_wf {B : Nat} {V : Nat → Nat} (h : Wf B V) {i j : Nat} (hj : j ≤ 4) : Wf B (sAl V i j) := by
  obtain ⟨a1, a2, a3, a4, a5, a6, a7, a8, a9, a10, a11⟩ := h
  have e : ∀ k, k < 42 ∨ 46 ≤ k → sAl V i j k = V k := fun k hk => if_neg (by omega)
  refine ⟨fun k => ?_, ?_, ?_, ?_, ?_, ?_, ?_, ?_, fun c hc => ?_, fun k hk => ?_, fun k hk => ?_⟩
  · have := a1 k
    unfold sAl; split
    · split <;> omega
    · omega
  · rw [e 58 (by omega)]; exact a2
  · rw [e 59 (by omega)]; exact a3
  · rw [e 60 (by omega)]; exact a4
  · rw [e 46 (by omega)]; exact a5
  · rw [e 47 (by omega)]; exact a6
  · rw [e 48 (by omega)]; exact a7
  · rw [e 49 (by omega)]; exact a8
  · rw [e c (by omega)]; exact a9 c hc
  · have b := a10 k hk
    rw [e (30 + k) (by omega), e (34 + k) (by omega), e (38 + k) (by omega), e (50 + k) (by omega), e (54 + k) (by omega)]
    refine ⟨b.1, b.2.1, b.2.2.1, ?_, b.2.2.2.2⟩
    unfold sAl; split
    · split <;> omega
    · omega
  · rw [e 60 (by omega)] at hk
    rw [e (30 + k) (by omega), e (50 + k) (by omega), e (54 + k) (by omega), e 58 (by omega), e 59 (by omega)]
    exact a11 k hk
theorem sAlone_wf {B : Nat} {V : Nat → Nat} (h : Wf B V) {i q : Nat} (hi : i < 4) (hq : q < 16) : Wf B (sAlone V i q) := by
  have w0 := sAl_wf h (i := i) (j := V 60) h.2.2.2.1.2
  have w1 : Wf B (uN (sAl V i (V 60)) (34 + i) (q % 4)) := w0.up (by omega) (by omega) (by omega) (by omega) (by omega) (by omega) (by omega) (by omega) (by omega) (by omega) (by omega) (by omega) (by omega)
  exact w1.up (by omega) (by omega) (by omega) (by omega) (by omega) (by omega) (by omega) (by omega) (by omega) (by omega) (by omega) (by omega) (by omega)
theorem sAlone_n {V : Nat → Nat} {i q k : Nat} (h60 : V 60 ≤ 4) (hi : i < 4) (hk : k < 34 ∨ 54 ≤ k) : sAlone V i q k = V k := by
  unfold sAlone sAl; rw [uN_n (by omega), uN_n (by omega), if_neg (by omega)]
theorem sTr_lt {B : Nat} {V : Nat → Nat} {T : sT} (hT : TLt T) (h : Wf B V) {i q k : Nat} (hi : i < 4) (hq : q < 16) (hk : B + 20 * k < 800000) : sTr T V i q k < 30 :=
  ((sHrs_wf hT (sAlone_wf h hi hq) k hk).2.2.2.2.2.2.2.2.2.1 i hi).1
theorem sFits_lt {T : sT} {V : Nat → Nat} {s : sS} {i : Nat} : ∀ n, n ≤ 16 → sFits T V s i n < 1073741824 := by
  intro n
  induction n with
  | zero => intro _; show 0 < _; omega
  | succ n ih =>
    intro hn
    show (if sFit T V s i n then sFits T V s i n ||| 2 ^ n else sFits T V s i n) < _
    split
    · exact b_or (ih (by omega)) (b_pow (by omega))
    · exact ih (by omega)
theorem sTal_le {T : sT} {V : Nat → Nat} {x i h c : Nat} : ∀ n, sTal T V x i h n c ≤ n := by
  intro n
  induction n with
  | zero => exact Nat.le_refl _
  | succ n ih =>
    show (if x.testBit n = true ∧ sTr T V i n h = c then sTal T V x i h n c + 1 else sTal T V x i h n c) ≤ n + 1
    split <;> omega
theorem sAlike_le {T : sT} {V : Nat → Nat} {x i h : Nat} : ∀ n, sAlike T V x i h n ≤ n := by
  intro n
  induction n with
  | zero => exact Nat.le_refl _
  | succ n ih =>
    have := sTal_le (T := T) (V := V) (x := x) (i := i) (h := h) (c := sTr T V i n h) (n + 1)
    show (if x.testBit n = true then max (sAlike T V x i h n) (sTal T V x i h (n + 1) (sTr T V i n h)) else sAlike T V x i h n) ≤ n + 1
    split <;> omega
abbrev WG (j : Nat) : Prop := WF 7 j ∨ j = 36 ∨ j = 37
def FG (g g' : gz_S) : Prop := Fr WG g g' ∧ ∃ Vs, g'.1 23 = fI Vs ∧ Z61 Vs
theorem FG.tr {g g' g'' : gz_S} (h : FG g g') (h' : FG g' g'') : FG g g'' := ⟨h.1.tr h'.1, h'.2⟩
theorem WG_lt : ∀ j, WG j → j < 64 := by intro j hj; omega
/-- where sightings begin: as told -/
def CG (La : gz_L) (g : gz_S) (V : Nat → Nat) (T : sT) (B : Nat) : Prop := g.1 21 = fI V ∧ Wf B V ∧ Z61 V ∧ LW La g T ∧ (∃ Vs, g.1 23 = fI Vs ∧ Z61 Vs)
def CS (g : gz_S) (s : sS) : Prop := g.1 11 0 = nI s.1 ∧ s.1 ≤ 10 ∧ ∀ k, k < s.1 → g.1 33 k = nI (s.2.1 k) ∧ g.1 34 k = nI (s.2.2.1 k) ∧ g.1 35 k = nI (s.2.2.2 k) ∧ s.2.1 k < 4 ∧ s.2.2.1 k ≤ 30 ∧ s.2.2.2 k < 30
theorem CG.fg {La : gz_L} {g g' : gz_S} {V : Nat → Nat} {T : sT} {B : Nat} (h : CG La g V T B) (hf : FG g g') : CG La g' V T B :=
  ⟨by rw [hf.1.1 21 (by omega)]; exact h.1, h.2.1, h.2.2.1, h.2.2.2.1.fr hf.1 WG_lt, hf.2⟩
theorem CS.fg {g g' : gz_S} {s : sS} (h : CS g s) (hf : FG g g') : CS g' s :=
  ⟨by rw [hf.1.1 11 (by omega)]; exact h.1, h.2.1, fun k hk => by rw [hf.1.1 33 (by omega), hf.1.1 34 (by omega), hf.1.1 35 (by omega)]; exact h.2.2 k hk⟩
section C8
variable {La : gz_L} {g : gz_S} {V : Nat → Nat} {B : Nat} {T : sT} {s : sS}
theorem c_trace (h : CG La g V T B) (hB : B < 400000) {i q : Nat} (hi : i < V 60) (hq : q < 16) :
    ∃ g', fX8_trace La (nI i) (nI q) g = some g' ∧ FG g g' ∧ (∀ p, (p < q * 31 ∨ q * 31 + 31 ≤ p) → g'.1 36 p = g.1 36 p) ∧ ∀ k, k < 31 → g'.1 36 (q * 31 + k) = nI (sTr T V i q k) := by
  obtain ⟨hv, hW, hz, hL, hs⟩ := h
  have h60 := hW.2.2.2.1.2
  have hi4 : i < 4 := by omega
  have hU := sAlone_wf hW hi4 hq
  have hzU : Z61 (sAlone V i q) := fun k hk => by rw [sAlone_n h60 hi4 (by omega)]; exact hz k hk
  have hU60 := hU.2.2.2.1.2
  -- the hours
  have hours : ∀ g0 : gz_S, FG g g0 → g0.1 36 = g.1 36 → g0.1 23 = fI (sAlone V i q) → ∃ g', fX8_trace_89 La gz_FU (nI i) (nI q) (nI 0) g0 = some g' ∧ FG g g' ∧ (∀ p, (p < q * 31 ∨ q * 31 + 31 ≤ p) → g'.1 36 p = g.1 36 p) ∧ ∀ k, k < 31 → g'.1 36 (q * 31 + k) = nI (sTr T V i q k) := by
    intro g0 hf0 h36 h23
    refine lp (fun f k g1 => fX8_trace_89 La f (nI i) (nI q) (nI k) g1)
      (fun k g1 => FG g g1 ∧ g1.1 23 = fI (sHrs T (sAlone V i q) k) ∧ (∀ p, (p < q * 31 ∨ q * 31 + 31 ≤ p) → g1.1 36 p = g.1 36 p) ∧ ∀ j, j < k → g1.1 36 (q * 31 + j) = nI (sTr T V i q j)) 31
      (fun r => ∃ g', r = some g' ∧ FG g g' ∧ (∀ p, (p < q * 31 ∨ q * 31 + 31 ≤ p) → g'.1 36 p = g.1 36 p) ∧ ∀ k, k < 31 → g'.1 36 (q * 31 + k) = nI (sTr T V i q k)) ?_ ?_ gz_FU 0 g0 (by omega) (by unfold gz_FU; omega)
      ⟨hf0, h23, fun p _ => by rw [h36], fun j hj => absurd hj (Nat.not_lt_zero _)⟩
    · intro f k g1 hk h1
      have hWk := sHrs_wf hL.lt hU k (by omega)
      have hx : ¬ 31 ≤ k := by omega
      have hF1 : FG g (gz_wa g1 36 (upd (g1.1 36) (q * 31 + k) (nI (sHrs T (sAlone V i q) k (30 + i))))) := ⟨h1.1.1.wa (by omega), by rw [wa_ne (by omega)]; exact h1.1.2⟩
      have hL1 := hL.fr hF1.1 WG_lt
      have h23' : (gz_wa g1 36 (upd (g1.1 36) (q * 31 + k) (nI (sHrs T (sAlone V i q) k (30 + i))))).1 23 = fI (sHrs T (sAlone V i q) k) := by rw [wa_ne (by omega)]; exact h1.2.1
      obtain ⟨g2, a1, a2, a3, -⟩ := c_hr (La := La) hL1 Fr.rf h23' hWk (by omega)
      refine Or.inr ⟨g2, ?_, ⟨hF1.1.tr (a2.mo (fun _ hj => Or.inl hj)), _, a3, sHrs_z hU60 hzU (k + 1)⟩, a3, fun p hp => ?_, fun j hj => ?_⟩
      · show fX8_trace_89 La (f + 1) (nI i) (nI q) (nI k) g1 = fX8_trace_89 La f (nI i) (nI q) (nI (k + 1)) g2
        rw [fX8_trace_89]
        simp (disch := omega) only [l_0, l_1, l_2, l_3, l_4, l_5, l_6, l_7, l_8, l_9, l_10, l_11, l_12, l_13, l_14, l_15, l_16, l_17, l_18, l_19, l_20, l_21, l_22, l_23, l_24, l_25, l_26, l_28, l_29, l_30, l_31, l_32, l_33, l_34, l_36, l_37, l_38, l_39, l_40, l_41, l_42, l_43, l_44, l_45, l_46, l_47, l_48, l_49, l_50, l_53, l_54, l_57, l_58, l_59, l_60, l_61, l_62, l_63, l_91, l_93, l_97, l_98, l_99, l_100, l_103, l_104, l_110, l_112, l_114, l_115, l_116, l_119, l_120, l_121, l_124, l_128, l_231, l_240, l_241, l_255, l_496, l_999, l_1000, l_8191, l_9999, l_10000, l_100000, l_200000, l_1000000, l_1000000000, gz_let_eq, Option.bind_some, ↓reduceIte, wi_wa, wa_at, wa_wa, upd_fI, fI_ap, wa_2, n_add, n_ok, n_cl, n_lt, n_le, n_eq, p_0, p_1, p_01, em_t, nb_0, t_10, n_modd, n_modm, Bool.false_eq_true, not_false_eq_true, not_true, hx, n_mul, h1.2.1, a1]
      · rw [a2.1 36 (by omega), wa_at]; unfold upd; rw [if_neg (by omega)]; exact h1.2.2.1 p hp
      · rw [a2.1 36 (by omega), wa_at]; unfold upd
        by_cases hjk : j = k
        · rw [if_pos (by omega), hjk]; rfl
        · rw [if_neg (by omega)]; exact h1.2.2.2 j (by omega)
    · intro f g1 h1
      refine ⟨g1, ?_, h1.1, h1.2.2⟩
      show fX8_trace_89 La (f + 1) (nI i) (nI q) (nI 31) g1 = _
      rw [fX8_trace_89]
      simp (disch := omega) only [l_0, l_1, l_2, l_3, l_4, l_5, l_6, l_7, l_8, l_9, l_10, l_11, l_12, l_13, l_14, l_15, l_16, l_17, l_18, l_19, l_20, l_21, l_22, l_23, l_24, l_25, l_26, l_28, l_29, l_30, l_31, l_32, l_33, l_34, l_36, l_37, l_38, l_39, l_40, l_41, l_42, l_43, l_44, l_45, l_46, l_47, l_48, l_49, l_50, l_53, l_54, l_57, l_58, l_59, l_60, l_61, l_62, l_63, l_91, l_93, l_97, l_98, l_99, l_100, l_103, l_104, l_110, l_112, l_114, l_115, l_116, l_119, l_120, l_121, l_124, l_128, l_231, l_240, l_241, l_255, l_496, l_999, l_1000, l_8191, l_9999, l_10000, l_100000, l_200000, l_1000000, l_1000000000, gz_let_eq, Option.bind_some, ↓reduceIte, wi_wa, wa_at, wa_wa, upd_fI, fI_ap, wa_2, n_add, n_ok, n_cl, n_lt, n_le, n_eq, p_0, p_1, p_01, em_t, nb_0, t_10, n_modd, n_modm, Bool.false_eq_true, not_false_eq_true, not_true, Nat.le_refl]
  unfold fX8_trace
  rw [c_spare (w := 5) (Or.inl rfl) hv hz hs, Option.bind_some]
  refine lp (fun f j g1 => fX8_trace_13 La _ f (nI i) (nI q) (nI j) g1)
    (fun j g1 => g1 = gz_wa g 23 (fI (sAl V i j))) (V 60)
    (fun r => ∃ g', r = some g' ∧ FG g g' ∧ (∀ p, (p < q * 31 ∨ q * 31 + 31 ≤ p) → g'.1 36 p = g.1 36 p) ∧ ∀ k, k < 31 → g'.1 36 (q * 31 + k) = nI (sTr T V i q k)) ?_ ?_ gz_FU 0 _ (by omega) (by unfold gz_FU; omega)
    (by have : sAl V i 0 = V := by funext k; unfold sAl; rw [if_neg (by omega)]
        rw [this])
  · intro f j g1 hj h1
    subst h1
    refine Or.inr ⟨_, ?_, rfl⟩
    have e60 : sAl V i j 60 = V 60 := if_neg (by omega)
    have hx : ¬ V 60 ≤ j := by omega
    have es : uN (sAl V i j) (42 + j) (if j = i then 0 else 2) = sAl V i (j + 1) := by
      funext k
      unfold uN sAl
      by_cases hk : k = 42 + j
      · rw [if_pos hk]
        by_cases hji : j = i
        · rw [if_pos hji, if_pos (show 42 ≤ k ∧ k < 42 + (j + 1) by omega), if_pos (show k = 42 + i by omega)]
        · rw [if_neg hji, if_pos (show 42 ≤ k ∧ k < 42 + (j + 1) by omega), if_neg (show ¬ k = 42 + i by omega)]
      · rw [if_neg hk]
        by_cases hk2 : 42 ≤ k ∧ k < 42 + j
        · rw [if_pos hk2, if_pos (show 42 ≤ k ∧ k < 42 + (j + 1) by omega)]
        · rw [if_neg hk2, if_neg (show ¬ (42 ≤ k ∧ k < 42 + (j + 1)) by omega)]
    show fX8_trace_13 La _ (f + 1) (nI i) (nI q) (nI j) _ = fX8_trace_13 La _ f (nI i) (nI q) (nI (j + 1)) (gz_wa g 23 (fI (sAl V i (j + 1))))
    rw [fX8_trace_13, ← es]
    simp (disch := omega) only [l_0, l_1, l_2, l_3, l_4, l_5, l_6, l_7, l_8, l_9, l_10, l_11, l_12, l_13, l_14, l_15, l_16, l_17, l_18, l_19, l_20, l_21, l_22, l_23, l_24, l_25, l_26, l_28, l_29, l_30, l_31, l_32, l_33, l_34, l_36, l_37, l_38, l_39, l_40, l_41, l_42, l_43, l_44, l_45, l_46, l_47, l_48, l_49, l_50, l_53, l_54, l_57, l_58, l_59, l_60, l_61, l_62, l_63, l_91, l_93, l_97, l_98, l_99, l_100, l_103, l_104, l_110, l_112, l_114, l_115, l_116, l_119, l_120, l_121, l_124, l_128, l_231, l_240, l_241, l_255, l_496, l_999, l_1000, l_8191, l_9999, l_10000, l_100000, l_200000, l_1000000, l_1000000000, gz_let_eq, Option.bind_some, ↓reduceIte, wi_wa, wa_at, wa_wa, upd_fI, fI_ap, wa_2, n_add, n_ok, n_cl, n_lt, n_le, n_eq, p_0, p_1, p_01, em_t, nb_0, t_10, n_modd, n_modm, Bool.false_eq_true, not_false_eq_true, not_true, e60, hx, fX8_trace_48]
    by_cases hji : j = i
    · rw [if_pos hji, if_pos hji]
    · rw [if_neg hji, if_neg hji]
  · intro f g1 h1
    subst h1
    have e60 : sAl V i (V 60) 60 = V 60 := if_neg (by omega)
    have eU : uN (uN (sAl V i (V 60)) (34 + i) (q % 4)) (50 + i) (q / 4 + 1) = sAlone V i q := rfl
    obtain ⟨g', k1, k2⟩ := hours (gz_wa g 23 (fI (sAlone V i q))) ⟨(FS.sp hzU).1.mo (fun _ hj => Or.inl hj), _, wa_at _ _ _, hzU⟩ (wa_ne (by omega)) (wa_at _ _ _)
    refine ⟨g', ?_, k2⟩
    show fX8_trace_13 La _ (f + 1) (nI i) (nI q) (nI (V 60)) (gz_wa g 23 (fI (sAl V i (V 60)))) = _
    rw [fX8_trace_13]
    simp (disch := omega) only [l_0, l_1, l_2, l_3, l_4, l_5, l_6, l_7, l_8, l_9, l_10, l_11, l_12, l_13, l_14, l_15, l_16, l_17, l_18, l_19, l_20, l_21, l_22, l_23, l_24, l_25, l_26, l_28, l_29, l_30, l_31, l_32, l_33, l_34, l_36, l_37, l_38, l_39, l_40, l_41, l_42, l_43, l_44, l_45, l_46, l_47, l_48, l_49, l_50, l_53, l_54, l_57, l_58, l_59, l_60, l_61, l_62, l_63, l_91, l_93, l_97, l_98, l_99, l_100, l_103, l_104, l_110, l_112, l_114, l_115, l_116, l_119, l_120, l_121, l_124, l_128, l_231, l_240, l_241, l_255, l_496, l_999, l_1000, l_8191, l_9999, l_10000, l_100000, l_200000, l_1000000, l_1000000000, gz_let_eq, Option.bind_some, ↓reduceIte, wi_wa, wa_at, wa_wa, upd_fI, fI_ap, wa_2, n_add, n_ok, n_cl, n_lt, n_le, n_eq, p_0, p_1, p_01, em_t, nb_0, t_10, n_modd, n_modm, Bool.false_eq_true, not_false_eq_true, not_true, e60, Nat.le_refl, n_div, eU]
    exact k1
theorem c_agrees (hs : CS g s) {i q : Nat} (hi : i < 4) (hq : q < 16) (htl : ∀ k, k < 31 → sTr T V i q k < 30) (ht : ∀ k, k < 31 → g.1 36 (q * 31 + k) = nI (sTr T V i q k)) : fX8_agrees La (nI i) (nI q) g = some (pI (sFit T V s i q), g) := by
  obtain ⟨h0, h10, hk⟩ := hs
  unfold fX8_agrees
  refine lp (fun f k (_ : Unit) => fX8_agrees_2 La f (nI i) (nI q) (nI k) g)
    (fun k _ => ∀ j, j < k → s.2.1 j = i → sTr T V i q (s.2.2.1 j) = s.2.2.2 j) s.1
    (fun r => r = some (pI (sFit T V s i q), g)) ?_ ?_ gz_FU 0 () (by omega) (by unfold gz_FU; omega) (fun j hj => absurd hj (Nat.not_lt_zero _))
  · intro f k _ hkn hI
    obtain ⟨k1, k2, k3, k4, k5, k6⟩ := hk k hkn
    have hx : ¬ s.1 ≤ k := by omega
    have k7 := ht (s.2.2.1 k) (by omega)
    have k8 := htl (s.2.2.1 k) (by omega)
    have hst : fX8_agrees_2 La (f + 1) (nI i) (nI q) (nI k) g = if s.2.1 k = i then (if sTr T V i q (s.2.2.1 k) = s.2.2.2 k then fX8_agrees_2 La f (nI i) (nI q) (nI (k + 1)) g else some (nI 0, g)) else fX8_agrees_2 La f (nI i) (nI q) (nI (k + 1)) g := by
      rw [fX8_agrees_2]
      simp (disch := omega) only [l_0, l_1, l_2, l_3, l_4, l_5, l_6, l_7, l_8, l_9, l_10, l_11, l_12, l_13, l_14, l_15, l_16, l_17, l_18, l_19, l_20, l_21, l_22, l_23, l_24, l_25, l_26, l_28, l_29, l_30, l_31, l_32, l_33, l_34, l_36, l_37, l_38, l_39, l_40, l_41, l_42, l_43, l_44, l_45, l_46, l_47, l_48, l_49, l_50, l_53, l_54, l_57, l_58, l_59, l_60, l_61, l_62, l_63, l_91, l_93, l_97, l_98, l_99, l_100, l_103, l_104, l_110, l_112, l_114, l_115, l_116, l_119, l_120, l_121, l_124, l_128, l_231, l_240, l_241, l_255, l_496, l_999, l_1000, l_8191, l_9999, l_10000, l_100000, l_200000, l_1000000, l_1000000000, gz_let_eq, Option.bind_some, ↓reduceIte, wi_wa, wa_at, wa_wa, upd_fI, fI_ap, wa_2, n_add, n_ok, n_cl, n_lt, n_le, n_eq, p_0, p_1, p_01, em_t, nb_0, t_10, n_modd, n_modm, Bool.false_eq_true, not_false_eq_true, not_true, h0, hx, k1, k2, k3, n_mul, k7, fX8_agrees_47]
    by_cases c1 : s.2.1 k = i
    · rw [if_pos c1] at hst
      by_cases c2 : sTr T V i q (s.2.2.1 k) = s.2.2.2 k
      · rw [if_pos c2] at hst
        refine Or.inr ⟨(), hst, fun j hj hji => ?_⟩
        by_cases hjk : j = k
        · rw [hjk]; exact c2
        · exact hI j (by omega) hji
      · rw [if_neg c2] at hst
        exact Or.inl (hst.trans (p_f (fun e => c2 (e k hkn c1))))
    · rw [if_neg c1] at hst
      refine Or.inr ⟨(), hst, fun j hj hji => ?_⟩
      by_cases hjk : j = k
      · rw [hjk] at hji; exact absurd hji c1
      · exact hI j (by omega) hji
  · intro f _ hI
    show fX8_agrees_2 La (f + 1) (nI i) (nI q) (nI s.1) g = _
    rw [fX8_agrees_2]
    simp (disch := omega) only [l_0, l_1, l_2, l_3, l_4, l_5, l_6, l_7, l_8, l_9, l_10, l_11, l_12, l_13, l_14, l_15, l_16, l_17, l_18, l_19, l_20, l_21, l_22, l_23, l_24, l_25, l_26, l_28, l_29, l_30, l_31, l_32, l_33, l_34, l_36, l_37, l_38, l_39, l_40, l_41, l_42, l_43, l_44, l_45, l_46, l_47, l_48, l_49, l_50, l_53, l_54, l_57, l_58, l_59, l_60, l_61, l_62, l_63, l_91, l_93, l_97, l_98, l_99, l_100, l_103, l_104, l_110, l_112, l_114, l_115, l_116, l_119, l_120, l_121, l_124, l_128, l_231, l_240, l_241, l_255, l_496, l_999, l_1000, l_8191, l_9999, l_10000, l_100000, l_200000, l_1000000, l_1000000000, gz_let_eq, Option.bind_some, ↓reduceIte, wi_wa, wa_at, wa_wa, upd_fI, fI_ap, wa_2, n_add, n_ok, n_cl, n_lt, n_le, n_eq, p_0, p_1, p_01, em_t, nb_0, t_10, n_modd, n_modm, Bool.false_eq_true, not_false_eq_true, not_true, h0, Nat.le_refl]
    exact p_t hI
theorem c_fitting (h : CG La g V T B) (hs : CS g s) (hB : B < 400000) {i : Nat} (hi : i < V 60) :
    ∃ g', fX8_fitting La (nI i) g = some (nI (sFits T V s i 16), g') ∧ FG g g' ∧ ∀ q k, q < 16 → k < 31 → g'.1 36 (q * 31 + k) = nI (sTr T V i q k) := by
  have hW := h.2.1
  have hL := h.2.2.2.1
  have h60 := hW.2.2.2.1.2
  unfold fX8_fitting
  refine lp (fun f q g1 => fX8_fitting_4 La f (nI i) (nI (sFits T V s i q)) (nI q) g1)
    (fun q g1 => FG g g1 ∧ ∀ q' k, q' < q → k < 31 → g1.1 36 (q' * 31 + k) = nI (sTr T V i q' k)) 16
    (fun r => ∃ g', r = some (nI (sFits T V s i 16), g') ∧ FG g g' ∧ ∀ q k, q < 16 → k < 31 → g'.1 36 (q * 31 + k) = nI (sTr T V i q k)) ?_ ?_ gz_FU 0 g (by omega) (by unfold gz_FU; omega)
    ⟨⟨Fr.rf, h.2.2.2.2⟩, fun q' _ hq => absurd hq (Nat.not_lt_zero _)⟩
  · intro f q g1 hq h1
    have hx : ¬ 16 ≤ q := by omega
    obtain ⟨g2, a1, a2, a3, a4⟩ := c_trace (La := La) (h.fg h1.1) hB hi hq
    have hag := c_agrees (La := La) ((hs.fg h1.1).fg a2) (by omega) hq (fun k hk => sTr_lt hL.lt hW (by omega) hq (by omega)) a4
    have hst : sFits T V s i (q + 1) = if sFit T V s i q then sFits T V s i q ||| 2 ^ q else sFits T V s i q := rfl
    refine Or.inr ⟨g2, ?_, h1.1.tr a2, fun q' k hq' hk => ?_⟩
    · show fX8_fitting_4 La (f + 1) (nI i) (nI (sFits T V s i q)) (nI q) g1 = fX8_fitting_4 La f (nI i) (nI (sFits T V s i (q + 1))) (nI (q + 1)) g2
      rw [fX8_fitting_4, hst]
      simp (disch := omega) only [l_0, l_1, l_2, l_3, l_4, l_5, l_6, l_7, l_8, l_9, l_10, l_11, l_12, l_13, l_14, l_15, l_16, l_17, l_18, l_19, l_20, l_21, l_22, l_23, l_24, l_25, l_26, l_28, l_29, l_30, l_31, l_32, l_33, l_34, l_36, l_37, l_38, l_39, l_40, l_41, l_42, l_43, l_44, l_45, l_46, l_47, l_48, l_49, l_50, l_53, l_54, l_57, l_58, l_59, l_60, l_61, l_62, l_63, l_91, l_93, l_97, l_98, l_99, l_100, l_103, l_104, l_110, l_112, l_114, l_115, l_116, l_119, l_120, l_121, l_124, l_128, l_231, l_240, l_241, l_255, l_496, l_999, l_1000, l_8191, l_9999, l_10000, l_100000, l_200000, l_1000000, l_1000000000, gz_let_eq, Option.bind_some, ↓reduceIte, wi_wa, wa_at, wa_wa, upd_fI, fI_ap, wa_2, n_add, n_ok, n_cl, n_lt, n_le, n_eq, p_0, p_1, p_01, em_t, nb_0, t_10, n_modd, n_modm, Bool.false_eq_true, not_false_eq_true, not_true, hx, a1, hag, n_shl1, n_or, fX8_fitting_31]
      by_cases hp : sFit T V s i q
      · rw [if_neg (not_not_intro hp), if_pos hp]
      · rw [if_pos hp, if_neg hp]
    · by_cases hqq : q' = q
      · rw [hqq]; exact a4 k hk
      · rw [a3 _ (Or.inl (by omega))]; exact h1.2 q' k (by omega) hk
  · intro f g1 h1
    refine ⟨g1, ?_, h1.1, h1.2⟩
    show fX8_fitting_4 La (f + 1) (nI i) (nI (sFits T V s i 16)) (nI 16) g1 = _
    rw [fX8_fitting_4]
    simp (disch := omega) only [l_0, l_1, l_2, l_3, l_4, l_5, l_6, l_7, l_8, l_9, l_10, l_11, l_12, l_13, l_14, l_15, l_16, l_17, l_18, l_19, l_20, l_21, l_22, l_23, l_24, l_25, l_26, l_28, l_29, l_30, l_31, l_32, l_33, l_34, l_36, l_37, l_38, l_39, l_40, l_41, l_42, l_43, l_44, l_45, l_46, l_47, l_48, l_49, l_50, l_53, l_54, l_57, l_58, l_59, l_60, l_61, l_62, l_63, l_91, l_93, l_97, l_98, l_99, l_100, l_103, l_104, l_110, l_112, l_114, l_115, l_116, l_119, l_120, l_121, l_124, l_128, l_231, l_240, l_241, l_255, l_496, l_999, l_1000, l_8191, l_9999, l_10000, l_100000, l_200000, l_1000000, l_1000000000, gz_let_eq, Option.bind_some, ↓reduceIte, wi_wa, wa_at, wa_wa, upd_fI, fI_ap, wa_2, n_add, n_ok, n_cl, n_lt, n_le, n_eq, p_0, p_1, p_01, em_t, nb_0, t_10, n_modd, n_modm, Bool.false_eq_true, not_false_eq_true, not_true, Nat.le_refl]
theorem c_fit {x : Nat} (hx : x < 1073741824) {n : Int32} : fX8_fit La (nI x) n g = some (oI ((sNth x n).map (fun p => (p / 4 + 1) * 10 + p % 4)), g) := by
  unfold fX8_fit
  rw [c_nthBit hx]
  cases hs : sNth x n with
  | none => rfl
  | some p =>
    have := sNth_lt hs
    have e : oI (some p) = nI p := rfl
    simp (disch := omega) only [l_0, l_1, l_2, l_3, l_4, l_5, l_6, l_7, l_8, l_9, l_10, l_11, l_12, l_13, l_14, l_15, l_16, l_17, l_18, l_19, l_20, l_21, l_22, l_23, l_24, l_25, l_26, l_28, l_29, l_30, l_31, l_32, l_33, l_34, l_36, l_37, l_38, l_39, l_40, l_41, l_42, l_43, l_44, l_45, l_46, l_47, l_48, l_49, l_50, l_53, l_54, l_57, l_58, l_59, l_60, l_61, l_62, l_63, l_91, l_93, l_97, l_98, l_99, l_100, l_103, l_104, l_110, l_112, l_114, l_115, l_116, l_119, l_120, l_121, l_124, l_128, l_231, l_240, l_241, l_255, l_496, l_999, l_1000, l_8191, l_9999, l_10000, l_100000, l_200000, l_1000000, l_1000000000, gz_let_eq, Option.bind_some, ↓reduceIte, wi_wa, wa_at, wa_wa, upd_fI, fI_ap, wa_2, n_add, n_ok, n_cl, n_lt, n_le, n_eq, p_0, p_1, p_01, em_t, nb_0, t_10, n_modd, n_modm, Bool.false_eq_true, not_false_eq_true, not_true, e, m_eq, n_div, n_mul]
    rfl
theorem c_mostAlike {x i h : Nat} (hx : x < 1073741824) (hh : h < 31) (htl : ∀ q, q < 16 → sTr T V i q h < 30) (ht : ∀ q, q < 16 → g.1 36 (q * 31 + h) = nI (sTr T V i q h)) :
    ∃ g', fX8_mostAlike La (nI x) (nI h) g = some (nI (sAlike T V x i h 16), g') ∧ Fr (fun j => j = 37) g g' := by
  have hfill : ∃ g', fJ7_fill_53178 La 37 0 g = some g' ∧ Fr (fun j => j = 37) g g' ∧ ∀ c, c < 30 → g'.1 37 c = nI 0 := by
    unfold fJ7_fill_53178
    have e37 : Int32.ofNat (gz_ln 37) = nI 30 := rfl
    have e37' : gz_ln 37 = 30 := rfl
    rw [gz_let_eq, e37]
    refine lp (fun f c g1 => fJ7_fill_53178_5 La 37 f (nI 0) (nI c) (nI 30) g1) (fun c g1 => Fr (fun j => j = 37) g g1 ∧ ∀ c', c' < c → g1.1 37 c' = nI 0) 30
      (fun r => ∃ g', r = some g' ∧ Fr (fun j => j = 37) g g' ∧ ∀ c, c < 30 → g'.1 37 c = nI 0) ?_ ?_ gz_FU 0 g (by omega) (by unfold gz_FU; omega) ⟨Fr.rf, fun c hc => absurd hc (Nat.not_lt_zero _)⟩
    · intro f c g1 hc h1
      have hn : ¬ 30 ≤ c := by omega
      refine Or.inr ⟨gz_wa g1 37 (upd (g1.1 37) c (nI 0)), ?_, h1.1.wa rfl, fun c' hc' => ?_⟩
      · show fJ7_fill_53178_5 La 37 (f + 1) (nI 0) (nI c) (nI 30) g1 = _
        rw [fJ7_fill_53178_5, e37']
        simp (disch := omega) only [l_0, l_1, l_2, l_3, l_4, l_5, l_6, l_7, l_8, l_9, l_10, l_11, l_12, l_13, l_14, l_15, l_16, l_17, l_18, l_19, l_20, l_21, l_22, l_23, l_24, l_25, l_26, l_28, l_29, l_30, l_31, l_32, l_33, l_34, l_36, l_37, l_38, l_39, l_40, l_41, l_42, l_43, l_44, l_45, l_46, l_47, l_48, l_49, l_50, l_53, l_54, l_57, l_58, l_59, l_60, l_61, l_62, l_63, l_91, l_93, l_97, l_98, l_99, l_100, l_103, l_104, l_110, l_112, l_114, l_115, l_116, l_119, l_120, l_121, l_124, l_128, l_231, l_240, l_241, l_255, l_496, l_999, l_1000, l_8191, l_9999, l_10000, l_100000, l_200000, l_1000000, l_1000000000, gz_let_eq, Option.bind_some, ↓reduceIte, wi_wa, wa_at, wa_wa, upd_fI, fI_ap, wa_2, n_add, n_ok, n_cl, n_lt, n_le, n_eq, p_0, p_1, p_01, em_t, nb_0, t_10, n_modd, n_modm, Bool.false_eq_true, not_false_eq_true, not_true, hn]
      · rw [wa_at]; unfold upd
        by_cases hcc : c' = c
        · rw [if_pos hcc]
        · rw [if_neg hcc]; exact h1.2 c' (by omega)
    · intro f g1 h1
      refine ⟨g1, ?_, h1⟩
      show fJ7_fill_53178_5 La 37 (f + 1) (nI 0) (nI 30) (nI 30) g1 = _
      rw [fJ7_fill_53178_5]
      simp (disch := omega) only [l_0, l_1, l_2, l_3, l_4, l_5, l_6, l_7, l_8, l_9, l_10, l_11, l_12, l_13, l_14, l_15, l_16, l_17, l_18, l_19, l_20, l_21, l_22, l_23, l_24, l_25, l_26, l_28, l_29, l_30, l_31, l_32, l_33, l_34, l_36, l_37, l_38, l_39, l_40, l_41, l_42, l_43, l_44, l_45, l_46, l_47, l_48, l_49, l_50, l_53, l_54, l_57, l_58, l_59, l_60, l_61, l_62, l_63, l_91, l_93, l_97, l_98, l_99, l_100, l_103, l_104, l_110, l_112, l_114, l_115, l_116, l_119, l_120, l_121, l_124, l_128, l_231, l_240, l_241, l_255, l_496, l_999, l_1000, l_8191, l_9999, l_10000, l_100000, l_200000, l_1000000, l_1000000000, gz_let_eq, Option.bind_some, ↓reduceIte, wi_wa, wa_at, wa_wa, upd_fI, fI_ap, wa_2, n_add, n_ok, n_cl, n_lt, n_le, n_eq, p_0, p_1, p_01, em_t, nb_0, t_10, n_modd, n_modm, Bool.false_eq_true, not_false_eq_true, not_true, Nat.le_refl]
  obtain ⟨g0, f1, f2, f3⟩ := hfill
  unfold fX8_mostAlike
  rw [f1, Option.bind_some]
  refine lp (fun f q g1 => fX8_mostAlike_13 La f (nI x) (nI h) (nI (sAlike T V x i h q)) (nI q) g1)
    (fun q g1 => Fr (fun j => j = 37) g g1 ∧ ∀ c, c < 30 → g1.1 37 c = nI (sTal T V x i h q c)) 16
    (fun r => ∃ g', r = some (nI (sAlike T V x i h 16), g') ∧ Fr (fun j => j = 37) g g') ?_ ?_ gz_FU 0 g0 (by omega) (by unfold gz_FU; omega) ⟨f2, f3⟩
  · intro f q g1 hq h1
    have hn : ¬ 16 ≤ q := by omega
    have b1 := htl q hq
    have b2 : g1.1 36 (q * 31 + h) = nI (sTr T V i q h) := by rw [h1.1.1 36 (by omega)]; exact ht q hq
    have b3 := h1.2 _ b1
    have b4 := sTal_le (T := T) (V := V) (x := x) (i := i) (h := h) (c := sTr T V i q h) q
    have b5 := sAlike_le (T := T) (V := V) (x := x) (i := i) (h := h) q
    have hA : sAlike T V x i h (q + 1) = if x.testBit q = true then max (sAlike T V x i h q) (sTal T V x i h (q + 1) (sTr T V i q h)) else sAlike T V x i h q := rfl
    have hT : ∀ c, sTal T V x i h (q + 1) c = if x.testBit q = true ∧ sTr T V i q h = c then sTal T V x i h q c + 1 else sTal T V x i h q c := fun _ => rfl
    by_cases hb : x.testBit q = true
    · have hT0 : sTal T V x i h (q + 1) (sTr T V i q h) = sTal T V x i h q (sTr T V i q h) + 1 := by rw [hT, if_pos ⟨hb, rfl⟩]
      refine Or.inr ⟨gz_wa g1 37 (upd (g1.1 37) (sTr T V i q h) (nI (sTal T V x i h q (sTr T V i q h) + 1))), ?_, h1.1.wa rfl, fun c hc => ?_⟩
      · show fX8_mostAlike_13 La (f + 1) (nI x) (nI h) (nI (sAlike T V x i h q)) (nI q) g1 = fX8_mostAlike_13 La f (nI x) (nI h) (nI (sAlike T V x i h (q + 1))) (nI (q + 1)) _
        have eu : ∀ (r : Nat → Int32) (k : Nat) (v : Int32), upd r k v k = v := fun r k v => if_pos rfl
        rw [fX8_mostAlike_13, hA, if_pos hb, hT0]
        simp (disch := omega) only [l_0, l_1, l_2, l_3, l_4, l_5, l_6, l_7, l_8, l_9, l_10, l_11, l_12, l_13, l_14, l_15, l_16, l_17, l_18, l_19, l_20, l_21, l_22, l_23, l_24, l_25, l_26, l_28, l_29, l_30, l_31, l_32, l_33, l_34, l_36, l_37, l_38, l_39, l_40, l_41, l_42, l_43, l_44, l_45, l_46, l_47, l_48, l_49, l_50, l_53, l_54, l_57, l_58, l_59, l_60, l_61, l_62, l_63, l_91, l_93, l_97, l_98, l_99, l_100, l_103, l_104, l_110, l_112, l_114, l_115, l_116, l_119, l_120, l_121, l_124, l_128, l_231, l_240, l_241, l_255, l_496, l_999, l_1000, l_8191, l_9999, l_10000, l_100000, l_200000, l_1000000, l_1000000000, gz_let_eq, Option.bind_some, ↓reduceIte, wi_wa, wa_at, wa_wa, upd_fI, fI_ap, wa_2, n_add, n_ok, n_cl, n_lt, n_le, n_eq, p_0, p_1, p_01, em_t, nb_0, t_10, n_modd, n_modm, Bool.false_eq_true, not_false_eq_true, not_true, hn, n_bit, hb, n_mul, b2, b3, eu, c_max, fX8_mostAlike_66]
      · rw [wa_at, hT]; unfold upd
        by_cases hcc : c = sTr T V i q h
        · rw [if_pos hcc, if_pos ⟨hb, hcc.symm⟩, hcc]
        · rw [if_neg hcc, if_neg (fun e => hcc e.2.symm)]; exact h1.2 c hc
    · refine Or.inr ⟨g1, ?_, h1.1, fun c hc => ?_⟩
      · show fX8_mostAlike_13 La (f + 1) (nI x) (nI h) (nI (sAlike T V x i h q)) (nI q) g1 = fX8_mostAlike_13 La f (nI x) (nI h) (nI (sAlike T V x i h (q + 1))) (nI (q + 1)) _
        rw [fX8_mostAlike_13, hA, if_neg hb]
        simp (disch := omega) only [l_0, l_1, l_2, l_3, l_4, l_5, l_6, l_7, l_8, l_9, l_10, l_11, l_12, l_13, l_14, l_15, l_16, l_17, l_18, l_19, l_20, l_21, l_22, l_23, l_24, l_25, l_26, l_28, l_29, l_30, l_31, l_32, l_33, l_34, l_36, l_37, l_38, l_39, l_40, l_41, l_42, l_43, l_44, l_45, l_46, l_47, l_48, l_49, l_50, l_53, l_54, l_57, l_58, l_59, l_60, l_61, l_62, l_63, l_91, l_93, l_97, l_98, l_99, l_100, l_103, l_104, l_110, l_112, l_114, l_115, l_116, l_119, l_120, l_121, l_124, l_128, l_231, l_240, l_241, l_255, l_496, l_999, l_1000, l_8191, l_9999, l_10000, l_100000, l_200000, l_1000000, l_1000000000, gz_let_eq, Option.bind_some, ↓reduceIte, wi_wa, wa_at, wa_wa, upd_fI, fI_ap, wa_2, n_add, n_ok, n_cl, n_lt, n_le, n_eq, p_0, p_1, p_01, em_t, nb_0, t_10, n_modd, n_modm, Bool.false_eq_true, not_false_eq_true, not_true, hn, n_bit, hb, fX8_mostAlike_66]
      · rw [hT, if_neg (fun e => hb e.1)]; exact h1.2 c hc
  · intro f g1 h1
    refine ⟨g1, ?_, h1.1⟩
    show fX8_mostAlike_13 La (f + 1) (nI x) (nI h) (nI (sAlike T V x i h 16)) (nI 16) g1 = _
    rw [fX8_mostAlike_13]
    simp (disch := omega) only [l_0, l_1, l_2, l_3, l_4, l_5, l_6, l_7, l_8, l_9, l_10, l_11, l_12, l_13, l_14, l_15, l_16, l_17, l_18, l_19, l_20, l_21, l_22, l_23, l_24, l_25, l_26, l_28, l_29, l_30, l_31, l_32, l_33, l_34, l_36, l_37, l_38, l_39, l_40, l_41, l_42, l_43, l_44, l_45, l_46, l_47, l_48, l_49, l_50, l_53, l_54, l_57, l_58, l_59, l_60, l_61, l_62, l_63, l_91, l_93, l_97, l_98, l_99, l_100, l_103, l_104, l_110, l_112, l_114, l_115, l_116, l_119, l_120, l_121, l_124, l_128, l_231, l_240, l_241, l_255, l_496, l_999, l_1000, l_8191, l_9999, l_10000, l_100000, l_200000, l_1000000, l_1000000000, gz_let_eq, Option.bind_some, ↓reduceIte, wi_wa, wa_at, wa_wa, upd_fI, fI_ap, wa_2, n_add, n_ok, n_cl, n_lt, n_le, n_eq, p_0, p_1, p_01, em_t, nb_0, t_10, n_modd, n_modm, Bool.false_eq_true, not_false_eq_true, not_true, Nat.le_refl]
theorem sBest_le {x i : Nat} : ∀ n, (sBest T V x i n).2 ≤ 17 ∧ ∀ k, (sBest T V x i n).1 = some k → k ≤ n := by
  intro n
  induction n with
  | zero => exact ⟨Nat.le_refl _, fun k hk => by cases hk⟩
  | succ n ih =>
    have hs : sBest T V x i (n + 1) = if sAlike T V x i (n + 1) 16 < (sBest T V x i n).2 then (some (n + 1), sAlike T V x i (n + 1) 16) else sBest T V x i n := rfl
    rw [hs]
    split
    · exact ⟨by have := sAlike_le (T := T) (V := V) (x := x) (i := i) (h := n + 1) 16; show sAlike T V x i (n + 1) 16 ≤ 17; omega, fun k hk => by cases hk; exact Nat.le_refl _⟩
    · exact ⟨ih.1, fun k hk => Nat.le_succ_of_le (ih.2 k hk)⟩
theorem c_bestHour {x i : Nat} (hx : x < 1073741824) (htl : ∀ q k, q < 16 → k < 31 → sTr T V i q k < 30) (ht : ∀ q k, q < 16 → k < 31 → g.1 36 (q * 31 + k) = nI (sTr T V i q k)) :
    ∃ g', fX8_bestHour La (nI x) g = some (oI (if x = 0 then none else (sBest T V x i 30).1), g') ∧ Fr (fun j => j = 37) g g' := by
  unfold fX8_bestHour
  by_cases h0 : x = 0
  · refine ⟨g, ?_, Fr.rf⟩
    unfold gz_FU
    rw [fX8_bestHour_8, if_pos h0]
    simp (disch := omega) only [l_0, l_1, l_2, l_3, l_4, l_5, l_6, l_7, l_8, l_9, l_10, l_11, l_12, l_13, l_14, l_15, l_16, l_17, l_18, l_19, l_20, l_21, l_22, l_23, l_24, l_25, l_26, l_28, l_29, l_30, l_31, l_32, l_33, l_34, l_36, l_37, l_38, l_39, l_40, l_41, l_42, l_43, l_44, l_45, l_46, l_47, l_48, l_49, l_50, l_53, l_54, l_57, l_58, l_59, l_60, l_61, l_62, l_63, l_91, l_93, l_97, l_98, l_99, l_100, l_103, l_104, l_110, l_112, l_114, l_115, l_116, l_119, l_120, l_121, l_124, l_128, l_231, l_240, l_241, l_255, l_496, l_999, l_1000, l_8191, l_9999, l_10000, l_100000, l_200000, l_1000000, l_1000000000, gz_let_eq, Option.bind_some, ↓reduceIte, wi_wa, wa_at, wa_wa, upd_fI, fI_ap, wa_2, n_add, n_ok, n_cl, n_lt, n_le, n_eq, p_0, p_1, p_01, em_t, nb_0, t_10, n_modd, n_modm, Bool.false_eq_true, not_false_eq_true, not_true, h0]
    rfl
  · rw [if_neg h0]
    refine lp (fun f k g1 => fX8_bestHour_8 La f (nI x) (oI (sBest T V x i k).1) (nI (sBest T V x i k).2) (nI (k + 1)) g1)
      (fun _ g1 => Fr (fun j => j = 37) g g1) 30 (fun r => ∃ g', r = some (oI (sBest T V x i 30).1, g') ∧ Fr (fun j => j = 37) g g') ?_ ?_ gz_FU 0 g (by omega) (by unfold gz_FU; omega) Fr.rf
    · intro f k g1 hk h1
      obtain ⟨g2, a1, a2⟩ := c_mostAlike (La := La) (T := T) (V := V) (g := g1) (i := i) hx (h := k + 1) (by omega) (fun q hq => htl q (k + 1) hq (by omega)) (fun q hq => by rw [h1.1 36 (by omega)]; exact ht q (k + 1) hq (by omega))
      have hn : ¬ 30 < k + 1 := by omega
      have b1 := sAlike_le (T := T) (V := V) (x := x) (i := i) (h := k + 1) 16
      have b2 := (sBest_le (T := T) (V := V) (x := x) (i := i) k).1
      have hs : sBest T V x i (k + 1) = if sAlike T V x i (k + 1) 16 < (sBest T V x i k).2 then (some (k + 1), sAlike T V x i (k + 1) 16) else sBest T V x i k := rfl
      refine Or.inr ⟨g2, ?_, h1.tr a2⟩
      show fX8_bestHour_8 La (f + 1) (nI x) (oI (sBest T V x i k).1) (nI (sBest T V x i k).2) (nI (k + 1)) g1 = fX8_bestHour_8 La f (nI x) (oI (sBest T V x i (k + 1)).1) (nI (sBest T V x i (k + 1)).2) (nI (k + 1 + 1)) g2
      rw [fX8_bestHour_8, hs]
      simp (disch := omega) only [l_0, l_1, l_2, l_3, l_4, l_5, l_6, l_7, l_8, l_9, l_10, l_11, l_12, l_13, l_14, l_15, l_16, l_17, l_18, l_19, l_20, l_21, l_22, l_23, l_24, l_25, l_26, l_28, l_29, l_30, l_31, l_32, l_33, l_34, l_36, l_37, l_38, l_39, l_40, l_41, l_42, l_43, l_44, l_45, l_46, l_47, l_48, l_49, l_50, l_53, l_54, l_57, l_58, l_59, l_60, l_61, l_62, l_63, l_91, l_93, l_97, l_98, l_99, l_100, l_103, l_104, l_110, l_112, l_114, l_115, l_116, l_119, l_120, l_121, l_124, l_128, l_231, l_240, l_241, l_255, l_496, l_999, l_1000, l_8191, l_9999, l_10000, l_100000, l_200000, l_1000000, l_1000000000, gz_let_eq, Option.bind_some, ↓reduceIte, wi_wa, wa_at, wa_wa, upd_fI, fI_ap, wa_2, n_add, n_ok, n_cl, n_lt, n_le, n_eq, p_0, p_1, p_01, em_t, nb_0, t_10, n_modd, n_modm, Bool.false_eq_true, not_false_eq_true, not_true, h0, hn, a1, fX8_bestHour_40]
      by_cases hc : sAlike T V x i (k + 1) 16 < (sBest T V x i k).2
      · rw [if_pos hc, if_neg (by omega)]; rfl
      · rw [if_neg hc, if_pos (by omega)]
    · intro f g1 h1
      refine ⟨g1, ?_, h1⟩
      show fX8_bestHour_8 La (f + 1) (nI x) (oI (sBest T V x i 30).1) (nI (sBest T V x i 30).2) (nI (30 + 1)) g1 = _
      rw [fX8_bestHour_8]
      simp (disch := omega) only [l_0, l_1, l_2, l_3, l_4, l_5, l_6, l_7, l_8, l_9, l_10, l_11, l_12, l_13, l_14, l_15, l_16, l_17, l_18, l_19, l_20, l_21, l_22, l_23, l_24, l_25, l_26, l_28, l_29, l_30, l_31, l_32, l_33, l_34, l_36, l_37, l_38, l_39, l_40, l_41, l_42, l_43, l_44, l_45, l_46, l_47, l_48, l_49, l_50, l_53, l_54, l_57, l_58, l_59, l_60, l_61, l_62, l_63, l_91, l_93, l_97, l_98, l_99, l_100, l_103, l_104, l_110, l_112, l_114, l_115, l_116, l_119, l_120, l_121, l_124, l_128, l_231, l_240, l_241, l_255, l_496, l_999, l_1000, l_8191, l_9999, l_10000, l_100000, l_200000, l_1000000, l_1000000000, gz_let_eq, Option.bind_some, ↓reduceIte, wi_wa, wa_at, wa_wa, upd_fI, fI_ap, wa_2, n_add, n_ok, n_cl, n_lt, n_le, n_eq, p_0, p_1, p_01, em_t, nb_0, t_10, n_modd, n_modm, Bool.false_eq_true, not_false_eq_true, not_true, h0, show 30 < 30 + 1 by omega]
theorem c_add (hs : CS g s) {x1 x2 x3 : Nat} (h1 : x1 < 4) (h2 : x2 ≤ 30) (h3 : x3 < 30) :
    ∃ g', fX8_add La (nI x1) (nI x2) (nI x3) g = some (pI (s.1 < 10), g') ∧ Fr (fun j => j = 11 ∨ j = 33 ∨ j = 34 ∨ j = 35) g g' ∧ CS g' (if s.1 < 10 then (s.1 + 1, uN s.2.1 s.1 x1, uN s.2.2.1 s.1 x2, uN s.2.2.2 s.1 x3) else s) := by
  obtain ⟨h0, h10, hk⟩ := hs
  unfold fX8_add
  by_cases hc : s.1 < 10
  · refine ⟨gz_wa (gz_wa (gz_wa (gz_wa g 33 (upd (g.1 33) s.1 (nI x1))) 34 (upd (g.1 34) s.1 (nI x2))) 35 (upd (g.1 35) s.1 (nI x3))) 11 (upd (g.1 11) 0 (nI (s.1 + 1))), ?_, (((Fr.rf.wa (by omega)).wa (by omega)).wa (by omega)).wa (by omega), ?_⟩
    · simp (disch := omega) only [l_0, l_1, l_2, l_3, l_4, l_5, l_6, l_7, l_8, l_9, l_10, l_11, l_12, l_13, l_14, l_15, l_16, l_17, l_18, l_19, l_20, l_21, l_22, l_23, l_24, l_25, l_26, l_28, l_29, l_30, l_31, l_32, l_33, l_34, l_36, l_37, l_38, l_39, l_40, l_41, l_42, l_43, l_44, l_45, l_46, l_47, l_48, l_49, l_50, l_53, l_54, l_57, l_58, l_59, l_60, l_61, l_62, l_63, l_91, l_93, l_97, l_98, l_99, l_100, l_103, l_104, l_110, l_112, l_114, l_115, l_116, l_119, l_120, l_121, l_124, l_128, l_231, l_240, l_241, l_255, l_496, l_999, l_1000, l_8191, l_9999, l_10000, l_100000, l_200000, l_1000000, l_1000000000, gz_let_eq, Option.bind_some, ↓reduceIte, wi_wa, wa_at, wa_wa, upd_fI, fI_ap, wa_2, n_add, n_ok, n_cl, n_lt, n_le, n_eq, p_0, p_1, p_01, em_t, nb_0, t_10, n_modd, n_modm, Bool.false_eq_true, not_false_eq_true, not_true, h0, hc, wa_ne]
      exact p_t trivial
    · rw [if_pos hc]
      refine ⟨by rw [wa_at]; rfl, by show s.1 + 1 ≤ 10; omega, fun k hk' => ?_⟩
      have hk' : k < s.1 + 1 := hk'
      show (_ : gz_S).1 33 k = nI (uN s.2.1 s.1 x1 k) ∧ (_ : gz_S).1 34 k = nI (uN s.2.2.1 s.1 x2 k) ∧ (_ : gz_S).1 35 k = nI (uN s.2.2.2 s.1 x3 k) ∧ uN s.2.1 s.1 x1 k < 4 ∧ uN s.2.2.1 s.1 x2 k ≤ 30 ∧ uN s.2.2.2 s.1 x3 k < 30
      rw [wa_ne (by omega), wa_ne (by omega), wa_ne (by omega), wa_at, wa_ne (by omega), wa_ne (by omega), wa_at, wa_ne (by omega), wa_at]
      unfold upd uN
      by_cases hks : k = s.1
      · rw [if_pos hks, if_pos hks, if_pos hks, if_pos hks, if_pos hks, if_pos hks]
        exact ⟨rfl, rfl, rfl, h1, h2, h3⟩
      · rw [if_neg hks, if_neg hks, if_neg hks, if_neg hks, if_neg hks, if_neg hks]
        exact hk k (by omega)
  · refine ⟨g, ?_, Fr.rf, ?_⟩
    · simp (disch := omega) only [l_0, l_1, l_2, l_3, l_4, l_5, l_6, l_7, l_8, l_9, l_10, l_11, l_12, l_13, l_14, l_15, l_16, l_17, l_18, l_19, l_20, l_21, l_22, l_23, l_24, l_25, l_26, l_28, l_29, l_30, l_31, l_32, l_33, l_34, l_36, l_37, l_38, l_39, l_40, l_41, l_42, l_43, l_44, l_45, l_46, l_47, l_48, l_49, l_50, l_53, l_54, l_57, l_58, l_59, l_60, l_61, l_62, l_63, l_91, l_93, l_97, l_98, l_99, l_100, l_103, l_104, l_110, l_112, l_114, l_115, l_116, l_119, l_120, l_121, l_124, l_128, l_231, l_240, l_241, l_255, l_496, l_999, l_1000, l_8191, l_9999, l_10000, l_100000, l_200000, l_1000000, l_1000000000, gz_let_eq, Option.bind_some, ↓reduceIte, wi_wa, wa_at, wa_wa, upd_fI, fI_ap, wa_2, n_add, n_ok, n_cl, n_lt, n_le, n_eq, p_0, p_1, p_01, em_t, nb_0, t_10, n_modd, n_modm, Bool.false_eq_true, not_false_eq_true, not_true, h0, hc]
      exact p_f id
    · rw [if_neg hc]; exact ⟨h0, h10, hk⟩
end C8
