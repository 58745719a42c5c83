/-! the class reads a law: terms, sums -/
theorem opI_T {o : Option Nat} {t : Int32} (h : opT o = some t) : opI o = t ∧ (t = -nI 13 ∨ t = -nI 14) := by
  refine ⟨by unfold opI; rw [h], ?_⟩
  unfold opT at h
  by_cases h1 : o = some 42
  · rw [if_pos h1] at h; cases h; exact Or.inl rfl
  · rw [if_neg h1] at h
    by_cases h2 : o = some 47
    · rw [if_pos h2] at h; cases h; exact Or.inr rfl
    · rw [if_neg h2] at h; cases h
theorem opI_S {o : Option Nat} {t : Int32} (h : opT o = none) (hs : opS o = some t) : opI o = t ∧ (t = -nI 11 ∨ t = -nI 12) := by
  refine ⟨by unfold opI; rw [h, hs], ?_⟩
  unfold opS at hs
  by_cases h1 : o = some 43
  · rw [if_pos h1] at hs; cases hs; exact Or.inl rfl
  · rw [if_neg h1] at hs
    by_cases h2 : o = some 45
    · rw [if_pos h2] at hs; cases hs; exact Or.inr rfl
    · rw [if_neg h2] at hs; cases hs
theorem opI_N {o : Option Nat} (h : opT o = none) (hs : opS o = none) : opI o = -nI 1 := by unfold opI; rw [h, hs]
theorem opI_nT {o : Option Nat} (h : opT o = none) : ¬ opI o = -nI 13 ∧ ¬ opI o = -nI 14 := by
  cases hs : opS o with
  | none => rw [opI_N h hs]; decide
  | some t =>
    obtain ⟨h1, h2⟩ := opI_S h hs
    rw [h1]
    rcases h2 with h2 | h2 <;> rw [h2] <;> decide
def accC (acc : Option (Int32 × pV)) : List Int32 := match acc with
  | none => []
  | some (_, cv) => cv.1
def accO (acc : Option (Int32 × pV)) : Int32 := match acc with
  | none => -nI 1
  | some (o, _) => o
theorem jA_code (C : List Int32) (acc : Option (Int32 × pV)) (cv : pV) : C ++ (jA acc cv).1 = match acc with
    | none => C ++ accC acc ++ cv.1
    | some (o, _) => C ++ accC acc ++ cv.1 ++ [o] := by
  cases acc with
  | none => unfold jA accC; simp
  | some o => obtain ⟨o, cv0⟩ := o; show C ++ (cv0.1 ++ cv.1 ++ [o]) = C ++ cv0.1 ++ cv.1 ++ [o]; simp
theorem accC_len (acc : Option (Int32 × pV)) : (accC acc).length ≤ accL acc ∧ (acc ≠ none → (accC acc).length + 1 ≤ accL acc) := by
  cases acc with
  | none => exact ⟨Nat.le_refl _, fun h => absurd rfl h⟩
  | some o => obtain ⟨o, cv0⟩ := o; exact ⟨Nat.le_succ _, fun _ => Nat.le_refl _⟩
/-- what is asked of the sums within -/
def SubS (La : gz_L) (b : Nat → Nat) (len r : Nat) (FX : Int32 → gz_S → Option (Int32 × gz_S)) : Prop :=
  ∀ r', r = r' + 1 → ∀ g a C, CT g b len a → CC g C → C.length ≤ nx b len a → RdC (FX (nI (6 - r')) g) g b len C (pSum b len r' (nx b len a))
section C4
variable {La : gz_L} {b : Nat → Nat} {len : Nat}
theorem CT.sg {g : gz_S} {a p c : Nat} (h : CT g b len a) (hs : sg b len p = some c) : c < 256 := by
  have h5 := sg_lt hs
  rw [← h5.2]; exact (h.2.2.2.2 p h5.1).2
theorem c_term {r : Nat} {FX : Int32 → gz_S → Option (Int32 × gz_S)} (hr : r ≤ 6) (hFX : SubS La b len r FX) (K : Int32 → Int32 → Int32 → Int32 → Int32 → gz_S → Option (Int32 × gz_S)) (x2 x3 : Int32) (C : List Int32) :
    ∀ n q j f g1 cv, CT g1 b len q → nx b len q = q → CC g1 (C ++ cv.1) → (C ++ cv.1).length ≤ q → j ≤ q → len - q < n → 240 - j + 1 < f →
      ∃ g' x4 x5, fX4_readSum_33 La FX K f (nI (6 - r)) x2 x3 (nI 1) (opI (sg b len q)) (nI j) g1 = K (nI (6 - r)) x2 x3 x4 x5 g' ∧ Fr FL g1 g' ∧ (∃ a, CT g' b len a ∧ ((pTerm b len (pAt b len r) n q cv).2 ≠ none → a = (pTerm b len (pAt b len r) n q cv).1 ∧ nx b len a = a)) ∧
        ((pTerm b len (pAt b len r) n q cv).2 = none → x4 = nI 0 ∧ g'.1 1 3 = nI (pTerm b len (pAt b len r) n q cv).1 ∧ CE g') ∧
        ∀ cv', (pTerm b len (pAt b len r) n q cv).2 = some cv' → x4 = nI 1 ∧ x5 = opI (sg b len (pTerm b len (pAt b len r) n q cv).1) ∧ opT (sg b len (pTerm b len (pAt b len r) n q cv).1) = none ∧ CC g' (C ++ cv'.1) := by
  intro n
  induction n with
  | zero => intro q j f g1 cv _ _ _ _ _ h; omega
  | succ n ih =>
    intro q j f g1 cv h hq hC hl hj hn hf
    obtain ⟨f', rfl⟩ : ∃ f', f = f' + 1 := ⟨f - 1, by omega⟩
    have h4 := h.2.2.2.1
    have h2 := h.2.2.1
    have hpt : pTerm b len (pAt b len r) (n + 1) q cv = match opT (sg b len q) with | none => (q, some cv) | some op => match pAt b len r (nx b len (q + 1)) with | (q', none) => (q', none) | (q', some cv2) => pTerm b len (pAt b len r) n q' (jV op cv cv2) := rfl
    cases ho : opT (sg b len q) with
    | none =>
      have hno := opI_nT ho
      rw [ho] at hpt
      rw [hpt]
      refine ⟨g1, nI 1, opI (sg b len q), ?_, Fr.rf, ⟨q, h, fun _ => ⟨rfl, hq⟩⟩, (fun e => by cases e), fun cv' e => ?_⟩
      · rw [fX4_readSum_33]
        by_cases h240 : 240 ≤ j
        · simp (disch := omega) only [l_0, l_1, l_2, l_3, l_4, l_5, l_6, l_7, l_8, l_9, l_10, l_11, l_12, l_13, l_14, l_15, l_16, l_17, l_18, l_19, l_20, l_21, l_22, l_23, l_24, l_25, l_26, l_28, l_29, l_30, l_31, l_32, l_33, l_34, l_36, l_37, l_38, l_39, l_40, l_41, l_42, l_43, l_44, l_45, l_46, l_47, l_48, l_49, l_50, l_53, l_54, l_57, l_58, l_59, l_60, l_61, l_62, l_63, l_91, l_93, l_97, l_98, l_99, l_100, l_103, l_104, l_110, l_112, l_114, l_115, l_116, l_119, l_120, l_121, l_124, l_128, l_231, l_240, l_241, l_255, l_496, l_999, l_1000, l_8191, l_9999, l_10000, l_100000, l_200000, l_1000000, l_1000000000, ↓reduceIte, n_add, n_ok, n_cl, n_lt, n_le, n_eq, p_0, p_1, p_01, h240]
        · simp (disch := omega) only [l_0, l_1, l_2, l_3, l_4, l_5, l_6, l_7, l_8, l_9, l_10, l_11, l_12, l_13, l_14, l_15, l_16, l_17, l_18, l_19, l_20, l_21, l_22, l_23, l_24, l_25, l_26, l_28, l_29, l_30, l_31, l_32, l_33, l_34, l_36, l_37, l_38, l_39, l_40, l_41, l_42, l_43, l_44, l_45, l_46, l_47, l_48, l_49, l_50, l_53, l_54, l_57, l_58, l_59, l_60, l_61, l_62, l_63, l_91, l_93, l_97, l_98, l_99, l_100, l_103, l_104, l_110, l_112, l_114, l_115, l_116, l_119, l_120, l_121, l_124, l_128, l_231, l_240, l_241, l_255, l_496, l_999, l_1000, l_8191, l_9999, l_10000, l_100000, l_200000, l_1000000, l_1000000000, ↓reduceIte, n_add, n_ok, n_cl, n_lt, n_le, n_eq, p_0, p_1, p_01, h240, t_10, hno.1, hno.2]
      · cases e; exact ⟨rfl, rfl, ho, hC⟩
    | some op =>
      rw [ho] at hpt
      have hlt := opT_lt ho
      obtain ⟨e1, e2⟩ := opI_T ho
      have hn240 : ¬ 240 ≤ j := by omega
      have hx := nx_le (b := b) (show q + 1 ≤ len by omega)
      have hcode : fX4_readSum_33 La FX K (f' + 1) (nI (6 - r)) x2 x3 (nI 1) op (nI j) g1 = fX4_readSum_60 La FX (fX4_readSum_33 La FX K f') (nI (6 - r)) x2 x3 op (nI j) g1 := by
        rw [fX4_readSum_33]
        rcases e2 with e2 | e2 <;> subst e2
        · simp (disch := omega) only [l_0, l_1, l_2, l_3, l_4, l_5, l_6, l_7, l_8, l_9, l_10, l_11, l_12, l_13, l_14, l_15, l_16, l_17, l_18, l_19, l_20, l_21, l_22, l_23, l_24, l_25, l_26, l_28, l_29, l_30, l_31, l_32, l_33, l_34, l_36, l_37, l_38, l_39, l_40, l_41, l_42, l_43, l_44, l_45, l_46, l_47, l_48, l_49, l_50, l_53, l_54, l_57, l_58, l_59, l_60, l_61, l_62, l_63, l_91, l_93, l_97, l_98, l_99, l_100, l_103, l_104, l_110, l_112, l_114, l_115, l_116, l_119, l_120, l_121, l_124, l_128, l_231, l_240, l_241, l_255, l_496, l_999, l_1000, l_8191, l_9999, l_10000, l_100000, l_200000, l_1000000, l_1000000000, ↓reduceIte, n_add, n_ok, n_cl, n_lt, n_le, n_eq, p_0, p_1, p_01, hn240, t_10]
        · simp (disch := omega) only [l_0, l_1, l_2, l_3, l_4, l_5, l_6, l_7, l_8, l_9, l_10, l_11, l_12, l_13, l_14, l_15, l_16, l_17, l_18, l_19, l_20, l_21, l_22, l_23, l_24, l_25, l_26, l_28, l_29, l_30, l_31, l_32, l_33, l_34, l_36, l_37, l_38, l_39, l_40, l_41, l_42, l_43, l_44, l_45, l_46, l_47, l_48, l_49, l_50, l_53, l_54, l_57, l_58, l_59, l_60, l_61, l_62, l_63, l_91, l_93, l_97, l_98, l_99, l_100, l_103, l_104, l_110, l_112, l_114, l_115, l_116, l_119, l_120, l_121, l_124, l_128, l_231, l_240, l_241, l_255, l_496, l_999, l_1000, l_8191, l_9999, l_10000, l_100000, l_200000, l_1000000, l_1000000000, ↓reduceIte, n_add, n_ok, n_cl, n_lt, n_le, n_eq, p_0, p_1, p_01, hn240, t_10, ng_eq, show ¬ 14 = 13 by omega]
      have h60 : fX4_readSum_60 La FX (fX4_readSum_33 La FX K f') (nI (6 - r)) x2 x3 op (nI j) g1 = (fX4_readAtom La FX (nI (6 - r)) (st g1 (q + 1))).bind (fun q75 => (fX4_put La op q75.2).bind (fun q83 => (fX9_next La q83).bind (fun q90 => (fX4_joining La q90.1 q90.2).bind (fun q93 => fX4_readSum_33 La FX K f' (nI (6 - r)) x2 x3 q75.1 q93.1 (nI (j + 1)) q93.2)))) := by
        unfold fX4_readSum_60
        simp (disch := omega) only [l_0, l_1, l_2, l_3, l_4, l_5, l_6, l_7, l_8, l_9, l_10, l_11, l_12, l_13, l_14, l_15, l_16, l_17, l_18, l_19, l_20, l_21, l_22, l_23, l_24, l_25, l_26, l_28, l_29, l_30, l_31, l_32, l_33, l_34, l_36, l_37, l_38, l_39, l_40, l_41, l_42, l_43, l_44, l_45, l_46, l_47, l_48, l_49, l_50, l_53, l_54, l_57, l_58, l_59, l_60, l_61, l_62, l_63, l_91, l_93, l_97, l_98, l_99, l_100, l_103, l_104, l_110, l_112, l_114, l_115, l_116, l_119, l_120, l_121, l_124, l_128, l_231, l_240, l_241, l_255, l_496, l_999, l_1000, l_8191, l_9999, l_10000, l_100000, l_200000, l_1000000, l_1000000000, ↓reduceIte, n_add, n_ok, n_cl, n_lt, n_le, n_eq, p_0, p_1, p_01, gz_let_eq, h.2.1, wi_st]
      have hat := c_readAtom (La := La) hr hFX (h.st (p := q + 1) (by omega)) hC.st (by omega)
      rw [e1, hcode, h60]
      obtain ⟨g2, s1, ⟨a2, s2, s2'⟩, s3, s4⟩ := hat
      have hF2 : Fr FL g1 g2 := (st_fr Fr.rf (Or.inl rfl)).tr s1
      have hgood := pAt_good (b := b) (r := r) hx.2
      have hlen := pAt_len (b := b) (r := r) hx.2
      cases hA : pAt b len r (nx b len (q + 1)) with
      | mk q' o =>
        rw [hA] at hpt s2' s3 s4 hgood hlen
        cases o with
        | none =>
          have hpt : pTerm b len (pAt b len r) (n + 1) q cv = (q', none) := hpt
          rw [hpt]
          obtain ⟨k1, k2, k3⟩ := s3 rfl
          obtain ⟨g3, p1, p2, p3⟩ := c_putE (La := La) (x := op) k3
          have hc3 : CT g3 b len a2 := s2.fr p2 (by omega) (by omega)
          have hn3 := c_next (La := La) hc3
          have hx3 := nx_le (b := b) hc3.2.2.1
          have hjo := c_joining (La := La) (g := st g3 (nx b len a2)) (o := sg b len (nx b len a2)) (fun c hc => hc3.sg hc)
          refine ⟨st g3 (nx b len a2), nI 0, opI (sg b len (nx b len a2)), ?_, st_fr (hF2.tr (p2.mo (fun j hj => Or.inr hj))) (Or.inl rfl), ⟨_, hc3.st hx3.2, fun e => absurd rfl e⟩, fun _ => ⟨rfl, ?_, p3.st⟩, fun cv e => by cases e⟩
          · obtain ⟨f'', rfl⟩ : ∃ f'', f' = f'' + 1 := ⟨f' - 1, by omega⟩
            rw [k1]
            simp only [Option.bind_some, p1, hn3, hjo]
            rw [fX4_readSum_33]
            by_cases h240 : 240 ≤ j + 1
            · simp (disch := omega) only [l_0, l_1, l_2, l_3, l_4, l_5, l_6, l_7, l_8, l_9, l_10, l_11, l_12, l_13, l_14, l_15, l_16, l_17, l_18, l_19, l_20, l_21, l_22, l_23, l_24, l_25, l_26, l_28, l_29, l_30, l_31, l_32, l_33, l_34, l_36, l_37, l_38, l_39, l_40, l_41, l_42, l_43, l_44, l_45, l_46, l_47, l_48, l_49, l_50, l_53, l_54, l_57, l_58, l_59, l_60, l_61, l_62, l_63, l_91, l_93, l_97, l_98, l_99, l_100, l_103, l_104, l_110, l_112, l_114, l_115, l_116, l_119, l_120, l_121, l_124, l_128, l_231, l_240, l_241, l_255, l_496, l_999, l_1000, l_8191, l_9999, l_10000, l_100000, l_200000, l_1000000, l_1000000000, ↓reduceIte, n_add, n_ok, n_cl, n_lt, n_le, n_eq, p_0, p_1, p_01, h240]
            · simp (disch := omega) only [l_0, l_1, l_2, l_3, l_4, l_5, l_6, l_7, l_8, l_9, l_10, l_11, l_12, l_13, l_14, l_15, l_16, l_17, l_18, l_19, l_20, l_21, l_22, l_23, l_24, l_25, l_26, l_28, l_29, l_30, l_31, l_32, l_33, l_34, l_36, l_37, l_38, l_39, l_40, l_41, l_42, l_43, l_44, l_45, l_46, l_47, l_48, l_49, l_50, l_53, l_54, l_57, l_58, l_59, l_60, l_61, l_62, l_63, l_91, l_93, l_97, l_98, l_99, l_100, l_103, l_104, l_110, l_112, l_114, l_115, l_116, l_119, l_120, l_121, l_124, l_128, l_231, l_240, l_241, l_255, l_496, l_999, l_1000, l_8191, l_9999, l_10000, l_100000, l_200000, l_1000000, l_1000000000, ↓reduceIte, n_add, n_ok, n_cl, n_lt, n_le, n_eq, p_0, p_1, p_01, h240]
          · rw [st_f (by omega), p2.1 1 (by omega)]; exact k2
        | some cv2 =>
          have hpt : pTerm b len (pAt b len r) (n + 1) q cv = pTerm b len (pAt b len r) n q' (jV op cv cv2) := hpt
          rw [hpt]
          obtain ⟨k1, k2⟩ := s4 cv2 rfl
          have a2q : nx b len a2 = q' := s2' (by simp)
          have hq'l : q' ≤ len := hgood.2.1
          have hq'g : nx b len (q + 1) < q' := hgood.2.2 cv2 rfl
          have hln : cv2.1.length + nx b len (q + 1) ≤ q' := hlen cv2 rfl
          have hll : (C ++ cv.1 ++ cv2.1).length = (C ++ cv.1).length + cv2.1.length := List.length_append
          obtain ⟨g3, p1, p2, p3⟩ := c_putC (La := La) (x := op) k2 (by omega)
          have hc3 : CT g3 b len a2 := s2.fr p2 (by omega) (by omega)
          have hn3 := c_next (La := La) hc3
          rw [a2q] at hn3
          have hjo := c_joining (La := La) (g := st g3 q') (o := sg b len q') (fun c hc => hc3.sg hc)
          have hcode2 : C ++ cv.1 ++ cv2.1 ++ [op] = C ++ (jV op cv cv2).1 := by unfold jV; simp
          rw [hcode2] at p3
          have hq'n : nx b len q' = q' := by rw [← a2q]; exact nx_nx
          have hl3 : (C ++ (jV op cv cv2).1).length ≤ q' := by
            rw [← hcode2, List.length_append, hll]; show _ + 1 ≤ q'; omega
          obtain ⟨g4, x4, x5, t1, t2, t3, t4, t5⟩ := ih q' (j + 1) f' (st g3 q') (jV op cv cv2) (hc3.st hq'l) hq'n p3.st hl3 (by omega) (by omega) (by omega)
          refine ⟨g4, x4, x5, ?_, (st_fr (hF2.tr (p2.mo (fun j hj => Or.inr hj))) (Or.inl rfl)).tr t2, t3, t4, t5⟩
          rw [k1]
          simp only [Option.bind_some, p1, hn3, hjo]
          exact t1
theorem c_sumL {r : Nat} {FX : Int32 → gz_S → Option (Int32 × gz_S)} (hr : r ≤ 6) (hFX : SubS La b len r FX) (K : gz_S → Option (Int32 × gz_S)) (C : List Int32) :
    ∀ n p i f g1 a1 acc, CT g1 b len a1 → nx b len a1 = p → CC g1 (C ++ accC acc) → C.length + accL acc ≤ p → (acc ≠ none → accO acc = -nI 11 ∨ accO acc = -nI 12) → i * 2 ≤ p → len - p < n → 240 - i + 1 < f →
      RdC (fX4_readSum_4 La FX K f (nI (6 - r)) (accO acc) (nI i) g1) g1 b len C (pSumL b len (pAt b len r) n p acc) := by
  intro n
  induction n with
  | zero => intro p i f g1 a1 acc _ _ _ _ _ _ h; omega
  | succ n ih =>
    intro p i f g1 a1 acc h hp hC hl hacc hi hn hf
    obtain ⟨f', rfl⟩ : ∃ f', f = f' + 1 := ⟨f - 1, by omega⟩
    have h4 := h.2.2.2.1
    have hx := nx_le (b := b) h.2.2.1
    rw [hp] at hx
    have hacl := accC_len acc
    have hll : (C ++ accC acc).length = C.length + (accC acc).length := List.length_append
    have hn240 : ¬ 240 ≤ i := by omega
    have hat := c_readAtom (La := La) hr hFX h hC (by omega)
    rw [hp] at hat
    obtain ⟨g2, s1, ⟨a2, s2, s2'⟩, s3, s4⟩ := hat
    have hgood := pAt_good (b := b) (r := r) hx.2
    have hlen := pAt_len (b := b) (r := r) hx.2
    have hps : pSumL b len (pAt b len r) (n + 1) p acc = match pAt b len r p with | (q, none) => (q, none) | (q, some cv) => match pTerm b len (pAt b len r) (len + 1) q cv with | (q2, none) => (q2, none) | (q2, some cv2) => match opS (sg b len q2) with | none => (q2, some (jA acc cv2)) | some op => pSumL b len (pAt b len r) n (nx b len (q2 + 1)) (some (op, jA acc cv2)) := rfl
    have hcode : fX4_readSum_4 La FX K (f' + 1) (nI (6 - r)) (accO acc) (nI i) g1 = (fX4_readAtom La FX (nI (6 - r)) g1).bind (fun q13 => (fX9_next La q13.2).bind (fun q22 => (fX4_joining La q22.1 q22.2).bind (fun q25 => fX4_readSum_33 La FX (fX4_readSum_104 La FX (fX4_readSum_4 La FX K f')) gz_FU (nI (6 - r)) (accO acc) (nI i) q13.1 q25.1 (nI 0) q25.2))) := by
      rw [fX4_readSum_4]
      simp (disch := omega) only [l_0, l_1, l_2, l_3, l_4, l_5, l_6, l_7, l_8, l_9, l_10, l_11, l_12, l_13, l_14, l_15, l_16, l_17, l_18, l_19, l_20, l_21, l_22, l_23, l_24, l_25, l_26, l_28, l_29, l_30, l_31, l_32, l_33, l_34, l_36, l_37, l_38, l_39, l_40, l_41, l_42, l_43, l_44, l_45, l_46, l_47, l_48, l_49, l_50, l_53, l_54, l_57, l_58, l_59, l_60, l_61, l_62, l_63, l_91, l_93, l_97, l_98, l_99, l_100, l_103, l_104, l_110, l_112, l_114, l_115, l_116, l_119, l_120, l_121, l_124, l_128, l_231, l_240, l_241, l_255, l_496, l_999, l_1000, l_8191, l_9999, l_10000, l_100000, l_200000, l_1000000, l_1000000000, ↓reduceIte, n_add, n_ok, n_cl, n_lt, n_le, n_eq, p_0, p_1, p_01, hn240]
    rw [hcode]
    -- a fault: what is put behind it doesn't matter
    have fin0 : ∀ g3 q x5, Fr FL g1 g3 → (∃ a, CT g3 b len a) → g3.1 1 3 = nI q → CE g3 → RdC (fX4_readSum_104 La FX (fX4_readSum_4 La FX K f') (nI (6 - r)) (accO acc) (nI i) (nI 0) x5 g3) g1 b len C (q, none) := by
      intro g3 q x5 hF hct h13 hce
      have h114 : ∀ g4, fX4_readSum_114 La FX (fX4_readSum_4 La FX K f') (nI (6 - r)) (nI i) (nI 0) x5 g4 = some (nI 0, g4) := by
        intro g4
        unfold fX4_readSum_114
        simp only [l_0, l_1, l_2, l_3, l_4, l_5, l_6, l_7, l_8, l_9, l_10, l_11, l_12, l_13, l_14, l_15, l_16, l_17, l_18, l_19, l_20, l_21, l_22, l_23, l_24, l_25, l_26, l_28, l_29, l_30, l_31, l_32, l_33, l_34, l_36, l_37, l_38, l_39, l_40, l_41, l_42, l_43, l_44, l_45, l_46, l_47, l_48, l_49, l_50, l_53, l_54, l_57, l_58, l_59, l_60, l_61, l_62, l_63, l_91, l_93, l_97, l_98, l_99, l_100, l_103, l_104, l_110, l_112, l_114, l_115, l_116, l_119, l_120, l_121, l_124, l_128, l_231, l_240, l_241, l_255, l_496, l_999, l_1000, l_8191, l_9999, l_10000, l_100000, l_200000, l_1000000, l_1000000000, ↓reduceIte]
        exact if_pos (Or.inl trivial)
      by_cases ha : accO acc = -nI 1
      · obtain ⟨a3, hc3⟩ := hct
        refine ⟨g3, hF, ⟨a3, hc3, fun e => absurd rfl e⟩, fun _ => ⟨?_, h13, hce⟩, fun cv e => by cases e⟩
        unfold fX4_readSum_104
        simp only [l_0, l_1, l_2, l_3, l_4, l_5, l_6, l_7, l_8, l_9, l_10, l_11, l_12, l_13, l_14, l_15, l_16, l_17, l_18, l_19, l_20, l_21, l_22, l_23, l_24, l_25, l_26, l_28, l_29, l_30, l_31, l_32, l_33, l_34, l_36, l_37, l_38, l_39, l_40, l_41, l_42, l_43, l_44, l_45, l_46, l_47, l_48, l_49, l_50, l_53, l_54, l_57, l_58, l_59, l_60, l_61, l_62, l_63, l_91, l_93, l_97, l_98, l_99, l_100, l_103, l_104, l_110, l_112, l_114, l_115, l_116, l_119, l_120, l_121, l_124, l_128, l_231, l_240, l_241, l_255, l_496, l_999, l_1000, l_8191, l_9999, l_10000, l_100000, l_200000, l_1000000, l_1000000000, ↓reduceIte, ha, h114]
      · obtain ⟨g4, p1, p2, p3⟩ := c_putE (La := La) (x := accO acc) hce
        obtain ⟨a3, hc3⟩ := hct
        refine ⟨g4, hF.tr (p2.mo (fun j hj => Or.inr hj)), ⟨a3, hc3.fr p2 (by omega) (by omega), fun e => absurd rfl e⟩, fun _ => ⟨?_, by rw [p2.1 1 (by omega)]; exact h13, p3⟩, fun cv e => by cases e⟩
        unfold fX4_readSum_104
        simp only [l_0, l_1, l_2, l_3, l_4, l_5, l_6, l_7, l_8, l_9, l_10, l_11, l_12, l_13, l_14, l_15, l_16, l_17, l_18, l_19, l_20, l_21, l_22, l_23, l_24, l_25, l_26, l_28, l_29, l_30, l_31, l_32, l_33, l_34, l_36, l_37, l_38, l_39, l_40, l_41, l_42, l_43, l_44, l_45, l_46, l_47, l_48, l_49, l_50, l_53, l_54, l_57, l_58, l_59, l_60, l_61, l_62, l_63, l_91, l_93, l_97, l_98, l_99, l_100, l_103, l_104, l_110, l_112, l_114, l_115, l_116, l_119, l_120, l_121, l_124, l_128, l_231, l_240, l_241, l_255, l_496, l_999, l_1000, l_8191, l_9999, l_10000, l_100000, l_200000, l_1000000, l_1000000000, ↓reduceIte, ha, p1, Option.bind_some, h114]
    cases hA : pAt b len r p with
    | mk q o =>
      rw [hA] at hps s2' s3 s4 hgood hlen
      cases o with
      | none =>
        have hps : pSumL b len (pAt b len r) (n + 1) p acc = (q, none) := hps
        rw [hps]
        obtain ⟨k1, k2, k3⟩ := s3 rfl
        have hn3 := c_next (La := La) s2
        have hx3 := nx_le (b := b) s2.2.2.1
        have hjo := c_joining (La := La) (g := st g2 (nx b len a2)) (o := sg b len (nx b len a2)) (fun c hc => s2.sg hc)
        have := fin0 (st g2 (nx b len a2)) q (opI (sg b len (nx b len a2))) (st_fr s1 (Or.inl rfl)) ⟨_, s2.st hx3.2⟩ (by rw [st_f (by omega)]; exact k2) k3.st
        rw [k1]
        simp only [Option.bind_some, hn3, hjo]
        obtain ⟨f2, hf2⟩ : ∃ f2, gz_FU = f2 + 1 := ⟨99999, rfl⟩
        rw [hf2, fX4_readSum_33]
        simp (disch := omega) only [l_0, l_1, l_2, l_3, l_4, l_5, l_6, l_7, l_8, l_9, l_10, l_11, l_12, l_13, l_14, l_15, l_16, l_17, l_18, l_19, l_20, l_21, l_22, l_23, l_24, l_25, l_26, l_28, l_29, l_30, l_31, l_32, l_33, l_34, l_36, l_37, l_38, l_39, l_40, l_41, l_42, l_43, l_44, l_45, l_46, l_47, l_48, l_49, l_50, l_53, l_54, l_57, l_58, l_59, l_60, l_61, l_62, l_63, l_91, l_93, l_97, l_98, l_99, l_100, l_103, l_104, l_110, l_112, l_114, l_115, l_116, l_119, l_120, l_121, l_124, l_128, l_231, l_240, l_241, l_255, l_496, l_999, l_1000, l_8191, l_9999, l_10000, l_100000, l_200000, l_1000000, l_1000000000, ↓reduceIte, n_add, n_ok, n_cl, n_lt, n_le, n_eq, p_0, p_1, p_01, show ¬ 240 ≤ 0 by omega]
        exact this
      | some cv =>
        obtain ⟨k1, k2⟩ := s4 cv rfl
        have a2q : nx b len a2 = q := s2' (by simp)
        have hql : q ≤ len := hgood.2.1
        have hqg : p < q := hgood.2.2 cv rfl
        have hln : cv.1.length + p ≤ q := hlen cv rfl
        have hn3 := c_next (La := La) s2
        rw [a2q] at hn3
        have hjo := c_joining (La := La) (g := st g2 q) (o := sg b len q) (fun c hc => s2.sg hc)
        have hqn : nx b len q = q := by rw [← a2q]; exact nx_nx
        have hl3 : (C ++ accC acc ++ cv.1).length ≤ q := by rw [List.length_append, hll]; omega
        obtain ⟨g4, x4, x5, t1, t2, ⟨a4, t3, t3'⟩, t4, t5⟩ := c_term hr hFX (fX4_readSum_104 La FX (fX4_readSum_4 La FX K f')) (accO acc) (nI i) (C ++ accC acc) (len + 1) q 0 gz_FU (st g2 q) cv (s2.st hql) hqn k2.st hl3 (by omega) (by omega) (by unfold gz_FU; omega)
        have hF4 : Fr FL g1 g4 := (st_fr s1 (Or.inl rfl)).tr t2
        have hpg := pTerm_good (b := b) (len := len) (at0 := pAt b len r) (fun p hp => pAt_good hp) (len + 1) q cv hql (by omega)
        have hpl := pTerm_len (b := b) (len := len) (at0 := pAt b len r) (fun p hp => ⟨pAt_good hp, pAt_len hp⟩) (len + 1) q cv hql (by omega)
        rw [k1]
        simp only [Option.bind_some, hn3, hjo]
        rw [t1]
        cases hT : pTerm b len (pAt b len r) (len + 1) q cv with
        | mk q2 o2 =>
          rw [hT] at t3' t4 t5 hpg hpl
          have hps : pSumL b len (pAt b len r) (n + 1) p acc = match pTerm b len (pAt b len r) (len + 1) q cv with | (q2, none) => (q2, none) | (q2, some cv2) => match opS (sg b len q2) with | none => (q2, some (jA acc cv2)) | some op => pSumL b len (pAt b len r) n (nx b len (q2 + 1)) (some (op, jA acc cv2)) := hps
          rw [hT] at hps
          cases o2 with
          | none =>
            have hps : pSumL b len (pAt b len r) (n + 1) p acc = (q2, none) := hps
            rw [hps]
            obtain ⟨j1, j2, j3⟩ := t4 rfl
            rw [j1]
            exact fin0 g4 q2 x5 hF4 ⟨a4, t3⟩ j2 j3
          | some cv2 =>
            obtain ⟨j1, j2, j3, j4⟩ := t5 cv2 rfl
            obtain ⟨a4q, a4n⟩ := t3' (by simp)
            have a4q : a4 = q2 := a4q
            subst a4q
            have j2 : x5 = opI (sg b len a4) := j2
            have j3 : opT (sg b len a4) = none := j3
            have hq2l : a4 ≤ len := hpg.2
            have hq2g : q ≤ a4 := hpg.1
            have hln2 : cv2.1.length + q ≤ a4 + cv.1.length := hpl cv2 rfl
            have hps : pSumL b len (pAt b len r) (n + 1) p acc = match opS (sg b len a4) with | none => (a4, some (jA acc cv2)) | some op => pSumL b len (pAt b len r) n (nx b len (a4 + 1)) (some (op, jA acc cv2)) := hps
            rw [hps, j1]
            -- the sign ahead of the term goes behind it
            have hput : ∃ g5, fX4_readSum_104 La FX (fX4_readSum_4 La FX K f') (nI (6 - r)) (accO acc) (nI i) (nI 1) x5 g4 = fX4_readSum_114 La FX (fX4_readSum_4 La FX K f') (nI (6 - r)) (nI i) (nI 1) x5 g5 ∧ Fr (fun j => j = 3 ∨ j = 19) g4 g5 ∧ CC g5 (C ++ (jA acc cv2).1) := by
              cases hacc' : acc with
              | none =>
                refine ⟨g4, ?_, Fr.rf, ?_⟩
                · unfold fX4_readSum_104
                  have e : accO none = -nI 1 := rfl
                  simp only [l_0, l_1, l_2, l_3, l_4, l_5, l_6, l_7, l_8, l_9, l_10, l_11, l_12, l_13, l_14, l_15, l_16, l_17, l_18, l_19, l_20, l_21, l_22, l_23, l_24, l_25, l_26, l_28, l_29, l_30, l_31, l_32, l_33, l_34, l_36, l_37, l_38, l_39, l_40, l_41, l_42, l_43, l_44, l_45, l_46, l_47, l_48, l_49, l_50, l_53, l_54, l_57, l_58, l_59, l_60, l_61, l_62, l_63, l_91, l_93, l_97, l_98, l_99, l_100, l_103, l_104, l_110, l_112, l_114, l_115, l_116, l_119, l_120, l_121, l_124, l_128, l_231, l_240, l_241, l_255, l_496, l_999, l_1000, l_8191, l_9999, l_10000, l_100000, l_200000, l_1000000, l_1000000000, ↓reduceIte, e]
                · have e := jA_code C acc cv2
                  rw [hacc'] at e j4
                  rw [e]; exact j4
              | some oc =>
                obtain ⟨o, cv0⟩ := oc
                have hne : ¬ accO acc = -nI 1 := by
                  rcases hacc (by rw [hacc']; simp) with e | e <;> rw [e] <;> decide
                have hl5 : (C ++ accC acc ++ cv2.1).length < 240 := by
                  have := hacl.2 (by rw [hacc']; simp)
                  rw [List.length_append, hll]; omega
                obtain ⟨g5, p1, p2, p3⟩ := c_putC (La := La) (x := accO acc) j4 hl5
                rw [← hacc']
                refine ⟨g5, ?_, p2, ?_⟩
                · unfold fX4_readSum_104
                  simp only [l_0, l_1, l_2, l_3, l_4, l_5, l_6, l_7, l_8, l_9, l_10, l_11, l_12, l_13, l_14, l_15, l_16, l_17, l_18, l_19, l_20, l_21, l_22, l_23, l_24, l_25, l_26, l_28, l_29, l_30, l_31, l_32, l_33, l_34, l_36, l_37, l_38, l_39, l_40, l_41, l_42, l_43, l_44, l_45, l_46, l_47, l_48, l_49, l_50, l_53, l_54, l_57, l_58, l_59, l_60, l_61, l_62, l_63, l_91, l_93, l_97, l_98, l_99, l_100, l_103, l_104, l_110, l_112, l_114, l_115, l_116, l_119, l_120, l_121, l_124, l_128, l_231, l_240, l_241, l_255, l_496, l_999, l_1000, l_8191, l_9999, l_10000, l_100000, l_200000, l_1000000, l_1000000000, ↓reduceIte, hne, p1, Option.bind_some]
                · have e := jA_code C acc cv2
                  rw [hacc'] at e p3 ⊢
                  rw [e]; exact p3
            obtain ⟨g5, h5, hF5, hC5⟩ := hput
            have hc5 : CT g5 b len a4 := t3.fr hF5 (by omega) (by omega)
            have hF5' : Fr FL g1 g5 := hF4.tr (hF5.mo (fun j hj => Or.inr hj))
            rw [h5]
            cases hS : opS (sg b len a4) with
            | none =>
              refine ⟨g5, hF5', ⟨a4, hc5, fun _ => a4n⟩, (fun e => by cases e), fun cv' e => ?_⟩
              cases e
              refine ⟨?_, hC5⟩
              rw [j2, opI_N j3 hS]
              unfold fX4_readSum_114
              simp (disch := omega) only [l_0, l_1, l_2, l_3, l_4, l_5, l_6, l_7, l_8, l_9, l_10, l_11, l_12, l_13, l_14, l_15, l_16, l_17, l_18, l_19, l_20, l_21, l_22, l_23, l_24, l_25, l_26, l_28, l_29, l_30, l_31, l_32, l_33, l_34, l_36, l_37, l_38, l_39, l_40, l_41, l_42, l_43, l_44, l_45, l_46, l_47, l_48, l_49, l_50, l_53, l_54, l_57, l_58, l_59, l_60, l_61, l_62, l_63, l_91, l_93, l_97, l_98, l_99, l_100, l_103, l_104, l_110, l_112, l_114, l_115, l_116, l_119, l_120, l_121, l_124, l_128, l_231, l_240, l_241, l_255, l_496, l_999, l_1000, l_8191, l_9999, l_10000, l_100000, l_200000, l_1000000, l_1000000000, ↓reduceIte, n_add, n_ok, n_cl, n_lt, n_le, n_eq, p_0, p_1, p_01, t_10]
              exact if_pos (Or.inr trivial)
            | some op =>
              obtain ⟨e1, e2⟩ := opI_S j3 hS
              have hlt := opS_lt hS
              have hx6 := nx_le (b := b) (show a4 + 1 ≤ len by omega)
              have hjl := jA_len acc cv2
              have hrec := ih (nx b len (a4 + 1)) (i + 1) f' (st g5 (a4 + 1)) (a4 + 1) (some (op, jA acc cv2)) (hc5.st (by omega)) rfl hC5.st (by show C.length + ((jA acc cv2).1.length + 1) ≤ _; omega) (fun _ => e2) (by omega) (by omega) (by omega)
              have h114 : fX4_readSum_114 La FX (fX4_readSum_4 La FX K f') (nI (6 - r)) (nI i) (nI 1) x5 g5 = fX4_readSum_4 La FX K f' (nI (6 - r)) (accO (some (op, jA acc cv2))) (nI (i + 1)) (st g5 (a4 + 1)) := by
                have hne : ¬ op = -nI 1 := by rcases e2 with e | e <;> rw [e] <;> decide
                have e3 : accO (some (op, jA acc cv2)) = op := rfl
                rw [j2, e1, e3]
                unfold fX4_readSum_114
                simp (disch := omega) only [l_0, l_1, l_2, l_3, l_4, l_5, l_6, l_7, l_8, l_9, l_10, l_11, l_12, l_13, l_14, l_15, l_16, l_17, l_18, l_19, l_20, l_21, l_22, l_23, l_24, l_25, l_26, l_28, l_29, l_30, l_31, l_32, l_33, l_34, l_36, l_37, l_38, l_39, l_40, l_41, l_42, l_43, l_44, l_45, l_46, l_47, l_48, l_49, l_50, l_53, l_54, l_57, l_58, l_59, l_60, l_61, l_62, l_63, l_91, l_93, l_97, l_98, l_99, l_100, l_103, l_104, l_110, l_112, l_114, l_115, l_116, l_119, l_120, l_121, l_124, l_128, l_231, l_240, l_241, l_255, l_496, l_999, l_1000, l_8191, l_9999, l_10000, l_100000, l_200000, l_1000000, l_1000000000, ↓reduceIte, n_add, n_ok, n_cl, n_lt, n_le, n_eq, p_0, p_1, p_01, t_10, hne, gz_let_eq, hc5.2.1, wi_st]
              rw [h114]
              obtain ⟨g6, u1, u2, u3, u4⟩ := hrec
              exact ⟨g6, (st_fr hF5' (Or.inl rfl)).tr u1, u2, u3, u4⟩
theorem c_readSum {r : Nat} {FX : Int32 → gz_S → Option (Int32 × gz_S)} (hr : r ≤ 6) (hFX : SubS La b len r FX) {g : gz_S} {a : Nat} {C : List Int32} (h : CT g b len a) (hC : CC g C) (hl : C.length ≤ nx b len a) :
    RdC (fX4_readSum La FX (nI (6 - r)) g) g b len C (pSum b len r (nx b len a)) := by
  rw [pSum_eq]
  unfold fX4_readSum
  exact c_sumL hr hFX _ C (len + 1) (nx b len a) 0 gz_FU g a none h rfl (by show CC g (C ++ []); rw [List.append_nil]; exact hC) (by show C.length + 0 ≤ _; omega) (fun e => absurd rfl e) (by omega) (by have := (nx_le (b := b) h.2.2.1); omega) (by unfold gz_FU; omega)
theorem c_readSumD : ∀ r D, r ≤ 6 → r < D → ∀ g a C, CT g b len a → CC g C → C.length ≤ nx b len a → RdC (fX4_readSumD La D (nI (6 - r)) g) g b len C (pSum b len r (nx b len a)) := by
  intro r
  induction r with
  | zero =>
    intro D hr hD g a C h hC hl
    obtain ⟨D', rfl⟩ : ∃ D', D = D' + 1 := ⟨D - 1, by omega⟩
    exact c_readSum (La := La) (FX := fX4_readSumD La D') hr (fun r' e => by omega) h hC hl
  | succ r ih =>
    intro D hr hD g a C h hC hl
    obtain ⟨D', rfl⟩ : ∃ D', D = D' + 1 := ⟨D - 1, by omega⟩
    exact c_readSum (La := La) (FX := fX4_readSumD La D') hr (fun r' e g a C h hC hl => by
      have e : r = r' := by omega
      subst e; exact ih D' (by omega) (by omega) g a C h hC hl) h hC hl
theorem c_readSumT {r : Nat} (hr : r ≤ 6) {g : gz_S} {a : Nat} {C : List Int32} (h : CT g b len a) (hC : CC g C) (hl : C.length ≤ nx b len a) : RdC (fX4_readSumT La (nI (6 - r)) g) g b len C (pSum b len r (nx b len a)) :=
  c_readSumD r 12 hr (by omega) g a C h hC hl
end C4
