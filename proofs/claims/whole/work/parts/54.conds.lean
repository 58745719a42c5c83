/-! the class reads a law: what is compared, units, conditions -/
theorem pCmp_len {b : Nat → Nat} {len r p : Nat} {cv : pV} (hp : p ≤ len) : ∀ cv', (pCmp b len r p cv).2 = some cv' → cv'.1.length + p ≤ (pCmp b len r p cv).1 + cv.1.length := by
  intro cv'
  unfold pCmp
  cases ho : opC (sg b len p) with
  | none => intro h; cases h
  | some op =>
    have hlt := opC_lt ho
    have h2 := nx_le (b := b) (show p + 1 ≤ len by omega)
    have h3 := pSum_len (b := b) r (nx b len (p + 1)) h2.2
    show (match pSum b len r (nx b len (p + 1)) with | (q, none) => (q, none) | (q, some cv2) => (q, some (jV op cv cv2))).2 = some cv' → _ ≤ (match pSum b len r (nx b len (p + 1)) with | (q, none) => (q, none) | (q, some cv2) => (q, some (jV op cv cv2))).1 + _
    cases hs : pSum b len r (nx b len (p + 1)) with
    | mk q o =>
      rw [hs] at h3
      cases o with
      | none => intro h; cases h
      | some cv2 =>
        have h4 : cv2.1.length + nx b len (p + 1) ≤ q := h3 cv2 rfl
        intro h; cases h
        show (jV op cv cv2).1.length + p ≤ q + cv.1.length
        rw [jV_len]; omega
theorem pSC_len {b : Nat → Nat} {len r p : Nat} (hp : p ≤ len) : pL p (pSC b len r p) := by
  have h3 := pSum_good (b := b) r p hp
  have h3' := pSum_len (b := b) r p hp
  unfold pSC
  cases hs : pSum b len r p with
  | mk q o =>
    rw [hs] at h3 h3'
    have h5 : q ≤ len := h3.2.1
    cases o with
    | none => intro cv h; cases h
    | some cv =>
      have h6 : cv.1.length + p ≤ q := h3' cv rfl
      intro cv' h
      have := pCmp_len (b := b) (r := r) (cv := cv) h5 cv' h
      show cv'.1.length + p ≤ (pCmp b len r q cv).1
      omega
theorem pPart_len {b : Nat → Nat} {len : Nat} {U : Nat → pR} (ha : ∀ p, p ≤ len → pGood len p (U p) ∧ pL p (U p)) : ∀ n p cv, p ≤ len → len - p < n → ∀ cv', (pPart b len U n p cv).2 = some cv' → cv'.1.length + p ≤ (pPart b len U n p cv).1 + cv.1.length := by
  intro n
  induction n with
  | zero => intro p cv _ h; omega
  | succ n ih =>
    intro p cv hp hn cv'
    unfold pPart
    by_cases ho : sg b len p = some 38
    · rw [if_pos ho]
      have hlt := (sg_lt ho).1
      have h2 := nx_le (b := b) (show p + 1 ≤ len by omega)
      have h3 := ha _ h2.2
      cases hat : U (nx b len (p + 1)) with
      | mk q o =>
        rw [hat] at h3
        have h4 : nx b len (p + 1) ≤ q := h3.1.1
        have h5 : q ≤ len := h3.1.2.1
        cases o with
        | none => intro h; cases h
        | some cv2 =>
          have h6 : cv2.1.length + nx b len (p + 1) ≤ q := h3.2 cv2 rfl
          intro h
          have := ih q (jV (-18) cv cv2) h5 (by omega) cv' h
          rw [jV_len] at this
          show cv'.1.length + p ≤ (pPart b len U n q (jV (-18) cv cv2)).1 + cv.1.length
          omega
    · rw [if_neg ho]; intro h; cases h; show cv.1.length + p ≤ p + cv.1.length; omega
def acc2C (acc : Option pV) : List Int32 := match acc with
  | none => []
  | some cv => cv.1
def acc2L (acc : Option pV) : Nat := match acc with
  | none => 0
  | some cv => cv.1.length + 1
theorem jO_len (acc : Option pV) (cv : pV) : (jO acc cv).1.length = acc2L acc + cv.1.length := by
  cases acc with
  | none => unfold jO acc2L; simp
  | some cv0 => show (jV (-19) cv0 cv).1.length = cv0.1.length + 1 + cv.1.length; rw [jV_len]; omega
theorem pCondL_len {b : Nat → Nat} {len : Nat} {U : Nat → pR} (ha : ∀ p, p ≤ len → pGood len p (U p) ∧ pL p (U p)) : ∀ n p s acc, pGood len p s → pL p s → len - s.1 < n → ∀ cv', (pCondL b len U n s acc).2 = some cv' → cv'.1.length + p ≤ (pCondL b len U n s acc).1 + acc2L acc := by
  intro n
  induction n with
  | zero => intro p s acc _ _ h; omega
  | succ n ih =>
    intro p s acc hs hs2 hn cv'
    unfold pCondL
    obtain ⟨q, o⟩ := s
    have h2 : p ≤ q := hs.1
    have h3 : q ≤ len := hs.2.1
    have hn : len - q < n + 1 := hn
    cases o with
    | none => intro h; cases h
    | some cv =>
      have h4 : cv.1.length + p ≤ q := hs2 cv rfl
      have h4' : p < q := hs.2.2 cv rfl
      have h5 := pPart_good (b := b) (fun p hp => (ha p hp).1) (len + 1) q cv h3 (by omega)
      have h5' := pPart_len (b := b) ha (len + 1) q cv h3 (by omega)
      show (match pPart b len U (len + 1) q cv with | (q2, none) => (q2, none) | (q2, some cv2) => if sg b len q2 = some 124 then pCondL b len U n (U (nx b len (q2 + 1))) (some (jO acc cv2)) else (q2, some (jO acc cv2))).2 = some cv' → _ ≤ (match pPart b len U (len + 1) q cv with | (q2, none) => (q2, none) | (q2, some cv2) => if sg b len q2 = some 124 then pCondL b len U n (U (nx b len (q2 + 1))) (some (jO acc cv2)) else (q2, some (jO acc cv2))).1 + _
      cases ht : pPart b len U (len + 1) q cv with
      | mk q2 o2 =>
        rw [ht] at h5 h5'
        have h6 : q ≤ q2 := h5.1
        have h7 : q2 ≤ len := h5.2
        cases o2 with
        | none => intro h; cases h
        | some cv2 =>
          have h8 : cv2.1.length + q ≤ q2 + cv.1.length := h5' cv2 rfl
          show (if sg b len q2 = some 124 then pCondL b len U n (U (nx b len (q2 + 1))) (some (jO acc cv2)) else (q2, some (jO acc cv2))).2 = some cv' → _ ≤ (if sg b len q2 = some 124 then pCondL b len U n (U (nx b len (q2 + 1))) (some (jO acc cv2)) else (q2, some (jO acc cv2))).1 + _
          by_cases ho : sg b len q2 = some 124
          · rw [if_pos ho]
            have hlt := (sg_lt ho).1
            have h9 := nx_le (b := b) (show q2 + 1 ≤ len by omega)
            have h10 := ha (nx b len (q2 + 1)) h9.2
            intro h
            have h11 := ih (nx b len (q2 + 1)) (U (nx b len (q2 + 1))) (some (jO acc cv2)) h10.1 h10.2 (by have := h10.1.1; omega) cv' h
            have h12 : acc2L (some (jO acc cv2)) = (jO acc cv2).1.length + 1 := rfl
            rw [h12, jO_len] at h11
            omega
          · rw [if_neg ho]; intro h; cases h; show (jO acc cv2).1.length + p ≤ q2 + acc2L acc; rw [jO_len]; omega
theorem pUnit_len {b : Nat → Nat} {len : Nat} : ∀ r p, p ≤ len → pL p (pUnit b len r p) := by
  intro r
  induction r with
  | zero =>
    intro p hp
    unfold pUnit
    by_cases h : sg b len p = some 33 ∨ sg b len p = some 40
    · rw [if_pos h]; intro cv h; cases h
    · rw [if_neg h]; exact pSC_len hp
  | succ r ih =>
    intro p hp
    unfold pUnit
    by_cases h33 : sg b len p = some 33
    · rw [if_pos h33]
      have hlt := (sg_lt h33).1
      have h2 := nx_le (b := b) (show p + 1 ≤ len by omega)
      have h3 := ih _ h2.2
      cases hat : pUnit b len r (nx b len (p + 1)) with
      | mk q o =>
        rw [hat] at h3
        cases o with
        | none => intro cv h; cases h
        | some cv =>
          have h4 : cv.1.length + nx b len (p + 1) ≤ q := h3 cv rfl
          intro cv' h; cases h
          show (cv.1 ++ [-20]).length + p ≤ q
          rw [List.length_append]; show cv.1.length + 1 + p ≤ q; omega
    · rw [if_neg h33]
      by_cases h40 : sg b len p = some 40
      · rw [if_pos h40]
        have hlt := (sg_lt h40).1
        have h2 := nx_le (b := b) (show p + 1 ≤ len by omega)
        have h3 := ih _ h2.2
        have h3' := pUnit_good (b := b) r _ h2.2
        have h6 := pCondL_len (b := b) (fun p hp => ⟨pUnit_good r p hp, ih p hp⟩) (len + 1) (nx b len (p + 1)) (pUnit b len r (nx b len (p + 1))) none h3' h3 (by omega)
        cases hat : pCondL b len (pUnit b len r) (len + 1) (pUnit b len r (nx b len (p + 1))) none with
        | mk q o =>
          rw [hat] at h6
          cases o with
          | none => intro cv h; cases h
          | some cv =>
            have h7 : cv.1.length + nx b len (p + 1) ≤ q + 0 := h6 cv rfl
            show pL p (if sg b len q = some 41 then (nx b len (q + 1), some cv) else (q, none))
            by_cases h41 : sg b len q = some 41
            · rw [if_pos h41]
              have h8 := sg_lt h41
              have h9 := nx_le (b := b) (show q + 1 ≤ len by omega)
              intro cv' h; cases h; show cv.1.length + p ≤ nx b len (q + 1); omega
            · rw [if_neg h41]; intro cv h; cases h
      · rw [if_neg h40]; exact pSC_len hp
def opCI (o : Option Nat) : Int32 := match opC o with
  | some t => t
  | none => -nI 1
theorem opCI_some {o : Option Nat} {t : Int32} (h : opC o = some t) : opCI o = t ∧ (t = -nI 15 ∨ t = -nI 16 ∨ t = -nI 17) := by
  refine ⟨by unfold opCI; rw [h], ?_⟩
  unfold opC at h
  by_cases h1 : o = some 61
  · rw [if_pos h1] at h; cases h; exact Or.inl rfl
  · rw [if_neg h1] at h
    by_cases h2 : o = some 60
    · rw [if_pos h2] at h; cases h; exact Or.inr (Or.inl rfl)
    · rw [if_neg h2] at h
      by_cases h3 : o = some 62
      · rw [if_pos h3] at h; cases h; exact Or.inr (Or.inr rfl)
      · rw [if_neg h3] at h; cases h
section C4
variable {La : gz_L} {b : Nat → Nat} {len : Nat}
theorem c_comparing {g : gz_S} {o : Option Nat} (ho : ∀ c, o = some c → c < 256) : fX4_comparing La (oI o) g = some (opCI o, g) := by
  have hc : ∀ c, o = some c → c < 2147483648 := fun c h => by have := ho c h; omega
  have e : ∀ n, n < 2147483648 → (oI o = nI n) = (o = some n) := fun n hn => oI_eq hn hc
  unfold fX4_comparing opCI opC
  simp (disch := omega) only [l_0, l_1, l_2, l_3, l_4, l_5, l_6, l_7, l_8, l_9, l_10, l_11, l_12, l_13, l_14, l_15, l_16, l_17, l_18, l_19, l_20, l_21, l_22, l_23, l_24, l_25, l_26, l_28, l_29, l_30, l_31, l_32, l_33, l_34, l_36, l_37, l_38, l_39, l_40, l_41, l_42, l_43, l_44, l_45, l_46, l_47, l_48, l_49, l_50, l_53, l_54, l_57, l_58, l_59, l_60, l_61, l_62, l_63, l_91, l_93, l_97, l_98, l_99, l_100, l_103, l_104, l_110, l_112, l_114, l_115, l_116, l_119, l_120, l_121, l_124, l_128, l_231, l_240, l_241, l_255, l_496, l_999, l_1000, l_8191, l_9999, l_10000, l_100000, l_200000, l_1000000, l_1000000000, e]
  by_cases h1 : o = some 60
  · simp [h1]
  · by_cases h2 : o = some 61
    · simp [h2]
    · by_cases h3 : o = some 62
      · simp [h3]
      · simp [h1, h2, h3]
theorem c_readCompared {r : Nat} (hr : r ≤ 6) {g : gz_S} {a : Nat} {C : List Int32} {cv : pV} (h : CT g b len a) (hC : CC g (C ++ cv.1)) (hl : (C ++ cv.1).length ≤ nx b len a) :
    RdC (fX4_readCompared La (nI (6 - r)) g) g b len C (pCmp b len r (nx b len a) cv) := by
  have h4 := h.2.2.2.1
  have hx := nx_le (b := b) h.2.2.1
  have hn := c_next (La := La) h
  generalize hp : nx b len a = p at *
  have hst : CT (st g p) b len p := h.st hx.2
  have hcm := c_comparing (La := La) (g := st g p) (o := sg b len p) (fun c hc => h.sg hc)
  have hpc : pCmp b len r p cv = match opC (sg b len p) with | none => (p, none) | some op => match pSum b len r (nx b len (p + 1)) with | (q, none) => (q, none) | (q, some cv2) => (q, some (jV op cv cv2)) := rfl
  unfold fX4_readCompared
  rw [hn]
  simp only [Option.bind_some, hcm]
  cases ho : opC (sg b len p) with
  | none =>
    rw [ho] at hpc
    rw [hpc]
    have e : opCI (sg b len p) = -nI 1 := by unfold opCI; rw [ho]
    refine ⟨gz_wa (st g p) 1 (upd ((st g p).1 1) 3 (nI p)), (st_fr Fr.rf (Or.inl rfl)).wa (Or.inl rfl), ⟨p, hst.wf (by omega), fun e => absurd rfl e⟩, fun _ => ⟨?_, by rw [wa_at]; exact if_pos rfl, hC.ce.st.wf⟩, fun cv e => by cases e⟩
    simp only [l_0, l_1, l_2, l_3, l_4, l_5, l_6, l_7, l_8, l_9, l_10, l_11, l_12, l_13, l_14, l_15, l_16, l_17, l_18, l_19, l_20, l_21, l_22, l_23, l_24, l_25, l_26, l_28, l_29, l_30, l_31, l_32, l_33, l_34, l_36, l_37, l_38, l_39, l_40, l_41, l_42, l_43, l_44, l_45, l_46, l_47, l_48, l_49, l_50, l_53, l_54, l_57, l_58, l_59, l_60, l_61, l_62, l_63, l_91, l_93, l_97, l_98, l_99, l_100, l_103, l_104, l_110, l_112, l_114, l_115, l_116, l_119, l_120, l_121, l_124, l_128, l_231, l_240, l_241, l_255, l_496, l_999, l_1000, l_8191, l_9999, l_10000, l_100000, l_200000, l_1000000, l_1000000000, e, ↓reduceIte, st_2, c_refuse, Option.bind_some]
    exact if_pos (Or.inl trivial)
  | some op =>
    rw [ho] at hpc
    obtain ⟨e1, e2⟩ := opCI_some ho
    have hlt := opC_lt ho
    have hx1 := nx_le (b := b) (show p + 1 ≤ len by omega)
    have hne : ¬ op = -nI 1 := by rcases e2 with e | e | e <;> rw [e] <;> decide
    have hsum := c_readSumT (La := La) hr (h.st (p := p + 1) (by omega)) (hC.st (p := p + 1)) (by omega)
    obtain ⟨g2, s1, ⟨a2, s2, s2'⟩, s3, s4⟩ := hsum
    have hF2 : Fr FL g g2 := (st_fr Fr.rf (Or.inl rfl)).tr s1
    have hlen := pSum_len (b := b) r (nx b len (p + 1)) hx1.2
    have hgood := pSum_good (b := b) r (nx b len (p + 1)) hx1.2
    simp (disch := omega) only [l_0, l_1, l_2, l_3, l_4, l_5, l_6, l_7, l_8, l_9, l_10, l_11, l_12, l_13, l_14, l_15, l_16, l_17, l_18, l_19, l_20, l_21, l_22, l_23, l_24, l_25, l_26, l_28, l_29, l_30, l_31, l_32, l_33, l_34, l_36, l_37, l_38, l_39, l_40, l_41, l_42, l_43, l_44, l_45, l_46, l_47, l_48, l_49, l_50, l_53, l_54, l_57, l_58, l_59, l_60, l_61, l_62, l_63, l_91, l_93, l_97, l_98, l_99, l_100, l_103, l_104, l_110, l_112, l_114, l_115, l_116, l_119, l_120, l_121, l_124, l_128, l_231, l_240, l_241, l_255, l_496, l_999, l_1000, l_8191, l_9999, l_10000, l_100000, l_200000, l_1000000, l_1000000000, e1, hne, ↓reduceIte, st_2, gz_let_eq, n_add, wi_st, st_st]
    cases hS : pSum b len r (nx b len (p + 1)) with
    | mk q o =>
      rw [hS] at s2' s3 s4 hlen hgood
      have hpc : pCmp b len r p cv = match pSum b len r (nx b len (p + 1)) with | (q, none) => (q, none) | (q, some cv2) => (q, some (jV op cv cv2)) := hpc
      rw [hS] at hpc
      cases o with
      | none =>
        have hpc : pCmp b len r p cv = (q, none) := hpc
        rw [hpc]
        obtain ⟨k1, k2, k3⟩ := s3 rfl
        obtain ⟨g3, p1, p2, p3⟩ := c_putE (La := La) (x := op) k3
        refine ⟨g3, hF2.tr (p2.mo (fun j hj => Or.inr hj)), ⟨a2, s2.fr p2 (by omega) (by omega), fun e => absurd rfl e⟩, fun _ => ⟨?_, by rw [p2.1 1 (by omega)]; exact k2, p3⟩, fun cv e => by cases e⟩
        rw [k1]
        simp only [Option.bind_some, p1]
        exact if_pos (Or.inl trivial)
      | some cv2 =>
        have hpc : pCmp b len r p cv = (q, some (jV op cv cv2)) := hpc
        rw [hpc]
        obtain ⟨k1, k2⟩ := s4 cv2 rfl
        have hql : q ≤ len := hgood.2.1
        have hln : cv2.1.length + nx b len (p + 1) ≤ q := hlen cv2 rfl
        have hll : (C ++ cv.1 ++ cv2.1).length = (C ++ cv.1).length + cv2.1.length := List.length_append
        obtain ⟨g3, p1, p2, p3⟩ := c_putC (La := La) (x := op) k2 (by omega)
        have hcode2 : C ++ cv.1 ++ cv2.1 ++ [op] = C ++ (jV op cv cv2).1 := by unfold jV; simp
        rw [hcode2] at p3
        refine ⟨g3, hF2.tr (p2.mo (fun j hj => Or.inr hj)), ⟨a2, s2.fr p2 (by omega) (by omega), fun _ => s2' (by simp)⟩, (fun e => by cases e), fun cv' e => ?_⟩
        cases e
        refine ⟨?_, p3⟩
        rw [k1]
        simp only [Option.bind_some, p1]
        exact if_pos (Or.inr trivial)
/-- what is asked of the units within -/
def SubU (La : gz_L) (b : Nat → Nat) (len r : Nat) (FU : Int32 → gz_S → Option (Int32 × gz_S)) : Prop :=
  ∀ g a C, CT g b len a → CC g C → C.length ≤ nx b len a → RdC (FU (nI (6 - r)) g) g b len C (pUnit b len r (nx b len a))
theorem c_part2 {r : Nat} {FU : Int32 → gz_S → Option (Int32 × gz_S)} (hFU : SubU La b len r FU) (K : Int32 → Int32 → Int32 → Int32 → gz_S → Option (Int32 × gz_S)) (x2 x3 : Int32) (C : List Int32) :
    ∀ n q j f g1 a1 cv, CT g1 b len a1 → nx b len a1 = q → CC g1 (C ++ cv.1) → (C ++ cv.1).length ≤ q → j ≤ q → len - q < n → 240 - j + 1 < f →
      ∃ g' x4, fX4_readCondition_35 La FU K f (nI (6 - r)) x2 x3 (nI 1) (nI j) g1 = K (nI (6 - r)) x2 x3 x4 g' ∧ Fr FL g1 g' ∧ (∃ a, CT g' b len a ∧ ((pPart b len (pUnit b len r) n q cv).2 ≠ none → nx b len a = (pPart b len (pUnit b len r) n q cv).1)) ∧
        ((pPart b len (pUnit b len r) n q cv).2 = none → x4 = nI 0 ∧ g'.1 1 3 = nI (pPart b len (pUnit b len r) n q cv).1 ∧ CE g') ∧
        ∀ cv', (pPart b len (pUnit b len r) n q cv).2 = some cv' → x4 = nI 1 ∧ CC g' (C ++ cv'.1) := by
  intro n
  induction n with
  | zero => intro q j f g1 a1 cv _ _ _ _ _ h; omega
  | succ n ih =>
    intro q j f g1 a1 cv h hq hC hl hj hn hf
    obtain ⟨f', rfl⟩ : ∃ f', f = f' + 1 := ⟨f - 1, by omega⟩
    have h4 := h.2.2.2.1
    have hx0 := nx_le (b := b) h.2.2.1
    rw [hq] at hx0
    have hqn : nx b len q = q := by rw [← hq]; exact nx_nx
    have hpt : pPart b len (pUnit b len r) (n + 1) q cv = if sg b len q = some 38 then (match pUnit b len r (nx b len (q + 1)) with | (q', none) => (q', none) | (q', some cv2) => pPart b len (pUnit b len r) n q' (jV (-18) cv cv2)) else (q, some cv) := rfl
    have hac := c_accept (La := La) h (c := 38) (by omega)
    rw [hq] at hac
    by_cases ho : sg b len q = some 38
    · rw [if_pos ho] at hpt hac
      have hlt := (sg_lt ho).1
      have hn240 : ¬ 240 ≤ j := by omega
      have hx := nx_le (b := b) (show q + 1 ≤ len by omega)
      have hU := hFU (st g1 (q + 1)) (q + 1) (C ++ cv.1) (h.st (by omega)) hC.st (by omega)
      obtain ⟨g2, s1, ⟨a2, s2, s2'⟩, s3, s4⟩ := hU
      have hF2 : Fr FL g1 g2 := (st_fr Fr.rf (Or.inl rfl)).tr s1
      have hgood := pUnit_good (b := b) r _ hx.2
      have hlen := pUnit_len (b := b) r _ hx.2
      have hcode : fX4_readCondition_35 La FU K (f' + 1) (nI (6 - r)) x2 x3 (nI 1) (nI j) g1 = (FU (nI (6 - r)) (st g1 (q + 1))).bind (fun q62 => (fX4_put La (-nI 18) q62.2).bind (fun q70 => fX4_readCondition_35 La FU K f' (nI (6 - r)) x2 x3 q62.1 (nI (j + 1)) q70)) := by
        rw [fX4_readCondition_35]
        simp (disch := omega) only [l_0, l_1, l_2, l_3, l_4, l_5, l_6, l_7, l_8, l_9, l_10, l_11, l_12, l_13, l_14, l_15, l_16, l_17, l_18, l_19, l_20, l_21, l_22, l_23, l_24, l_25, l_26, l_28, l_29, l_30, l_31, l_32, l_33, l_34, l_36, l_37, l_38, l_39, l_40, l_41, l_42, l_43, l_44, l_45, l_46, l_47, l_48, l_49, l_50, l_53, l_54, l_57, l_58, l_59, l_60, l_61, l_62, l_63, l_91, l_93, l_97, l_98, l_99, l_100, l_103, l_104, l_110, l_112, l_114, l_115, l_116, l_119, l_120, l_121, l_124, l_128, l_231, l_240, l_241, l_255, l_496, l_999, l_1000, l_8191, l_9999, l_10000, l_100000, l_200000, l_1000000, l_1000000000, ↓reduceIte, n_add, n_ok, n_cl, n_lt, n_le, n_eq, p_0, p_1, p_01, hn240, t_10, hac, Option.bind_some, gz_let_eq]
      rw [hcode]
      cases hA : pUnit b len r (nx b len (q + 1)) with
      | mk q' o =>
        rw [hA] at hpt s2' s3 s4 hgood hlen
        cases o with
        | none =>
          have hpt : pPart b len (pUnit b len r) (n + 1) q cv = (q', none) := hpt
          rw [hpt]
          obtain ⟨k1, k2, k3⟩ := s3 rfl
          obtain ⟨g3, p1, p2, p3⟩ := c_putE (La := La) (x := -nI 18) k3
          refine ⟨g3, nI 0, ?_, hF2.tr (p2.mo (fun j hj => Or.inr hj)), ⟨a2, s2.fr p2 (by omega) (by omega), fun e => absurd rfl e⟩, fun _ => ⟨rfl, by rw [p2.1 1 (by omega)]; exact k2, p3⟩, fun cv e => by cases e⟩
          obtain ⟨f'', rfl⟩ : ∃ f'', f' = f'' + 1 := ⟨f' - 1, by omega⟩
          rw [k1]
          simp only [Option.bind_some, p1]
          rw [fX4_readCondition_35]
          by_cases h240 : 240 ≤ j + 1
          · simp (disch := omega) only [l_0, l_1, l_2, l_3, l_4, l_5, l_6, l_7, l_8, l_9, l_10, l_11, l_12, l_13, l_14, l_15, l_16, l_17, l_18, l_19, l_20, l_21, l_22, l_23, l_24, l_25, l_26, l_28, l_29, l_30, l_31, l_32, l_33, l_34, l_36, l_37, l_38, l_39, l_40, l_41, l_42, l_43, l_44, l_45, l_46, l_47, l_48, l_49, l_50, l_53, l_54, l_57, l_58, l_59, l_60, l_61, l_62, l_63, l_91, l_93, l_97, l_98, l_99, l_100, l_103, l_104, l_110, l_112, l_114, l_115, l_116, l_119, l_120, l_121, l_124, l_128, l_231, l_240, l_241, l_255, l_496, l_999, l_1000, l_8191, l_9999, l_10000, l_100000, l_200000, l_1000000, l_1000000000, ↓reduceIte, n_add, n_ok, n_cl, n_lt, n_le, n_eq, p_0, p_1, p_01, h240]
          · simp (disch := omega) only [l_0, l_1, l_2, l_3, l_4, l_5, l_6, l_7, l_8, l_9, l_10, l_11, l_12, l_13, l_14, l_15, l_16, l_17, l_18, l_19, l_20, l_21, l_22, l_23, l_24, l_25, l_26, l_28, l_29, l_30, l_31, l_32, l_33, l_34, l_36, l_37, l_38, l_39, l_40, l_41, l_42, l_43, l_44, l_45, l_46, l_47, l_48, l_49, l_50, l_53, l_54, l_57, l_58, l_59, l_60, l_61, l_62, l_63, l_91, l_93, l_97, l_98, l_99, l_100, l_103, l_104, l_110, l_112, l_114, l_115, l_116, l_119, l_120, l_121, l_124, l_128, l_231, l_240, l_241, l_255, l_496, l_999, l_1000, l_8191, l_9999, l_10000, l_100000, l_200000, l_1000000, l_1000000000, ↓reduceIte, n_add, n_ok, n_cl, n_lt, n_le, n_eq, p_0, p_1, p_01, h240]
        | some cv2 =>
          have hpt : pPart b len (pUnit b len r) (n + 1) q cv = pPart b len (pUnit b len r) n q' (jV (-18) cv cv2) := hpt
          rw [hpt]
          obtain ⟨k1, k2⟩ := s4 cv2 rfl
          have a2q : nx b len a2 = q' := s2' (by simp)
          have hq'l : q' ≤ len := hgood.2.1
          have hq'g : nx b len (q + 1) < q' := hgood.2.2 cv2 rfl
          have hln : cv2.1.length + nx b len (q + 1) ≤ q' := hlen cv2 rfl
          have hll : (C ++ cv.1 ++ cv2.1).length = (C ++ cv.1).length + cv2.1.length := List.length_append
          obtain ⟨g3, p1, p2, p3⟩ := c_putC (La := La) (x := -nI 18) k2 (by omega)
          have hc3 : CT g3 b len a2 := s2.fr p2 (by omega) (by omega)
          have hcode2 : C ++ cv.1 ++ cv2.1 ++ [-nI 18] = C ++ (jV (-18) cv cv2).1 := by unfold jV; simp; rfl
          rw [hcode2] at p3
          have hl3 : (C ++ (jV (-18) cv cv2).1).length ≤ q' := by
            rw [← hcode2, List.length_append, hll]; show _ + 1 ≤ q'; omega
          obtain ⟨g4, x4, t1, t2, t3, t4, t5⟩ := ih q' (j + 1) f' g3 a2 (jV (-18) cv cv2) hc3 a2q p3 hl3 (by omega) (by omega) (by omega)
          refine ⟨g4, x4, ?_, (hF2.tr (p2.mo (fun j hj => Or.inr hj))).tr t2, t3, t4, t5⟩
          rw [k1]
          simp only [Option.bind_some, p1]
          exact t1
    · rw [if_neg ho] at hpt hac
      rw [hpt]
      by_cases h240 : 240 ≤ j
      · refine ⟨g1, nI 1, ?_, Fr.rf, ⟨a1, h, fun _ => hq⟩, (fun e => by cases e), fun cv' e => ?_⟩
        · rw [fX4_readCondition_35]
          simp (disch := omega) only [l_0, l_1, l_2, l_3, l_4, l_5, l_6, l_7, l_8, l_9, l_10, l_11, l_12, l_13, l_14, l_15, l_16, l_17, l_18, l_19, l_20, l_21, l_22, l_23, l_24, l_25, l_26, l_28, l_29, l_30, l_31, l_32, l_33, l_34, l_36, l_37, l_38, l_39, l_40, l_41, l_42, l_43, l_44, l_45, l_46, l_47, l_48, l_49, l_50, l_53, l_54, l_57, l_58, l_59, l_60, l_61, l_62, l_63, l_91, l_93, l_97, l_98, l_99, l_100, l_103, l_104, l_110, l_112, l_114, l_115, l_116, l_119, l_120, l_121, l_124, l_128, l_231, l_240, l_241, l_255, l_496, l_999, l_1000, l_8191, l_9999, l_10000, l_100000, l_200000, l_1000000, l_1000000000, ↓reduceIte, n_add, n_ok, n_cl, n_lt, n_le, n_eq, p_0, p_1, p_01, h240]
        · cases e; exact ⟨rfl, hC⟩
      · refine ⟨st g1 q, nI 1, ?_, st_fr Fr.rf (Or.inl rfl), ⟨q, h.st hx0.2, fun _ => hqn⟩, (fun e => by cases e), fun cv' e => ?_⟩
        · rw [fX4_readCondition_35]
          simp (disch := omega) only [l_0, l_1, l_2, l_3, l_4, l_5, l_6, l_7, l_8, l_9, l_10, l_11, l_12, l_13, l_14, l_15, l_16, l_17, l_18, l_19, l_20, l_21, l_22, l_23, l_24, l_25, l_26, l_28, l_29, l_30, l_31, l_32, l_33, l_34, l_36, l_37, l_38, l_39, l_40, l_41, l_42, l_43, l_44, l_45, l_46, l_47, l_48, l_49, l_50, l_53, l_54, l_57, l_58, l_59, l_60, l_61, l_62, l_63, l_91, l_93, l_97, l_98, l_99, l_100, l_103, l_104, l_110, l_112, l_114, l_115, l_116, l_119, l_120, l_121, l_124, l_128, l_231, l_240, l_241, l_255, l_496, l_999, l_1000, l_8191, l_9999, l_10000, l_100000, l_200000, l_1000000, l_1000000000, ↓reduceIte, n_add, n_ok, n_cl, n_lt, n_le, n_eq, p_0, p_1, p_01, h240, t_10, hac, Option.bind_some]
        · cases e; exact ⟨rfl, hC.st⟩
theorem jO_code (C : List Int32) (acc : Option pV) (cv : pV) : C ++ (jO acc cv).1 = match acc with
    | none => C ++ acc2C acc ++ cv.1
    | some _ => C ++ acc2C acc ++ cv.1 ++ [-nI 19] := by
  cases acc with
  | none => unfold jO acc2C; simp
  | some cv0 => show C ++ (cv0.1 ++ cv.1 ++ [-19]) = C ++ cv0.1 ++ cv.1 ++ [-nI 19]; simp; rfl
theorem acc2C_len (acc : Option pV) : (acc2C acc).length ≤ acc2L acc ∧ (acc ≠ none → (acc2C acc).length + 1 ≤ acc2L acc) := by
  cases acc with
  | none => exact ⟨Nat.le_refl _, fun h => absurd rfl h⟩
  | some o => exact ⟨Nat.le_succ _, fun _ => Nat.le_refl _⟩
theorem c_condL {r : Nat} {FU : Int32 → gz_S → Option (Int32 × gz_S)} (hFU : SubU La b len r FU) (K : gz_S → Option (Int32 × gz_S)) (x2 : Int32) (C : List Int32) (g0 : gz_S) :
    ∀ n p s i f g1 x acc, Fr FL g0 g1 → (∃ a, CT g1 b len a ∧ (s.2 ≠ none → nx b len a = s.1)) → (s.2 = none → x = nI 0 ∧ g1.1 1 3 = nI s.1 ∧ CE g1) → (∀ cv, s.2 = some cv → x = nI 1 ∧ CC g1 (C ++ acc2C acc ++ cv.1)) →
      pGood len p s → pL p s → C.length + acc2L acc ≤ p → (acc = none → i = 0) → (acc ≠ none → 0 < i) → i * 2 ≤ p → len - s.1 < n → 240 - i < f →
      RdC (fX4_readCondition_30 La FU (fX4_readCondition_2 La FU K f) (nI (6 - r)) x2 (nI i) x g1) g0 b len C (pCondL b len (pUnit b len r) n s acc) := by
  intro n
  induction n with
  | zero => intro p s i f g1 x acc _ _ _ _ _ _ _ _ _ _ h; omega
  | succ n ih =>
    intro p s i f g1 x acc hF ⟨a1, h, hna⟩ hs0 hs1 hgood hlen hl hacc hacc2 hi hn hf
    obtain ⟨f', rfl⟩ : ∃ f', f = f' + 1 := ⟨f - 1, by omega⟩
    have h4 := h.2.2.2.1
    obtain ⟨q, o⟩ := s
    have hqp : p ≤ q := hgood.1
    have hql : q ≤ len := hgood.2.1
    have hn : len - q < n + 1 := hn
    have hacl := acc2C_len acc
    have hll : (C ++ acc2C acc).length = C.length + (acc2C acc).length := List.length_append
    have hpc : pCondL b len (pUnit b len r) (n + 1) (q, o) acc = match (q, o) with | (q, none) => (q, none) | (q, some cv) => match pPart b len (pUnit b len r) (len + 1) q cv with | (q2, none) => (q2, none) | (q2, some cv2) => if sg b len q2 = some 124 then pCondL b len (pUnit b len r) n (pUnit b len r (nx b len (q2 + 1))) (some (jO acc cv2)) else (q2, some (jO acc cv2)) := rfl
    -- a fault
    have fin0 : ∀ g3 q3, Fr FL g0 g3 → (∃ a, CT g3 b len a) → g3.1 1 3 = nI q3 → CE g3 → RdC (fX4_readCondition_79 La FU (fX4_readCondition_2 La FU K (f' + 1)) (nI (6 - r)) x2 (nI i) (nI 0) g3) g0 b len C (q3, none) := by
      intro g3 q3 hF3 hct h13 hce
      obtain ⟨a3, hc3⟩ := hct
      have h89 : ∀ g4, fX4_readCondition_89 La FU (fX4_readCondition_2 La FU K (f' + 1)) (nI (6 - r)) x2 (nI i) (nI 0) g4 = some (nI 0, g4) := by
        intro g4
        unfold fX4_readCondition_89
        simp only [l_0, l_1, l_2, l_3, l_4, l_5, l_6, l_7, l_8, l_9, l_10, l_11, l_12, l_13, l_14, l_15, l_16, l_17, l_18, l_19, l_20, l_21, l_22, l_23, l_24, l_25, l_26, l_28, l_29, l_30, l_31, l_32, l_33, l_34, l_36, l_37, l_38, l_39, l_40, l_41, l_42, l_43, l_44, l_45, l_46, l_47, l_48, l_49, l_50, l_53, l_54, l_57, l_58, l_59, l_60, l_61, l_62, l_63, l_91, l_93, l_97, l_98, l_99, l_100, l_103, l_104, l_110, l_112, l_114, l_115, l_116, l_119, l_120, l_121, l_124, l_128, l_231, l_240, l_241, l_255, l_496, l_999, l_1000, l_8191, l_9999, l_10000, l_100000, l_200000, l_1000000, l_1000000000, ↓reduceIte]
        exact if_pos (Or.inl trivial)
      by_cases hi0 : i = 0
      · refine ⟨g3, hF3, ⟨a3, hc3, fun e => absurd rfl e⟩, fun _ => ⟨?_, h13, hce⟩, fun cv e => by cases e⟩
        unfold fX4_readCondition_79
        simp (disch := omega) only [l_0, l_1, l_2, l_3, l_4, l_5, l_6, l_7, l_8, l_9, l_10, l_11, l_12, l_13, l_14, l_15, l_16, l_17, l_18, l_19, l_20, l_21, l_22, l_23, l_24, l_25, l_26, l_28, l_29, l_30, l_31, l_32, l_33, l_34, l_36, l_37, l_38, l_39, l_40, l_41, l_42, l_43, l_44, l_45, l_46, l_47, l_48, l_49, l_50, l_53, l_54, l_57, l_58, l_59, l_60, l_61, l_62, l_63, l_91, l_93, l_97, l_98, l_99, l_100, l_103, l_104, l_110, l_112, l_114, l_115, l_116, l_119, l_120, l_121, l_124, l_128, l_231, l_240, l_241, l_255, l_496, l_999, l_1000, l_8191, l_9999, l_10000, l_100000, l_200000, l_1000000, l_1000000000, ↓reduceIte, n_add, n_ok, n_cl, n_lt, n_le, n_eq, p_0, p_1, p_01, show i ≤ 0 by omega, h89]
      · obtain ⟨g4, p1, p2, p3⟩ := c_putE (La := La) (x := -nI 19) hce
        refine ⟨g4, hF3.tr (p2.mo (fun j hj => Or.inr hj)), ⟨a3, hc3.fr p2 (by omega) (by omega), fun e => absurd rfl e⟩, fun _ => ⟨?_, by rw [p2.1 1 (by omega)]; exact h13, p3⟩, fun cv e => by cases e⟩
        unfold fX4_readCondition_79
        simp (disch := omega) only [l_0, l_1, l_2, l_3, l_4, l_5, l_6, l_7, l_8, l_9, l_10, l_11, l_12, l_13, l_14, l_15, l_16, l_17, l_18, l_19, l_20, l_21, l_22, l_23, l_24, l_25, l_26, l_28, l_29, l_30, l_31, l_32, l_33, l_34, l_36, l_37, l_38, l_39, l_40, l_41, l_42, l_43, l_44, l_45, l_46, l_47, l_48, l_49, l_50, l_53, l_54, l_57, l_58, l_59, l_60, l_61, l_62, l_63, l_91, l_93, l_97, l_98, l_99, l_100, l_103, l_104, l_110, l_112, l_114, l_115, l_116, l_119, l_120, l_121, l_124, l_128, l_231, l_240, l_241, l_255, l_496, l_999, l_1000, l_8191, l_9999, l_10000, l_100000, l_200000, l_1000000, l_1000000000, ↓reduceIte, n_add, n_ok, n_cl, n_lt, n_le, n_eq, p_0, p_1, p_01, show ¬ i ≤ 0 by omega, p1, Option.bind_some, h89]
    cases o with
    | none =>
      have hpc : pCondL b len (pUnit b len r) (n + 1) (q, none) acc = (q, none) := hpc
      rw [hpc]
      obtain ⟨k1, k2, k3⟩ := hs0 rfl
      rw [k1]
      unfold fX4_readCondition_30
      obtain ⟨f2, hf2⟩ : ∃ f2, gz_FU = f2 + 1 := ⟨99999, rfl⟩
      rw [hf2, fX4_readCondition_35]
      simp (disch := omega) only [l_0, l_1, l_2, l_3, l_4, l_5, l_6, l_7, l_8, l_9, l_10, l_11, l_12, l_13, l_14, l_15, l_16, l_17, l_18, l_19, l_20, l_21, l_22, l_23, l_24, l_25, l_26, l_28, l_29, l_30, l_31, l_32, l_33, l_34, l_36, l_37, l_38, l_39, l_40, l_41, l_42, l_43, l_44, l_45, l_46, l_47, l_48, l_49, l_50, l_53, l_54, l_57, l_58, l_59, l_60, l_61, l_62, l_63, l_91, l_93, l_97, l_98, l_99, l_100, l_103, l_104, l_110, l_112, l_114, l_115, l_116, l_119, l_120, l_121, l_124, l_128, l_231, l_240, l_241, l_255, l_496, l_999, l_1000, l_8191, l_9999, l_10000, l_100000, l_200000, l_1000000, l_1000000000, ↓reduceIte, n_add, n_ok, n_cl, n_lt, n_le, n_eq, p_0, p_1, p_01, show ¬ 240 ≤ 0 by omega]
      exact fin0 g1 q hF ⟨a1, h⟩ k2 k3
    | some cv =>
      obtain ⟨k1, k2⟩ := hs1 cv rfl
      have hnq : nx b len a1 = q := hna (by simp)
      have hln : cv.1.length + p ≤ q := hlen cv rfl
      have hpq : p < q := hgood.2.2 cv rfl
      have hl3 : (C ++ acc2C acc ++ cv.1).length ≤ q := by rw [List.length_append, hll]; omega
      obtain ⟨g4, x4, t1, t2, ⟨a4, t3, t3'⟩, t4, t5⟩ := c_part2 hFU (fX4_readCondition_79 La FU (fX4_readCondition_2 La FU K (f' + 1))) x2 (nI i) (C ++ acc2C acc) (len + 1) q 0 gz_FU g1 a1 cv h hnq k2 hl3 (by omega) (by omega) (by unfold gz_FU; omega)
      have hF4 : Fr FL g0 g4 := hF.tr t2
      have hpg := pPart_good (b := b) (len := len) (U := pUnit b len r) (fun p hp => pUnit_good r p hp) (len + 1) q cv hql (by omega)
      have hpl := pPart_len (b := b) (len := len) (U := pUnit b len r) (fun p hp => ⟨pUnit_good r p hp, pUnit_len r p hp⟩) (len + 1) q cv hql (by omega)
      have hpc : pCondL b len (pUnit b len r) (n + 1) (q, some cv) acc = match pPart b len (pUnit b len r) (len + 1) q cv with | (q2, none) => (q2, none) | (q2, some cv2) => if sg b len q2 = some 124 then pCondL b len (pUnit b len r) n (pUnit b len r (nx b len (q2 + 1))) (some (jO acc cv2)) else (q2, some (jO acc cv2)) := hpc
      have h30 : fX4_readCondition_30 La FU (fX4_readCondition_2 La FU K (f' + 1)) (nI (6 - r)) x2 (nI i) x g1 = fX4_readCondition_79 La FU (fX4_readCondition_2 La FU K (f' + 1)) (nI (6 - r)) x2 (nI i) x4 g4 := by
        rw [k1]; unfold fX4_readCondition_30; exact t1
      rw [h30]
      cases hT : pPart b len (pUnit b len r) (len + 1) q cv with
      | mk q2 o2 =>
        rw [hT] at t3' t4 t5 hpg hpl hpc
        cases o2 with
        | none =>
          have hpc : pCondL b len (pUnit b len r) (n + 1) (q, some cv) acc = (q2, none) := hpc
          rw [hpc]
          obtain ⟨j1, j2, j3⟩ := t4 rfl
          rw [j1]
          exact fin0 g4 q2 hF4 ⟨a4, t3⟩ j2 j3
        | some cv2 =>
          obtain ⟨j1, j4⟩ := t5 cv2 rfl
          have a4q : nx b len a4 = q2 := t3' (by simp)
          have hq2l : q2 ≤ len := hpg.2
          have hq2g : q ≤ q2 := hpg.1
          have hln2 : cv2.1.length + q ≤ q2 + cv.1.length := hpl cv2 rfl
          have hq2n : nx b len q2 = q2 := by rw [← a4q]; exact nx_nx
          have hpc : pCondL b len (pUnit b len r) (n + 1) (q, some cv) acc = if sg b len q2 = some 124 then pCondL b len (pUnit b len r) n (pUnit b len r (nx b len (q2 + 1))) (some (jO acc cv2)) else (q2, some (jO acc cv2)) := hpc
          rw [hpc, j1]
          have hput : ∃ g5, fX4_readCondition_79 La FU (fX4_readCondition_2 La FU K (f' + 1)) (nI (6 - r)) x2 (nI i) (nI 1) g4 = fX4_readCondition_89 La FU (fX4_readCondition_2 La FU K (f' + 1)) (nI (6 - r)) x2 (nI i) (nI 1) g5 ∧ Fr (fun j => j = 3 ∨ j = 19) g4 g5 ∧ CC g5 (C ++ (jO acc cv2).1) := by
            cases hacc' : acc with
            | none =>
              have hi0 := hacc hacc'
              refine ⟨g4, ?_, Fr.rf, ?_⟩
              · unfold fX4_readCondition_79
                simp (disch := omega) only [l_0, l_1, l_2, l_3, l_4, l_5, l_6, l_7, l_8, l_9, l_10, l_11, l_12, l_13, l_14, l_15, l_16, l_17, l_18, l_19, l_20, l_21, l_22, l_23, l_24, l_25, l_26, l_28, l_29, l_30, l_31, l_32, l_33, l_34, l_36, l_37, l_38, l_39, l_40, l_41, l_42, l_43, l_44, l_45, l_46, l_47, l_48, l_49, l_50, l_53, l_54, l_57, l_58, l_59, l_60, l_61, l_62, l_63, l_91, l_93, l_97, l_98, l_99, l_100, l_103, l_104, l_110, l_112, l_114, l_115, l_116, l_119, l_120, l_121, l_124, l_128, l_231, l_240, l_241, l_255, l_496, l_999, l_1000, l_8191, l_9999, l_10000, l_100000, l_200000, l_1000000, l_1000000000, ↓reduceIte, n_add, n_ok, n_cl, n_lt, n_le, n_eq, p_0, p_1, p_01, show i ≤ 0 by omega]
              · have e := jO_code C acc cv2
                rw [hacc'] at e j4
                rw [e]; exact j4
            | some cv0 =>
              have hi0 := hacc2 (by rw [hacc']; simp)
              have hl5 : (C ++ acc2C acc ++ cv2.1).length < 240 := by
                have := hacl.2 (by rw [hacc']; simp)
                rw [List.length_append, hll]; omega
              obtain ⟨g5, p1, p2, p3⟩ := c_putC (La := La) (x := -nI 19) j4 hl5
              refine ⟨g5, ?_, p2, ?_⟩
              · unfold fX4_readCondition_79
                simp (disch := omega) only [l_0, l_1, l_2, l_3, l_4, l_5, l_6, l_7, l_8, l_9, l_10, l_11, l_12, l_13, l_14, l_15, l_16, l_17, l_18, l_19, l_20, l_21, l_22, l_23, l_24, l_25, l_26, l_28, l_29, l_30, l_31, l_32, l_33, l_34, l_36, l_37, l_38, l_39, l_40, l_41, l_42, l_43, l_44, l_45, l_46, l_47, l_48, l_49, l_50, l_53, l_54, l_57, l_58, l_59, l_60, l_61, l_62, l_63, l_91, l_93, l_97, l_98, l_99, l_100, l_103, l_104, l_110, l_112, l_114, l_115, l_116, l_119, l_120, l_121, l_124, l_128, l_231, l_240, l_241, l_255, l_496, l_999, l_1000, l_8191, l_9999, l_10000, l_100000, l_200000, l_1000000, l_1000000000, ↓reduceIte, n_add, n_ok, n_cl, n_lt, n_le, n_eq, p_0, p_1, p_01, show ¬ i ≤ 0 by omega, p1, Option.bind_some]
              · have e := jO_code C acc cv2
                rw [hacc'] at e p3
                rw [e]; exact p3
          obtain ⟨g5, h5, hF5, hC5⟩ := hput
          have hc5 : CT g5 b len a4 := t3.fr hF5 (by omega) (by omega)
          have hF5' : Fr FL g0 g5 := hF4.tr (hF5.mo (fun j hj => Or.inr hj))
          have hac := c_accept (La := La) hc5 (c := 124) (by omega)
          rw [a4q] at hac
          rw [h5]
          by_cases ho : sg b len q2 = some 124
          · rw [if_pos ho] at hac ⊢
            have hlt := (sg_lt ho).1
            have hx6 := nx_le (b := b) (show q2 + 1 ≤ len by omega)
            have hjl := jO_len acc cv2
            have hU := hFU (st g5 (q2 + 1)) (q2 + 1) (C ++ (jO acc cv2).1) (hc5.st (by omega)) hC5.st (by rw [List.length_append]; omega)
            obtain ⟨g6, u1, u2, u3, u4⟩ := hU
            have h89 : ∃ x6, fX4_readCondition_89 La FU (fX4_readCondition_2 La FU K (f' + 1)) (nI (6 - r)) x2 (nI i) (nI 1) g5 = fX4_readCondition_30 La FU (fX4_readCondition_2 La FU K f') (nI (6 - r)) x2 (nI (i + 1)) x6 g6 ∧ FU (nI (6 - r)) (st g5 (q2 + 1)) = some (x6, g6) := by
              have hres : ∃ x6, FU (nI (6 - r)) (st g5 (q2 + 1)) = some (x6, g6) := by
                cases hU2 : (pUnit b len r (nx b len (q2 + 1))).2 with
                | none => exact ⟨_, (u3 hU2).1⟩
                | some cv3 => exact ⟨_, (u4 cv3 hU2).1⟩
              obtain ⟨x6, hx6'⟩ := hres
              refine ⟨x6, ?_, hx6'⟩
              unfold fX4_readCondition_89
              simp (disch := omega) only [l_0, l_1, l_2, l_3, l_4, l_5, l_6, l_7, l_8, l_9, l_10, l_11, l_12, l_13, l_14, l_15, l_16, l_17, l_18, l_19, l_20, l_21, l_22, l_23, l_24, l_25, l_26, l_28, l_29, l_30, l_31, l_32, l_33, l_34, l_36, l_37, l_38, l_39, l_40, l_41, l_42, l_43, l_44, l_45, l_46, l_47, l_48, l_49, l_50, l_53, l_54, l_57, l_58, l_59, l_60, l_61, l_62, l_63, l_91, l_93, l_97, l_98, l_99, l_100, l_103, l_104, l_110, l_112, l_114, l_115, l_116, l_119, l_120, l_121, l_124, l_128, l_231, l_240, l_241, l_255, l_496, l_999, l_1000, l_8191, l_9999, l_10000, l_100000, l_200000, l_1000000, l_1000000000, ↓reduceIte, n_add, n_ok, n_cl, n_lt, n_le, n_eq, p_0, p_1, p_01, t_10, hac, Option.bind_some, gz_let_eq]
              rw [fX4_readCondition_2]
              simp (disch := omega) only [l_0, l_1, l_2, l_3, l_4, l_5, l_6, l_7, l_8, l_9, l_10, l_11, l_12, l_13, l_14, l_15, l_16, l_17, l_18, l_19, l_20, l_21, l_22, l_23, l_24, l_25, l_26, l_28, l_29, l_30, l_31, l_32, l_33, l_34, l_36, l_37, l_38, l_39, l_40, l_41, l_42, l_43, l_44, l_45, l_46, l_47, l_48, l_49, l_50, l_53, l_54, l_57, l_58, l_59, l_60, l_61, l_62, l_63, l_91, l_93, l_97, l_98, l_99, l_100, l_103, l_104, l_110, l_112, l_114, l_115, l_116, l_119, l_120, l_121, l_124, l_128, l_231, l_240, l_241, l_255, l_496, l_999, l_1000, l_8191, l_9999, l_10000, l_100000, l_200000, l_1000000, l_1000000000, ↓reduceIte, n_add, n_ok, n_cl, n_lt, n_le, n_eq, p_0, p_1, p_01, show ¬ 240 ≤ i + 1 by omega, show ¬ i + 1 = 0 by omega, fX4_readCondition_25, hx6', Option.bind_some]
            obtain ⟨x6, h89, hx6'⟩ := h89
            rw [h89]
            have hjj : acc2L (some (jO acc cv2)) = (jO acc cv2).1.length + 1 := rfl
            refine ih (nx b len (q2 + 1)) (pUnit b len r (nx b len (q2 + 1))) (i + 1) f' g6 x6 (some (jO acc cv2)) ((st_fr hF5' (Or.inl rfl)).tr u1) u2 (fun e => ?_) (fun cv3 e => ?_) (pUnit_good r _ hx6.2) (pUnit_len r _ hx6.2) (by rw [hjj]; omega) (fun e => by cases e) (fun _ => by omega) (by omega) ?_ (by omega)
            · have := u3 e
              rw [hx6'] at this
              have h7 := Option.some.inj this.1
              exact ⟨congrArg Prod.fst h7, this.2⟩
            · have := u4 cv3 e
              rw [hx6'] at this
              have h7 := Option.some.inj this.1
              exact ⟨congrArg Prod.fst h7, this.2⟩
            · have := (pUnit_good (b := b) r _ hx6.2).1
              omega
          · rw [if_neg ho] at hac ⊢
            refine ⟨st g5 q2, st_fr hF5' (Or.inl rfl), ⟨q2, hc5.st hq2l, fun _ => hq2n⟩, (fun e => by cases e), fun cv' e => ?_⟩
            cases e
            refine ⟨?_, hC5.st⟩
            unfold fX4_readCondition_89
            simp (disch := omega) only [l_0, l_1, l_2, l_3, l_4, l_5, l_6, l_7, l_8, l_9, l_10, l_11, l_12, l_13, l_14, l_15, l_16, l_17, l_18, l_19, l_20, l_21, l_22, l_23, l_24, l_25, l_26, l_28, l_29, l_30, l_31, l_32, l_33, l_34, l_36, l_37, l_38, l_39, l_40, l_41, l_42, l_43, l_44, l_45, l_46, l_47, l_48, l_49, l_50, l_53, l_54, l_57, l_58, l_59, l_60, l_61, l_62, l_63, l_91, l_93, l_97, l_98, l_99, l_100, l_103, l_104, l_110, l_112, l_114, l_115, l_116, l_119, l_120, l_121, l_124, l_128, l_231, l_240, l_241, l_255, l_496, l_999, l_1000, l_8191, l_9999, l_10000, l_100000, l_200000, l_1000000, l_1000000000, ↓reduceIte, n_add, n_ok, n_cl, n_lt, n_le, n_eq, p_0, p_1, p_01, t_10, hac, Option.bind_some]
            exact if_pos (Or.inr trivial)
/-- a condition; the sum with which it begins may have been read -/
theorem c_condition {r : Nat} (hr : r ≤ 6) {FU : Int32 → gz_S → Option (Int32 × gz_S)} (hFU : SubU La b len r FU) {g : gz_S} {a : Nat} {C : List Int32} (h : CT g b len a) (hC : CC g C) (hl : C.length ≤ nx b len a) :
    RdC (fX4_readCondition La FU (nI (6 - r)) (nI 0) g) g b len C (pCondL b len (pUnit b len r) (len + 1) (pUnit b len r (nx b len a)) none) := by
  have h4 := h.2.2.2.1
  have hx := nx_le (b := b) h.2.2.1
  obtain ⟨g6, u1, u2, u3, u4⟩ := hFU g a C h hC hl
  have hres : ∃ x6, FU (nI (6 - r)) g = some (x6, g6) := by
    cases hU2 : (pUnit b len r (nx b len a)).2 with
    | none => exact ⟨_, (u3 hU2).1⟩
    | some cv3 => exact ⟨_, (u4 cv3 hU2).1⟩
  obtain ⟨x6, hx6'⟩ := hres
  obtain ⟨f2, hf2⟩ : ∃ f2, gz_FU = f2 + 1 := ⟨99999, rfl⟩
  have hf3 : f2 = 99999 := by unfold gz_FU at hf2; omega
  unfold fX4_readCondition
  rw [hf2, fX4_readCondition_2]
  simp (disch := omega) only [l_0, l_1, l_2, l_3, l_4, l_5, l_6, l_7, l_8, l_9, l_10, l_11, l_12, l_13, l_14, l_15, l_16, l_17, l_18, l_19, l_20, l_21, l_22, l_23, l_24, l_25, l_26, l_28, l_29, l_30, l_31, l_32, l_33, l_34, l_36, l_37, l_38, l_39, l_40, l_41, l_42, l_43, l_44, l_45, l_46, l_47, l_48, l_49, l_50, l_53, l_54, l_57, l_58, l_59, l_60, l_61, l_62, l_63, l_91, l_93, l_97, l_98, l_99, l_100, l_103, l_104, l_110, l_112, l_114, l_115, l_116, l_119, l_120, l_121, l_124, l_128, l_231, l_240, l_241, l_255, l_496, l_999, l_1000, l_8191, l_9999, l_10000, l_100000, l_200000, l_1000000, l_1000000000, ↓reduceIte, n_add, n_ok, n_cl, n_lt, n_le, n_eq, p_0, p_1, p_01, show ¬ 240 ≤ 0 by omega, fX4_readCondition_25, hx6', Option.bind_some]
  refine c_condL hFU _ (nI 0) C g (len + 1) (nx b len a) _ 0 f2 g6 x6 none u1 u2 (fun e => ?_) (fun cv3 e => ?_) (pUnit_good r _ hx.2) (pUnit_len r _ hx.2) (by show C.length + 0 ≤ _; omega) (fun _ => rfl) (fun e => absurd rfl e) (by omega) ?_ (by omega)
  · have := u3 e
    rw [hx6'] at this
    have h7 := Option.some.inj this.1
    exact ⟨congrArg Prod.fst h7, this.2⟩
  · have := u4 cv3 e
    rw [hx6'] at this
    have h7 := Option.some.inj this.1
    refine ⟨congrArg Prod.fst h7, ?_⟩
    have e2 : C ++ acc2C none ++ cv3.1 = C ++ cv3.1 := by unfold acc2C; simp
    rw [e2]; exact this.2
  · have := (pUnit_good (b := b) r _ hx.2).1
    omega
theorem c_conditionB {r : Nat} (hr : r ≤ 6) {FU : Int32 → gz_S → Option (Int32 × gz_S)} (hFU : SubU La b len r FU) {g : gz_S} {a p : Nat} {C : List Int32} {cv : pV} (h : CT g b len a) (hC : CC g (C ++ cv.1)) (hl : C.length ≤ p) (hp : p + cv.1.length ≤ nx b len a) :
    RdC (fX4_readCondition La FU (nI (6 - r)) (nI 1) g) g b len C (pCondL b len (pUnit b len r) (len + 1) (pCmp b len r (nx b len a) cv) none) := by
  have h4 := h.2.2.2.1
  have hx := nx_le (b := b) h.2.2.1
  have hcg := pCmp_good (b := b) (r := r) (cv := cv) hx.2
  have hcl := pCmp_len (b := b) (r := r) (cv := cv) hx.2
  obtain ⟨g6, u1, u2, u3, u4⟩ := c_readCompared (La := La) hr h hC (by rw [List.length_append]; omega)
  have hres : ∃ x6, fX4_readCompared La (nI (6 - r)) g = some (x6, g6) := by
    cases hU2 : (pCmp b len r (nx b len a) cv).2 with
    | none => exact ⟨_, (u3 hU2).1⟩
    | some cv3 => exact ⟨_, (u4 cv3 hU2).1⟩
  obtain ⟨x6, hx6'⟩ := hres
  obtain ⟨f2, hf2⟩ : ∃ f2, gz_FU = f2 + 1 := ⟨99999, rfl⟩
  have hf3 : f2 = 99999 := by unfold gz_FU at hf2; omega
  unfold fX4_readCondition
  rw [hf2, fX4_readCondition_2]
  simp (disch := omega) only [l_0, l_1, l_2, l_3, l_4, l_5, l_6, l_7, l_8, l_9, l_10, l_11, l_12, l_13, l_14, l_15, l_16, l_17, l_18, l_19, l_20, l_21, l_22, l_23, l_24, l_25, l_26, l_28, l_29, l_30, l_31, l_32, l_33, l_34, l_36, l_37, l_38, l_39, l_40, l_41, l_42, l_43, l_44, l_45, l_46, l_47, l_48, l_49, l_50, l_53, l_54, l_57, l_58, l_59, l_60, l_61, l_62, l_63, l_91, l_93, l_97, l_98, l_99, l_100, l_103, l_104, l_110, l_112, l_114, l_115, l_116, l_119, l_120, l_121, l_124, l_128, l_231, l_240, l_241, l_255, l_496, l_999, l_1000, l_8191, l_9999, l_10000, l_100000, l_200000, l_1000000, l_1000000000, ↓reduceIte, n_add, n_ok, n_cl, n_lt, n_le, n_eq, p_0, p_1, p_01, show ¬ 240 ≤ 0 by omega, t_10, hx6', Option.bind_some]
  refine c_condL hFU _ (nI 1) C g (len + 1) p _ 0 f2 g6 x6 none u1 u2 (fun e => ?_) (fun cv3 e => ?_) ⟨by have := hcg.1; omega, hcg.2.1, fun cv e => by have := hcg.2.2 cv e; omega⟩ (fun cv3 e => by have := hcl cv3 e; omega) (by show C.length + 0 ≤ _; omega) (fun _ => rfl) (fun e => absurd rfl e) (by omega) ?_ (by omega)
  · have := u3 e
    rw [hx6'] at this
    have h7 := Option.some.inj this.1
    exact ⟨congrArg Prod.fst h7, this.2⟩
  · have := u4 cv3 e
    rw [hx6'] at this
    have h7 := Option.some.inj this.1
    refine ⟨congrArg Prod.fst h7, ?_⟩
    have e2 : C ++ acc2C none ++ cv3.1 = C ++ cv3.1 := by unfold acc2C; simp
    rw [e2]; exact this.2
  · have := hcg.1
    omega
end C4
