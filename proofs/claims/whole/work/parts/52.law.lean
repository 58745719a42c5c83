/-! the class reads a law: sums -/
def pL (p : Nat) (s : pR) : Prop := ∀ cv, s.2 = some cv → cv.1.length + p ≤ s.1
def accL (acc : Option (Int32 × pV)) : Nat := match acc with
  | none => 0
  | some (_, cv) => cv.1.length + 1
theorem jV_len (op : Int32) (x y : pV) : (jV op x y).1.length = x.1.length + y.1.length + 1 := by
  unfold jV; simp [List.length_append]; omega
theorem pAt_0 (b : Nat → Nat) (len p : Nat) : pAt b len 0 p = pAtom b len none p := rfl
theorem pAt_s (b : Nat → Nat) (len r p : Nat) : pAt b len (r + 1) p = pAtom b len (some (pSum b len r)) p := rfl
theorem jA_len (acc : Option (Int32 × pV)) (cv : pV) : (jA acc cv).1.length = accL acc + cv.1.length := by
  cases acc with
  | none => unfold jA accL; simp
  | some o => obtain ⟨o, cv0⟩ := o; show (jV o cv0 cv).1.length = cv0.1.length + 1 + cv.1.length; rw [jV_len]; omega
theorem pAtom_len {b : Nat → Nat} {len : Nat} {rec : Option (Nat → pR)} (hr : ∀ f, rec = some f → ∀ p, p ≤ len → pGood len p (f p) ∧ pL p (f p)) {p : Nat} (hp : p ≤ len) : pL p (pAtom b len rec p) := by
  have hg := pAtom_good (b := b) (rec := rec) (fun f hf p hp => (hr f hf p hp).1) hp
  unfold pAtom at hg ⊢
  cases hs : sg b len p with
  | none => intro cv h; cases h
  | some c =>
    have h1 := sg_lt hs
    have h2 := nx_le (b := b) (show p + 1 ≤ len by omega)
    rw [hs] at hg
    show pL p (if 48 ≤ c ∧ c ≤ 57 then _ else _)
    by_cases hd : 48 ≤ c ∧ c ≤ 57
    · rw [if_pos hd]
      have hdg : dg b len p := ⟨h1.1, by omega, by omega⟩
      have h3 := numV_le (b := b) (len := len) 4 p 0 hp
      have h4 : p < (numV b len 4 p 0).1 := numV_lt (n := 3) (v := 0) hdg
      have h5 := nx_le (b := b) h3.2
      by_cases hd2 : dg b len (numV b len 4 p 0).1
      · rw [if_pos hd2]; intro cv h; cases h
      · rw [if_neg hd2]; intro cv h; cases h; show 1 + p ≤ nx b len (numV b len 4 p 0).1; omega
    · rw [if_neg hd]
      by_cases h91 : c = 91
      · rw [if_pos h91]
        cases rec with
        | none => intro cv h; cases h
        | some f =>
          have h6 := hr f rfl (nx b len (p + 1)) h2.2
          show pL p (match f (nx b len (p + 1)) with | (q, none) => (q, none) | (q, some cv) => if sg b len q = some 93 then (nx b len (q + 1), some cv) else (q, none))
          cases hf : f (nx b len (p + 1)) with
          | mk q o =>
            rw [hf] at h6
            cases o with
            | none => intro cv h; cases h
            | some cv =>
              have h7 : cv.1.length + nx b len (p + 1) ≤ q := h6.2 cv rfl
              show pL p (if sg b len q = some 93 then (nx b len (q + 1), some cv) else (q, none))
              by_cases h93 : sg b len q = some 93
              · rw [if_pos h93]
                have h8 := sg_lt h93
                have h9 := nx_le (b := b) (show q + 1 ≤ len by omega)
                intro cv' h; cases h; show cv.1.length + p ≤ nx b len (q + 1); omega
              · rw [if_neg h93]; intro cv h; cases h
      · rw [if_neg h91]
        cases ltr c with
        | none => intro cv h; cases h
        | some i => intro cv h; cases h; show 1 + p ≤ nx b len (p + 1); omega
theorem pTerm_len {b : Nat → Nat} {len : Nat} {at0 : Nat → pR} (ha : ∀ p, p ≤ len → pGood len p (at0 p) ∧ pL p (at0 p)) : ∀ n p cv, p ≤ len → len - p < n → ∀ cv', (pTerm b len at0 n p cv).2 = some cv' → cv'.1.length + p ≤ (pTerm b len at0 n p cv).1 + cv.1.length := by
  intro n
  induction n with
  | zero => intro p cv _ h; omega
  | succ n ih =>
    intro p cv hp hn cv'
    unfold pTerm
    cases ho : opT (sg b len p) with
    | none => intro h; cases h; show cv.1.length + p ≤ p + cv.1.length; omega
    | some op =>
      have hlt := opT_lt ho
      have h2 := nx_le (b := b) (show p + 1 ≤ len by omega)
      have h3 := ha _ h2.2
      show (match at0 (nx b len (p + 1)) with | (q, none) => (q, none) | (q, some cv2) => pTerm b len at0 n q (jV op cv cv2)).2 = some cv' → cv'.1.length + p ≤ (match at0 (nx b len (p + 1)) with | (q, none) => (q, none) | (q, some cv2) => pTerm b len at0 n q (jV op cv cv2)).1 + cv.1.length
      cases hat : at0 (nx b len (p + 1)) with
      | mk q o =>
        rw [hat] at h3
        have h4 : nx b len (p + 1) ≤ q := h3.1.1
        have h5 : q ≤ len := h3.1.2.1
        cases o with
        | none => intro h; cases h
        | some cv2 =>
          have h6 : cv2.1.length + nx b len (p + 1) ≤ q := h3.2 cv2 rfl
          intro h
          have := ih q (jV op cv cv2) h5 (by omega) cv' h
          rw [jV_len] at this
          show cv'.1.length + p ≤ (pTerm b len at0 n q (jV op cv cv2)).1 + cv.1.length
          omega
theorem pSumL_len {b : Nat → Nat} {len : Nat} {at0 : Nat → pR} (ha : ∀ p, p ≤ len → pGood len p (at0 p) ∧ pL p (at0 p)) : ∀ n p acc, p ≤ len → len - p < n → ∀ cv', (pSumL b len at0 n p acc).2 = some cv' → cv'.1.length + p ≤ (pSumL b len at0 n p acc).1 + accL acc := by
  intro n
  induction n with
  | zero => intro p acc _ h; omega
  | succ n ih =>
    intro p acc hp hn cv'
    have h1 := ha p hp
    unfold pSumL
    cases hat : at0 p with
    | mk q o =>
      rw [hat] at h1
      have h2 : p ≤ q := h1.1.1
      have h3 : q ≤ len := h1.1.2.1
      cases o with
      | none => intro h; cases h
      | some cv =>
        have h4 : cv.1.length + p ≤ q := h1.2 cv rfl
        have h4' : p < q := h1.1.2.2 cv rfl
        have h5 := pTerm_good (b := b) (fun p hp => (ha p hp).1) (len + 1) q cv h3 (by omega)
        have h5' := pTerm_len (b := b) ha (len + 1) q cv h3 (by omega)
        show (match pTerm b len at0 (len + 1) q cv with | (q2, none) => (q2, none) | (q2, some cv2) => match opS (sg b len q2) with | none => (q2, some (jA acc cv2)) | some op => pSumL b len at0 n (nx b len (q2 + 1)) (some (op, jA acc cv2))).2 = some cv' → _ + p ≤ (match pTerm b len at0 (len + 1) q cv with | (q2, none) => (q2, none) | (q2, some cv2) => match opS (sg b len q2) with | none => (q2, some (jA acc cv2)) | some op => pSumL b len at0 n (nx b len (q2 + 1)) (some (op, jA acc cv2))).1 + accL acc
        cases ht : pTerm b len at0 (len + 1) q cv with
        | mk q2 o2 =>
          rw [ht] at h5 h5'
          have h6 : q ≤ q2 := h5.1
          have h7 : q2 ≤ len := h5.2
          cases o2 with
          | none => intro h; cases h
          | some cv2 =>
            have h8 : cv2.1.length + q ≤ q2 + cv.1.length := h5' cv2 rfl
            show (match opS (sg b len q2) with | none => (q2, some (jA acc cv2)) | some op => pSumL b len at0 n (nx b len (q2 + 1)) (some (op, jA acc cv2))).2 = some cv' → _ + p ≤ (match opS (sg b len q2) with | none => (q2, some (jA acc cv2)) | some op => pSumL b len at0 n (nx b len (q2 + 1)) (some (op, jA acc cv2))).1 + accL acc
            cases ho : opS (sg b len q2) with
            | none => intro h; cases h; show (jA acc cv2).1.length + p ≤ q2 + accL acc; rw [jA_len]; omega
            | some op =>
              have hlt := opS_lt ho
              have h9 := nx_le (b := b) (show q2 + 1 ≤ len by omega)
              intro h
              have h10 := ih (nx b len (q2 + 1)) (some (op, jA acc cv2)) h9.2 (by omega) cv' h
              have h11 : accL (some (op, jA acc cv2)) = (jA acc cv2).1.length + 1 := rfl
              rw [h11, jA_len] at h10
              show cv'.1.length + p ≤ (pSumL b len at0 n (nx b len (q2 + 1)) (some (op, jA acc cv2))).1 + accL acc
              omega
theorem pSum_len {b : Nat → Nat} {len : Nat} : ∀ r p, p ≤ len → pL p (pSum b len r p) := by
  intro r
  induction r with
  | zero =>
    intro p hp cv h
    have := pSumL_len (b := b) (fun p hp => ⟨pAtom_good (fun f hf => by cases hf) hp, pAtom_len (fun f hf => by cases hf) hp⟩) (len + 1) p none hp (by omega) cv h
    exact this
  | succ r ih =>
    intro p hp cv h
    have := pSumL_len (b := b) (fun p hp => ⟨pAtom_good (fun f hf => by cases hf; exact pSum_good r) hp, pAtom_len (fun f hf p hp => by cases hf; exact ⟨pSum_good r p hp, ih p hp⟩) hp⟩) (len + 1) p none hp (by omega) cv h
    exact this
theorem pAt_len {b : Nat → Nat} {len r p : Nat} (hp : p ≤ len) : pL p (pAt b len r p) := by
  cases r with
  | zero => exact pAtom_len (fun f hf => by cases hf) hp
  | succ r => exact pAtom_len (fun f hf p hp => by cases hf; exact ⟨pSum_good r p hp, pSum_len r p hp⟩) hp
/-! code in the reader's row -/
def CC (g : gz_S) (c : List Int32) : Prop := g.1 3 2 = nI c.length ∧ c.length ≤ 240 ∧ ∀ i, i < c.length → g.1 19 i = c.getD i 0
def CE (g : gz_S) : Prop := ∃ s, s ≤ 241 ∧ g.1 3 2 = nI s
abbrev FL (j : Nat) : Prop := j = 1 ∨ j = 3 ∨ j = 19
theorem CC.ce {g : gz_S} {c : List Int32} (h : CC g c) : CE g := ⟨_, by have := h.2.1; omega, h.1⟩
theorem CC.st {g : gz_S} {c : List Int32} {p : Nat} (h : CC g c) : CC (st g p) c := by
  unfold CC; rw [st_n (by omega), st_n (by omega)]; exact h
theorem CE.st {g : gz_S} {p : Nat} (h : CE g) : CE (st g p) := by
  unfold CE; rw [st_n (by omega)]; exact h
theorem CC.wf {g : gz_S} {c : List Int32} {f : Nat → Int32} (h : CC g c) : CC (gz_wa g 1 f) c := by
  unfold CC; rw [wa_ne (by omega), wa_ne (by omega)]; exact h
theorem CE.wf {g : gz_S} {f : Nat → Int32} (h : CE g) : CE (gz_wa g 1 f) := by
  unfold CE; rw [wa_ne (by omega)]; exact h
/-- what a reading of the class leaves -/
def RdC (r : Option (Int32 × gz_S)) (g : gz_S) (b : Nat → Nat) (len : Nat) (C : List Int32) (s : pR) : Prop :=
  ∃ g', Fr FL g g' ∧ (∃ a, CT g' b len a ∧ (s.2 ≠ none → nx b len a = s.1)) ∧ (s.2 = none → r = some (nI 0, g') ∧ g'.1 1 3 = nI s.1 ∧ CE g') ∧ ∀ cv, s.2 = some cv → r = some (nI 1, g') ∧ CC g' (C ++ cv.1)
theorem ng_eq {a c : Nat} (ha : a < 2147483648) (hc : c < 2147483648) : (-nI a = -nI c) = (a = c) :=
  propext ⟨fun h => n_inj ha hc (Int32.neg_inj.mp h), fun h => by rw [h]⟩
theorem ng_n {a c : Nat} (ha : a < 2147483648) (hc : 0 < c ∧ c < 2147483648) : (-nI c = nI a) = False := by
  refine eq_false (fun h => ?_)
  have h2 := congrArg Int32.toInt h
  rw [n_ti ha, Int32.toInt_neg, n_ti hc.2, n_bm (by omega) (by omega)] at h2
  omega
def opI (o : Option Nat) : Int32 := match opT o with
  | some t => t
  | none => match opS o with
    | some t => t
    | none => -nI 1
section C4
variable {La : gz_L} {g : gz_S} {b : Nat → Nat} {len a : Nat}
theorem c_putC {C : List Int32} {x : Int32} (h : CC g C) (hl : C.length < 240) : ∃ g', fX4_put La x g = some g' ∧ Fr (fun j => j = 3 ∨ j = 19) g g' ∧ CC g' (C ++ [x]) := by
  refine ⟨gz_wa (gz_wa g 19 (upd (g.1 19) C.length x)) 3 (upd (g.1 3) 2 (nI (C.length + 1))), ?_, (Fr.rf.wa (Or.inr rfl)).wa (Or.inl rfl), ?_⟩
  · have e : Int32.ofNat 241 = nI 241 := rfl
    unfold fX4_put
    simp (disch := omega) only [l_0, l_1, l_2, l_3, l_4, l_5, l_6, l_7, l_8, l_9, l_10, l_11, l_12, l_13, l_14, l_15, l_16, l_17, l_18, l_19, l_20, l_21, l_22, l_23, l_24, l_25, l_26, l_28, l_29, l_30, l_31, l_32, l_33, l_34, l_36, l_37, l_38, l_39, l_40, l_41, l_42, l_43, l_44, l_45, l_46, l_47, l_48, l_49, l_50, l_53, l_54, l_57, l_58, l_59, l_60, l_61, l_62, l_63, l_91, l_93, l_97, l_98, l_99, l_100, l_103, l_104, l_110, l_112, l_114, l_115, l_116, l_119, l_120, l_121, l_124, l_128, l_231, l_240, l_241, l_255, l_496, l_999, l_1000, l_8191, l_9999, l_10000, l_100000, l_200000, l_1000000, l_1000000000, gz_let_eq, Option.bind_some, ↓reduceIte, wi_wa, wa_at, wa_wa, upd_fI, fI_ap, wa_2, n_add, n_ok, n_cl, n_lt, n_le, n_eq, p_0, p_1, p_01, em_t, nb_0, t_10, n_modd, n_modm, Bool.false_eq_true, not_false_eq_true, not_true, e, h.1, show ¬ 241 ≤ C.length by omega, wa_ne]
  · refine ⟨by rw [wa_at, List.length_append]; rfl, by rw [List.length_append]; show C.length + 1 ≤ 240; omega, fun i hi => ?_⟩
    rw [List.length_append] at hi
    have hi : i < C.length + 1 := hi
    rw [wa_ne (by omega), wa_at]
    unfold upd
    by_cases hc : i = C.length
    · rw [if_pos hc, hc]; simp [List.getD]
    · rw [if_neg hc, h.2.2 i (by omega)]
      simp [List.getD, List.getElem?_append_left (show i < C.length by omega)]
theorem c_putE {x : Int32} (h : CE g) : ∃ g', fX4_put La x g = some g' ∧ Fr (fun j => j = 3 ∨ j = 19) g g' ∧ CE g' := by
  obtain ⟨s, hs, h1⟩ := h
  have e : Int32.ofNat 241 = nI 241 := rfl
  by_cases hl : 241 ≤ s
  · refine ⟨g, ?_, Fr.rf, s, hs, h1⟩
    unfold fX4_put
    simp (disch := omega) only [l_0, l_1, l_2, l_3, l_4, l_5, l_6, l_7, l_8, l_9, l_10, l_11, l_12, l_13, l_14, l_15, l_16, l_17, l_18, l_19, l_20, l_21, l_22, l_23, l_24, l_25, l_26, l_28, l_29, l_30, l_31, l_32, l_33, l_34, l_36, l_37, l_38, l_39, l_40, l_41, l_42, l_43, l_44, l_45, l_46, l_47, l_48, l_49, l_50, l_53, l_54, l_57, l_58, l_59, l_60, l_61, l_62, l_63, l_91, l_93, l_97, l_98, l_99, l_100, l_103, l_104, l_110, l_112, l_114, l_115, l_116, l_119, l_120, l_121, l_124, l_128, l_231, l_240, l_241, l_255, l_496, l_999, l_1000, l_8191, l_9999, l_10000, l_100000, l_200000, l_1000000, l_1000000000, gz_let_eq, Option.bind_some, ↓reduceIte, wi_wa, wa_at, wa_wa, upd_fI, fI_ap, wa_2, n_add, n_ok, n_cl, n_lt, n_le, n_eq, p_0, p_1, p_01, em_t, nb_0, t_10, n_modd, n_modm, Bool.false_eq_true, not_false_eq_true, not_true, e, h1, hl]
  · refine ⟨gz_wa (gz_wa g 19 (upd (g.1 19) s x)) 3 (upd (g.1 3) 2 (nI (s + 1))), ?_, (Fr.rf.wa (Or.inr rfl)).wa (Or.inl rfl), s + 1, by omega, by rw [wa_at]; rfl⟩
    unfold fX4_put
    simp (disch := omega) only [l_0, l_1, l_2, l_3, l_4, l_5, l_6, l_7, l_8, l_9, l_10, l_11, l_12, l_13, l_14, l_15, l_16, l_17, l_18, l_19, l_20, l_21, l_22, l_23, l_24, l_25, l_26, l_28, l_29, l_30, l_31, l_32, l_33, l_34, l_36, l_37, l_38, l_39, l_40, l_41, l_42, l_43, l_44, l_45, l_46, l_47, l_48, l_49, l_50, l_53, l_54, l_57, l_58, l_59, l_60, l_61, l_62, l_63, l_91, l_93, l_97, l_98, l_99, l_100, l_103, l_104, l_110, l_112, l_114, l_115, l_116, l_119, l_120, l_121, l_124, l_128, l_231, l_240, l_241, l_255, l_496, l_999, l_1000, l_8191, l_9999, l_10000, l_100000, l_200000, l_1000000, l_1000000000, gz_let_eq, Option.bind_some, ↓reduceIte, wi_wa, wa_at, wa_wa, upd_fI, fI_ap, wa_2, n_add, n_ok, n_cl, n_lt, n_le, n_eq, p_0, p_1, p_01, em_t, nb_0, t_10, n_modd, n_modm, Bool.false_eq_true, not_false_eq_true, not_true, e, h1, hl, wa_ne]
theorem c_joining {o : Option Nat} (ho : ∀ c, o = some c → c < 256) : fX4_joining La (oI o) g = some (opI o, g) := by
  have hc : ∀ c, o = some c → c < 2147483648 := fun c h => by have := ho c h; omega
  have e : ∀ n, n < 2147483648 → (oI o = nI n) = (o = some n) := fun n hn => oI_eq hn hc
  unfold fX4_joining opI opT opS
  simp (disch := omega) only [l_0, l_1, l_2, l_3, l_4, l_5, l_6, l_7, l_8, l_9, l_10, l_11, l_12, l_13, l_14, l_15, l_16, l_17, l_18, l_19, l_20, l_21, l_22, l_23, l_24, l_25, l_26, l_28, l_29, l_30, l_31, l_32, l_33, l_34, l_36, l_37, l_38, l_39, l_40, l_41, l_42, l_43, l_44, l_45, l_46, l_47, l_48, l_49, l_50, l_53, l_54, l_57, l_58, l_59, l_60, l_61, l_62, l_63, l_91, l_93, l_97, l_98, l_99, l_100, l_103, l_104, l_110, l_112, l_114, l_115, l_116, l_119, l_120, l_121, l_124, l_128, l_231, l_240, l_241, l_255, l_496, l_999, l_1000, l_8191, l_9999, l_10000, l_100000, l_200000, l_1000000, l_1000000000, e]
  by_cases h1 : o = some 42
  · simp [h1]
  · by_cases h2 : o = some 43
    · simp [h2]
    · by_cases h3 : o = some 45
      · simp [h3]
      · by_cases h4 : o = some 47
        · simp [h4]
        · simp [h1, h2, h3, h4]
theorem t2_n : ∀ k, k < 6 → gz_t2 k = nI (([98, 97, 114, 112, 110, 116] : List Nat).getD k 0) := by decide
theorem ltr_n : ∀ k, k < 6 → ltr (([98, 97, 114, 112, 110, 116] : List Nat).getD k 0) = some k ∧ ([98, 97, 114, 112, 110, 116] : List Nat).getD k 0 < 256 := by decide
theorem ltr_none {c : Nat} (h : ∀ k, k < 6 → ¬ c = ([98, 97, 114, 112, 110, 116] : List Nat).getD k 0) : ltr c = none := by
  have h0 : ¬ c = 98 := h 0 (by omega)
  have h1 : ¬ c = 97 := h 1 (by omega)
  have h2 : ¬ c = 114 := h 2 (by omega)
  have h3 : ¬ c = 112 := h 3 (by omega)
  have h4 : ¬ c = 110 := h 4 (by omega)
  have h5 : ¬ c = 116 := h 5 (by omega)
  unfold ltr
  rw [if_neg h0, if_neg h1, if_neg h2, if_neg h3, if_neg h4, if_neg h5]
theorem c_letterOf {o : Option Nat} (ho : ∀ c, o = some c → c < 256) : fX3_letterOf La (oI o) g = some (oI (o.bind ltr), g) := by
  have hc : ∀ c, o = some c → c < 2147483648 := fun c h => by have := ho c h; omega
  have e : ∀ n, n < 2147483648 → (nI n = oI o) = (o = some n) := fun n hn => by rw [← oI_eq hn hc]; exact propext ⟨Eq.symm, Eq.symm⟩
  unfold fX3_letterOf
  refine lp (fun f k (_ : Unit) => fX3_letterOf_2 La f (oI o) (nI k) g) (fun k _ => ∀ j, j < k → ¬ o = some (([98, 97, 114, 112, 110, 116] : List Nat).getD j 0)) 6 (fun r => r = some (oI (o.bind ltr), g)) ?_ ?_ gz_FU 0 () (by omega) (by unfold gz_FU; omega) (fun j hj => absurd hj (Nat.not_lt_zero _))
  · intro f k _ hk hI
    have hn : ¬ 6 ≤ k := by omega
    have hl := ltr_n k hk
    have ht := t2_n k hk
    have hst : fX3_letterOf_2 La (f + 1) (oI o) (nI k) g = if o = some (([98, 97, 114, 112, 110, 116] : List Nat).getD k 0) then some (nI k, g) else fX3_letterOf_2 La f (oI o) (nI (k + 1)) g := by
      rw [fX3_letterOf_2]
      simp (disch := omega) only [l_0, l_1, l_2, l_3, l_4, l_5, l_6, l_7, l_8, l_9, l_10, l_11, l_12, l_13, l_14, l_15, l_16, l_17, l_18, l_19, l_20, l_21, l_22, l_23, l_24, l_25, l_26, l_28, l_29, l_30, l_31, l_32, l_33, l_34, l_36, l_37, l_38, l_39, l_40, l_41, l_42, l_43, l_44, l_45, l_46, l_47, l_48, l_49, l_50, l_53, l_54, l_57, l_58, l_59, l_60, l_61, l_62, l_63, l_91, l_93, l_97, l_98, l_99, l_100, l_103, l_104, l_110, l_112, l_114, l_115, l_116, l_119, l_120, l_121, l_124, l_128, l_231, l_240, l_241, l_255, l_496, l_999, l_1000, l_8191, l_9999, l_10000, l_100000, l_200000, l_1000000, l_1000000000, gz_let_eq, Option.bind_some, ↓reduceIte, wi_wa, wa_at, wa_wa, upd_fI, fI_ap, wa_2, n_add, n_ok, n_cl, n_lt, n_le, n_eq, p_0, p_1, p_01, em_t, nb_0, t_10, n_modd, n_modm, Bool.false_eq_true, not_false_eq_true, not_true, hn, ht, e]
    by_cases h1 : o = some (([98, 97, 114, 112, 110, 116] : List Nat).getD k 0)
    · rw [if_pos h1] at hst
      refine Or.inl (hst.trans ?_)
      rw [h1, Option.bind_some, hl.1]; rfl
    · rw [if_neg h1] at hst
      refine Or.inr ⟨(), hst, fun j hj => ?_⟩
      by_cases hjk : j = k
      · rw [hjk]; exact h1
      · exact hI j (by omega)
  · intro f _ hI
    show fX3_letterOf_2 La (f + 1) (oI o) (nI 6) g = _
    have hb : o.bind ltr = none := by
      cases o with
      | none => rfl
      | some c => exact ltr_none (fun k hk h => hI k hk (by rw [h]))
    rw [fX3_letterOf_2, hb]
    simp (disch := omega) only [l_0, l_1, l_2, l_3, l_4, l_5, l_6, l_7, l_8, l_9, l_10, l_11, l_12, l_13, l_14, l_15, l_16, l_17, l_18, l_19, l_20, l_21, l_22, l_23, l_24, l_25, l_26, l_28, l_29, l_30, l_31, l_32, l_33, l_34, l_36, l_37, l_38, l_39, l_40, l_41, l_42, l_43, l_44, l_45, l_46, l_47, l_48, l_49, l_50, l_53, l_54, l_57, l_58, l_59, l_60, l_61, l_62, l_63, l_91, l_93, l_97, l_98, l_99, l_100, l_103, l_104, l_110, l_112, l_114, l_115, l_116, l_119, l_120, l_121, l_124, l_128, l_231, l_240, l_241, l_255, l_496, l_999, l_1000, l_8191, l_9999, l_10000, l_100000, l_200000, l_1000000, l_1000000000, gz_let_eq, Option.bind_some, ↓reduceIte, wi_wa, wa_at, wa_wa, upd_fI, fI_ap, wa_2, n_add, n_ok, n_cl, n_lt, n_le, n_eq, p_0, p_1, p_01, em_t, nb_0, t_10, n_modd, n_modm, Bool.false_eq_true, not_false_eq_true, not_true, Nat.le_refl]
    rfl
/-- an atom -/
theorem c_readAtom {r : Nat} {FX : Int32 → gz_S → Option (Int32 × gz_S)} (hr : r ≤ 6) (hFX : ∀ r', r = r' + 1 → ∀ g a C, CT g b len a → CC g C → C.length ≤ nx b len a → RdC (FX (nI (6 - r')) g) g b len C (pSum b len r' (nx b len a)))
    {C : List Int32} (h : CT g b len a) (hC : CC g C) (hl : C.length ≤ nx b len a) : RdC (fX4_readAtom La FX (nI (6 - r)) g) g b len C (pAt b len r (nx b len a)) := by
  have h4 := h.2.2.2.1
  have hx := nx_le (b := b) h.2.2.1
  have hxx := nx_nx (b := b) (len := len) (p := a)
  have hn := c_next (La := La) h
  have hst : CT (st g (nx b len a)) b len (nx b len a) := h.st hx.2
  have hCs : CC (st g (nx b len a)) C := hC.st
  have hFs : Fr FL g (st g (nx b len a)) := st_fr Fr.rf (Or.inl rfl)
  have hgood := pAt_good (b := b) (len := len) (r := r) hx.2
  have hlen := pAt_len (b := b) (len := len) (r := r) hx.2
  generalize hp : nx b len a = p at *
  have hsgc : ∀ c, sg b len p = some c → c < 256 := fun c hc => by
    have h5 := sg_lt hc
    rw [← h5.2]; exact (h.2.2.2.2 p h5.1).2
  -- a fault at once
  have refuse : (pAt b len r p = (p, none)) → fX4_readAtom La FX (nI (6 - r)) g = some (nI 0, gz_wa (st g p) 1 (upd ((st g p).1 1) 3 (nI p))) → RdC (fX4_readAtom La FX (nI (6 - r)) g) g b len C (pAt b len r p) := by
    intro e1 e2
    rw [e1, e2]
    exact ⟨_, hFs.wa (Or.inl rfl), ⟨p, hst.wf (by omega), fun e => absurd rfl e⟩, fun _ => ⟨rfl, by rw [wa_at]; exact if_pos rfl, hCs.ce.wf⟩, fun cv e => by cases e⟩
  unfold fX4_readAtom at refuse ⊢
  rw [hn] at refuse ⊢
  have e95 : ∀ g0, CT g0 b len p → CC g0 C → fX4_readAtom_95 La FX (oI (sg b len p)) g0 = (fX3_letterOf La (oI (sg b len p)) g0).bind (fun q96 => if q96.1 = (-1) then (fX9_refuse La (q96.2.1 1 2) q96.2).bind (fun q116 => if q116.1 = 0 ∨ q116.1 = 1 then some (q116.1, q116.2) else none) else gz_let (gz_wi q96.2 1 2 ((q96.2.1 1 2) + 1)) (fun g130 => (fX4_put La (((-1) : Int32) - q96.1) g130).bind (fun q137 => some (1, q137)))) := fun _ _ _ => rfl
  -- a letter or nothing
  have letter : (sg b len p).bind ltr = none → fX4_readAtom_95 La FX (oI (sg b len p)) (st g p) = some (nI 0, gz_wa (st g p) 1 (upd ((st g p).1 1) 3 (nI p))) := by
    intro hlt
    rw [e95 _ hst hCs, c_letterOf hsgc, hlt]
    have e : oI none = -nI 1 := rfl
    simp (disch := omega) only [l_0, l_1, l_2, l_3, l_4, l_5, l_6, l_7, l_8, l_9, l_10, l_11, l_12, l_13, l_14, l_15, l_16, l_17, l_18, l_19, l_20, l_21, l_22, l_23, l_24, l_25, l_26, l_28, l_29, l_30, l_31, l_32, l_33, l_34, l_36, l_37, l_38, l_39, l_40, l_41, l_42, l_43, l_44, l_45, l_46, l_47, l_48, l_49, l_50, l_53, l_54, l_57, l_58, l_59, l_60, l_61, l_62, l_63, l_91, l_93, l_97, l_98, l_99, l_100, l_103, l_104, l_110, l_112, l_114, l_115, l_116, l_119, l_120, l_121, l_124, l_128, l_231, l_240, l_241, l_255, l_496, l_999, l_1000, l_8191, l_9999, l_10000, l_100000, l_200000, l_1000000, l_1000000000, Option.bind_some, ↓reduceIte, e, st_2, c_refuse]
    exact if_pos (Or.inl trivial)
  cases hs : sg b len p with
  | none =>
    have ep : pAt b len r p = (p, none) := by
      cases r with
      | zero => rw [pAt_0]; unfold pAtom; rw [hs]
      | succ r => rw [pAt_s]; unfold pAtom; rw [hs]
    rw [hs] at letter refuse hn
    refine refuse ep ?_
    have e : oI none = -nI 1 := rfl
    have e48 : (-nI 1 < nI 48) = True := eq_true (by decide)
    have e91 : (-nI 1 = nI 91) = False := eq_false (by decide)
    have hlet := letter rfl
    rw [e] at hlet
    simp only [Option.bind_some, l_0, l_1, l_2, l_3, l_4, l_5, l_6, l_7, l_8, l_9, l_10, l_11, l_12, l_13, l_14, l_15, l_16, l_17, l_18, l_19, l_20, l_21, l_22, l_23, l_24, l_25, l_26, l_28, l_29, l_30, l_31, l_32, l_33, l_34, l_36, l_37, l_38, l_39, l_40, l_41, l_42, l_43, l_44, l_45, l_46, l_47, l_48, l_49, l_50, l_53, l_54, l_57, l_58, l_59, l_60, l_61, l_62, l_63, l_91, l_93, l_97, l_98, l_99, l_100, l_103, l_104, l_110, l_112, l_114, l_115, l_116, l_119, l_120, l_121, l_124, l_128, l_231, l_240, l_241, l_255, l_496, l_999, l_1000, l_8191, l_9999, l_10000, l_100000, l_200000, l_1000000, l_1000000000, e, e48, ↓reduceIte, fX4_readAtom_42, e91, hlet]
  | some c =>
    have hc := hsgc c hs
    have h1 := sg_lt hs
    rw [hs] at letter refuse hn
    have e : oI (some c) = nI c := rfl
    rw [e] at letter refuse hn ⊢
    by_cases hd : 48 ≤ c ∧ c ≤ 57
    · -- a number
      have hdg : dg b len p := ⟨h1.1, by omega, by omega⟩
      obtain ⟨g1, k1, k2, k3, k4, k5, k6⟩ := c_readNumber (La := La) hst (m := 4) (Nat.le_refl _)
      have hxp : nx b len p = p := hxx
      rw [hxp] at k1 k3 k4 k5 k6
      have hlt : p < (numV b len 4 p 0).1 := numV_lt (n := 3) (v := 0) hdg
      have hle := numV_le (b := b) (len := len) 4 p 0 hx.2
      have hv := numV_v (b := b) (len := len) 4 p 0 1 (by omega)
      have hF1 : Fr FL g g1 := hFs.tr (k2.mo (fun j hj => Or.inl hj))
      have hC1 : CC g1 C := by
        unfold CC; rw [k2.1 3 (by omega), k2.1 19 (by omega)]; exact hCs
      have ep : pAt b len r p = if dg b len (numV b len 4 p 0).1 then ((numV b len 4 p 0).1, none) else (nx b len (numV b len 4 p 0).1, some ([nI (numV b len 4 p 0).2], fun _ => ((numV b len 4 p 0).2 : Int))) := by
        cases r with
        | zero => rw [pAt_0]; unfold pAtom; rw [hs]; exact if_pos hd
        | succ r => rw [pAt_s]; unfold pAtom; rw [hs]; exact if_pos hd
      have hcode : (Option.bind (some (nI c, st g p)) fun q4 => if q4.1 < 48 then fX4_readAtom_42 La FX (nI (6 - r)) q4.1 q4.2 else if 57 < q4.1 then fX4_readAtom_42 La FX (nI (6 - r)) q4.1 q4.2 else (fX9_readNumber La 4 q4.2).bind (fun q25 => (fX4_put La (q25.2.1 1 4) q25.2).bind (fun q37 => if q25.1 = 0 ∨ q25.1 = 1 then some (q25.1, q37) else none))) = (fX4_put La (nI (numV b len 4 p 0).2) g1).bind (fun q37 => some (pI (p < (numV b len 4 p 0).1 ∧ ¬ dg b len (numV b len 4 p 0).1), q37)) := by
        simp (disch := omega) only [l_0, l_1, l_2, l_3, l_4, l_5, l_6, l_7, l_8, l_9, l_10, l_11, l_12, l_13, l_14, l_15, l_16, l_17, l_18, l_19, l_20, l_21, l_22, l_23, l_24, l_25, l_26, l_28, l_29, l_30, l_31, l_32, l_33, l_34, l_36, l_37, l_38, l_39, l_40, l_41, l_42, l_43, l_44, l_45, l_46, l_47, l_48, l_49, l_50, l_53, l_54, l_57, l_58, l_59, l_60, l_61, l_62, l_63, l_91, l_93, l_97, l_98, l_99, l_100, l_103, l_104, l_110, l_112, l_114, l_115, l_116, l_119, l_120, l_121, l_124, l_128, l_231, l_240, l_241, l_255, l_496, l_999, l_1000, l_8191, l_9999, l_10000, l_100000, l_200000, l_1000000, l_1000000000, Option.bind_some, ↓reduceIte, n_add, n_ok, n_cl, n_lt, n_le, n_eq, p_0, p_1, p_01, em_t, show ¬ c < 48 by omega, show ¬ 57 < c by omega, k1, k4]
      rw [hcode, ep]
      by_cases hd2 : dg b len (numV b len 4 p 0).1
      · rw [if_pos hd2]
        obtain ⟨g2, p1, p2, p3⟩ := c_putE (La := La) (x := nI (numV b len 4 p 0).2) hC1.ce
        have hF2 : Fr FL g g2 := hF1.tr (p2.mo (fun j hj => Or.inr hj))
        refine ⟨g2, hF2, ⟨_, k3.fr p2 (by omega) (by omega), fun e => absurd rfl e⟩, fun _ => ⟨?_, ?_, p3⟩, fun cv e => by cases e⟩
        · rw [p1, Option.bind_some]
          exact (p_f (fun e => e.2 hd2)).symm
        · rw [p2.1 1 (by omega)]; exact k5 (fun e => e.2 hd2)
      · rw [if_neg hd2]
        obtain ⟨g2, p1, p2, p3⟩ := c_putC (La := La) (x := nI (numV b len 4 p 0).2) hC1 (by omega)
        have hF2 : Fr FL g g2 := hF1.tr (p2.mo (fun j hj => Or.inr hj))
        refine ⟨g2, hF2, ⟨_, k3.fr p2 (by omega) (by omega), fun _ => rfl⟩, (fun e => by cases e), fun cv e => ?_⟩
        cases e
        refine ⟨?_, p3⟩
        rw [p1, Option.bind_some]
        exact (p_t ⟨hlt, hd2⟩).symm
    · have h42 : (Option.bind (some (nI c, st g p)) fun q4 => if q4.1 < 48 then fX4_readAtom_42 La FX (nI (6 - r)) q4.1 q4.2 else if 57 < q4.1 then fX4_readAtom_42 La FX (nI (6 - r)) q4.1 q4.2 else (fX9_readNumber La 4 q4.2).bind (fun q25 => (fX4_put La (q25.2.1 1 4) q25.2).bind (fun q37 => if q25.1 = 0 ∨ q25.1 = 1 then some (q25.1, q37) else none))) = fX4_readAtom_42 La FX (nI (6 - r)) (nI c) (st g p) := by
        simp (disch := omega) only [l_0, l_1, l_2, l_3, l_4, l_5, l_6, l_7, l_8, l_9, l_10, l_11, l_12, l_13, l_14, l_15, l_16, l_17, l_18, l_19, l_20, l_21, l_22, l_23, l_24, l_25, l_26, l_28, l_29, l_30, l_31, l_32, l_33, l_34, l_36, l_37, l_38, l_39, l_40, l_41, l_42, l_43, l_44, l_45, l_46, l_47, l_48, l_49, l_50, l_53, l_54, l_57, l_58, l_59, l_60, l_61, l_62, l_63, l_91, l_93, l_97, l_98, l_99, l_100, l_103, l_104, l_110, l_112, l_114, l_115, l_116, l_119, l_120, l_121, l_124, l_128, l_231, l_240, l_241, l_255, l_496, l_999, l_1000, l_8191, l_9999, l_10000, l_100000, l_200000, l_1000000, l_1000000000, Option.bind_some, ↓reduceIte, n_add, n_ok, n_cl, n_lt, n_le, n_eq, p_0, p_1, p_01]
        by_cases c1 : c < 48
        · rw [if_pos c1]
        · rw [if_neg c1, if_pos (by omega)]
      rw [h42] at refuse ⊢
      -- the letter, or none
      have lett : fX4_readAtom_42 La FX (nI (6 - r)) (nI c) (st g p) = fX4_readAtom_95 La FX (nI c) (st g p) → pAt b len r p = (match ltr c with | none => (p, none) | some i => (nx b len (p + 1), some ([-nI (1 + i)], fun e => e i))) → RdC (fX4_readAtom_42 La FX (nI (6 - r)) (nI c) (st g p)) g b len C (pAt b len r p) := by
        intro e1 e2
        cases hl : ltr c with
        | none =>
          rw [hl] at e2
          exact refuse e2 (e1.trans (letter hl))
        | some i =>
          rw [hl] at e2
          rw [e1, e2]
          have hi : i < 6 := by
            unfold ltr at hl
            repeat' split at hl
            all_goals first | (cases hl; omega) | cases hl
          have hst1 : CT (st g (p + 1)) b len (p + 1) := h.st (by omega)
          obtain ⟨g2, p1, p2, p3⟩ := c_putC (La := La) (x := -nI (1 + i)) (hC.st (p := p + 1)) (by omega)
          have hval : ∀ j, j < 6 → (-nI 1 : Int32) - nI j = -nI (1 + j) := by decide
          refine ⟨g2, (st_fr Fr.rf (Or.inl rfl)).tr (p2.mo (fun j hj => Or.inr hj)), ⟨p + 1, hst1.fr p2 (by omega) (by omega), fun _ => rfl⟩, (fun e => by cases e), fun cv e => ?_⟩
          cases e
          refine ⟨?_, p3⟩
          have hb : (sg b len p).bind ltr = some i := by rw [hs]; exact hl
          have hlo := c_letterOf (La := La) (g := st g p) hsgc
          rw [hb, hs] at hlo
          have hlo : fX3_letterOf La (nI c) (st g p) = some (nI i, st g p) := hlo
          unfold fX4_readAtom_95
          simp (disch := omega) only [l_0, l_1, l_2, l_3, l_4, l_5, l_6, l_7, l_8, l_9, l_10, l_11, l_12, l_13, l_14, l_15, l_16, l_17, l_18, l_19, l_20, l_21, l_22, l_23, l_24, l_25, l_26, l_28, l_29, l_30, l_31, l_32, l_33, l_34, l_36, l_37, l_38, l_39, l_40, l_41, l_42, l_43, l_44, l_45, l_46, l_47, l_48, l_49, l_50, l_53, l_54, l_57, l_58, l_59, l_60, l_61, l_62, l_63, l_91, l_93, l_97, l_98, l_99, l_100, l_103, l_104, l_110, l_112, l_114, l_115, l_116, l_119, l_120, l_121, l_124, l_128, l_231, l_240, l_241, l_255, l_496, l_999, l_1000, l_8191, l_9999, l_10000, l_100000, l_200000, l_1000000, l_1000000000, Option.bind_some, ↓reduceIte, hlo, m_eq, gz_let_eq, st_2, n_add, wi_st, st_st, hval i hi, p1]
      by_cases h91 : c = 91
      · subst h91
        cases r with
        | zero =>
          refine refuse (by rw [pAt_0]; unfold pAtom; rw [hs]; rfl) ?_
          have hlet := letter rfl
          simp (disch := omega) only [l_0, l_1, l_2, l_3, l_4, l_5, l_6, l_7, l_8, l_9, l_10, l_11, l_12, l_13, l_14, l_15, l_16, l_17, l_18, l_19, l_20, l_21, l_22, l_23, l_24, l_25, l_26, l_28, l_29, l_30, l_31, l_32, l_33, l_34, l_36, l_37, l_38, l_39, l_40, l_41, l_42, l_43, l_44, l_45, l_46, l_47, l_48, l_49, l_50, l_53, l_54, l_57, l_58, l_59, l_60, l_61, l_62, l_63, l_91, l_93, l_97, l_98, l_99, l_100, l_103, l_104, l_110, l_112, l_114, l_115, l_116, l_119, l_120, l_121, l_124, l_128, l_231, l_240, l_241, l_255, l_496, l_999, l_1000, l_8191, l_9999, l_10000, l_100000, l_200000, l_1000000, l_1000000000, fX4_readAtom_42, ↓reduceIte, n_add, n_ok, n_cl, n_lt, n_le, n_eq, p_0, p_1, p_01, hlet, show 6 ≤ 6 - 0 by omega]
        | succ r' =>
          have hst1 : CT (st g (p + 1)) b len (p + 1) := h.st (by omega)
          have hx1 := nx_le (b := b) (show p + 1 ≤ len by omega)
          have hsub := hFX r' rfl (st g (p + 1)) (p + 1) C hst1 hC.st (by omega)
          have ep : pAt b len (r' + 1) p = match pSum b len r' (nx b len (p + 1)) with | (q, none) => (q, none) | (q, some cv) => if sg b len q = some 93 then (nx b len (q + 1), some cv) else (q, none) := by
            rw [pAt_s]; unfold pAtom; rw [hs]; rfl
          have hcode : fX4_readAtom_42 La FX (nI (6 - (r' + 1))) (nI 91) (st g p) = (FX (nI (6 - r')) (st g (p + 1))).bind (fun q71 => if q71.1 = nI 0 then some (nI 0, q71.2) else (fX9_expect La (nI 93) q71.2).bind (fun q83 => if q83.1 = nI 0 then some (nI 0, q83.2) else some (nI 1, q83.2))) := by
            have e6 : 6 - (r' + 1) + 1 = 6 - r' := by omega
            simp (disch := omega) only [l_0, l_1, l_2, l_3, l_4, l_5, l_6, l_7, l_8, l_9, l_10, l_11, l_12, l_13, l_14, l_15, l_16, l_17, l_18, l_19, l_20, l_21, l_22, l_23, l_24, l_25, l_26, l_28, l_29, l_30, l_31, l_32, l_33, l_34, l_36, l_37, l_38, l_39, l_40, l_41, l_42, l_43, l_44, l_45, l_46, l_47, l_48, l_49, l_50, l_53, l_54, l_57, l_58, l_59, l_60, l_61, l_62, l_63, l_91, l_93, l_97, l_98, l_99, l_100, l_103, l_104, l_110, l_112, l_114, l_115, l_116, l_119, l_120, l_121, l_124, l_128, l_231, l_240, l_241, l_255, l_496, l_999, l_1000, l_8191, l_9999, l_10000, l_100000, l_200000, l_1000000, l_1000000000, fX4_readAtom_42, ↓reduceIte, n_add, n_ok, n_cl, n_lt, n_le, n_eq, p_0, p_1, p_01, show ¬ 6 ≤ 6 - (r' + 1) by omega, gz_let_eq, st_2, wi_st, st_st, e6]
            rfl
          rw [hcode, ep]
          have hF1 : Fr FL g (st g (p + 1)) := st_fr Fr.rf (Or.inl rfl)
          obtain ⟨g2, s1, ⟨a2, s2, s2'⟩, s3, s4⟩ := hsub
          cases hsum : pSum b len r' (nx b len (p + 1)) with
          | mk q o =>
            rw [hsum] at s2' s3 s4
            cases o with
            | none =>
              obtain ⟨k1, k2, k3⟩ := s3 rfl
              refine ⟨g2, hF1.tr s1, ⟨a2, s2, fun e => absurd rfl e⟩, fun _ => ⟨?_, k2, k3⟩, fun cv e => by cases e⟩
              rw [k1]; rfl
            | some cv =>
              obtain ⟨k1, k2⟩ := s4 cv rfl
              have hq : nx b len a2 = q := s2' (by simp)
              have hqx := nx_le (b := b) s2.2.2.1
              have hexp := c_expect (La := La) s2 (c := 93) (by omega)
              rw [hq] at hexp hqx
              show RdC _ g b len C (if sg b len q = some 93 then (nx b len (q + 1), some cv) else (q, none))
              by_cases h93 : sg b len q = some 93
              · rw [if_pos h93] at hexp ⊢
                have h93' := sg_lt h93
                refine ⟨st g2 (q + 1), hF1.tr (st_fr s1 (Or.inl rfl)), ⟨q + 1, s2.st (by omega), fun _ => rfl⟩, (fun e => by cases e), fun cv' e => ?_⟩
                cases e
                refine ⟨?_, k2.st⟩
                rw [k1]
                simp (disch := omega) only [l_0, l_1, l_2, l_3, l_4, l_5, l_6, l_7, l_8, l_9, l_10, l_11, l_12, l_13, l_14, l_15, l_16, l_17, l_18, l_19, l_20, l_21, l_22, l_23, l_24, l_25, l_26, l_28, l_29, l_30, l_31, l_32, l_33, l_34, l_36, l_37, l_38, l_39, l_40, l_41, l_42, l_43, l_44, l_45, l_46, l_47, l_48, l_49, l_50, l_53, l_54, l_57, l_58, l_59, l_60, l_61, l_62, l_63, l_91, l_93, l_97, l_98, l_99, l_100, l_103, l_104, l_110, l_112, l_114, l_115, l_116, l_119, l_120, l_121, l_124, l_128, l_231, l_240, l_241, l_255, l_496, l_999, l_1000, l_8191, l_9999, l_10000, l_100000, l_200000, l_1000000, l_1000000000, Option.bind_some, ↓reduceIte, n_add, n_ok, n_cl, n_lt, n_le, n_eq, p_0, p_1, p_01, t_10, hexp]
              · rw [if_neg h93] at hexp ⊢
                refine ⟨gz_wa (st g2 q) 1 (upd ((st g2 q).1 1) 3 (nI q)), hF1.tr ((st_fr s1 (Or.inl rfl)).wa (Or.inl rfl)), ⟨q, (s2.st hqx.2).wf (by omega), fun e => absurd rfl e⟩, fun _ => ⟨?_, by rw [wa_at]; exact if_pos rfl, k2.ce.st.wf⟩, fun cv e => by cases e⟩
                rw [k1]
                simp (disch := omega) only [l_0, l_1, l_2, l_3, l_4, l_5, l_6, l_7, l_8, l_9, l_10, l_11, l_12, l_13, l_14, l_15, l_16, l_17, l_18, l_19, l_20, l_21, l_22, l_23, l_24, l_25, l_26, l_28, l_29, l_30, l_31, l_32, l_33, l_34, l_36, l_37, l_38, l_39, l_40, l_41, l_42, l_43, l_44, l_45, l_46, l_47, l_48, l_49, l_50, l_53, l_54, l_57, l_58, l_59, l_60, l_61, l_62, l_63, l_91, l_93, l_97, l_98, l_99, l_100, l_103, l_104, l_110, l_112, l_114, l_115, l_116, l_119, l_120, l_121, l_124, l_128, l_231, l_240, l_241, l_255, l_496, l_999, l_1000, l_8191, l_9999, l_10000, l_100000, l_200000, l_1000000, l_1000000000, Option.bind_some, ↓reduceIte, n_add, n_ok, n_cl, n_lt, n_le, n_eq, p_0, p_1, p_01, t_10, hexp]
      · refine lett ?_ ?_
        · simp (disch := omega) only [l_0, l_1, l_2, l_3, l_4, l_5, l_6, l_7, l_8, l_9, l_10, l_11, l_12, l_13, l_14, l_15, l_16, l_17, l_18, l_19, l_20, l_21, l_22, l_23, l_24, l_25, l_26, l_28, l_29, l_30, l_31, l_32, l_33, l_34, l_36, l_37, l_38, l_39, l_40, l_41, l_42, l_43, l_44, l_45, l_46, l_47, l_48, l_49, l_50, l_53, l_54, l_57, l_58, l_59, l_60, l_61, l_62, l_63, l_91, l_93, l_97, l_98, l_99, l_100, l_103, l_104, l_110, l_112, l_114, l_115, l_116, l_119, l_120, l_121, l_124, l_128, l_231, l_240, l_241, l_255, l_496, l_999, l_1000, l_8191, l_9999, l_10000, l_100000, l_200000, l_1000000, l_1000000000, fX4_readAtom_42, ↓reduceIte, n_add, n_ok, n_cl, n_lt, n_le, n_eq, p_0, p_1, p_01, h91]
        · cases r with
          | zero => rw [pAt_0]; unfold pAtom; rw [hs]; show (if 48 ≤ c ∧ c ≤ 57 then _ else if c = 91 then _ else _) = _; rw [if_neg hd, if_neg h91]; cases ltr c <;> rfl
          | succ r => rw [pAt_s]; unfold pAtom; rw [hs]; show (if 48 ≤ c ∧ c ≤ 57 then _ else if c = 91 then _ else _) = _; rw [if_neg hd, if_neg h91]; cases ltr c <;> rfl
end C4
