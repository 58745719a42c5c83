/-! the class's foresight: rocks that keep two apart -/
theorem em_t {P : Prop} : (¬ P ∨ P) = True := eq_true (Or.symm (Classical.em P))
theorem nb_0 {b : Bool} : (nI (if b = true then 1 else 0) = nI 0) = ¬ b = true := by
  cases b
  · simp
  · simp only [↓reduceIte, not_true, eq_iff_iff, iff_false]; decide
theorem wa_id {g : gz_S} {j : Nat} {f : Nat → Int32} (h : g.1 j = f) : gz_wa g j f = g := by
  subst h
  unfold gz_wa
  refine Prod.ext ?_ rfl
  funext i
  show (if i = j then g.1 j else g.1 i) = g.1 i
  by_cases hj : i = j
  · subst hj; rw [if_pos rfl]
  · rw [if_neg hj]
def sRock (V : Nat → Nat) (o : Option Nat) : Nat → Nat := match o with
  | none => V
  | some c => uN V c 1
theorem sRock_n {V : Nat → Nat} {o : Option Nat} {k : Nat} (ho : ∀ c, o = some c → c < 30) (hk : 30 ≤ k) : sRock V o k = V k := by
  cases o with
  | none => rfl
  | some c => have := ho c rfl; exact uN_n (by omega)
theorem sRock_wf {B : Nat} {V : Nat → Nat} (h : Wf B V) {o : Option Nat} (ho : ∀ c, o = some c → c < 30) : Wf B (sRock V o) := by
  cases o with
  | none => exact h
  | some c => have := ho c rfl; exact h.up (by omega) (by omega) (by omega) (by omega) (by omega) (by omega) (by omega) (by omega) (by omega) (by omega) (by omega) (by omega) (by omega)
theorem sRock_z {V : Nat → Nat} (h : Z61 V) {o : Option Nat} (ho : ∀ c, o = some c → c < 30) : Z61 (sRock V o) := fun k hk => by rw [sRock_n ho (by omega)]; exact h k hk
/-- the cells that are looked at within n hours -/
def lkHrs (T : sT) (V : Nat → Nat) (n : Nat) : Nat := it (fun k b => b ||| lkAll T (sHrs T V k) (V 60)) n 0
def sLooked (T : sT) (V : Nat → Nat) (a b n : Nat) : Nat := lkHrs T V (match sMeet T V a b n with | none => n | some k => k + 1)
theorem sLk_lt {B : Nat} {V : Nat → Nat} (h : Wf B V) {i d : Nat} (hc : V (30 + i) < V 58 * V 59) : sLk V i d < 1073741824 := by
  unfold sLk
  cases ho : sBes V (V (30 + i)) d with
  | none => show 0 < _; omega
  | some c =>
    have h1 := sBes_lt h.2.1 hc ho
    have h2 := h.cells
    exact b_pow (by omega)
theorem sLkS_lt {B : Nat} {V : Nat → Nat} (h : Wf B V) {T : sT} {i : Nat} (hc : V (30 + i) < V 58 * V 59) : sLkS T V i < 1073741824 := by
  cases T with
  | none => exact b_or (sLk_lt h hc) (sLk_lt h hc)
  | some t => exact b_or (b_or (sLk_lt h hc) (sLk_lt h hc)) (sLk_lt h hc)
theorem lkPk_lt {B : Nat} {V : Nat → Nat} {T : sT} (hT : TLt T) (h : Wf B V) {i : Nat} (hi : i < V 60) : ∀ k, B + k < 1000000 → lkPk T i V k < 1073741824 := by
  intro k
  have h60 := h.2.2.2.1.2
  induction k with
  | zero => intro _; show 0 < _; omega
  | succ k ih =>
    intro hk
    have hw := sPk_wf hT h hi k (by omega)
    rw [lkPk_s]
    split
    · exact b_or (ih (by omega)) (sLkS_lt hw (hw.2.2.2.2.2.2.2.2.2.2 i (by rw [sPk_fix (by omega) 60 (by omega)]; exact hi)).1)
    · exact ih (by omega)
theorem lkGoer_lt {B : Nat} {V : Nat → Nat} {T : sT} (hT : TLt T) (h : Wf B V) (hB : B < 900000) {i : Nat} (hi : i < V 60) : lkGoer T V i < 1073741824 := by
  have h60 := h.2.2.2.1.2
  have b1 := h.2.2.2.2.2.2.2.2.2.1 i (by omega)
  unfold lkGoer
  split
  · by_cases hu : sUnd V (V (30 + i))
    · rw [if_pos hu]
      have w1 : Wf B (uN V (42 + i) 2) := h.up (by omega) (by omega) (by omega) (by omega) (by omega) (by omega) (by omega) (by omega) (by omega) (by omega) (by omega) (by omega) (by omega)
      exact lkPk_lt hT w1 (by rw [uN_n (by omega)]; exact hi) _ (by omega)
    · rw [if_neg hu]; exact lkPk_lt hT h hi _ (by omega)
  · omega
theorem lkAll_lt {B : Nat} {V : Nat → Nat} {T : sT} (hT : TLt T) (h : Wf B V) (hB : B < 800000) : ∀ n, n ≤ V 60 → lkAll T V n < 1073741824 := by
  intro n
  have h60 := h.2.2.2.1.2
  induction n with
  | zero => intro _; show 0 < _; omega
  | succ n ih =>
    intro hn
    show lkAll T V n ||| lkGoer T (sAll T V n) n < _
    exact b_or (ih (by omega)) (lkGoer_lt hT (sAll_wf hT h hB n (by omega)) (by omega) (by rw [sAll_fix (by omega) 60 (by omega)]; omega))
theorem lkHrs_lt {B : Nat} {V : Nat → Nat} {T : sT} (hT : TLt T) (h : Wf B V) : ∀ n, B + 20 * n < 800000 → lkHrs T V n < 1073741824 := by
  intro n
  have h60 := h.2.2.2.1.2
  induction n with
  | zero => intro _; show 0 < _; omega
  | succ n ih =>
    intro hn
    show lkHrs T V n ||| lkAll T (sHrs T V n) (V 60) < _
    exact b_or (ih (by omega)) (lkAll_lt hT (sHrs_wf hT h n (by omega)) (by omega) _ (by rw [sHrs_fix h60 (by omega)]; exact Nat.le_refl _))
theorem ff_lt {p : Nat → Bool} : ∀ {n i : Nat}, ff p n = some i → i < n ∧ p i = true := by
  intro n
  induction n with
  | zero => intro i h; cases h
  | succ n ih =>
    intro i h
    unfold ff at h
    cases h1 : ff p n with
    | some j => rw [h1] at h; cases h; have := ih h1; exact ⟨by omega, this.2⟩
    | none =>
      rw [h1] at h
      by_cases hp : p n = true
      · rw [if_pos hp] at h; cases h; exact ⟨by omega, hp⟩
      · rw [if_neg hp] at h; cases h
theorem sLooked_lt {B : Nat} {V : Nat → Nat} {T : sT} (hT : TLt T) (h : Wf B V) {a b n : Nat} (hn : B + 20 * n < 800000) : sLooked T V a b n < 1073741824 := by
  unfold sLooked
  cases hm : sMeet T V a b n with
  | none => exact lkHrs_lt hT h _ hn
  | some k =>
    have := (ff_lt hm).1
    exact lkHrs_lt hT h _ (by show B + 20 * (k + 1) < 800000; omega)
abbrev sFree (V : Nat → Nat) (c : Nat) : Prop := V c = 0 ∧ sCnt V c = 0
def sTry (T : sT) (V : Nat → Nat) (a b n c : Nat) : Bool := (sLooked T V a b n).testBit c && decide (sFree V c)
def sOne (T : sT) (V : Nat → Nat) (a b n : Nat) : Option Nat := ff (fun c => sTry T V a b n c && decide (sMeet T (sRock V (some c)) a b n = none)) (V 58 * V 59)
def sLb (T : sT) (V : Nat → Nat) (a b n c : Nat) : Option Nat := if sTry T V a b n c then some (sLooked T (sRock V (some c)) a b n) else none
def lbI (o : Option Nat) : Int32 := match o with
  | none => -nI 1
  | some x => nI x
def lbT (o : Option Nat) (d : Nat) : Bool := match o with
  | none => true
  | some x => x.testBit d
def sMat (T : sT) (V : Nat → Nat) (a b n c d : Nat) : Bool := ((sLooked T V a b n).testBit c || (sLooked T V a b n).testBit d) && lbT (sLb T V a b n c) d && lbT (sLb T V a b n d) c
def sTwoP (T : sT) (V : Nat → Nat) (a b n c d : Nat) : Bool := decide (c < d) && sMat T V a b n c d && decide (sFree V c) && decide (sFree V d) && decide (sMeet T (sRock (sRock V (some c)) (some d)) a b n = none)
def sTwo1 (T : sT) (V : Nat → Nat) (a b n c : Nat) : Option Nat := ff (fun d => sTwoP T V a b n c d) (V 58 * V 59)
def sTwo (T : sT) (V : Nat → Nat) (a b n : Nat) : Option Nat := match ff (fun c => (sTwo1 T V a b n c).isSome) (V 58 * V 59) with
  | none => none
  | some c => (sTwo1 T V a b n c).map (fun d => c * 100 + d)
abbrev WT (j : Nat) : Prop := WF 7 j ∨ j = 10 ∨ j = 30 ∨ j = 31 ∨ j = 32
def FT (g g' : gz_S) : Prop := Fr WT g g' ∧ ∃ Vs, g'.1 23 = fI Vs ∧ Z61 Vs
theorem FS.ft {g g' : gz_S} (h : FS g g') : FT g g' := ⟨h.1.mo (fun _ hj => Or.inl hj), h.2⟩
theorem FT.tr {g g' g'' : gz_S} (h : FT g g') (h' : FT g' g'') : FT g g'' := ⟨h.1.tr h'.1, h'.2⟩
theorem WT_lt : ∀ j, WT j → j < 64 := by intro j hj; omega
theorem CF.ft {La : gz_L} {g g' : gz_S} {V : Nat → Nat} {T : sT} {B : Nat} (h : CF La g V T B) (hf : FT g g') : CF La g' V T B :=
  ⟨by rw [hf.1.1 22 (by omega)]; exact h.1, h.2.1, h.2.2.1, h.2.2.2.1.fr hf.1 WT_lt, hf.2⟩
theorem FT.wa {g g' : gz_S} (h : FT g g') {j : Nat} {f : Nat → Int32} (hj : j = 10 ∨ j = 30 ∨ j = 31 ∨ j = 32) : FT g (gz_wa g' j f) :=
  ⟨h.1.wa (Or.inr hj), by rw [wa_ne (by omega)]; exact h.2⟩
theorem m1_bit : ∀ d, d < 32 → ((-nI 1) >>> (nI d &&& nI 31)) &&& nI 1 = nI 1 := by decide +kernel
theorem lb_bit {o : Option Nat} (ho : ∀ x, o = some x → x < 1073741824) {d : Nat} (hd : d < 30) : (lbI o >>> (nI d &&& nI 31)) &&& nI 1 = nI (if lbT o d then 1 else 0) := by
  cases o with
  | none => exact m1_bit d (by omega)
  | some x => exact n_bit (by have := ho x rfl; omega) (by omega)
theorem tb_or {p q : Bool} : ((if p = true then 1 else 0) ||| (if q = true then 1 else 0)) = (if (p || q) = true then 1 else 0) := by cases p <;> cases q <;> rfl
section C2
variable {La : gz_L} {g : gz_S} {V : Nat → Nat} {B : Nat} {T : sT}
theorem c_layRock (hv : g.1 23 = fI V) {o : Option Nat} (ho : ∀ c, o = some c → c < 30) : fX2_layRock La (oI o) g = some (gz_wa g 23 (fI (sRock V o))) := by
  cases o with
  | none =>
    have e : gz_wa g 23 (fI V) = g := wa_id hv
    show fX2_layRock La (-nI 1) g = some (gz_wa g 23 (fI V))
    unfold fX2_layRock
    rw [e]
    exact if_pos rfl
  | some c =>
    have hc := ho c rfl
    show fX2_layRock La (nI c) g = some (gz_wa g 23 (fI (uN V c 1)))
    unfold fX2_layRock
    simp (disch := omega) only [l_0, l_1, l_2, l_3, l_4, l_5, l_6, l_7, l_8, l_9, l_10, l_11, l_12, l_13, l_14, l_15, l_16, l_17, l_18, l_19, l_20, l_21, l_22, l_23, l_24, l_25, l_26, l_28, l_29, l_30, l_31, l_32, l_33, l_34, l_36, l_37, l_38, l_39, l_40, l_41, l_42, l_43, l_44, l_45, l_46, l_47, l_48, l_49, l_50, l_53, l_54, l_57, l_58, l_59, l_60, l_61, l_62, l_63, l_91, l_93, l_97, l_98, l_99, l_100, l_103, l_104, l_110, l_112, l_114, l_115, l_116, l_119, l_120, l_121, l_124, l_128, l_231, l_240, l_241, l_255, l_496, l_999, l_1000, l_8191, l_9999, l_10000, l_100000, l_200000, l_1000000, l_1000000000, gz_let_eq, Option.bind_some, ↓reduceIte, wi_wa, wa_at, wa_wa, upd_fI, fI_ap, wa_2, n_add, n_ok, n_cl, n_lt, n_le, n_eq, p_0, p_1, p_01, m_eq, hv, Nat.zero_add]
theorem c_keepsApart (h : CF La g V T B) (hB : B < 400000) {a b n : Nat} (ha : a < 4) (hb : b < 4) (hn : n ≤ 20) {o1 o2 : Option Nat} (h1 : ∀ c, o1 = some c → c < 30) (h2 : ∀ c, o2 = some c → c < 30) :
    ∃ g', fX2_keepsApart La (nI a) (nI b) (nI n) (oI o1) (oI o2) g = some (pI (sMeet T (sRock (sRock V o1) o2) a b n = none), g') ∧ FS g g' ∧ g'.1 8 2 = nI (sLooked T (sRock (sRock V o1) o2) a b n) := by
  obtain ⟨hv, hW, hz, hL, hs⟩ := h
  have hW2 := sRock_wf (sRock_wf hW h1) h2
  have hz2 := sRock_z (sRock_z hz h1) h2
  have e60 : sRock (sRock V o1) o2 60 = V 60 := by rw [sRock_n h2 (by omega), sRock_n h1 (by omega)]
  have h60 := hW2.2.2.2.1.2
  unfold fX2_keepsApart
  rw [c_spare (Or.inr rfl) hv hz hs, Option.bind_some, c_layRock (wa_at _ _ _) h1, Option.bind_some, wa_wa, c_layRock (wa_at _ _ _) h2, Option.bind_some, wa_wa, gz_let_eq, wi_wa]
  generalize sRock (sRock V o1) o2 = U at *
  refine lp (fun f k g1 => fX2_keepsApart_34 La f (nI a) (nI b) (nI n) (nI k) g1)
    (fun k g1 => Fr (WF 7) g g1 ∧ g1.1 23 = fI (sHrs T U k) ∧ (∀ j, j < k → ¬ sTog (sHrs T U (j + 1)) a b) ∧ g1.1 8 2 = nI (lkHrs T U k)) n (fun r => ∃ g', r = some (pI (sMeet T U a b n = none), g') ∧ FS g g' ∧ g'.1 8 2 = nI (sLooked T U a b n)) ?_ ?_ gz_FU 0 _ (by omega) (by unfold gz_FU; omega)
    ⟨((FS.sp hz2).1).wa (Or.inl rfl), by rw [wa_ne (by omega), wa_at]; rfl, fun j hj => absurd hj (Nat.not_lt_zero _), by rw [wa_at]; rfl⟩
  · intro f k g1 hk h1
    have hWk := sHrs_wf hL.lt hW2 (k + 1) (by omega)
    obtain ⟨g2, a1, a2, a3, a4⟩ := c_hr (La := La) hL h1.1 h1.2.1 (sHrs_wf hL.lt hW2 k (by omega)) (by omega)
    have hx : ¬ n ≤ k := by omega
    have a3 : g2.1 (7 + 16) = fI (sHrs T U (k + 1)) := a3
    rw [h1.2.2.2, n_or, sHrs_fix h60 (by omega)] at a4
    have a4 : g2.1 8 2 = nI (lkHrs T U (k + 1)) := a4
    by_cases ht : sTog (sHrs T U (k + 1)) a b
    · have he : sMeet T U a b n = some k := ff_some (ff_f h1.2.2.1 (fun j => decide_eq_true_iff)) (by simpa using ht) hk
      refine Or.inl ⟨g2, ?_, ⟨a2, _, a3, sHrs_z h60 hz2 _⟩, ?_⟩
      · show fX2_keepsApart_34 La (f + 1) (nI a) (nI b) (nI n) (nI k) g1 = _
        rw [fX2_keepsApart_34]
        simp (disch := omega) only [l_0, l_1, l_2, l_3, l_4, l_5, l_6, l_7, l_8, l_9, l_10, l_11, l_12, l_13, l_14, l_15, l_16, l_17, l_18, l_19, l_20, l_21, l_22, l_23, l_24, l_25, l_26, l_28, l_29, l_30, l_31, l_32, l_33, l_34, l_36, l_37, l_38, l_39, l_40, l_41, l_42, l_43, l_44, l_45, l_46, l_47, l_48, l_49, l_50, l_53, l_54, l_57, l_58, l_59, l_60, l_61, l_62, l_63, l_91, l_93, l_97, l_98, l_99, l_100, l_103, l_104, l_110, l_112, l_114, l_115, l_116, l_119, l_120, l_121, l_124, l_128, l_231, l_240, l_241, l_255, l_496, l_999, l_1000, l_8191, l_9999, l_10000, l_100000, l_200000, l_1000000, l_1000000000, gz_let_eq, Option.bind_some, ↓reduceIte, wi_wa, wa_at, wa_wa, upd_fI, fI_ap, wa_2, n_add, n_ok, n_cl, n_lt, n_le, n_eq, p_0, p_1, p_01, hx, a1, c_together a3 hWk.1]
        rw [if_neg (not_not_intro ht)]
        exact p_f (by rw [he]; exact fun e => by cases e)
      · unfold sLooked; rw [he]; exact a4
    · refine Or.inr ⟨g2, ?_, a2, a3, fun j hj => ?_, a4⟩
      · show fX2_keepsApart_34 La (f + 1) (nI a) (nI b) (nI n) (nI k) g1 = fX2_keepsApart_34 La f (nI a) (nI b) (nI n) (nI (k + 1)) g2
        rw [fX2_keepsApart_34]
        simp (disch := omega) only [l_0, l_1, l_2, l_3, l_4, l_5, l_6, l_7, l_8, l_9, l_10, l_11, l_12, l_13, l_14, l_15, l_16, l_17, l_18, l_19, l_20, l_21, l_22, l_23, l_24, l_25, l_26, l_28, l_29, l_30, l_31, l_32, l_33, l_34, l_36, l_37, l_38, l_39, l_40, l_41, l_42, l_43, l_44, l_45, l_46, l_47, l_48, l_49, l_50, l_53, l_54, l_57, l_58, l_59, l_60, l_61, l_62, l_63, l_91, l_93, l_97, l_98, l_99, l_100, l_103, l_104, l_110, l_112, l_114, l_115, l_116, l_119, l_120, l_121, l_124, l_128, l_231, l_240, l_241, l_255, l_496, l_999, l_1000, l_8191, l_9999, l_10000, l_100000, l_200000, l_1000000, l_1000000000, gz_let_eq, Option.bind_some, ↓reduceIte, wi_wa, wa_at, wa_wa, upd_fI, fI_ap, wa_2, n_add, n_ok, n_cl, n_lt, n_le, n_eq, p_0, p_1, p_01, hx, a1, c_together a3 hWk.1]
        rw [if_pos ht]
      · by_cases hjk : j = k
        · subst hjk; exact ht
        · exact h1.2.2.1 j (by omega)
  · intro f g1 h1
    have he : sMeet T U a b n = none := ff_none (ff_f h1.2.2.1 (fun j => decide_eq_true_iff))
    refine ⟨g1, ?_, ⟨h1.1, _, h1.2.1, sHrs_z h60 hz2 _⟩, ?_⟩
    · show fX2_keepsApart_34 La (f + 1) (nI a) (nI b) (nI n) (nI n) g1 = _
      rw [fX2_keepsApart_34]
      simp (disch := omega) only [l_0, l_1, l_2, l_3, l_4, l_5, l_6, l_7, l_8, l_9, l_10, l_11, l_12, l_13, l_14, l_15, l_16, l_17, l_18, l_19, l_20, l_21, l_22, l_23, l_24, l_25, l_26, l_28, l_29, l_30, l_31, l_32, l_33, l_34, l_36, l_37, l_38, l_39, l_40, l_41, l_42, l_43, l_44, l_45, l_46, l_47, l_48, l_49, l_50, l_53, l_54, l_57, l_58, l_59, l_60, l_61, l_62, l_63, l_91, l_93, l_97, l_98, l_99, l_100, l_103, l_104, l_110, l_112, l_114, l_115, l_116, l_119, l_120, l_121, l_124, l_128, l_231, l_240, l_241, l_255, l_496, l_999, l_1000, l_8191, l_9999, l_10000, l_100000, l_200000, l_1000000, l_1000000000, gz_let_eq, Option.bind_some, ↓reduceIte, wi_wa, wa_at, wa_wa, upd_fI, fI_ap, wa_2, n_add, n_ok, n_cl, n_lt, n_le, n_eq, p_0, p_1, p_01, Nat.le_refl]
      exact p_t he
    · unfold sLooked; rw [he]; exact h1.2.2.2
theorem c_isFree (hv : g.1 22 = fI V) (hW : Wf B V) {c : Nat} (hc : c < 30) : fX2_isFree La (nI c) g = some (pI (sFree V c), g) := by
  have b0 := hW.1 c
  have b1 : sCnt V c ≤ V 60 := sCnt_le
  have h60 := hW.2.2.2.1.2
  have hv6 : g.1 (6 + 16) = fI V := hv
  unfold fX2_isFree
  simp (disch := omega) only [l_0, l_1, l_2, l_3, l_4, l_5, l_6, l_7, l_8, l_9, l_10, l_11, l_12, l_13, l_14, l_15, l_16, l_17, l_18, l_19, l_20, l_21, l_22, l_23, l_24, l_25, l_26, l_28, l_29, l_30, l_31, l_32, l_33, l_34, l_36, l_37, l_38, l_39, l_40, l_41, l_42, l_43, l_44, l_45, l_46, l_47, l_48, l_49, l_50, l_53, l_54, l_57, l_58, l_59, l_60, l_61, l_62, l_63, l_91, l_93, l_97, l_98, l_99, l_100, l_103, l_104, l_110, l_112, l_114, l_115, l_116, l_119, l_120, l_121, l_124, l_128, l_231, l_240, l_241, l_255, l_496, l_999, l_1000, l_8191, l_9999, l_10000, l_100000, l_200000, l_1000000, l_1000000000, gz_let_eq, Option.bind_some, ↓reduceIte, wi_wa, wa_at, wa_wa, upd_fI, fI_ap, wa_2, n_add, n_ok, n_cl, n_lt, n_le, n_eq, p_0, p_1, p_01, c_kind hv6, c_goingOn hv6 hW.1 h60]
  (repeat' split) <;> first | exact p_t (by omega) | exact p_f (by omega)
theorem c_apartAnyway (h : CF La g V T B) (hB : B < 400000) {a b n : Nat} (ha : a < 4) (hb : b < 4) (hn : n ≤ 20) :
    ∃ g', fX2_apartAnyway La (nI a) (nI b) (nI n) g = some (pI (sMeet T V a b n = none), g') ∧ FT g g' ∧ g'.1 10 5 = nI (sLooked T V a b n) := by
  obtain ⟨g1, h1, h2, h3⟩ := c_keepsApart (La := La) h hB ha hb hn (o1 := none) (o2 := none) (fun c e => by cases e) (fun c e => by cases e)
  have e : oI none = -1 := rfl
  rw [e] at h1
  refine ⟨gz_wa g1 10 (upd (g1.1 10) 5 (g1.1 8 2)), ?_, h2.ft.wa (Or.inl rfl), ?_⟩
  · unfold fX2_apartAnyway
    rw [h1]
    simp (disch := omega) only [l_0, l_1, l_2, l_3, l_4, l_5, l_6, l_7, l_8, l_9, l_10, l_11, l_12, l_13, l_14, l_15, l_16, l_17, l_18, l_19, l_20, l_21, l_22, l_23, l_24, l_25, l_26, l_28, l_29, l_30, l_31, l_32, l_33, l_34, l_36, l_37, l_38, l_39, l_40, l_41, l_42, l_43, l_44, l_45, l_46, l_47, l_48, l_49, l_50, l_53, l_54, l_57, l_58, l_59, l_60, l_61, l_62, l_63, l_91, l_93, l_97, l_98, l_99, l_100, l_103, l_104, l_110, l_112, l_114, l_115, l_116, l_119, l_120, l_121, l_124, l_128, l_231, l_240, l_241, l_255, l_496, l_999, l_1000, l_8191, l_9999, l_10000, l_100000, l_200000, l_1000000, l_1000000000, gz_let_eq, Option.bind_some, ↓reduceIte, wi_wa, wa_at, wa_wa, upd_fI, fI_ap, wa_2, n_add, n_ok, n_cl, n_lt, n_le, n_eq, p_0, p_1, p_01, em_t, nb_0]
    rfl
  · rw [wa_at, h3]; rfl
theorem c_oneStone (h : CF La g V T B) (hB : B < 400000) {a b n : Nat} (ha : a < 4) (hb : b < 4) (hn : n ≤ 20) (h5 : g.1 10 5 = nI (sLooked T V a b n)) :
    ∃ g', fX2_oneStone La (nI a) (nI b) (nI n) g = some (oI (sOne T V a b n), g') ∧ FT g g' ∧ g'.1 10 5 = nI (sLooked T V a b n) ∧ (sOne T V a b n = none → ∀ c, c < V 58 * V 59 → g'.1 30 c = lbI (sLb T V a b n c)) := by
  have hv := h.1
  have hW := h.2.1
  have hL := h.2.2.2.1
  have c30 := hW.cells
  have hlk := sLooked_lt hL.lt hW (a := a) (b := b) (n := n) (by omega)
  unfold fX2_oneStone
  rw [l_0]
  refine lp (fun f k g1 => fX2_oneStone_3 La f (nI a) (nI b) (nI n) (nI k) g1)
    (fun k g1 => FT g g1 ∧ g1.1 10 5 = nI (sLooked T V a b n) ∧ (∀ c, c < k → g1.1 30 c = lbI (sLb T V a b n c)) ∧ ∀ c, c < k → ¬ (sTry T V a b n c && decide (sMeet T (sRock V (some c)) a b n = none)) = true) (V 58 * V 59)
    (fun r => ∃ g', r = some (oI (sOne T V a b n), g') ∧ FT g g' ∧ g'.1 10 5 = nI (sLooked T V a b n) ∧ (sOne T V a b n = none → ∀ c, c < V 58 * V 59 → g'.1 30 c = lbI (sLb T V a b n c))) ?_ ?_ gz_FU 0 g (by omega) (by unfold gz_FU; omega)
    ⟨⟨Fr.rf, h.2.2.2.2⟩, h5, fun c hc => absurd hc (Nat.not_lt_zero _), fun c hc => absurd hc (Nat.not_lt_zero _)⟩
  · intro f k g1 hk h1
    have hcf := h.ft h1.1
    have hv1 : g1.1 (6 + 16) = fI V := hcf.1
    have hx : ¬ V 58 * V 59 ≤ k := by omega
    -- the row of those looked by, begun
    have hF2 : FT g (gz_wa g1 30 (upd (g1.1 30) k (-nI 1))) := h1.1.wa (Or.inr (Or.inl rfl))
    have hcf2 := h.ft hF2
    have e5 : (gz_wa g1 30 (upd (g1.1 30) k (-nI 1))).1 10 5 = nI (sLooked T V a b n) := by rw [wa_ne (by omega)]; exact h1.2.1
    have er : ∀ c, c < k → (gz_wa g1 30 (upd (g1.1 30) k (-nI 1))).1 30 c = lbI (sLb T V a b n c) := by
      intro c hc; rw [wa_at]; unfold upd; rw [if_neg (by omega)]; exact h1.2.2.1 c hc
    have ek : (gz_wa g1 30 (upd (g1.1 30) k (-nI 1))).1 30 k = -nI 1 := by rw [wa_at]; unfold upd; rw [if_pos rfl]
    have hst : fX2_oneStone_3 La (f + 1) (nI a) (nI b) (nI n) (nI k) g1 = if ¬ (sLooked T V a b n).testBit k = true then fX2_oneStone_3 La f (nI a) (nI b) (nI n) (nI (k + 1)) (gz_wa g1 30 (upd (g1.1 30) k (-nI 1))) else if ¬ sFree V k then fX2_oneStone_3 La f (nI a) (nI b) (nI n) (nI (k + 1)) (gz_wa g1 30 (upd (g1.1 30) k (-nI 1))) else (fX2_keepsApart La (nI a) (nI b) (nI n) (nI k) (-nI 1) (gz_wa g1 30 (upd (g1.1 30) k (-nI 1)))).bind (fun q51 => if q51.1 = nI 0 then fX2_oneStone_3 La f (nI a) (nI b) (nI n) (nI (k + 1)) (gz_wa q51.2 30 (upd (q51.2.1 30) k (q51.2.1 8 2))) else some (nI k, q51.2)) := by
      rw [fX2_oneStone_3]
      simp (disch := omega) only [l_0, l_1, l_2, l_3, l_4, l_5, l_6, l_7, l_8, l_9, l_10, l_11, l_12, l_13, l_14, l_15, l_16, l_17, l_18, l_19, l_20, l_21, l_22, l_23, l_24, l_25, l_26, l_28, l_29, l_30, l_31, l_32, l_33, l_34, l_36, l_37, l_38, l_39, l_40, l_41, l_42, l_43, l_44, l_45, l_46, l_47, l_48, l_49, l_50, l_53, l_54, l_57, l_58, l_59, l_60, l_61, l_62, l_63, l_91, l_93, l_97, l_98, l_99, l_100, l_103, l_104, l_110, l_112, l_114, l_115, l_116, l_119, l_120, l_121, l_124, l_128, l_231, l_240, l_241, l_255, l_496, l_999, l_1000, l_8191, l_9999, l_10000, l_100000, l_200000, l_1000000, l_1000000000, gz_let_eq, Option.bind_some, ↓reduceIte, wi_wa, wa_at, wa_wa, upd_fI, fI_ap, wa_2, n_add, n_ok, n_cl, n_lt, n_le, n_eq, p_0, p_1, p_01, em_t, nb_0, hx, c_cells hv1, e5, n_bit, c_isFree hcf2.1 hW, fX2_oneStone_74]
    have htry : sTry T V a b n k = ((sLooked T V a b n).testBit k && decide (sFree V k)) := rfl
    by_cases h6 : (sLooked T V a b n).testBit k = true
    · by_cases h7 : sFree V k
      · have ht : sTry T V a b n k = true := by rw [htry, h6, decide_eq_true h7]; rfl
        obtain ⟨g3, k1, k2, k3⟩ := c_keepsApart (La := La) hcf2 hB ha hb hn (o1 := some k) (o2 := none) (fun c e => by cases e; omega) (fun c e => by cases e)
        have e1 : oI (some k) = nI k := rfl
        have e2 : oI none = -nI 1 := rfl
        rw [e1, e2] at k1
        have eU : sRock (sRock V (some k)) none = sRock V (some k) := rfl
        rw [eU] at k1 k3
        have hF3 := hF2.tr k2.ft
        have e53 : g3.1 10 5 = nI (sLooked T V a b n) := by rw [k2.1.1 10 (by omega)]; exact e5
        have er3 : ∀ c, c < k → g3.1 30 c = lbI (sLb T V a b n c) := by intro c hc; rw [k2.1.1 30 (by omega)]; exact er c hc
        have elb : sLb T V a b n k = some (sLooked T (sRock V (some k)) a b n) := by unfold sLb; rw [ht]; rfl
        rw [if_neg (not_not_intro h6), if_neg (not_not_intro h7), k1, Option.bind_some] at hst
        simp only [p_0] at hst
        by_cases h8 : sMeet T (sRock V (some k)) a b n = none
        · rw [if_neg (not_not_intro h8)] at hst
          refine Or.inl ⟨g3, ?_, hF3, e53, ?_⟩
          · show fX2_oneStone_3 La (f + 1) (nI a) (nI b) (nI n) (nI k) g1 = _
            have he : sOne T V a b n = some k := ff_some (ff_f h1.2.2.2 (fun j => Iff.rfl)) (by show (sTry T V a b n k && _) = true; rw [ht, decide_eq_true h8]; rfl) hk
            rw [hst, he]; rfl
          · intro he
            have he2 : sOne T V a b n = some k := ff_some (ff_f h1.2.2.2 (fun j => Iff.rfl)) (by show (sTry T V a b n k && _) = true; rw [ht, decide_eq_true h8]; rfl) hk
            rw [he2] at he; cases he
        · rw [if_pos h8] at hst
          refine Or.inr ⟨_, hst, hF3.wa (Or.inr (Or.inl rfl)), ?_, ?_, ?_⟩
          · rw [wa_ne (by omega)]; exact e53
          · intro c hc
            rw [wa_at]; unfold upd
            by_cases hck : c = k
            · rw [if_pos hck, hck, elb, k3]; rfl
            · rw [if_neg hck]; exact er3 c (by omega)
          · intro c hc
            by_cases hck : c = k
            · rw [hck, ht, decide_eq_false h8]; simp
            · exact h1.2.2.2 c (by omega)
      · have ht : sTry T V a b n k = false := by rw [htry, decide_eq_false h7]; simp
        rw [if_neg (not_not_intro h6), if_pos h7] at hst
        refine Or.inr ⟨_, hst, hF2, e5, ?_, ?_⟩
        · intro c hc
          by_cases hck : c = k
          · rw [hck, ek]; unfold sLb; rw [ht]; rfl
          · exact er c (by omega)
        · intro c hc
          by_cases hck : c = k
          · rw [hck, ht]; simp
          · exact h1.2.2.2 c (by omega)
    · have ht : sTry T V a b n k = false := by rw [htry, show (sLooked T V a b n).testBit k = false by simpa using h6]; rfl
      rw [if_pos h6] at hst
      refine Or.inr ⟨_, hst, hF2, e5, ?_, ?_⟩
      · intro c hc
        by_cases hck : c = k
        · rw [hck, ek]; unfold sLb; rw [ht]; rfl
        · exact er c (by omega)
      · intro c hc
        by_cases hck : c = k
        · rw [hck, ht]; simp
        · exact h1.2.2.2 c (by omega)
  · intro f g1 h1
    have hcf := h.ft h1.1
    have hv1 : g1.1 (6 + 16) = fI V := hcf.1
    have he : sOne T V a b n = none := ff_none (ff_f h1.2.2.2 (fun j => Iff.rfl))
    refine ⟨g1, ?_, h1.1, h1.2.1, fun _ => h1.2.2.1⟩
    show fX2_oneStone_3 La (f + 1) (nI a) (nI b) (nI n) (nI (V 58 * V 59)) g1 = _
    rw [fX2_oneStone_3, he]
    simp (disch := omega) only [l_0, l_1, l_2, l_3, l_4, l_5, l_6, l_7, l_8, l_9, l_10, l_11, l_12, l_13, l_14, l_15, l_16, l_17, l_18, l_19, l_20, l_21, l_22, l_23, l_24, l_25, l_26, l_28, l_29, l_30, l_31, l_32, l_33, l_34, l_36, l_37, l_38, l_39, l_40, l_41, l_42, l_43, l_44, l_45, l_46, l_47, l_48, l_49, l_50, l_53, l_54, l_57, l_58, l_59, l_60, l_61, l_62, l_63, l_91, l_93, l_97, l_98, l_99, l_100, l_103, l_104, l_110, l_112, l_114, l_115, l_116, l_119, l_120, l_121, l_124, l_128, l_231, l_240, l_241, l_255, l_496, l_999, l_1000, l_8191, l_9999, l_10000, l_100000, l_200000, l_1000000, l_1000000000, gz_let_eq, Option.bind_some, ↓reduceIte, wi_wa, wa_at, wa_wa, upd_fI, fI_ap, wa_2, n_add, n_ok, n_cl, n_lt, n_le, n_eq, p_0, p_1, p_01, em_t, nb_0, Nat.le_refl, c_cells hv1]
    rfl
end C2
