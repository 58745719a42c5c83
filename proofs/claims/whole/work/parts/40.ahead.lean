/-! the class's foresight: hours ahead -/
def Z61 (V : Nat → Nat) : Prop := ∀ k, 61 ≤ k → V k = 0
def sHrs (T : sT) (V : Nat → Nat) (n : Nat) : Nat → Nat := it (fun _ W => sHour T W) n V
theorem sHrs_s (T : sT) (V : Nat → Nat) (n : Nat) : sHrs T V (n + 1) = sHour T (sHrs T V n) := rfl
theorem sHrs_fix {V : Nat → Nat} {T : sT} (h : V 60 ≤ 4) {k : Nat} (hk : k < 30 ∨ k = 46 ∨ k = 48 ∨ 50 ≤ k) : ∀ n, sHrs T V n k = V k := by
  intro n
  have h2 : ∀ n, sHrs T V n 60 = V 60 := by
    intro n
    induction n with
    | zero => rfl
    | succ n ih => rw [sHrs_s, sHour_fix (by rw [ih]; exact h) (by omega), ih]
  induction n with
  | zero => rfl
  | succ n ih => rw [sHrs_s, sHour_fix (by rw [h2]; exact h) hk, ih]
theorem sHrs_wf {B : Nat} {V : Nat → Nat} {T : sT} (hT : TLt T) (h : Wf B V) : ∀ n, B + 20 * n < 800000 → Wf (B + 20 * n) (sHrs T V n) := by
  intro n
  induction n with
  | zero => intro _; exact h
  | succ n ih => intro hn; have h1 := sHour_wf hT (ih (by omega)) (by omega); exact h1.mo (by omega)
theorem sHrs_z {V : Nat → Nat} {T : sT} (h : V 60 ≤ 4) (hz : Z61 V) (n : Nat) : Z61 (sHrs T V n) := fun k hk => by rw [sHrs_fix h (by omega)]; exact hz k hk
abbrev sTog (V : Nat → Nat) (a b : Nat) : Prop := V (42 + a) = 0 ∧ V (42 + b) = 0 ∧ V (30 + b) = V (30 + a)
def sMeet (T : sT) (V : Nat → Nat) (a b n : Nat) : Option Nat := ff (fun k => decide (sTog (sHrs T V (k + 1)) a b)) n
def sEnds (T : sT) (V : Nat → Nat) (i : Nat) : Option Nat := ff (fun k => decide (¬ sHrs T V k (42 + i) = 0)) 100
def sAgain (T : sT) (V : Nat → Nat) (i : Nat) : Option Nat := ff (fun k => decide (sOn (sHrs T V (k + 1)) (V (30 + i)) i ∧ sHrs T V (k + 1) (34 + i) = V (34 + i))) 99
/-- what foresight leaves: the spare scene is a scene -/
def FS (g g' : gz_S) : Prop := Fr (WF 7) g g' ∧ ∃ Vs, g'.1 23 = fI Vs ∧ Z61 Vs
theorem FS.tr {g g' g'' : gz_S} (h : FS g g') (h' : FS g' g'') : FS g g'' := ⟨h.1.tr h'.1, h'.2⟩
/-- where foresight begins -/
def CF (La : gz_L) (g : gz_S) (V : Nat → Nat) (T : sT) (B : Nat) : Prop := g.1 22 = fI V ∧ Wf B V ∧ Z61 V ∧ LW La g T ∧ (∃ Vs, g.1 23 = fI Vs ∧ Z61 Vs)
theorem sc7 : gz_sc 7 := Or.inr (Or.inr rfl)
theorem CF.fs {La : gz_L} {g g' : gz_S} {V : Nat → Nat} {T : sT} {B : Nat} (h : CF La g V T B) (hf : FS g g') : CF La g' V T B :=
  ⟨by rw [hf.1.1 22 (by omega)]; exact h.1, h.2.1, h.2.2.1, h.2.2.2.1.fr hf.1 (WF_lt sc7), hf.2⟩
theorem ff_f {p : Nat → Bool} {P : Nat → Prop} {i : Nat} (h : ∀ j, j < i → ¬ P j) (hp : ∀ j, p j = true ↔ P j) : ∀ j, j < i → p j = false := by
  intro j hj
  have := h j hj
  rw [← hp] at this
  simpa using this
section C2
variable {La : gz_L} {g : gz_S} {V : Nat → Nat} {B : Nat} {T : sT}
/-- the spare scene becomes another -/
theorem c_spare {w : Nat} {Vw : Nat → Nat} (hw : w = 5 ∨ w = 6) (hv : g.1 (w + 16) = fI Vw) (hz : Z61 Vw) (hs : ∃ Vs, g.1 23 = fI Vs ∧ Z61 Vs) : fX6_copy La 7 w g = some (gz_wa g 23 (fI Vw)) := by
  obtain ⟨Vs, h1, h2⟩ := hs
  exact c_copy (w := w) (w0 := 7) hv h1 (fun k hk => by rw [h2 k hk, hz k hk])
theorem FS.sp {Vw : Nat → Nat} (hz : Z61 Vw) : FS g (gz_wa g 23 (fI Vw)) := ⟨Fr.rf.wa (Or.inr (Or.inr (Or.inr rfl))), Vw, wa_at _ _ _, hz⟩
/-- one hour more on the spare scene -/
theorem c_hr {g1 : gz_S} {W : Nat → Nat} {B : Nat} (hL : LW La g T) (hF : Fr (WF 7) g g1) (hv : g1.1 23 = fI W) (hW : Wf B W) (hB : B < 800000) :
    ∃ g2, fX10_passHour La 7 g1 = some (nI (sMet T W), g2) ∧ Fr (WF 7) g g2 ∧ g2.1 23 = fI (sHour T W) ∧ g2.1 8 2 = g1.1 8 2 ||| nI (lkAll T W (W 60)) := by
  obtain ⟨g2, h1, h2⟩ := c_passHour (La := La) (w := 7) sc7 hv hW hB (hL.fr hF (WF_lt sc7))
  exact ⟨g2, h1, hF.tr h2.2.2.2, h2.1, h2.2.1⟩
theorem c_cellBehind (h : CF La g V T B) (hB : B < 400000) {i n : Nat} (hi : i < 4) (hn : n ≤ 99) : ∃ g', fX2_cellBehind La (nI i) (nI n) g = some (nI (sHrs T V n (30 + i)), g') ∧ FS g g' := by
  obtain ⟨hv, hW, hz, hL, hs⟩ := h
  have h60 := hW.2.2.2.1.2
  unfold fX2_cellBehind
  rw [c_spare (Or.inr rfl) hv hz hs, Option.bind_some]
  refine lp (fun f k g1 => fX2_cellBehind_13 La (fun (x1 : Int32) g => if gz_ok ((30 : Int32) + x1) 61 then some (g.1 23 (Int32.toNatClampNeg ((30 : Int32) + x1)), g) else none) f (nI i) (nI n) (nI k) g1)
    (fun k g1 => Fr (WF 7) g g1 ∧ g1.1 23 = fI (sHrs T V k)) n (fun r => ∃ g', r = some (nI (sHrs T V n (30 + i)), g') ∧ FS g g') ?_ ?_ gz_FU 0 _ (by omega) (by unfold gz_FU; omega) ⟨(FS.sp hz).1, wa_at _ _ _⟩
  · intro f k g1 hk h1
    obtain ⟨g2, a1, a2, a3, -⟩ := c_hr (La := La) hL h1.1 h1.2 (sHrs_wf hL.lt hW k (by omega)) (by omega)
    refine Or.inr ⟨g2, ?_, a2, a3⟩
    have hx : ¬ n ≤ k := by omega
    show fX2_cellBehind_13 La _ (f + 1) (nI i) (nI n) (nI k) g1 = fX2_cellBehind_13 La _ f (nI i) (nI n) (nI (k + 1)) g2
    rw [fX2_cellBehind_13]
    simp (disch := omega) only [l_0, l_1, l_2, l_3, l_4, l_5, l_6, l_7, l_8, l_9, l_10, l_11, l_12, l_13, l_14, l_15, l_16, l_17, l_18, l_19, l_20, l_21, l_22, l_23, l_24, l_25, l_26, l_28, l_29, l_30, l_31, l_32, l_33, l_34, l_36, l_37, l_38, l_39, l_40, l_41, l_42, l_43, l_44, l_45, l_46, l_47, l_48, l_49, l_50, l_53, l_54, l_57, l_58, l_59, l_60, l_61, l_62, l_63, l_91, l_93, l_97, l_98, l_99, l_100, l_103, l_104, l_110, l_112, l_114, l_115, l_116, l_119, l_120, l_121, l_124, l_128, l_231, l_240, l_241, l_255, l_496, l_999, l_1000, l_8191, l_9999, l_10000, l_100000, l_200000, l_1000000, l_1000000000, gz_let_eq, Option.bind_some, ↓reduceIte, wi_wa, wa_at, wa_wa, upd_fI, fI_ap, wa_2, n_add, n_ok, n_cl, n_lt, n_le, n_eq, p_0, p_1, p_01, hx, a1]
  · intro f g1 h1
    refine ⟨g1, ?_, h1.1, _, h1.2, sHrs_z h60 hz n⟩
    show fX2_cellBehind_13 La _ (f + 1) (nI i) (nI n) (nI n) g1 = _
    rw [fX2_cellBehind_13]
    simp (disch := omega) only [l_0, l_1, l_2, l_3, l_4, l_5, l_6, l_7, l_8, l_9, l_10, l_11, l_12, l_13, l_14, l_15, l_16, l_17, l_18, l_19, l_20, l_21, l_22, l_23, l_24, l_25, l_26, l_28, l_29, l_30, l_31, l_32, l_33, l_34, l_36, l_37, l_38, l_39, l_40, l_41, l_42, l_43, l_44, l_45, l_46, l_47, l_48, l_49, l_50, l_53, l_54, l_57, l_58, l_59, l_60, l_61, l_62, l_63, l_91, l_93, l_97, l_98, l_99, l_100, l_103, l_104, l_110, l_112, l_114, l_115, l_116, l_119, l_120, l_121, l_124, l_128, l_231, l_240, l_241, l_255, l_496, l_999, l_1000, l_8191, l_9999, l_10000, l_100000, l_200000, l_1000000, l_1000000000, gz_let_eq, Option.bind_some, ↓reduceIte, wi_wa, wa_at, wa_wa, upd_fI, fI_ap, wa_2, n_add, n_ok, n_cl, n_lt, n_le, n_eq, p_0, p_1, p_01, Nat.le_refl, h1.2]
theorem c_firstMeeting (h : CF La g V T B) (hB : B < 400000) {a b : Nat} (ha : a < 4) (hb : b < 4) : ∃ g', fX2_firstMeeting La (nI a) (nI b) g = some (oI ((sMeet T V a b 99).map (· + 1)), g') ∧ FS g g' := by
  obtain ⟨hv, hW, hz, hL, hs⟩ := h
  have h60 := hW.2.2.2.1.2
  unfold fX2_firstMeeting
  rw [c_spare (Or.inr rfl) hv hz hs, Option.bind_some, l_1]
  refine lp (fun f k g1 => fX2_firstMeeting_13 La f (nI a) (nI b) (nI (k + 1)) g1)
    (fun k g1 => Fr (WF 7) g g1 ∧ g1.1 23 = fI (sHrs T V k) ∧ ∀ j, j < k → ¬ sTog (sHrs T V (j + 1)) a b) 99 (fun r => ∃ g', r = some (oI ((sMeet T V a b 99).map (· + 1)), g') ∧ FS g g') ?_ ?_ gz_FU 0 _ (by omega) (by unfold gz_FU; omega) ⟨(FS.sp hz).1, wa_at _ _ _, fun j hj => absurd hj (Nat.not_lt_zero _)⟩
  · intro f k g1 hk h1
    have hWk := sHrs_wf hL.lt hW (k + 1) (by omega)
    obtain ⟨g2, a1, a2, a3, -⟩ := c_hr (La := La) hL h1.1 h1.2.1 (sHrs_wf hL.lt hW k (by omega)) (by omega)
    have hx : ¬ 99 < k + 1 := by omega
    have a3 : g2.1 (7 + 16) = fI (sHrs T V (k + 1)) := a3
    by_cases ht : sTog (sHrs T V (k + 1)) a b
    · refine Or.inl ⟨g2, ?_, a2, _, a3, sHrs_z h60 hz _⟩
      show fX2_firstMeeting_13 La (f + 1) (nI a) (nI b) (nI (k + 1)) g1 = _
      have he : sMeet T V a b 99 = some k := ff_some (ff_f h1.2.2 (fun j => decide_eq_true_iff)) (by simpa using ht) hk
      rw [fX2_firstMeeting_13, he]
      simp (disch := omega) only [l_0, l_1, l_2, l_3, l_4, l_5, l_6, l_7, l_8, l_9, l_10, l_11, l_12, l_13, l_14, l_15, l_16, l_17, l_18, l_19, l_20, l_21, l_22, l_23, l_24, l_25, l_26, l_28, l_29, l_30, l_31, l_32, l_33, l_34, l_36, l_37, l_38, l_39, l_40, l_41, l_42, l_43, l_44, l_45, l_46, l_47, l_48, l_49, l_50, l_53, l_54, l_57, l_58, l_59, l_60, l_61, l_62, l_63, l_91, l_93, l_97, l_98, l_99, l_100, l_103, l_104, l_110, l_112, l_114, l_115, l_116, l_119, l_120, l_121, l_124, l_128, l_231, l_240, l_241, l_255, l_496, l_999, l_1000, l_8191, l_9999, l_10000, l_100000, l_200000, l_1000000, l_1000000000, gz_let_eq, Option.bind_some, ↓reduceIte, wi_wa, wa_at, wa_wa, upd_fI, fI_ap, wa_2, n_add, n_ok, n_cl, n_lt, n_le, n_eq, p_0, p_1, p_01, hx, a1, c_together a3 hWk.1]
      rw [if_neg (not_not_intro ht)]
      rfl
    · refine Or.inr ⟨g2, ?_, a2, a3, fun j hj => ?_⟩
      · show fX2_firstMeeting_13 La (f + 1) (nI a) (nI b) (nI (k + 1)) g1 = fX2_firstMeeting_13 La f (nI a) (nI b) (nI (k + 1 + 1)) g2
        rw [fX2_firstMeeting_13]
        simp (disch := omega) only [l_0, l_1, l_2, l_3, l_4, l_5, l_6, l_7, l_8, l_9, l_10, l_11, l_12, l_13, l_14, l_15, l_16, l_17, l_18, l_19, l_20, l_21, l_22, l_23, l_24, l_25, l_26, l_28, l_29, l_30, l_31, l_32, l_33, l_34, l_36, l_37, l_38, l_39, l_40, l_41, l_42, l_43, l_44, l_45, l_46, l_47, l_48, l_49, l_50, l_53, l_54, l_57, l_58, l_59, l_60, l_61, l_62, l_63, l_91, l_93, l_97, l_98, l_99, l_100, l_103, l_104, l_110, l_112, l_114, l_115, l_116, l_119, l_120, l_121, l_124, l_128, l_231, l_240, l_241, l_255, l_496, l_999, l_1000, l_8191, l_9999, l_10000, l_100000, l_200000, l_1000000, l_1000000000, gz_let_eq, Option.bind_some, ↓reduceIte, wi_wa, wa_at, wa_wa, upd_fI, fI_ap, wa_2, n_add, n_ok, n_cl, n_lt, n_le, n_eq, p_0, p_1, p_01, hx, a1, c_together a3 hWk.1]
        rw [if_pos ht]
      · by_cases hjk : j = k
        · subst hjk; exact ht
        · exact h1.2.2 j (by omega)
  · intro f g1 h1
    refine ⟨g1, ?_, h1.1, _, h1.2.1, sHrs_z h60 hz _⟩
    show fX2_firstMeeting_13 La (f + 1) (nI a) (nI b) (nI (99 + 1)) g1 = _
    have he : sMeet T V a b 99 = none := ff_none (ff_f h1.2.2 (fun j => decide_eq_true_iff))
    rw [fX2_firstMeeting_13, he]
    simp (disch := omega) only [l_0, l_1, l_2, l_3, l_4, l_5, l_6, l_7, l_8, l_9, l_10, l_11, l_12, l_13, l_14, l_15, l_16, l_17, l_18, l_19, l_20, l_21, l_22, l_23, l_24, l_25, l_26, l_28, l_29, l_30, l_31, l_32, l_33, l_34, l_36, l_37, l_38, l_39, l_40, l_41, l_42, l_43, l_44, l_45, l_46, l_47, l_48, l_49, l_50, l_53, l_54, l_57, l_58, l_59, l_60, l_61, l_62, l_63, l_91, l_93, l_97, l_98, l_99, l_100, l_103, l_104, l_110, l_112, l_114, l_115, l_116, l_119, l_120, l_121, l_124, l_128, l_231, l_240, l_241, l_255, l_496, l_999, l_1000, l_8191, l_9999, l_10000, l_100000, l_200000, l_1000000, l_1000000000, gz_let_eq, Option.bind_some, ↓reduceIte, wi_wa, wa_at, wa_wa, upd_fI, fI_ap, wa_2, n_add, n_ok, n_cl, n_lt, n_le, n_eq, p_0, p_1, p_01, show 99 < 99 + 1 by omega]
    rfl
theorem c_endOf (h : CF La g V T B) (hB : B < 400000) {i x : Nat} (hi : i < 4) (hx2 : x ≤ 1) : ∃ g', fX2_endOf La (nI i) (nI x) g = some (match sEnds T V i with | none => -nI 1 | some k => if x = 0 then nI k else nI (sHrs T V k (42 + i)), g') ∧ FS g g' := by
  obtain ⟨hv, hW, hz, hL, hs⟩ := h
  have h60 := hW.2.2.2.1.2
  unfold fX2_endOf
  rw [c_spare (Or.inr rfl) hv hz hs, Option.bind_some]
  refine lp (fun f k g1 => fX2_endOf_13 La (fun (x1 : Int32) (x2 : Int32) (x3 : Int32) g => if x2 = 0 then some (x3, g) else if gz_ok ((42 : Int32) + x1) 61 then some (g.1 23 (Int32.toNatClampNeg ((42 : Int32) + x1)), g) else none) f (nI i) (nI x) (nI k) g1)
    (fun k g1 => Fr (WF 7) g g1 ∧ g1.1 23 = fI (sHrs T V k) ∧ ∀ j, j < k → ¬ ¬ sHrs T V j (42 + i) = 0) 100 (fun r => ∃ g', r = some (match sEnds T V i with | none => -nI 1 | some k => if x = 0 then nI k else nI (sHrs T V k (42 + i)), g') ∧ FS g g') ?_ ?_ gz_FU 0 _ (by omega) (by unfold gz_FU; omega) ⟨(FS.sp hz).1, wa_at _ _ _, fun j hj => absurd hj (Nat.not_lt_zero _)⟩
  · intro f k g1 hk h1
    have hWk := sHrs_wf hL.lt hW k (by omega)
    obtain ⟨g2, a1, a2, a3, -⟩ := c_hr (La := La) hL h1.1 h1.2.1 hWk (by omega)
    have hx : ¬ 99 < k := by omega
    have e1 : g1.1 (7 + 16) = fI (sHrs T V k) := h1.2.1
    by_cases ht : sHrs T V k (42 + i) = 0
    · refine Or.inr ⟨g2, ?_, a2, a3, fun j hj => ?_⟩
      · show fX2_endOf_13 La _ (f + 1) (nI i) (nI x) (nI k) g1 = fX2_endOf_13 La _ f (nI i) (nI x) (nI (k + 1)) g2
        rw [fX2_endOf_13]
        simp (disch := omega) only [l_0, l_1, l_2, l_3, l_4, l_5, l_6, l_7, l_8, l_9, l_10, l_11, l_12, l_13, l_14, l_15, l_16, l_17, l_18, l_19, l_20, l_21, l_22, l_23, l_24, l_25, l_26, l_28, l_29, l_30, l_31, l_32, l_33, l_34, l_36, l_37, l_38, l_39, l_40, l_41, l_42, l_43, l_44, l_45, l_46, l_47, l_48, l_49, l_50, l_53, l_54, l_57, l_58, l_59, l_60, l_61, l_62, l_63, l_91, l_93, l_97, l_98, l_99, l_100, l_103, l_104, l_110, l_112, l_114, l_115, l_116, l_119, l_120, l_121, l_124, l_128, l_231, l_240, l_241, l_255, l_496, l_999, l_1000, l_8191, l_9999, l_10000, l_100000, l_200000, l_1000000, l_1000000000, gz_let_eq, Option.bind_some, ↓reduceIte, wi_wa, wa_at, wa_wa, upd_fI, fI_ap, wa_2, n_add, n_ok, n_cl, n_lt, n_le, n_eq, p_0, p_1, p_01, hx, a1, c_goes e1 hWk.1, ht, not_true]
      · by_cases hjk : j = k
        · subst hjk; exact not_not_intro ht
        · exact h1.2.2 j (by omega)
    · refine Or.inl ⟨g1, ?_, h1.1, _, h1.2.1, sHrs_z h60 hz _⟩
      show fX2_endOf_13 La _ (f + 1) (nI i) (nI x) (nI k) g1 = _
      have he : sEnds T V i = some k := ff_some (ff_f h1.2.2 (fun j => decide_eq_true_iff)) (by simpa using ht) hk
      rw [fX2_endOf_13, he]
      simp (disch := omega) only [l_0, l_1, l_2, l_3, l_4, l_5, l_6, l_7, l_8, l_9, l_10, l_11, l_12, l_13, l_14, l_15, l_16, l_17, l_18, l_19, l_20, l_21, l_22, l_23, l_24, l_25, l_26, l_28, l_29, l_30, l_31, l_32, l_33, l_34, l_36, l_37, l_38, l_39, l_40, l_41, l_42, l_43, l_44, l_45, l_46, l_47, l_48, l_49, l_50, l_53, l_54, l_57, l_58, l_59, l_60, l_61, l_62, l_63, l_91, l_93, l_97, l_98, l_99, l_100, l_103, l_104, l_110, l_112, l_114, l_115, l_116, l_119, l_120, l_121, l_124, l_128, l_231, l_240, l_241, l_255, l_496, l_999, l_1000, l_8191, l_9999, l_10000, l_100000, l_200000, l_1000000, l_1000000000, gz_let_eq, Option.bind_some, ↓reduceIte, wi_wa, wa_at, wa_wa, upd_fI, fI_ap, wa_2, n_add, n_ok, n_cl, n_lt, n_le, n_eq, p_0, p_1, p_01, hx, c_goes e1 hWk.1, ht, not_false_eq_true, h1.2.1]
      by_cases h0 : x = 0
      · simp only [h0, ↓reduceIte]
      · simp only [h0, ↓reduceIte]
  · intro f g1 h1
    refine ⟨g1, ?_, h1.1, _, h1.2.1, sHrs_z h60 hz _⟩
    show fX2_endOf_13 La _ (f + 1) (nI i) (nI x) (nI 100) g1 = _
    have he : sEnds T V i = none := ff_none (ff_f h1.2.2 (fun j => decide_eq_true_iff))
    rw [fX2_endOf_13, he]
    simp (disch := omega) only [l_0, l_1, l_2, l_3, l_4, l_5, l_6, l_7, l_8, l_9, l_10, l_11, l_12, l_13, l_14, l_15, l_16, l_17, l_18, l_19, l_20, l_21, l_22, l_23, l_24, l_25, l_26, l_28, l_29, l_30, l_31, l_32, l_33, l_34, l_36, l_37, l_38, l_39, l_40, l_41, l_42, l_43, l_44, l_45, l_46, l_47, l_48, l_49, l_50, l_53, l_54, l_57, l_58, l_59, l_60, l_61, l_62, l_63, l_91, l_93, l_97, l_98, l_99, l_100, l_103, l_104, l_110, l_112, l_114, l_115, l_116, l_119, l_120, l_121, l_124, l_128, l_231, l_240, l_241, l_255, l_496, l_999, l_1000, l_8191, l_9999, l_10000, l_100000, l_200000, l_1000000, l_1000000000, gz_let_eq, Option.bind_some, ↓reduceIte, wi_wa, wa_at, wa_wa, upd_fI, fI_ap, wa_2, n_add, n_ok, n_cl, n_lt, n_le, n_eq, p_0, p_1, p_01, show 99 < 100 by omega]
theorem c_sameAgain (h : CF La g V T B) (hB : B < 400000) {i : Nat} (hi : i < 4) : ∃ g', fX2_sameAgain La (nI i) g = some (oI ((sAgain T V i).map (· + 1)), g') ∧ FS g g' := by
  have hcf := h
  obtain ⟨hv, hW, hz, hL, hs⟩ := h
  have h60 := hW.2.2.2.1.2
  have b0 := hW.1 (30 + i)
  have b1 := hW.1 (34 + i)
  unfold fX2_sameAgain
  rw [c_spare (Or.inr rfl) hv hz hs, Option.bind_some, l_1]
  refine lp (fun f k g1 => fX2_sameAgain_13 La f (nI i) (nI (k + 1)) g1)
    (fun k g1 => Fr (WF 7) g g1 ∧ g1.1 23 = fI (sHrs T V k) ∧ ∀ j, j < k → ¬ (sOn (sHrs T V (j + 1)) (V (30 + i)) i ∧ sHrs T V (j + 1) (34 + i) = V (34 + i))) 99 (fun r => ∃ g', r = some (oI ((sAgain T V i).map (· + 1)), g') ∧ FS g g') ?_ ?_ gz_FU 0 _ (by omega) (by unfold gz_FU; omega) ⟨(FS.sp hz).1, wa_at _ _ _, fun j hj => absurd hj (Nat.not_lt_zero _)⟩
  · intro f k g1 hk h1
    have hWk := sHrs_wf hL.lt hW (k + 1) (by omega)
    obtain ⟨g2, a1, a2, a3, -⟩ := c_hr (La := La) hL h1.1 h1.2.1 (sHrs_wf hL.lt hW k (by omega)) (by omega)
    have hx : ¬ 99 < k + 1 := by omega
    have a3 : g2.1 (7 + 16) = fI (sHrs T V (k + 1)) := a3
    have a4 : g2.1 23 = fI (sHrs T V (k + 1)) := a3
    have a5 : g2.1 22 = fI V := by rw [a2.1 22 (by omega)]; exact hv
    have b2 := hWk.1 (34 + i)
    by_cases h3 : sOn (sHrs T V (k + 1)) (V (30 + i)) i
    · by_cases h4 : sHrs T V (k + 1) (34 + i) = V (34 + i)
      · refine Or.inl ⟨g2, ?_, a2, _, a3, sHrs_z h60 hz _⟩
        show fX2_sameAgain_13 La (f + 1) (nI i) (nI (k + 1)) g1 = _
        have he : sAgain T V i = some k := ff_some (ff_f h1.2.2 (fun j => decide_eq_true_iff)) (decide_eq_true ⟨h3, h4⟩) hk
        rw [fX2_sameAgain_13, he]
        simp (disch := omega) only [l_0, l_1, l_2, l_3, l_4, l_5, l_6, l_7, l_8, l_9, l_10, l_11, l_12, l_13, l_14, l_15, l_16, l_17, l_18, l_19, l_20, l_21, l_22, l_23, l_24, l_25, l_26, l_28, l_29, l_30, l_31, l_32, l_33, l_34, l_36, l_37, l_38, l_39, l_40, l_41, l_42, l_43, l_44, l_45, l_46, l_47, l_48, l_49, l_50, l_53, l_54, l_57, l_58, l_59, l_60, l_61, l_62, l_63, l_91, l_93, l_97, l_98, l_99, l_100, l_103, l_104, l_110, l_112, l_114, l_115, l_116, l_119, l_120, l_121, l_124, l_128, l_231, l_240, l_241, l_255, l_496, l_999, l_1000, l_8191, l_9999, l_10000, l_100000, l_200000, l_1000000, l_1000000000, gz_let_eq, Option.bind_some, ↓reduceIte, wi_wa, wa_at, wa_wa, upd_fI, fI_ap, wa_2, n_add, n_ok, n_cl, n_lt, n_le, n_eq, p_0, p_1, p_01, hx, a1, a4, a5, c_goesOn a3 hWk.1]
        rw [if_neg (not_not_intro h3), if_pos h4]
        rfl
      · refine Or.inr ⟨g2, ?_, a2, a3, fun j hj => ?_⟩
        · show fX2_sameAgain_13 La (f + 1) (nI i) (nI (k + 1)) g1 = fX2_sameAgain_13 La f (nI i) (nI (k + 1 + 1)) g2
          rw [fX2_sameAgain_13]
          simp (disch := omega) only [l_0, l_1, l_2, l_3, l_4, l_5, l_6, l_7, l_8, l_9, l_10, l_11, l_12, l_13, l_14, l_15, l_16, l_17, l_18, l_19, l_20, l_21, l_22, l_23, l_24, l_25, l_26, l_28, l_29, l_30, l_31, l_32, l_33, l_34, l_36, l_37, l_38, l_39, l_40, l_41, l_42, l_43, l_44, l_45, l_46, l_47, l_48, l_49, l_50, l_53, l_54, l_57, l_58, l_59, l_60, l_61, l_62, l_63, l_91, l_93, l_97, l_98, l_99, l_100, l_103, l_104, l_110, l_112, l_114, l_115, l_116, l_119, l_120, l_121, l_124, l_128, l_231, l_240, l_241, l_255, l_496, l_999, l_1000, l_8191, l_9999, l_10000, l_100000, l_200000, l_1000000, l_1000000000, gz_let_eq, Option.bind_some, ↓reduceIte, wi_wa, wa_at, wa_wa, upd_fI, fI_ap, wa_2, n_add, n_ok, n_cl, n_lt, n_le, n_eq, p_0, p_1, p_01, hx, a1, a4, a5, c_goesOn a3 hWk.1, fX2_sameAgain_83]
          rw [if_neg (not_not_intro h3), if_neg h4]
        · by_cases hjk : j = k
          · subst hjk; exact fun e => h4 e.2
          · exact h1.2.2 j (by omega)
    · refine Or.inr ⟨g2, ?_, a2, a3, fun j hj => ?_⟩
      · show fX2_sameAgain_13 La (f + 1) (nI i) (nI (k + 1)) g1 = fX2_sameAgain_13 La f (nI i) (nI (k + 1 + 1)) g2
        rw [fX2_sameAgain_13]
        simp (disch := omega) only [l_0, l_1, l_2, l_3, l_4, l_5, l_6, l_7, l_8, l_9, l_10, l_11, l_12, l_13, l_14, l_15, l_16, l_17, l_18, l_19, l_20, l_21, l_22, l_23, l_24, l_25, l_26, l_28, l_29, l_30, l_31, l_32, l_33, l_34, l_36, l_37, l_38, l_39, l_40, l_41, l_42, l_43, l_44, l_45, l_46, l_47, l_48, l_49, l_50, l_53, l_54, l_57, l_58, l_59, l_60, l_61, l_62, l_63, l_91, l_93, l_97, l_98, l_99, l_100, l_103, l_104, l_110, l_112, l_114, l_115, l_116, l_119, l_120, l_121, l_124, l_128, l_231, l_240, l_241, l_255, l_496, l_999, l_1000, l_8191, l_9999, l_10000, l_100000, l_200000, l_1000000, l_1000000000, gz_let_eq, Option.bind_some, ↓reduceIte, wi_wa, wa_at, wa_wa, upd_fI, fI_ap, wa_2, n_add, n_ok, n_cl, n_lt, n_le, n_eq, p_0, p_1, p_01, hx, a1, a4, a5, c_goesOn a3 hWk.1, fX2_sameAgain_83]
        rw [if_pos h3]
      · by_cases hjk : j = k
        · subst hjk; exact fun e => h3 e.1
        · exact h1.2.2 j (by omega)
  · intro f g1 h1
    refine ⟨g1, ?_, h1.1, _, h1.2.1, sHrs_z h60 hz _⟩
    show fX2_sameAgain_13 La (f + 1) (nI i) (nI (99 + 1)) g1 = _
    have he : sAgain T V i = none := ff_none (ff_f h1.2.2 (fun j => decide_eq_true_iff))
    rw [fX2_sameAgain_13, he]
    simp (disch := omega) only [l_0, l_1, l_2, l_3, l_4, l_5, l_6, l_7, l_8, l_9, l_10, l_11, l_12, l_13, l_14, l_15, l_16, l_17, l_18, l_19, l_20, l_21, l_22, l_23, l_24, l_25, l_26, l_28, l_29, l_30, l_31, l_32, l_33, l_34, l_36, l_37, l_38, l_39, l_40, l_41, l_42, l_43, l_44, l_45, l_46, l_47, l_48, l_49, l_50, l_53, l_54, l_57, l_58, l_59, l_60, l_61, l_62, l_63, l_91, l_93, l_97, l_98, l_99, l_100, l_103, l_104, l_110, l_112, l_114, l_115, l_116, l_119, l_120, l_121, l_124, l_128, l_231, l_240, l_241, l_255, l_496, l_999, l_1000, l_8191, l_9999, l_10000, l_100000, l_200000, l_1000000, l_1000000000, gz_let_eq, Option.bind_some, ↓reduceIte, wi_wa, wa_at, wa_wa, upd_fI, fI_ap, wa_2, n_add, n_ok, n_cl, n_lt, n_le, n_eq, p_0, p_1, p_01, show 99 < 99 + 1 by omega]
    rfl
end C2
