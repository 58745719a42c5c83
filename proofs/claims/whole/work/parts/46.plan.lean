/-! the class's evenings -/
abbrev sE : Type := Nat × (Nat → Nat) × (Nat → Option Nat) × (Nat → Option Nat)
def sWell (w : Nat) (f s : Option Nat) : Prop := (w = 0 ∧ f = none ∧ s = none) ∨ (w = 1 ∧ ∃ a b, f = some a ∧ s = some b ∧ a ≤ 9 ∧ b ≤ 9) ∨ (w = 2 ∧ ∃ a, f = some a ∧ a ≤ 9 ∧ s = none) ∨ (w = 3 ∧ ∃ a, f = some a ∧ a ≤ 99 ∧ s = none)
abbrev sMay1 (V : Nat → Nat) (w f s : Nat) : Prop :=
  if w = 0 then (0 < V 60 ∧ V 49 < 9999) else if w = 1 then (f < V 60 ∧ s < 4 ∧ ¬ V (V (54 + f)) = 1 ∧ 3 ≤ V 48) else if w = 2 then (0 < V 60 ∧ f ≤ 5 ∧ (f < V 46 ∨ V 46 < f)) else (f < V 58 * V 59 ∧ 0 < sCnt V f ∧ 1 ≤ V 48)
def sDo1 (V : Nat → Nat) (w f s : Nat) : Nat → Nat := if w = 1 then sPay V f s else if w = 2 then uN V 46 f else if w = 3 then sSweep V f else V
abbrev sMay (V : Nat → Nat) (e : sE) (i : Nat) : Prop := sMay1 V (e.2.1 i) ((e.2.2.1 i).getD 0) ((e.2.2.2 i).getD 0)
def sDo (V : Nat → Nat) (e : sE) (i : Nat) : Nat → Nat := sDo1 V (e.2.1 i) ((e.2.2.1 i).getD 0) ((e.2.2.2 i).getD 0)
def EvR (La : gz_L) (g : gz_S) (w : Nat) (e : sE) : Prop := La.2.2 (w + 1) = 3 * e.1 ∧ e.1 ≤ 16 ∧ g.1 w 0 = nI e.1 ∧ ∀ i, i < e.1 → g.1 (w + 1) (3 * i) = nI (e.2.1 i) ∧ g.1 (w + 1) (3 * i + 1) = oI (e.2.2.1 i) ∧ g.1 (w + 1) (3 * i + 2) = oI (e.2.2.2 i) ∧ sWell (e.2.1 i) (e.2.2.1 i) (e.2.2.2 i)
theorem EvR.fr {La : gz_L} {g g' : gz_S} {w : Nat} {e : sE} {S : Nat → Prop} (h : EvR La g w e) (hF : Fr S g g') (h1 : ¬ S w) (h2 : ¬ S (w + 1)) : EvR La g' w e := by
  unfold EvR
  rw [hF.1 w h1, hF.1 (w + 1) h2]; exact h
theorem p_c {P Q : Prop} [Decidable P] [Decidable Q] {β : Type} {g : β} (h : P ↔ Q) : some (pI P, g) = some (pI Q, g) := by
  unfold pI
  by_cases hp : P
  · rw [if_pos hp, if_pos (h.mp hp)]
  · rw [if_neg hp, if_neg (fun e => hp (h.mpr e))]
theorem sMay1_0 {V : Nat → Nat} {f s : Nat} : sMay1 V 0 f s ↔ (0 < V 60 ∧ V 49 < 9999) := by unfold sMay1; rw [if_pos rfl]
theorem sMay1_1 {V : Nat → Nat} {f s : Nat} : sMay1 V 1 f s ↔ (f < V 60 ∧ s < 4 ∧ ¬ V (V (54 + f)) = 1 ∧ 3 ≤ V 48) := by unfold sMay1; rw [if_neg (by omega), if_pos rfl]
theorem sMay1_2 {V : Nat → Nat} {f s : Nat} : sMay1 V 2 f s ↔ (0 < V 60 ∧ f ≤ 5 ∧ (f < V 46 ∨ V 46 < f)) := by unfold sMay1; rw [if_neg (by omega), if_neg (by omega), if_pos rfl]
theorem sMay1_3 {V : Nat → Nat} {f s : Nat} : sMay1 V 3 f s ↔ (f < V 58 * V 59 ∧ 0 < sCnt V f ∧ 1 ≤ V 48) := by unfold sMay1; rw [if_neg (by omega), if_neg (by omega), if_neg (by omega)]
section C0
variable {La : gz_L} {w w2 : Nat} {g : gz_S} {V : Nat → Nat} {B : Nat} {e : sE}
theorem c_maySweepX (hv : g.1 (w2 + 16) = fI V) (hW : Wf B V) {c : Nat} (hc : c < 100) : fX6_maySweep La w2 (nI c) g = some (pI (c < V 58 * V 59 ∧ 0 < sCnt V c ∧ 1 ≤ V 48), g) := by
  have c30 := hW.cells
  by_cases h : c < 30
  · exact c_maySweep hv hW h
  · unfold fX6_maySweep
    simp (disch := omega) only [l_0, l_1, l_2, l_3, l_4, l_5, l_6, l_7, l_8, l_9, l_10, l_11, l_12, l_13, l_14, l_15, l_16, l_17, l_18, l_19, l_20, l_21, l_22, l_23, l_24, l_25, l_26, l_28, l_29, l_30, l_31, l_32, l_33, l_34, l_36, l_37, l_38, l_39, l_40, l_41, l_42, l_43, l_44, l_45, l_46, l_47, l_48, l_49, l_50, l_53, l_54, l_57, l_58, l_59, l_60, l_61, l_62, l_63, l_91, l_93, l_97, l_98, l_99, l_100, l_103, l_104, l_110, l_112, l_114, l_115, l_116, l_119, l_120, l_121, l_124, l_128, l_231, l_240, l_241, l_255, l_496, l_999, l_1000, l_8191, l_9999, l_10000, l_100000, l_200000, l_1000000, l_1000000000, gz_let_eq, Option.bind_some, ↓reduceIte, wi_wa, wa_at, wa_wa, upd_fI, fI_ap, wa_2, n_add, n_ok, n_cl, n_lt, n_le, n_eq, p_0, p_1, p_01, em_t, nb_0, t_10, n_modd, n_modm, Bool.false_eq_true, not_false_eq_true, not_true, c_hasCell hv c30, n_ti]
    rw [if_pos (by omega)]
    exact p_f (by omega)
theorem c_part (h : EvR La g w e) {i j : Nat} (hi : i < e.1) (hj : j < 3) : fX0_part La w (nI i) (nI j) g = some (g.1 (w + 1) (3 * i + j), g) := by
  have h1 := h.1
  have h16 := h.2.1
  unfold fX0_part
  simp (disch := omega) only [l_0, l_1, l_2, l_3, l_4, l_5, l_6, l_7, l_8, l_9, l_10, l_11, l_12, l_13, l_14, l_15, l_16, l_17, l_18, l_19, l_20, l_21, l_22, l_23, l_24, l_25, l_26, l_28, l_29, l_30, l_31, l_32, l_33, l_34, l_36, l_37, l_38, l_39, l_40, l_41, l_42, l_43, l_44, l_45, l_46, l_47, l_48, l_49, l_50, l_53, l_54, l_57, l_58, l_59, l_60, l_61, l_62, l_63, l_91, l_93, l_97, l_98, l_99, l_100, l_103, l_104, l_110, l_112, l_114, l_115, l_116, l_119, l_120, l_121, l_124, l_128, l_231, l_240, l_241, l_255, l_496, l_999, l_1000, l_8191, l_9999, l_10000, l_100000, l_200000, l_1000000, l_1000000000, gz_let_eq, Option.bind_some, ↓reduceIte, wi_wa, wa_at, wa_wa, upd_fI, fI_ap, wa_2, n_add, n_ok, n_cl, n_lt, n_le, n_eq, p_0, p_1, p_01, em_t, nb_0, t_10, n_modd, n_modm, Bool.false_eq_true, not_false_eq_true, not_true, n_mul, h1]
  rw [Nat.mul_comm]
theorem c_mayBe (h : EvR La g w e) {i : Nat} (hi : i < e.1) (hv : g.1 (w2 + 16) = fI V) (hW : Wf B V) : fX0_mayBe La w (nI i) w2 g = some (pI (sMay V e i), g) := by
  have hB := hW.1
  obtain ⟨k1, k2, k3, k4⟩ := h.2.2.2 i hi
  have p0 : fX0_part La w (nI i) (nI 0) g = some (g.1 (w + 1) (3 * i), g) := c_part (La := La) h hi (j := 0) (by omega)
  have p1 := c_part (La := La) h hi (j := 1) (by omega)
  have p2 := c_part (La := La) h hi (j := 2) (by omega)
  rw [k1] at p0
  rw [k2] at p1
  rw [k3] at p2
  unfold fX0_mayBe sMay
  rcases k4 with ⟨w0, f0, s0⟩ | ⟨w0, a, b, f0, s0, ha, hb⟩ | ⟨w0, a, f0, ha, s0⟩ | ⟨w0, a, f0, ha, s0⟩
  · rw [w0] at p0
    simp (disch := omega) only [l_0, l_1, l_2, l_3, l_4, l_5, l_6, l_7, l_8, l_9, l_10, l_11, l_12, l_13, l_14, l_15, l_16, l_17, l_18, l_19, l_20, l_21, l_22, l_23, l_24, l_25, l_26, l_28, l_29, l_30, l_31, l_32, l_33, l_34, l_36, l_37, l_38, l_39, l_40, l_41, l_42, l_43, l_44, l_45, l_46, l_47, l_48, l_49, l_50, l_53, l_54, l_57, l_58, l_59, l_60, l_61, l_62, l_63, l_91, l_93, l_97, l_98, l_99, l_100, l_103, l_104, l_110, l_112, l_114, l_115, l_116, l_119, l_120, l_121, l_124, l_128, l_231, l_240, l_241, l_255, l_496, l_999, l_1000, l_8191, l_9999, l_10000, l_100000, l_200000, l_1000000, l_1000000000, gz_let_eq, Option.bind_some, ↓reduceIte, wi_wa, wa_at, wa_wa, upd_fI, fI_ap, wa_2, n_add, n_ok, n_cl, n_lt, n_le, n_eq, p_0, p_1, p_01, em_t, nb_0, t_10, n_modd, n_modm, Bool.false_eq_true, not_false_eq_true, not_true, p0, w0, c_mayPassHour hv hB]
    exact p_c sMay1_0.symm
  · rw [w0] at p0
    rw [f0] at p1
    rw [s0] at p2
    have ea : oI (some a) = nI a := rfl
    have eb : oI (some b) = nI b := rfl
    have b0 := hB 48
    simp (disch := omega) only [l_0, l_1, l_2, l_3, l_4, l_5, l_6, l_7, l_8, l_9, l_10, l_11, l_12, l_13, l_14, l_15, l_16, l_17, l_18, l_19, l_20, l_21, l_22, l_23, l_24, l_25, l_26, l_28, l_29, l_30, l_31, l_32, l_33, l_34, l_36, l_37, l_38, l_39, l_40, l_41, l_42, l_43, l_44, l_45, l_46, l_47, l_48, l_49, l_50, l_53, l_54, l_57, l_58, l_59, l_60, l_61, l_62, l_63, l_91, l_93, l_97, l_98, l_99, l_100, l_103, l_104, l_110, l_112, l_114, l_115, l_116, l_119, l_120, l_121, l_124, l_128, l_231, l_240, l_241, l_255, l_496, l_999, l_1000, l_8191, l_9999, l_10000, l_100000, l_200000, l_1000000, l_1000000000, gz_let_eq, Option.bind_some, ↓reduceIte, wi_wa, wa_at, wa_wa, upd_fI, fI_ap, wa_2, n_add, n_ok, n_cl, n_lt, n_le, n_eq, p_0, p_1, p_01, em_t, nb_0, t_10, n_modd, n_modm, Bool.false_eq_true, not_false_eq_true, not_true, p0, p1, p2, w0, f0, s0, ea, eb, c_mayBegin hv hW, Option.getD_some, show ¬ (1 = 0) by omega, n_ti, Int.toNat_natCast]
    refine p_c (Iff.trans ⟨fun c => ⟨by omega, by omega, c.2.2.1, c.2.2.2⟩, fun c => ⟨⟨by omega, by omega⟩, ⟨by omega, by omega⟩, c.2.2.1, c.2.2.2⟩⟩ sMay1_1.symm)
  · rw [w0] at p0
    rw [f0] at p1
    have ea : oI (some a) = nI a := rfl
    simp (disch := omega) only [l_0, l_1, l_2, l_3, l_4, l_5, l_6, l_7, l_8, l_9, l_10, l_11, l_12, l_13, l_14, l_15, l_16, l_17, l_18, l_19, l_20, l_21, l_22, l_23, l_24, l_25, l_26, l_28, l_29, l_30, l_31, l_32, l_33, l_34, l_36, l_37, l_38, l_39, l_40, l_41, l_42, l_43, l_44, l_45, l_46, l_47, l_48, l_49, l_50, l_53, l_54, l_57, l_58, l_59, l_60, l_61, l_62, l_63, l_91, l_93, l_97, l_98, l_99, l_100, l_103, l_104, l_110, l_112, l_114, l_115, l_116, l_119, l_120, l_121, l_124, l_128, l_231, l_240, l_241, l_255, l_496, l_999, l_1000, l_8191, l_9999, l_10000, l_100000, l_200000, l_1000000, l_1000000000, gz_let_eq, Option.bind_some, ↓reduceIte, wi_wa, wa_at, wa_wa, upd_fI, fI_ap, wa_2, n_add, n_ok, n_cl, n_lt, n_le, n_eq, p_0, p_1, p_01, em_t, nb_0, t_10, n_modd, n_modm, Bool.false_eq_true, not_false_eq_true, not_true, p0, p1, w0, f0, s0, ea, c_mayTurnTide hv hB, Option.getD_some, show ¬ (2 = 0) by omega, show ¬ (2 = 1) by omega, n_ti]
    refine p_c (Iff.trans ?_ sMay1_2.symm)
    omega
  · rw [w0] at p0
    rw [f0] at p1
    have ea : oI (some a) = nI a := rfl
    simp (disch := omega) only [l_0, l_1, l_2, l_3, l_4, l_5, l_6, l_7, l_8, l_9, l_10, l_11, l_12, l_13, l_14, l_15, l_16, l_17, l_18, l_19, l_20, l_21, l_22, l_23, l_24, l_25, l_26, l_28, l_29, l_30, l_31, l_32, l_33, l_34, l_36, l_37, l_38, l_39, l_40, l_41, l_42, l_43, l_44, l_45, l_46, l_47, l_48, l_49, l_50, l_53, l_54, l_57, l_58, l_59, l_60, l_61, l_62, l_63, l_91, l_93, l_97, l_98, l_99, l_100, l_103, l_104, l_110, l_112, l_114, l_115, l_116, l_119, l_120, l_121, l_124, l_128, l_231, l_240, l_241, l_255, l_496, l_999, l_1000, l_8191, l_9999, l_10000, l_100000, l_200000, l_1000000, l_1000000000, gz_let_eq, Option.bind_some, ↓reduceIte, wi_wa, wa_at, wa_wa, upd_fI, fI_ap, wa_2, n_add, n_ok, n_cl, n_lt, n_le, n_eq, p_0, p_1, p_01, em_t, nb_0, t_10, n_modd, n_modm, Bool.false_eq_true, not_false_eq_true, not_true, p0, p1, w0, f0, s0, ea, c_maySweepX hv hW, Option.getD_some, show ¬ (3 = 0) by omega, show ¬ (3 = 1) by omega, show ¬ (3 = 2) by omega]
    exact p_c sMay1_3.symm
theorem c_isHour (h : EvR La g w e) {i : Nat} (hi : i < e.1) : fX0_isHour La w (nI i) g = some (pI (e.2.1 i = 0), g) := by
  obtain ⟨k1, k2, k3, k4⟩ := h.2.2.2 i hi
  have p0 : fX0_part La w (nI i) (nI 0) g = some (g.1 (w + 1) (3 * i), g) := c_part (La := La) h hi (j := 0) (by omega)
  rw [k1] at p0
  have hl : e.2.1 i < 4 := by rcases k4 with k | k | k | k <;> omega
  unfold fX0_isHour
  simp (disch := omega) only [l_0, l_1, l_2, l_3, l_4, l_5, l_6, l_7, l_8, l_9, l_10, l_11, l_12, l_13, l_14, l_15, l_16, l_17, l_18, l_19, l_20, l_21, l_22, l_23, l_24, l_25, l_26, l_28, l_29, l_30, l_31, l_32, l_33, l_34, l_36, l_37, l_38, l_39, l_40, l_41, l_42, l_43, l_44, l_45, l_46, l_47, l_48, l_49, l_50, l_53, l_54, l_57, l_58, l_59, l_60, l_61, l_62, l_63, l_91, l_93, l_97, l_98, l_99, l_100, l_103, l_104, l_110, l_112, l_114, l_115, l_116, l_119, l_120, l_121, l_124, l_128, l_231, l_240, l_241, l_255, l_496, l_999, l_1000, l_8191, l_9999, l_10000, l_100000, l_200000, l_1000000, l_1000000000, gz_let_eq, Option.bind_some, ↓reduceIte, wi_wa, wa_at, wa_wa, upd_fI, fI_ap, wa_2, n_add, n_ok, n_cl, n_lt, n_le, n_eq, p_0, p_1, p_01, em_t, nb_0, t_10, n_modd, n_modm, Bool.false_eq_true, not_false_eq_true, not_true, p0]
  (repeat' split) <;> first | exact p_t (by omega) | exact p_f (by omega)
theorem c_doByHand (hw2 : gz_sc w2) (h : EvR La g w e) {i : Nat} (hi : i < e.1) (hv : g.1 (w2 + 16) = fI V) (hW : Wf B V) (hm : sMay V e i) (h0 : ¬ e.2.1 i = 0) : fX0_doByHand La w (nI i) w2 g = some (gz_wa g (w2 + 16) (fI (sDo V e i))) := by
  have hB := hW.1
  have c30 := hW.cells
  have h60 := hW.2.2.2.1.2
  obtain ⟨k1, k2, k3, k4⟩ := h.2.2.2 i hi
  have p0 : fX0_part La w (nI i) (nI 0) g = some (g.1 (w + 1) (3 * i), g) := c_part (La := La) h hi (j := 0) (by omega)
  have p1 := c_part (La := La) h hi (j := 1) (by omega)
  have p2 := c_part (La := La) h hi (j := 2) (by omega)
  rw [k1] at p0
  rw [k2] at p1
  rw [k3] at p2
  unfold fX0_doByHand sDo sDo1
  unfold sMay at hm
  rcases k4 with ⟨w0, f0, s0⟩ | ⟨w0, a, b, f0, s0, ha, hb⟩ | ⟨w0, a, f0, ha, s0⟩ | ⟨w0, a, f0, ha, s0⟩
  · exact absurd w0 h0
  · rw [w0] at p0
    rw [f0] at p1
    rw [s0] at p2
    rw [w0, f0, s0] at hm
    have ea : oI (some a) = nI a := rfl
    have eb : oI (some b) = nI b := rfl
    have hm := sMay1_1.mp hm
    simp only [Option.getD_some] at hm
    simp (disch := omega) only [l_0, l_1, l_2, l_3, l_4, l_5, l_6, l_7, l_8, l_9, l_10, l_11, l_12, l_13, l_14, l_15, l_16, l_17, l_18, l_19, l_20, l_21, l_22, l_23, l_24, l_25, l_26, l_28, l_29, l_30, l_31, l_32, l_33, l_34, l_36, l_37, l_38, l_39, l_40, l_41, l_42, l_43, l_44, l_45, l_46, l_47, l_48, l_49, l_50, l_53, l_54, l_57, l_58, l_59, l_60, l_61, l_62, l_63, l_91, l_93, l_97, l_98, l_99, l_100, l_103, l_104, l_110, l_112, l_114, l_115, l_116, l_119, l_120, l_121, l_124, l_128, l_231, l_240, l_241, l_255, l_496, l_999, l_1000, l_8191, l_9999, l_10000, l_100000, l_200000, l_1000000, l_1000000000, gz_let_eq, Option.bind_some, ↓reduceIte, wi_wa, wa_at, wa_wa, upd_fI, fI_ap, wa_2, n_add, n_ok, n_cl, n_lt, n_le, n_eq, p_0, p_1, p_01, em_t, nb_0, t_10, n_modd, n_modm, Bool.false_eq_true, not_false_eq_true, not_true, p0, p1, p2, w0, f0, s0, ea, eb, Option.getD_some, c_payAndBegin hv (i := a) (l := b) (by omega) hm.2.2.2]
  · rw [w0] at p0
    rw [f0] at p1
    have ea : oI (some a) = nI a := rfl
    simp (disch := omega) only [l_0, l_1, l_2, l_3, l_4, l_5, l_6, l_7, l_8, l_9, l_10, l_11, l_12, l_13, l_14, l_15, l_16, l_17, l_18, l_19, l_20, l_21, l_22, l_23, l_24, l_25, l_26, l_28, l_29, l_30, l_31, l_32, l_33, l_34, l_36, l_37, l_38, l_39, l_40, l_41, l_42, l_43, l_44, l_45, l_46, l_47, l_48, l_49, l_50, l_53, l_54, l_57, l_58, l_59, l_60, l_61, l_62, l_63, l_91, l_93, l_97, l_98, l_99, l_100, l_103, l_104, l_110, l_112, l_114, l_115, l_116, l_119, l_120, l_121, l_124, l_128, l_231, l_240, l_241, l_255, l_496, l_999, l_1000, l_8191, l_9999, l_10000, l_100000, l_200000, l_1000000, l_1000000000, gz_let_eq, Option.bind_some, ↓reduceIte, wi_wa, wa_at, wa_wa, upd_fI, fI_ap, wa_2, n_add, n_ok, n_cl, n_lt, n_le, n_eq, p_0, p_1, p_01, em_t, nb_0, t_10, n_modd, n_modm, Bool.false_eq_true, not_false_eq_true, not_true, p0, p1, w0, f0, s0, ea, Option.getD_some, hv, show ¬ (2 = 1) by omega]
  · rw [w0] at p0
    rw [f0] at p1
    rw [w0, f0] at hm
    have ea : oI (some a) = nI a := rfl
    have hm := sMay1_3.mp hm
    simp only [Option.getD_some] at hm
    simp (disch := omega) only [l_0, l_1, l_2, l_3, l_4, l_5, l_6, l_7, l_8, l_9, l_10, l_11, l_12, l_13, l_14, l_15, l_16, l_17, l_18, l_19, l_20, l_21, l_22, l_23, l_24, l_25, l_26, l_28, l_29, l_30, l_31, l_32, l_33, l_34, l_36, l_37, l_38, l_39, l_40, l_41, l_42, l_43, l_44, l_45, l_46, l_47, l_48, l_49, l_50, l_53, l_54, l_57, l_58, l_59, l_60, l_61, l_62, l_63, l_91, l_93, l_97, l_98, l_99, l_100, l_103, l_104, l_110, l_112, l_114, l_115, l_116, l_119, l_120, l_121, l_124, l_128, l_231, l_240, l_241, l_255, l_496, l_999, l_1000, l_8191, l_9999, l_10000, l_100000, l_200000, l_1000000, l_1000000000, gz_let_eq, Option.bind_some, ↓reduceIte, wi_wa, wa_at, wa_wa, upd_fI, fI_ap, wa_2, n_add, n_ok, n_cl, n_lt, n_le, n_eq, p_0, p_1, p_01, em_t, nb_0, t_10, n_modd, n_modm, Bool.false_eq_true, not_false_eq_true, not_true, p0, p1, w0, f0, s0, ea, Option.getD_some, c_sweepOff hw2 hv hW (c := a) (by omega) hm.2.2, show ¬ (3 = 1) by omega, show ¬ (3 = 2) by omega]
end C0
