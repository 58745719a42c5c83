/-! the class's walker: an hour -/
theorem sPk_s (T : sT) (i : Nat) (V : Nat → Nat) (k : Nat) : sPk T i V (k + 1) = if sPk T i V k (42 + i) = 0 then sStep T (sPk T i V k) i else sPk T i V k := rfl
theorem sPk_no {T : sT} {i : Nat} {V : Nat → Nat} {k : Nat} (h : ¬ sPk T i V k (42 + i) = 0) : ∀ n, sPk T i V (k + n) = sPk T i V k := by
  intro n
  induction n with
  | zero => rfl
  | succ n ih => rw [← Nat.add_assoc, sPk_s, ih, if_neg h]
theorem sPk_fix {T : sT} {i : Nat} {V : Nat → Nat} {k : Nat} (hi : i < 4) : sFix V (sPk T i V k) := by
  induction k with
  | zero => exact sFix.rf
  | succ k ih =>
    rw [sPk_s]
    by_cases h : sPk T i V k (42 + i) = 0
    · rw [if_pos h]; exact ih.tr (sGo_fix hi)
    · rw [if_neg h]; exact ih
abbrev TLt (T : sT) : Prop := ∀ t, T = some t → ∀ b a r p n h, t b a r p n h < 4
theorem sStep_wf {B : Nat} {V : Nat → Nat} {T : sT} (hT : TLt T) (h : Wf B V) (hB : B < 1000000) {i : Nat} (hi : i < V 60) : Wf (B + 1) (sStep T V i) := by
  have h60 := h.2.2.2.1.2
  have b1 := h.2.2.2.2.2.2.2.2.2.1 i (by omega)
  have := sTurn_lt (V := V) (i := i) hT b1.2.1
  exact sGo_wf h hB hi (by omega)
theorem sPk_wf {B : Nat} {V : Nat → Nat} {T : sT} (hT : TLt T) (h : Wf B V) {i : Nat} (hi : i < V 60) : ∀ k, B + k < 1000000 → Wf (B + k) (sPk T i V k) := by
  intro k
  have h60 := h.2.2.2.1.2
  induction k with
  | zero => intro _; exact h
  | succ k ih =>
    intro hk
    have ih := ih (by omega)
    rw [sPk_s]
    by_cases hg : sPk T i V k (42 + i) = 0
    · rw [if_pos hg]
      exact sStep_wf hT ih (by omega) (by rw [sPk_fix (by omega) 60 (by omega)]; exact hi)
    · rw [if_neg hg]; exact ih.mo (by omega)
/-- the cells that are looked at in up to k steps -/
def lkPk (T : sT) (i : Nat) (V : Nat → Nat) (k : Nat) : Nat := it (fun k b => if sPk T i V k (42 + i) = 0 then b ||| sLkS T (sPk T i V k) i else b) k 0
theorem lkPk_s (T : sT) (i : Nat) (V : Nat → Nat) (k : Nat) : lkPk T i V (k + 1) = if sPk T i V k (42 + i) = 0 then lkPk T i V k ||| sLkS T (sPk T i V k) i else lkPk T i V k := rfl
theorem lkPk_no {T : sT} {i : Nat} {V : Nat → Nat} {k : Nat} (h : ¬ sPk T i V k (42 + i) = 0) : ∀ n, lkPk T i V (k + n) = lkPk T i V k := by
  intro n
  induction n with
  | zero => rfl
  | succ n ih => rw [← Nat.add_assoc, lkPk_s, sPk_no h, if_neg h, ih]
theorem gz_on_n {β : Type} {a : Option β} {f : Nat → Option β} : gz_on none a f = a := rfl
theorem gz_on_s {β : Type} {a : Option β} {f : Nat → Option β} {e : Nat} : gz_on (some e) a f = f e := rfl
section C10
variable {La : gz_L} {w : Nat} {g : gz_S} {V : Nat → Nat} {B : Nat} {T : sT}
theorem c_lawfulLook {t : Nat → Nat → Nat → Nat → Nat → Nat → Nat} (hw : gz_sc w) (hv : g.1 (w + 16) = fI V) (hW : Wf B V) (hL : LW La g (some t)) {i a r : Nat} (hi : i < 4) (ha : a < 4) (hr : r < 4) :
    ∃ g', fX10_lawfulLook La w (nI i) (nI a) (nI r) g = some (nI (t (V (34 + i)) a r (V (50 + i)) (V (38 + i) % 100) (V 49 % 24)), g') ∧ WS w g g' V 0 := by
  have b1 := hW.2.2.2.2.2.2.2.2.2.1 i hi
  have b2 := hW.1 (38 + i)
  have b3 := hW.1 49
  obtain ⟨ht, e, he, hl, hx⟩ := hL
  have h1 : (gz_wa g 24 (upd (upd (upd (upd (upd (upd (g.1 24) 0 (nI (V (34 + i)))) 1 (nI a)) 2 (nI r)) 3 (nI (V (50 + i)))) 4 (nI (V (38 + i) % 100))) 5 (nI (V 49 % 24)))).1 (e + 1) = g.1 (e + 1) := wa_ne (by have := hl.1; omega)
  obtain ⟨v, st, h2, h3⟩ := hx _ h1 (V (34 + i)) a r (V (50 + i)) (V (38 + i) % 100) (V 49 % 24) (by omega) ha hr (by omega) (by omega) (by omega) (by rw [wa_at]; simp [upd]) (by rw [wa_at]; simp [upd]) (by rw [wa_at]; simp [upd]) (by rw [wa_at]; simp [upd]) (by rw [wa_at]; simp [upd]) (by rw [wa_at]; simp [upd])
  unfold fX10_lawfulLook
  simp (disch := omega) only [l_0, l_1, l_2, l_3, l_4, l_5, l_6, l_7, l_8, l_9, l_10, l_11, l_12, l_13, l_14, l_15, l_16, l_17, l_18, l_19, l_20, l_21, l_22, l_23, l_24, l_25, l_26, l_28, l_29, l_30, l_31, l_32, l_33, l_34, l_36, l_37, l_38, l_39, l_40, l_41, l_42, l_43, l_44, l_45, l_46, l_47, l_48, l_49, l_50, l_53, l_54, l_57, l_58, l_59, l_60, l_61, l_62, l_63, l_91, l_93, l_97, l_98, l_99, l_100, l_103, l_104, l_110, l_112, l_114, l_115, l_116, l_119, l_120, l_121, l_124, l_128, l_231, l_240, l_241, l_255, l_496, l_999, l_1000, l_8191, l_9999, l_10000, l_100000, l_200000, l_1000000, l_1000000000, gz_let_eq, Option.bind_some, ↓reduceIte, wi_wa, wa_at, wa_wa, upd_fI, fI_ap, wa_2, n_add, n_ok, n_cl, n_lt, n_le, n_eq, p_0, p_1, p_01, wa_ne, hv, n_mod, he, gz_on_s]
  rw [if_pos hl, if_pos hl, h2]
  simp only [gz_let_eq, Option.bind_some, ↓reduceIte, wi_wa, wa_at, wa_wa, upd_fI, fI_ap, wa_2, h3]
  refine ⟨_, rfl, ?_, ?_, ?_, ?_⟩
  · rw [wa_ne (by omega), wa_ne (by omega)]; exact hv
  · rw [wa_ne (by omega), wa_ne (by omega), n_or0]
  · rw [wa_ne (by omega), wa_ne (by omega)]
  · exact (Fr.rf.wa (Or.inr (Or.inl rfl))).wa (Or.inr (Or.inr (Or.inl rfl)))
theorem c_takeStep (hw : gz_sc w) (hv : g.1 (w + 16) = fI V) (hW : Wf B V) (hL : LW La g T) {i : Nat} (hi : i < V 60) :
    ∃ g', fX10_takeStep La w (nI i) g = some g' ∧ WS w g g' (sStep T V i) (sLkS T V i) := by
  have h60 := hW.2.2.2.1.2
  have hi4 : i < 4 := by omega
  have b1 := hW.2.2.2.2.2.2.2.2.2.1 i hi4
  have b2 := hW.2.2.2.2.2.2.2.2.2.2 i hi
  have hs1 : sAhd V i (V (34 + i)) ≤ 3 := sLie_le
  have hs2 : sAhd V i ((V (34 + i) + 1) % 4) ≤ 3 := sLie_le
  have a1 : WS w g (lkS g (sLk V i (V (34 + i)))) V (sLk V i (V (34 + i))) := WS.lk hw hv
  cases T with
  | none =>
    have h0 : g.2.2 0 = none := hL
    have el : sTurn none V i = if sAhd V i (V (34 + i)) = 1 then (V (34 + i) + 1) % 4 else V (34 + i) := rfl
    have ek : sLkS none V i = sLk V i (V (34 + i)) ||| sLk V i (sTurn none V i) := rfl
    unfold fX10_takeStep
    simp (disch := omega) only [l_0, l_1, l_2, l_3, l_4, l_5, l_6, l_7, l_8, l_9, l_10, l_11, l_12, l_13, l_14, l_15, l_16, l_17, l_18, l_19, l_20, l_21, l_22, l_23, l_24, l_25, l_26, l_28, l_29, l_30, l_31, l_32, l_33, l_34, l_36, l_37, l_38, l_39, l_40, l_41, l_42, l_43, l_44, l_45, l_46, l_47, l_48, l_49, l_50, l_53, l_54, l_57, l_58, l_59, l_60, l_61, l_62, l_63, l_91, l_93, l_97, l_98, l_99, l_100, l_103, l_104, l_110, l_112, l_114, l_115, l_116, l_119, l_120, l_121, l_124, l_128, l_231, l_240, l_241, l_255, l_496, l_999, l_1000, l_8191, l_9999, l_10000, l_100000, l_200000, l_1000000, l_1000000000, gz_let_eq, Option.bind_some, ↓reduceIte, wi_wa, wa_at, wa_wa, upd_fI, fI_ap, wa_2, n_add, n_ok, n_cl, n_lt, n_le, n_eq, p_0, p_1, p_01, hv, n_and3, c_liesAhead hw hv hW, lkS_2, h0, gz_on_n]
    unfold sStep
    rw [ek, el]
    by_cases h : sAhd V i (V (34 + i)) = 1
    · rw [if_pos h, if_pos h]
      obtain ⟨g2, h2, h3⟩ := c_step62 (La := La) hw a1.1 hW hi4 b2.1 (l := (V (34 + i) + 1) % 4) (by omega)
      exact ⟨g2, h2, a1.tr h3⟩
    · rw [if_neg h, if_neg h]
      obtain ⟨g2, h2, h3⟩ := c_step62 (La := La) hw a1.1 hW hi4 b2.1 (l := V (34 + i)) (by omega)
      exact ⟨g2, h2, a1.tr h3⟩
  | some t =>
    have hL0 := hL
    obtain ⟨ht, e, he, hl, hx⟩ := hL
    have ek : sLkS (some t) V i = (sLk V i (V (34 + i)) ||| sLk V i ((V (34 + i) + 1) % 4)) ||| sLk V i (sTurn (some t) V i) := rfl
    have a2 : WS w (lkS g (sLk V i (V (34 + i)))) (lkS (lkS g (sLk V i (V (34 + i)))) (sLk V i ((V (34 + i) + 1) % 4))) V (sLk V i ((V (34 + i) + 1) % 4)) := WS.lk hw a1.1
    have hWF : ∀ j, WF w j → j < 64 := by intro j hj; rcases hw with rfl | rfl | rfl <;> omega
    obtain ⟨g3, h3, a3⟩ := c_lawfulLook (La := La) (t := t) hw a2.1 hW ((hL0.fr a1.2.2.2 hWF).fr a2.2.2.2 hWF) hi4 (a := sAhd V i (V (34 + i))) (r := sAhd V i ((V (34 + i) + 1) % 4)) (by omega) (by omega)
    have et : sTurn (some t) V i = t (V (34 + i)) (sAhd V i (V (34 + i))) (sAhd V i ((V (34 + i) + 1) % 4)) (V (50 + i)) (V (38 + i) % 100) (V 49 % 24) := rfl
    obtain ⟨g4, h4, a4⟩ := c_step62 (La := La) hw a3.1 hW hi4 b2.1 (l := sTurn (some t) V i) (by rw [et]; exact ht _ _ _ _ _ _)
    unfold fX10_takeStep
    simp (disch := omega) only [l_0, l_1, l_2, l_3, l_4, l_5, l_6, l_7, l_8, l_9, l_10, l_11, l_12, l_13, l_14, l_15, l_16, l_17, l_18, l_19, l_20, l_21, l_22, l_23, l_24, l_25, l_26, l_28, l_29, l_30, l_31, l_32, l_33, l_34, l_36, l_37, l_38, l_39, l_40, l_41, l_42, l_43, l_44, l_45, l_46, l_47, l_48, l_49, l_50, l_53, l_54, l_57, l_58, l_59, l_60, l_61, l_62, l_63, l_91, l_93, l_97, l_98, l_99, l_100, l_103, l_104, l_110, l_112, l_114, l_115, l_116, l_119, l_120, l_121, l_124, l_128, l_231, l_240, l_241, l_255, l_496, l_999, l_1000, l_8191, l_9999, l_10000, l_100000, l_200000, l_1000000, l_1000000000, gz_let_eq, Option.bind_some, ↓reduceIte, wi_wa, wa_at, wa_wa, upd_fI, fI_ap, wa_2, n_add, n_ok, n_cl, n_lt, n_le, n_eq, p_0, p_1, p_01, hv, n_and3, c_liesAhead hw hv hW, c_liesAhead hw a1.1 hW, lkS_2, he, gz_on_s]
    rw [if_pos hl, h3, Option.bind_some, ← et, h4]
    refine ⟨g4, rfl, ?_⟩
    have hf := ((a1.tr a2).tr a3).tr a4
    rw [Nat.or_zero] at hf
    exact hf
theorem c_pass57 (hw : gz_sc w) (hv : g.1 (w + 16) = fI V) (hW : Wf B V) (hB : B < 900000) (hL : LW La g T) {i : Nat} (hi : i < V 60) (K : Int32 → gz_S → Option (Int32 × gz_S)) :
    ∃ g', fX10_passHour_57 La w K gz_FU (nI i) (nI 0) g = K (nI i) g' ∧ WS w g g' (sPace T i V) (lkPk T i V (V (50 + i))) := by
  have h60 := hW.2.2.2.1.2
  have hi4 : i < 4 := by omega
  have b1 := hW.2.2.2.2.2.2.2.2.2.1 i hi4
  have hWF : ∀ j, WF w j → j < 64 := by intro j hj; rcases hw with rfl | rfl | rfl <;> omega
  refine lp (fun f k g1 => fX10_passHour_57 La w K f (nI i) (nI k) g1) (fun k g1 => WS w g g1 (sPk T i V k) (lkPk T i V k)) (V (50 + i)) (fun r => ∃ g', r = K (nI i) g' ∧ WS w g g' (sPace T i V) (lkPk T i V (V (50 + i)))) ?_ ?_ gz_FU 0 g (by omega) (by unfold gz_FU; omega) (WS.rf hv)
  · intro f k g1 hk h1
    have hW1 : Wf (B + k) (sPk T i V k) := sPk_wf hL.lt hW hi k (by omega)
    have e50 : sPk T i V k (50 + i) = V (50 + i) := sPk_fix hi4 _ (by omega)
    have e60 : sPk T i V k 60 = V 60 := sPk_fix hi4 _ (by omega)
    have hn : ¬ V (50 + i) ≤ k := by omega
    show (∃ g', fX10_passHour_57 La w K (f + 1) (nI i) (nI k) g1 = K (nI i) g' ∧ _) ∨ _
    by_cases h0 : sPk T i V k (42 + i) = 0
    · refine Or.inr ?_
      obtain ⟨g2, h2, h3⟩ := c_takeStep (La := La) hw h1.1 hW1 (hL.fr h1.2.2.2 hWF) (i := i) (by rw [e60]; exact hi)
      refine ⟨g2, ?_, ?_⟩
      · show fX10_passHour_57 La w K (f + 1) (nI i) (nI k) g1 = fX10_passHour_57 La w K f (nI i) (nI (k + 1)) g2
        rw [fX10_passHour_57]
        simp (disch := omega) only [l_0, l_1, l_2, l_3, l_4, l_5, l_6, l_7, l_8, l_9, l_10, l_11, l_12, l_13, l_14, l_15, l_16, l_17, l_18, l_19, l_20, l_21, l_22, l_23, l_24, l_25, l_26, l_28, l_29, l_30, l_31, l_32, l_33, l_34, l_36, l_37, l_38, l_39, l_40, l_41, l_42, l_43, l_44, l_45, l_46, l_47, l_48, l_49, l_50, l_53, l_54, l_57, l_58, l_59, l_60, l_61, l_62, l_63, l_91, l_93, l_97, l_98, l_99, l_100, l_103, l_104, l_110, l_112, l_114, l_115, l_116, l_119, l_120, l_121, l_124, l_128, l_231, l_240, l_241, l_255, l_496, l_999, l_1000, l_8191, l_9999, l_10000, l_100000, l_200000, l_1000000, l_1000000000, gz_let_eq, Option.bind_some, ↓reduceIte, wi_wa, wa_at, wa_wa, upd_fI, fI_ap, wa_2, n_add, n_ok, n_cl, n_lt, n_le, n_eq, p_0, p_1, p_01, h1.1, e50, hn, c_goes h1.1 hW1.1, h0, h2, not_true]
      · rw [sPk_s, lkPk_s, if_pos h0, if_pos h0]; exact h1.tr h3
    · refine Or.inl ⟨g1, ?_, ?_⟩
      · rw [fX10_passHour_57]
        simp (disch := omega) only [l_0, l_1, l_2, l_3, l_4, l_5, l_6, l_7, l_8, l_9, l_10, l_11, l_12, l_13, l_14, l_15, l_16, l_17, l_18, l_19, l_20, l_21, l_22, l_23, l_24, l_25, l_26, l_28, l_29, l_30, l_31, l_32, l_33, l_34, l_36, l_37, l_38, l_39, l_40, l_41, l_42, l_43, l_44, l_45, l_46, l_47, l_48, l_49, l_50, l_53, l_54, l_57, l_58, l_59, l_60, l_61, l_62, l_63, l_91, l_93, l_97, l_98, l_99, l_100, l_103, l_104, l_110, l_112, l_114, l_115, l_116, l_119, l_120, l_121, l_124, l_128, l_231, l_240, l_241, l_255, l_496, l_999, l_1000, l_8191, l_9999, l_10000, l_100000, l_200000, l_1000000, l_1000000000, gz_let_eq, Option.bind_some, ↓reduceIte, wi_wa, wa_at, wa_wa, upd_fI, fI_ap, wa_2, n_add, n_ok, n_cl, n_lt, n_le, n_eq, p_0, p_1, p_01, h1.1, e50, hn, c_goes h1.1 hW1.1, h0, not_false_eq_true]
      · have e1 := sPk_no h0 (V (50 + i) - k)
        have e2 := lkPk_no h0 (V (50 + i) - k)
        rw [show k + (V (50 + i) - k) = V (50 + i) by omega] at e1 e2
        unfold sPace
        rw [e1, e2]; exact h1
  · intro f g1 h1
    have e50 : sPk T i V (V (50 + i)) (50 + i) = V (50 + i) := sPk_fix hi4 _ (by omega)
    refine ⟨g1, ?_, h1⟩
    show fX10_passHour_57 La w K (f + 1) (nI i) (nI (V (50 + i))) g1 = K (nI i) g1
    rw [fX10_passHour_57]
    simp (disch := omega) only [l_0, l_1, l_2, l_3, l_4, l_5, l_6, l_7, l_8, l_9, l_10, l_11, l_12, l_13, l_14, l_15, l_16, l_17, l_18, l_19, l_20, l_21, l_22, l_23, l_24, l_25, l_26, l_28, l_29, l_30, l_31, l_32, l_33, l_34, l_36, l_37, l_38, l_39, l_40, l_41, l_42, l_43, l_44, l_45, l_46, l_47, l_48, l_49, l_50, l_53, l_54, l_57, l_58, l_59, l_60, l_61, l_62, l_63, l_91, l_93, l_97, l_98, l_99, l_100, l_103, l_104, l_110, l_112, l_114, l_115, l_116, l_119, l_120, l_121, l_124, l_128, l_231, l_240, l_241, l_255, l_496, l_999, l_1000, l_8191, l_9999, l_10000, l_100000, l_200000, l_1000000, l_1000000000, gz_let_eq, Option.bind_some, ↓reduceIte, wi_wa, wa_at, wa_wa, upd_fI, fI_ap, wa_2, n_add, n_ok, n_cl, n_lt, n_le, n_eq, p_0, p_1, p_01, h1.1, e50, Nat.le_refl]
end C10
