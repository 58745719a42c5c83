/-! the class's tape -/
def CT (g : gz_S) (b : Nat → Nat) (len a : Nat) : Prop := g.1 1 1 = nI len ∧ g.1 1 2 = nI a ∧ a ≤ len ∧ len ≤ 240 ∧ ∀ k, k < len → g.1 14 k = nI (b k) ∧ b k < 256
def st (g : gz_S) (p : Nat) : gz_S := gz_wa g 1 (upd (g.1 1) 2 (nI p))
theorem upd_upd (f : Nat → Int32) (k : Nat) (x y : Int32) : upd (upd f k x) k y = upd f k y := by
  funext j; unfold upd; by_cases h : j = k
  · rw [if_pos h, if_pos h]
  · rw [if_neg h, if_neg h, if_neg h]
theorem upd_id {f : Nat → Int32} {k : Nat} {x : Int32} (h : f k = x) : upd f k x = f := by
  funext j; unfold upd; by_cases hj : j = k
  · rw [if_pos hj, hj, h]
  · rw [if_neg hj]
theorem st_st (g : gz_S) (p q : Nat) : st (st g p) q = st g q := by
  unfold st; rw [wa_at, wa_wa, upd_upd]
theorem st_id {g : gz_S} {p : Nat} (h : g.1 1 2 = nI p) : st g p = g := by
  unfold st; rw [upd_id h]; exact wa_id rfl
theorem st_n {g : gz_S} {p j : Nat} (h : j ≠ 1) : (st g p).1 j = g.1 j := wa_ne h
theorem st_2 (g : gz_S) (p : Nat) : (st g p).1 1 2 = nI p := by unfold st; rw [wa_at]; exact if_pos rfl
theorem st_f {g : gz_S} {p k : Nat} (h : k ≠ 2) : (st g p).1 1 k = g.1 1 k := by unfold st; rw [wa_at]; exact if_neg h
theorem st_fr {S : Nat → Prop} {g g' : gz_S} {p : Nat} (h : Fr S g g') (h1 : S 1) : Fr S g (st g' p) := h.wa h1
theorem wi_st (g : gz_S) (p : Nat) : gz_wi g 1 2 (nI p) = st g p := by rw [wi_wa]; rfl
theorem CT.st {g : gz_S} {b : Nat → Nat} {len a p : Nat} (h : CT g b len a) (hp : p ≤ len) : CT (st g p) b len p :=
  ⟨by rw [st_f (by omega)]; exact h.1, st_2 g p, hp, h.2.2.2.1, by rw [st_n (by omega)]; exact h.2.2.2.2⟩
/-- other fields of the tape -/
theorem CT.wf {g : gz_S} {b : Nat → Nat} {len a k : Nat} {x : Int32} (h : CT g b len a) (hk : k ≠ 1 ∧ k ≠ 2) : CT (gz_wa g 1 (upd (g.1 1) k x)) b len a :=
  ⟨by rw [wa_at]; unfold upd; rw [if_neg (by omega)]; exact h.1, by rw [wa_at]; unfold upd; rw [if_neg (by omega)]; exact h.2.1, h.2.2.1, h.2.2.2.1, by rw [wa_ne (by omega)]; exact h.2.2.2.2⟩
theorem CT.fr {g g' : gz_S} {b : Nat → Nat} {len a : Nat} {S : Nat → Prop} (h : CT g b len a) (hF : Fr S g g') (h1 : ¬ S 1) (h2 : ¬ S 14) : CT g' b len a := by
  unfold CT; rw [hF.1 1 h1, hF.1 14 h2]; exact h
section C9
variable {La : gz_L} {g : gz_S} {b : Nat → Nat} {len a : Nat}
theorem c_next (h : CT g b len a) : fX9_next La g = some (oI (sg b len (nx b len a)), st g (nx b len a)) := by
  unfold fX9_next
  have key : ∀ n f a, len - a ≤ n → len - a < f → ∀ g1, CT g1 b len a → fX9_next_0 La (fX9_next_38 La) f g1 = some (oI (sg b len (nx b len a)), st g1 (nx b len a)) := by
    intro n
    induction n with
    | zero =>
      intro f a hn hf g1 h
      obtain ⟨f', rfl⟩ : ∃ f', f = f' + 1 := ⟨f - 1, by omega⟩
      have ha : a = len := by have := h.2.2.1; omega
      rw [nx_stay (by omega), st_id h.2.1]
      rw [fX9_next_0]
      have e : sg b len a = none := by unfold sg; rw [if_neg (by omega)]
      have h4 := h.2.2.2.1
      simp (disch := omega) only [l_0, l_1, l_2, l_3, l_4, l_5, l_6, l_7, l_8, l_9, l_10, l_11, l_12, l_13, l_14, l_15, l_16, l_17, l_18, l_19, l_20, l_21, l_22, l_23, l_24, l_25, l_26, l_28, l_29, l_30, l_31, l_32, l_33, l_34, l_36, l_37, l_38, l_39, l_40, l_41, l_42, l_43, l_44, l_45, l_46, l_47, l_48, l_49, l_50, l_53, l_54, l_57, l_58, l_59, l_60, l_61, l_62, l_63, l_91, l_93, l_97, l_98, l_99, l_100, l_103, l_104, l_110, l_112, l_114, l_115, l_116, l_119, l_120, l_121, l_124, l_128, l_231, l_240, l_241, l_255, l_496, l_999, l_1000, l_8191, l_9999, l_10000, l_100000, l_200000, l_1000000, l_1000000000, gz_let_eq, Option.bind_some, ↓reduceIte, wi_wa, wa_at, wa_wa, upd_fI, fI_ap, wa_2, n_add, n_ok, n_cl, n_lt, n_le, n_eq, p_0, p_1, p_01, em_t, nb_0, t_10, n_modd, n_modm, Bool.false_eq_true, not_false_eq_true, not_true, h.1, h.2.1, show len ≤ a by omega, fX9_next_38, e]
      rfl
    | succ n ih =>
      intro f a hn hf g1 h
      obtain ⟨f', rfl⟩ : ∃ f', f = f' + 1 := ⟨f - 1, by omega⟩
      have h4 := h.2.2.2.1
      have h2 := h.2.2.1
      rw [fX9_next_0]
      by_cases hl : len ≤ a
      · have e : sg b len a = none := by unfold sg; rw [if_neg (by omega)]
        rw [nx_stay (by omega), st_id h.2.1]
        simp (disch := omega) only [l_0, l_1, l_2, l_3, l_4, l_5, l_6, l_7, l_8, l_9, l_10, l_11, l_12, l_13, l_14, l_15, l_16, l_17, l_18, l_19, l_20, l_21, l_22, l_23, l_24, l_25, l_26, l_28, l_29, l_30, l_31, l_32, l_33, l_34, l_36, l_37, l_38, l_39, l_40, l_41, l_42, l_43, l_44, l_45, l_46, l_47, l_48, l_49, l_50, l_53, l_54, l_57, l_58, l_59, l_60, l_61, l_62, l_63, l_91, l_93, l_97, l_98, l_99, l_100, l_103, l_104, l_110, l_112, l_114, l_115, l_116, l_119, l_120, l_121, l_124, l_128, l_231, l_240, l_241, l_255, l_496, l_999, l_1000, l_8191, l_9999, l_10000, l_100000, l_200000, l_1000000, l_1000000000, gz_let_eq, Option.bind_some, ↓reduceIte, wi_wa, wa_at, wa_wa, upd_fI, fI_ap, wa_2, n_add, n_ok, n_cl, n_lt, n_le, n_eq, p_0, p_1, p_01, em_t, nb_0, t_10, n_modd, n_modm, Bool.false_eq_true, not_false_eq_true, not_true, h.1, h.2.1, hl, fX9_next_38, e]
        rfl
      · have hb := h.2.2.2.2 a (by omega)
        by_cases h32 : b a = 32
        · have hgo := ih f' (a + 1) (by omega) (by omega) (st g1 (a + 1)) (h.st (by omega))
          rw [nx_step ⟨by omega, h32⟩, ← st_st g1 (a + 1), ← hgo]
          simp (disch := omega) only [l_0, l_1, l_2, l_3, l_4, l_5, l_6, l_7, l_8, l_9, l_10, l_11, l_12, l_13, l_14, l_15, l_16, l_17, l_18, l_19, l_20, l_21, l_22, l_23, l_24, l_25, l_26, l_28, l_29, l_30, l_31, l_32, l_33, l_34, l_36, l_37, l_38, l_39, l_40, l_41, l_42, l_43, l_44, l_45, l_46, l_47, l_48, l_49, l_50, l_53, l_54, l_57, l_58, l_59, l_60, l_61, l_62, l_63, l_91, l_93, l_97, l_98, l_99, l_100, l_103, l_104, l_110, l_112, l_114, l_115, l_116, l_119, l_120, l_121, l_124, l_128, l_231, l_240, l_241, l_255, l_496, l_999, l_1000, l_8191, l_9999, l_10000, l_100000, l_200000, l_1000000, l_1000000000, gz_let_eq, ↓reduceIte, h.1, h.2.1, hl, n_add, n_ok, n_cl, n_lt, n_le, n_eq, p_0, p_1, p_01, hb.1, h32, wi_st]
        · have e : sg b len a = some (b a) := by unfold sg; rw [if_pos (by omega)]
          rw [nx_stay (by omega), st_id h.2.1]
          simp (disch := omega) only [l_0, l_1, l_2, l_3, l_4, l_5, l_6, l_7, l_8, l_9, l_10, l_11, l_12, l_13, l_14, l_15, l_16, l_17, l_18, l_19, l_20, l_21, l_22, l_23, l_24, l_25, l_26, l_28, l_29, l_30, l_31, l_32, l_33, l_34, l_36, l_37, l_38, l_39, l_40, l_41, l_42, l_43, l_44, l_45, l_46, l_47, l_48, l_49, l_50, l_53, l_54, l_57, l_58, l_59, l_60, l_61, l_62, l_63, l_91, l_93, l_97, l_98, l_99, l_100, l_103, l_104, l_110, l_112, l_114, l_115, l_116, l_119, l_120, l_121, l_124, l_128, l_231, l_240, l_241, l_255, l_496, l_999, l_1000, l_8191, l_9999, l_10000, l_100000, l_200000, l_1000000, l_1000000000, gz_let_eq, Option.bind_some, ↓reduceIte, wi_wa, wa_at, wa_wa, upd_fI, fI_ap, wa_2, n_add, n_ok, n_cl, n_lt, n_le, n_eq, p_0, p_1, p_01, em_t, nb_0, t_10, n_modd, n_modm, Bool.false_eq_true, not_false_eq_true, not_true, h.1, h.2.1, hl, hb.1, h32, fX9_next_38, e]
          rfl
  have h4 := h.2.2.2.1
  exact key len gz_FU a (by omega) (by unfold gz_FU; omega) g h
theorem c_accept (h : CT g b len a) {c : Nat} (hc : c < 256) : fX9_accept La (nI c) g = some (if sg b len (nx b len a) = some c then (nI 1, st g (nx b len a + 1)) else (nI 0, st g (nx b len a))) := by
  have h4 := h.2.2.2.1
  have hx := nx_le (b := b) h.2.2.1
  unfold fX9_accept
  rw [c_next h]
  have ho : (oI (sg b len (nx b len a)) = nI c) = (sg b len (nx b len a) = some c) := oI_eq (by omega) (fun d hd => by have h5 := sg_lt hd; have := (h.2.2.2.2 _ h5.1).2; omega)
  simp (disch := omega) only [l_0, l_1, l_2, l_3, l_4, l_5, l_6, l_7, l_8, l_9, l_10, l_11, l_12, l_13, l_14, l_15, l_16, l_17, l_18, l_19, l_20, l_21, l_22, l_23, l_24, l_25, l_26, l_28, l_29, l_30, l_31, l_32, l_33, l_34, l_36, l_37, l_38, l_39, l_40, l_41, l_42, l_43, l_44, l_45, l_46, l_47, l_48, l_49, l_50, l_53, l_54, l_57, l_58, l_59, l_60, l_61, l_62, l_63, l_91, l_93, l_97, l_98, l_99, l_100, l_103, l_104, l_110, l_112, l_114, l_115, l_116, l_119, l_120, l_121, l_124, l_128, l_231, l_240, l_241, l_255, l_496, l_999, l_1000, l_8191, l_9999, l_10000, l_100000, l_200000, l_1000000, l_1000000000, gz_let_eq, ↓reduceIte, Option.bind_some, ho, st_2, n_add, n_ok, n_cl, n_lt, n_le, n_eq, p_0, p_1, p_01, wi_st, st_st]
  split <;> rfl
theorem c_refuse {p : Nat} : fX9_refuse La (nI p) g = some (nI 0, gz_wa g 1 (upd (g.1 1) 3 (nI p))) := by
  unfold fX9_refuse
  simp only [l_0, l_1, l_2, l_3, l_4, l_5, l_6, l_7, l_8, l_9, l_10, l_11, l_12, l_13, l_14, l_15, l_16, l_17, l_18, l_19, l_20, l_21, l_22, l_23, l_24, l_25, l_26, l_28, l_29, l_30, l_31, l_32, l_33, l_34, l_36, l_37, l_38, l_39, l_40, l_41, l_42, l_43, l_44, l_45, l_46, l_47, l_48, l_49, l_50, l_53, l_54, l_57, l_58, l_59, l_60, l_61, l_62, l_63, l_91, l_93, l_97, l_98, l_99, l_100, l_103, l_104, l_110, l_112, l_114, l_115, l_116, l_119, l_120, l_121, l_124, l_128, l_231, l_240, l_241, l_255, l_496, l_999, l_1000, l_8191, l_9999, l_10000, l_100000, l_200000, l_1000000, l_1000000000, gz_let_eq, Option.bind_some, ↓reduceIte, wi_wa, wa_at, wa_wa, upd_fI, fI_ap, wa_2, n_add, n_ok, n_cl, n_lt, n_le, n_eq, p_0, p_1, p_01, em_t, nb_0, t_10, n_modd, n_modm, Bool.false_eq_true, not_false_eq_true, not_true]
theorem c_expect (h : CT g b len a) {c : Nat} (hc : c < 256) : fX9_expect La (nI c) g = some (if sg b len (nx b len a) = some c then (nI 1, st g (nx b len a + 1)) else (nI 0, gz_wa (st g (nx b len a)) 1 (upd ((st g (nx b len a)).1 1) 3 (nI (nx b len a))))) := by
  have h4 := h.2.2.2.1
  have hx := nx_le (b := b) h.2.2.1
  unfold fX9_expect
  rw [c_next h]
  have ho : (oI (sg b len (nx b len a)) = nI c) = (sg b len (nx b len a) = some c) := oI_eq (by omega) (fun d hd => by have h5 := sg_lt hd; have := (h.2.2.2.2 _ h5.1).2; omega)
  simp (disch := omega) only [l_0, l_1, l_2, l_3, l_4, l_5, l_6, l_7, l_8, l_9, l_10, l_11, l_12, l_13, l_14, l_15, l_16, l_17, l_18, l_19, l_20, l_21, l_22, l_23, l_24, l_25, l_26, l_28, l_29, l_30, l_31, l_32, l_33, l_34, l_36, l_37, l_38, l_39, l_40, l_41, l_42, l_43, l_44, l_45, l_46, l_47, l_48, l_49, l_50, l_53, l_54, l_57, l_58, l_59, l_60, l_61, l_62, l_63, l_91, l_93, l_97, l_98, l_99, l_100, l_103, l_104, l_110, l_112, l_114, l_115, l_116, l_119, l_120, l_121, l_124, l_128, l_231, l_240, l_241, l_255, l_496, l_999, l_1000, l_8191, l_9999, l_10000, l_100000, l_200000, l_1000000, l_1000000000, gz_let_eq, ↓reduceIte, Option.bind_some, ho, st_2, n_add, n_ok, n_cl, n_lt, n_le, n_eq, p_0, p_1, p_01, wi_st, st_st, c_refuse]
  split
  · rfl
  · exact if_pos (Or.inl trivial)
theorem c_digitHere (h : CT g b len a) : fX9_digitHere La g = some (if dg b len a then nI (b a - 48) else -nI 1, g) := by
  have h4 := h.2.2.2.1
  have h2 := h.2.2.1
  unfold fX9_digitHere
  by_cases hl : len ≤ a
  · rw [if_neg (show ¬ dg b len a by omega)]
    simp (disch := omega) only [l_0, l_1, l_2, l_3, l_4, l_5, l_6, l_7, l_8, l_9, l_10, l_11, l_12, l_13, l_14, l_15, l_16, l_17, l_18, l_19, l_20, l_21, l_22, l_23, l_24, l_25, l_26, l_28, l_29, l_30, l_31, l_32, l_33, l_34, l_36, l_37, l_38, l_39, l_40, l_41, l_42, l_43, l_44, l_45, l_46, l_47, l_48, l_49, l_50, l_53, l_54, l_57, l_58, l_59, l_60, l_61, l_62, l_63, l_91, l_93, l_97, l_98, l_99, l_100, l_103, l_104, l_110, l_112, l_114, l_115, l_116, l_119, l_120, l_121, l_124, l_128, l_231, l_240, l_241, l_255, l_496, l_999, l_1000, l_8191, l_9999, l_10000, l_100000, l_200000, l_1000000, l_1000000000, gz_let_eq, Option.bind_some, ↓reduceIte, wi_wa, wa_at, wa_wa, upd_fI, fI_ap, wa_2, n_add, n_ok, n_cl, n_lt, n_le, n_eq, p_0, p_1, p_01, em_t, nb_0, t_10, n_modd, n_modm, Bool.false_eq_true, not_false_eq_true, not_true, h.1, h.2.1, hl]
  · have hb := h.2.2.2.2 a (by omega)
    by_cases c1 : b a < 48
    · rw [if_neg (show ¬ dg b len a by omega)]
      simp (disch := omega) only [l_0, l_1, l_2, l_3, l_4, l_5, l_6, l_7, l_8, l_9, l_10, l_11, l_12, l_13, l_14, l_15, l_16, l_17, l_18, l_19, l_20, l_21, l_22, l_23, l_24, l_25, l_26, l_28, l_29, l_30, l_31, l_32, l_33, l_34, l_36, l_37, l_38, l_39, l_40, l_41, l_42, l_43, l_44, l_45, l_46, l_47, l_48, l_49, l_50, l_53, l_54, l_57, l_58, l_59, l_60, l_61, l_62, l_63, l_91, l_93, l_97, l_98, l_99, l_100, l_103, l_104, l_110, l_112, l_114, l_115, l_116, l_119, l_120, l_121, l_124, l_128, l_231, l_240, l_241, l_255, l_496, l_999, l_1000, l_8191, l_9999, l_10000, l_100000, l_200000, l_1000000, l_1000000000, gz_let_eq, Option.bind_some, ↓reduceIte, wi_wa, wa_at, wa_wa, upd_fI, fI_ap, wa_2, n_add, n_ok, n_cl, n_lt, n_le, n_eq, p_0, p_1, p_01, em_t, nb_0, t_10, n_modd, n_modm, Bool.false_eq_true, not_false_eq_true, not_true, h.1, h.2.1, hl, hb.1, c1]
    · by_cases c2 : b a ≤ 57
      · rw [if_pos (show dg b len a by omega)]
        simp (disch := omega) only [l_0, l_1, l_2, l_3, l_4, l_5, l_6, l_7, l_8, l_9, l_10, l_11, l_12, l_13, l_14, l_15, l_16, l_17, l_18, l_19, l_20, l_21, l_22, l_23, l_24, l_25, l_26, l_28, l_29, l_30, l_31, l_32, l_33, l_34, l_36, l_37, l_38, l_39, l_40, l_41, l_42, l_43, l_44, l_45, l_46, l_47, l_48, l_49, l_50, l_53, l_54, l_57, l_58, l_59, l_60, l_61, l_62, l_63, l_91, l_93, l_97, l_98, l_99, l_100, l_103, l_104, l_110, l_112, l_114, l_115, l_116, l_119, l_120, l_121, l_124, l_128, l_231, l_240, l_241, l_255, l_496, l_999, l_1000, l_8191, l_9999, l_10000, l_100000, l_200000, l_1000000, l_1000000000, gz_let_eq, Option.bind_some, ↓reduceIte, wi_wa, wa_at, wa_wa, upd_fI, fI_ap, wa_2, n_add, n_ok, n_cl, n_lt, n_le, n_eq, p_0, p_1, p_01, em_t, nb_0, t_10, n_modd, n_modm, Bool.false_eq_true, not_false_eq_true, not_true, h.1, h.2.1, hl, hb.1, c1, c2, n_sub]
      · rw [if_neg (show ¬ dg b len a by omega)]
        simp (disch := omega) only [l_0, l_1, l_2, l_3, l_4, l_5, l_6, l_7, l_8, l_9, l_10, l_11, l_12, l_13, l_14, l_15, l_16, l_17, l_18, l_19, l_20, l_21, l_22, l_23, l_24, l_25, l_26, l_28, l_29, l_30, l_31, l_32, l_33, l_34, l_36, l_37, l_38, l_39, l_40, l_41, l_42, l_43, l_44, l_45, l_46, l_47, l_48, l_49, l_50, l_53, l_54, l_57, l_58, l_59, l_60, l_61, l_62, l_63, l_91, l_93, l_97, l_98, l_99, l_100, l_103, l_104, l_110, l_112, l_114, l_115, l_116, l_119, l_120, l_121, l_124, l_128, l_231, l_240, l_241, l_255, l_496, l_999, l_1000, l_8191, l_9999, l_10000, l_100000, l_200000, l_1000000, l_1000000000, gz_let_eq, Option.bind_some, ↓reduceIte, wi_wa, wa_at, wa_wa, upd_fI, fI_ap, wa_2, n_add, n_ok, n_cl, n_lt, n_le, n_eq, p_0, p_1, p_01, em_t, nb_0, t_10, n_modd, n_modm, Bool.false_eq_true, not_false_eq_true, not_true, h.1, h.2.1, hl, hb.1, c1, c2]
theorem numV_v {b : Nat → Nat} {len : Nat} : ∀ n p v m, v < m → (numV b len n p v).2 < m * 10 ^ n := by
  intro n
  induction n with
  | zero => intro p v m h; show v < m * 1; omega
  | succ n ih =>
    intro p v m h
    show (if dg b len p then numV b len n (p + 1) (v * 10 + (b p - 48)) else (p, v)).2 < _
    by_cases hd : dg b len p
    · rw [if_pos hd]
      have := ih (p + 1) (v * 10 + (b p - 48)) (m * 10) (by omega)
      rw [Nat.pow_succ, Nat.mul_comm (10 ^ n), ← Nat.mul_assoc]; exact this
    · rw [if_neg hd]
      have : m * 1 ≤ m * 10 ^ (n + 1) := Nat.mul_le_mul_left m (Nat.pow_pos (by decide))
      show v < _; omega
/-- digits, at most so many -/
theorem c_readNumber (h : CT g b len a) {m : Nat} (hm : m ≤ 4) :
    ∃ g', fX9_readNumber La (nI m) g = some (pI (nx b len a < (numV b len m (nx b len a) 0).1 ∧ ¬ dg b len (numV b len m (nx b len a) 0).1), g') ∧ Fr (fun j => j = 1) g g' ∧
      CT g' b len (numV b len m (nx b len a) 0).1 ∧ g'.1 1 4 = nI (numV b len m (nx b len a) 0).2 ∧
      (¬ (nx b len a < (numV b len m (nx b len a) 0).1 ∧ ¬ dg b len (numV b len m (nx b len a) 0).1) → g'.1 1 3 = nI (numV b len m (nx b len a) 0).1) ∧
      ((nx b len a < (numV b len m (nx b len a) 0).1 ∧ ¬ dg b len (numV b len m (nx b len a) 0).1) → g'.1 1 3 = g.1 1 3) := by
  have h4 := h.2.2.2.1
  have hx := nx_le (b := b) h.2.2.1
  unfold fX9_readNumber
  rw [c_next h, Option.bind_some, gz_let_eq]
  generalize hp : nx b len a = p at *
  have hs : CT (st g p) b len p := h.st hx.2
  have hs4 : CT (gz_wi (st g p) 1 4 0) b len p := by rw [wi_wa]; exact hs.wf (by omega)
  have e4 : (gz_wi (st g p) 1 4 0).1 1 4 = nI 0 := by rw [wi_wa, wa_at]; rfl
  have e3 : (gz_wi (st g p) 1 4 0).1 1 3 = g.1 1 3 := by rw [wi_wa, wa_at]; show (st g p).1 1 3 = _; exact st_f (by omega)
  have eF : Fr (fun j => j = 1) g (gz_wi (st g p) 1 4 0) := (st_fr (S := fun j => j = 1) (g := g) (g' := g) (p := p) Fr.rf rfl).wi rfl
  have e2 : (gz_wi (st g p) 1 4 0).1 1 2 = nI p := hs4.2.1
  show ∃ g', gz_let ((gz_wi (st g p) 1 4 0).1 1 2) (fun y14 => fX9_readNumber_15 La (fX9_readNumber_62 La) gz_FU (nI m) y14 (gz_wi (st g p) 1 4 0)) = _ ∧ _
  rw [gz_let_eq, e2]
  -- the end
  have fin : ∀ g1 q v, CT g1 b len q → p ≤ q → g1.1 1 4 = nI v → g1.1 1 3 = g.1 1 3 → Fr (fun j => j = 1) g g1 → (q, v) = numV b len m p 0 →
      ∃ g', fX9_readNumber_62 La (nI p) g1 = some (pI (p < (numV b len m p 0).1 ∧ ¬ dg b len (numV b len m p 0).1), g') ∧ Fr (fun j => j = 1) g g' ∧ CT g' b len (numV b len m p 0).1 ∧ g'.1 1 4 = nI (numV b len m p 0).2 ∧
      (¬ (p < (numV b len m p 0).1 ∧ ¬ dg b len (numV b len m p 0).1) → g'.1 1 3 = nI (numV b len m p 0).1) ∧ ((p < (numV b len m p 0).1 ∧ ¬ dg b len (numV b len m p 0).1) → g'.1 1 3 = g.1 1 3) := by
    intro g1 q v hq hpq hv h3 hF he
    rw [← he]
    have hql := hq.2.2.1
    have e01 : (nI 0 = nI 0) = True := eq_true rfl
    have r78 : fX9_readNumber_78 La g1 = some (nI 0, gz_wa g1 1 (upd (g1.1 1) 3 (nI q))) := by
      unfold fX9_readNumber_78
      rw [hq.2.1, c_refuse, Option.bind_some]
      exact if_pos rfl
    by_cases hok : p < q ∧ ¬ dg b len q
    · refine ⟨g1, ?_, hF, hq, hv, fun hn => absurd hok hn, fun _ => h3⟩
      unfold fX9_readNumber_62
      have hle : ¬ q ≤ p := by omega
      simp (disch := omega) only [l_0, l_1, l_2, l_3, l_4, l_5, l_6, l_7, l_8, l_9, l_10, l_11, l_12, l_13, l_14, l_15, l_16, l_17, l_18, l_19, l_20, l_21, l_22, l_23, l_24, l_25, l_26, l_28, l_29, l_30, l_31, l_32, l_33, l_34, l_36, l_37, l_38, l_39, l_40, l_41, l_42, l_43, l_44, l_45, l_46, l_47, l_48, l_49, l_50, l_53, l_54, l_57, l_58, l_59, l_60, l_61, l_62, l_63, l_91, l_93, l_97, l_98, l_99, l_100, l_103, l_104, l_110, l_112, l_114, l_115, l_116, l_119, l_120, l_121, l_124, l_128, l_231, l_240, l_241, l_255, l_496, l_999, l_1000, l_8191, l_9999, l_10000, l_100000, l_200000, l_1000000, l_1000000000, ↓reduceIte, Option.bind_some, hq.2.1, n_add, n_ok, n_cl, n_lt, n_le, n_eq, p_0, p_1, p_01, hle, c_digitHere hq, hok.2]
      exact p_t ⟨hok.1, id⟩
    · refine ⟨gz_wa g1 1 (upd (g1.1 1) 3 (nI q)), ?_, hF.wa rfl, hq.wf (by omega), by rw [wa_at]; exact hv, fun _ => by rw [wa_at]; exact if_pos rfl, fun hn => absurd hn hok⟩
      unfold fX9_readNumber_62
      by_cases hle : q ≤ p
      · simp (disch := omega) only [l_0, l_1, l_2, l_3, l_4, l_5, l_6, l_7, l_8, l_9, l_10, l_11, l_12, l_13, l_14, l_15, l_16, l_17, l_18, l_19, l_20, l_21, l_22, l_23, l_24, l_25, l_26, l_28, l_29, l_30, l_31, l_32, l_33, l_34, l_36, l_37, l_38, l_39, l_40, l_41, l_42, l_43, l_44, l_45, l_46, l_47, l_48, l_49, l_50, l_53, l_54, l_57, l_58, l_59, l_60, l_61, l_62, l_63, l_91, l_93, l_97, l_98, l_99, l_100, l_103, l_104, l_110, l_112, l_114, l_115, l_116, l_119, l_120, l_121, l_124, l_128, l_231, l_240, l_241, l_255, l_496, l_999, l_1000, l_8191, l_9999, l_10000, l_100000, l_200000, l_1000000, l_1000000000, ↓reduceIte, hq.2.1, n_add, n_ok, n_cl, n_lt, n_le, n_eq, p_0, p_1, p_01, hle, r78]
        exact p_f hok
      · have hd : dg b len q := by
          by_cases hd : dg b len q
          · exact hd
          · exact absurd ⟨by omega, hd⟩ hok
        have hb := (hq.2.2.2.2 q hd.1).2
        simp (disch := omega) only [l_0, l_1, l_2, l_3, l_4, l_5, l_6, l_7, l_8, l_9, l_10, l_11, l_12, l_13, l_14, l_15, l_16, l_17, l_18, l_19, l_20, l_21, l_22, l_23, l_24, l_25, l_26, l_28, l_29, l_30, l_31, l_32, l_33, l_34, l_36, l_37, l_38, l_39, l_40, l_41, l_42, l_43, l_44, l_45, l_46, l_47, l_48, l_49, l_50, l_53, l_54, l_57, l_58, l_59, l_60, l_61, l_62, l_63, l_91, l_93, l_97, l_98, l_99, l_100, l_103, l_104, l_110, l_112, l_114, l_115, l_116, l_119, l_120, l_121, l_124, l_128, l_231, l_240, l_241, l_255, l_496, l_999, l_1000, l_8191, l_9999, l_10000, l_100000, l_200000, l_1000000, l_1000000000, ↓reduceIte, Option.bind_some, hq.2.1, n_add, n_ok, n_cl, n_lt, n_le, n_eq, p_0, p_1, p_01, hle, c_digitHere hq, if_pos hd, m_eq, r78]
        exact p_f hok
  -- the digits
  have key : ∀ n f q v g1, CT g1 b len q → q + n = p + m → p ≤ q → (v + 1) * 10 ^ n ≤ 10000 → g1.1 1 4 = nI v → g1.1 1 3 = g.1 1 3 → Fr (fun j => j = 1) g g1 → numV b len n q v = numV b len m p 0 → n < f →
      ∃ g', fX9_readNumber_15 La (fX9_readNumber_62 La) f (nI m) (nI p) g1 = some (pI (p < (numV b len m p 0).1 ∧ ¬ dg b len (numV b len m p 0).1), g') ∧ Fr (fun j => j = 1) g g' ∧ CT g' b len (numV b len m p 0).1 ∧ g'.1 1 4 = nI (numV b len m p 0).2 ∧
      (¬ (p < (numV b len m p 0).1 ∧ ¬ dg b len (numV b len m p 0).1) → g'.1 1 3 = nI (numV b len m p 0).1) ∧ ((p < (numV b len m p 0).1 ∧ ¬ dg b len (numV b len m p 0).1) → g'.1 1 3 = g.1 1 3) := by
    intro n
    induction n with
    | zero =>
      intro f q v g1 hq hqm hpq hv9 hv h3 hF he hf
      obtain ⟨f', rfl⟩ : ∃ f', f = f' + 1 := ⟨f - 1, by omega⟩
      obtain ⟨g', k1, k2⟩ := fin g1 q v hq hpq hv h3 hF he
      refine ⟨g', ?_, k2⟩
      rw [fX9_readNumber_15, ← k1]
      simp (disch := omega) only [l_0, l_1, l_2, l_3, l_4, l_5, l_6, l_7, l_8, l_9, l_10, l_11, l_12, l_13, l_14, l_15, l_16, l_17, l_18, l_19, l_20, l_21, l_22, l_23, l_24, l_25, l_26, l_28, l_29, l_30, l_31, l_32, l_33, l_34, l_36, l_37, l_38, l_39, l_40, l_41, l_42, l_43, l_44, l_45, l_46, l_47, l_48, l_49, l_50, l_53, l_54, l_57, l_58, l_59, l_60, l_61, l_62, l_63, l_91, l_93, l_97, l_98, l_99, l_100, l_103, l_104, l_110, l_112, l_114, l_115, l_116, l_119, l_120, l_121, l_124, l_128, l_231, l_240, l_241, l_255, l_496, l_999, l_1000, l_8191, l_9999, l_10000, l_100000, l_200000, l_1000000, l_1000000000, ↓reduceIte, hq.2.1, n_add, n_ok, n_cl, n_lt, n_le, n_eq, p_0, p_1, p_01, show p + m ≤ q by omega]
    | succ n ih =>
      intro f q v g1 hq hqm hpq hv9 hv h3 hF he hf
      obtain ⟨f', rfl⟩ : ∃ f', f = f' + 1 := ⟨f - 1, by omega⟩
      have hn1 : ¬ p + m ≤ q := by omega
      have hql := hq.2.2.1
      have hv10 : v + 1 ≤ (v + 1) * 10 ^ (n + 1) := Nat.le_mul_of_pos_right _ (Nat.pow_pos (by decide))
      by_cases hd : dg b len q
      · have hb := (hq.2.2.2.2 q hd.1).2
        have hn : numV b len (n + 1) q v = numV b len n (q + 1) (v * 10 + (b q - 48)) := by
          show (if dg b len q then numV b len n (q + 1) (v * 10 + (b q - 48)) else (q, v)) = _
          rw [if_pos hd]
        rw [hn] at he
        have hc : CT (gz_wi (gz_wi g1 1 4 (nI (v * 10 + (b q - 48)))) 1 2 (nI (q + 1))) b len (q + 1) := by
          rw [wi_st, wi_wa]; exact (hq.wf (by omega)).st (by omega)
        obtain ⟨g', k1, k2⟩ := ih f' (q + 1) (v * 10 + (b q - 48)) _ hc (by omega) (by omega) (by rw [Nat.pow_succ, Nat.mul_comm (10 ^ n), ← Nat.mul_assoc] at hv9; exact Nat.le_trans (Nat.mul_le_mul_right _ (by omega)) hv9) (by rw [wi_st, st_f (by omega), wi_wa, wa_at]; rfl) (by rw [wi_st, st_f (by omega), wi_wa, wa_at]; exact h3) ((hF.wi rfl).wi rfl) he (by omega)
        refine ⟨g', ?_, k2⟩
        have e5 : (gz_wi g1 1 4 (nI (v * 10 + (b q - 48)))).1 1 2 = nI q := by rw [wi_wa, wa_at]; exact hq.2.1
        rw [fX9_readNumber_15, ← k1]
        simp (disch := omega) only [l_0, l_1, l_2, l_3, l_4, l_5, l_6, l_7, l_8, l_9, l_10, l_11, l_12, l_13, l_14, l_15, l_16, l_17, l_18, l_19, l_20, l_21, l_22, l_23, l_24, l_25, l_26, l_28, l_29, l_30, l_31, l_32, l_33, l_34, l_36, l_37, l_38, l_39, l_40, l_41, l_42, l_43, l_44, l_45, l_46, l_47, l_48, l_49, l_50, l_53, l_54, l_57, l_58, l_59, l_60, l_61, l_62, l_63, l_91, l_93, l_97, l_98, l_99, l_100, l_103, l_104, l_110, l_112, l_114, l_115, l_116, l_119, l_120, l_121, l_124, l_128, l_231, l_240, l_241, l_255, l_496, l_999, l_1000, l_8191, l_9999, l_10000, l_100000, l_200000, l_1000000, l_1000000000, ↓reduceIte, gz_let_eq, Option.bind_some, hq.2.1, n_add, n_ok, n_cl, n_lt, n_le, n_eq, p_0, p_1, p_01, hn1, c_digitHere hq, if_pos hd, m_eq, hv, n_mul, e5]
      · have hn : numV b len (n + 1) q v = (q, v) := by
          show (if dg b len q then numV b len n (q + 1) (v * 10 + (b q - 48)) else (q, v)) = _
          rw [if_neg hd]
        rw [hn] at he
        obtain ⟨g', k1, k2⟩ := fin g1 q v hq hpq hv h3 hF he
        refine ⟨g', ?_, k2⟩
        rw [fX9_readNumber_15, ← k1]
        simp (disch := omega) only [l_0, l_1, l_2, l_3, l_4, l_5, l_6, l_7, l_8, l_9, l_10, l_11, l_12, l_13, l_14, l_15, l_16, l_17, l_18, l_19, l_20, l_21, l_22, l_23, l_24, l_25, l_26, l_28, l_29, l_30, l_31, l_32, l_33, l_34, l_36, l_37, l_38, l_39, l_40, l_41, l_42, l_43, l_44, l_45, l_46, l_47, l_48, l_49, l_50, l_53, l_54, l_57, l_58, l_59, l_60, l_61, l_62, l_63, l_91, l_93, l_97, l_98, l_99, l_100, l_103, l_104, l_110, l_112, l_114, l_115, l_116, l_119, l_120, l_121, l_124, l_128, l_231, l_240, l_241, l_255, l_496, l_999, l_1000, l_8191, l_9999, l_10000, l_100000, l_200000, l_1000000, l_1000000000, ↓reduceIte, Option.bind_some, hq.2.1, n_add, n_ok, n_cl, n_lt, n_le, n_eq, p_0, p_1, p_01, hn1, c_digitHere hq, if_neg hd]
  exact key m gz_FU p 0 _ hs4 (by omega) (Nat.le_refl _) (by rw [Nat.zero_add, Nat.one_mul]; exact Nat.pow_le_pow_right (n := 10) (by decide) hm) e4 e3 eF rfl (by unfold gz_FU; omega)
end C9
