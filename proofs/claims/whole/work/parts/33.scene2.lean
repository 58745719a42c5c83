/-! the class's scene: cells beside, what lies there, what is done by hand -/
theorem n_bm {x : Int} (h1 : -2147483648 ≤ x) (h2 : x < 2147483648) : x.bmod (2 ^ 32) = x := Int.bmod_eq_of_le (m := 4294967296) (by omega) (by omega)
theorem i_sub {x y : Int32} (h1 : -2147483648 ≤ x.toInt - y.toInt) (h2 : x.toInt - y.toInt < 2147483648) : (x - y).toInt = x.toInt - y.toInt := by rw [Int32.toInt_sub, n_bm h1 h2]
theorem i_add {x y : Int32} (h1 : -2147483648 ≤ x.toInt + y.toInt) (h2 : x.toInt + y.toInt < 2147483648) : (x + y).toInt = x.toInt + y.toInt := by rw [Int32.toInt_add, n_bm h1 h2]
theorem i_mul {x y : Int32} (h1 : -2147483648 ≤ x.toInt * y.toInt) (h2 : x.toInt * y.toInt < 2147483648) : (x * y).toInt = x.toInt * y.toInt := by rw [Int32.toInt_mul, n_bm h1 h2]
theorem n_subm {a b d c : Nat} (ha : a < 1000) (hb : b < 1000) (hd : d < 1000) (hc : c < 2147483648) : (nI c < (nI a - nI b) * nI d) = (c < (a - b) * d) := by
  rcases Nat.lt_or_ge a b with h | h
  · have e : a - b = 0 := by omega
    rw [e, Nat.zero_mul]
    refine propext ⟨fun hx => ?_, fun hx => absurd hx (Nat.not_lt_zero _)⟩
    exfalso
    rw [Int32.lt_iff_toInt_lt, n_ti hc] at hx
    have h1 : (nI a - nI b).toInt = (a : Int) - (b : Int) := by
      rw [i_sub, n_ti (by omega), n_ti (by omega)] <;> rw [n_ti (by omega), n_ti (by omega)] <;> omega
    have h4 : ((a : Int) - (b : Int)) * (d : Int) ≤ 0 := Int.mul_nonpos_of_nonpos_of_nonneg (by omega) (by omega)
    have h5 : -1000000 ≤ ((a : Int) - (b : Int)) * (d : Int) := by
      have h6 : ((b : Int) - (a : Int)) * (d : Int) ≤ 1000 * 1000 := Int.mul_le_mul (by omega) (by omega) (by omega) (by omega)
      have h7 : ((a : Int) - (b : Int)) * (d : Int) = - (((b : Int) - (a : Int)) * (d : Int)) := by rw [← Int.neg_mul]; congr 1; omega
      omega
    have h2 : ((nI a - nI b) * nI d).toInt = ((a : Int) - (b : Int)) * (d : Int) := by
      rw [i_mul, h1, n_ti (by omega)] <;> rw [h1, n_ti (by omega)] <;> omega
    rw [h2] at hx
    omega
  · have h2 : (a - b) * d < 1000 * 1000 := Nat.mul_lt_mul_of_lt_of_le (by omega) (by omega) (by omega)
    rw [n_sub h, n_mul, n_lt hc (by omega)]
section C6
variable {La : gz_L} {w : Nat} {g : gz_S} {V : Nat → Nat} {B : Nat}
theorem c_under (hv : g.1 (w + 16) = fI V) (hW : Wf B V) {c : Nat} (hc : c < 30) : fX6_under La w (nI c) g = some (pI (sUnd V c), g) := by
  have b0 := hW.1 c
  obtain ⟨hB, h58, h59, h60, h46, -⟩ := hW
  unfold fX6_under
  simp (disch := omega) only [l_0, l_1, l_2, l_3, l_4, l_5, l_6, l_7, l_8, l_9, l_10, l_11, l_12, l_13, l_14, l_15, l_16, l_17, l_18, l_19, l_20, l_21, l_22, l_23, l_24, l_25, l_26, l_28, l_29, l_30, l_31, l_32, l_33, l_34, l_36, l_37, l_38, l_39, l_40, l_41, l_42, l_43, l_44, l_45, l_46, l_47, l_48, l_49, l_50, l_53, l_54, l_57, l_58, l_59, l_60, l_61, l_62, l_63, l_91, l_93, l_97, l_98, l_99, l_100, l_103, l_104, l_110, l_112, l_114, l_115, l_116, l_119, l_120, l_121, l_124, l_128, l_231, l_240, l_241, l_255, l_496, l_999, l_1000, l_8191, l_9999, l_10000, l_100000, l_200000, l_1000000, l_1000000000, gz_let_eq, Option.bind_some, ↓reduceIte, wi_wa, wa_at, wa_wa, upd_fI, fI_ap, wa_2, n_add, n_ok, n_cl, n_lt, n_le, n_eq, p_0, p_1, p_01, hv, n_subm, Nat.zero_add]
  (repeat' split) <;> first | exact p_t (by omega) | exact p_f (by omega)
theorem c_beside (hv : g.1 (w + 16) = fI V) (hW : Wf B V) {c d : Nat} (hc : c < 30) (hd : d < 4) : fX6_beside La w (nI c) (nI d) g = some (oI (sBes V c d), g) := by
  have h30 := hW.cells
  obtain ⟨hB, h58, h59, -⟩ := hW
  have m1 := Nat.mod_lt (c + 1) (by omega : 0 < V 58)
  have m2 := Nat.mod_lt c (by omega : 0 < V 58)
  unfold fX6_beside sBes
  simp (disch := omega) only [l_0, l_1, l_2, l_3, l_4, l_5, l_6, l_7, l_8, l_9, l_10, l_11, l_12, l_13, l_14, l_15, l_16, l_17, l_18, l_19, l_20, l_21, l_22, l_23, l_24, l_25, l_26, l_28, l_29, l_30, l_31, l_32, l_33, l_34, l_36, l_37, l_38, l_39, l_40, l_41, l_42, l_43, l_44, l_45, l_46, l_47, l_48, l_49, l_50, l_53, l_54, l_57, l_58, l_59, l_60, l_61, l_62, l_63, l_91, l_93, l_97, l_98, l_99, l_100, l_103, l_104, l_110, l_112, l_114, l_115, l_116, l_119, l_120, l_121, l_124, l_128, l_231, l_240, l_241, l_255, l_496, l_999, l_1000, l_8191, l_9999, l_10000, l_100000, l_200000, l_1000000, l_1000000000, gz_let_eq, Option.bind_some, ↓reduceIte, wi_wa, wa_at, wa_wa, upd_fI, fI_ap, wa_2, n_add, n_ok, n_cl, n_lt, n_le, n_eq, p_0, p_1, p_01, hv, n_mul, n_mod]
  by_cases d0 : d = 0
  · simp only [d0, ↓reduceIte]
    by_cases hx : V 58 ≤ c
    · rw [if_neg (by omega), if_pos hx, n_sub hx]; rfl
    · rw [if_pos (by omega), if_neg hx]; rfl
  · simp only [d0, ↓reduceIte]
    by_cases d1 : d = 1
    · simp only [d1, ↓reduceIte]
      rw [if_neg (by omega), if_pos (by omega)]
      by_cases hx : (c + 1) % V 58 = 0
      · rw [if_pos hx, if_pos hx]; rfl
      · rw [if_neg hx, if_neg hx]; rfl
    · simp only [d1, ↓reduceIte]
      by_cases d2 : d = 2
      · simp only [d2, ↓reduceIte]
        by_cases hx : V 58 * V 59 ≤ c + V 58
        · rw [if_pos hx, if_pos hx]; rfl
        · rw [if_neg hx, if_neg hx]; rfl
      · simp only [d2, ↓reduceIte]
        rw [if_neg (by omega), if_pos (by omega)]
        by_cases hx : c % V 58 = 0
        · rw [if_pos hx, if_pos hx]; rfl
        · rw [if_neg hx, if_neg hx]
          have hc0 : c ≠ 0 := fun e => hx (by rw [e]; exact Nat.zero_mod _)
          rw [n_sub (by omega)]; rfl
theorem c_lies (hv : g.1 (w + 16) = fI V) (hW : Wf B V) {o : Option Nat} (ho : ∀ c, o = some c → c < 30) : fX6_lies La w (oI o) g = some (nI (sLie V o), g) := by
  cases o with
  | none =>
    unfold fX6_lies oI sLie
    simp (disch := omega) only [l_0, l_1, l_2, l_3, l_4, l_5, l_6, l_7, l_8, l_9, l_10, l_11, l_12, l_13, l_14, l_15, l_16, l_17, l_18, l_19, l_20, l_21, l_22, l_23, l_24, l_25, l_26, l_28, l_29, l_30, l_31, l_32, l_33, l_34, l_36, l_37, l_38, l_39, l_40, l_41, l_42, l_43, l_44, l_45, l_46, l_47, l_48, l_49, l_50, l_53, l_54, l_57, l_58, l_59, l_60, l_61, l_62, l_63, l_91, l_93, l_97, l_98, l_99, l_100, l_103, l_104, l_110, l_112, l_114, l_115, l_116, l_119, l_120, l_121, l_124, l_128, l_231, l_240, l_241, l_255, l_496, l_999, l_1000, l_8191, l_9999, l_10000, l_100000, l_200000, l_1000000, l_1000000000, gz_let_eq, Option.bind_some, ↓reduceIte, wi_wa, wa_at, wa_wa, upd_fI, fI_ap, wa_2, n_add, n_ok, n_cl, n_lt, n_le, n_eq, p_0, p_1, p_01]
  | some c =>
    have hc := ho c rfl
    have b0 := hW.1 c
    unfold fX6_lies oI sLie
    simp (disch := omega) only [l_0, l_1, l_2, l_3, l_4, l_5, l_6, l_7, l_8, l_9, l_10, l_11, l_12, l_13, l_14, l_15, l_16, l_17, l_18, l_19, l_20, l_21, l_22, l_23, l_24, l_25, l_26, l_28, l_29, l_30, l_31, l_32, l_33, l_34, l_36, l_37, l_38, l_39, l_40, l_41, l_42, l_43, l_44, l_45, l_46, l_47, l_48, l_49, l_50, l_53, l_54, l_57, l_58, l_59, l_60, l_61, l_62, l_63, l_91, l_93, l_97, l_98, l_99, l_100, l_103, l_104, l_110, l_112, l_114, l_115, l_116, l_119, l_120, l_121, l_124, l_128, l_231, l_240, l_241, l_255, l_496, l_999, l_1000, l_8191, l_9999, l_10000, l_100000, l_200000, l_1000000, l_1000000000, gz_let_eq, Option.bind_some, ↓reduceIte, wi_wa, wa_at, wa_wa, upd_fI, fI_ap, wa_2, n_add, n_ok, n_cl, n_lt, n_le, n_eq, p_0, p_1, p_01, hv, c_under hv hW, m_eq, Nat.zero_add]
    by_cases h1 : V c = 1
    · simp only [h1, ↓reduceIte]
    · simp only [h1, ↓reduceIte]
      by_cases h2 : sUnd V c
      · simp only [h2, not_true, ↓reduceIte]
      · simp only [h2, not_false_eq_true, ↓reduceIte]
        by_cases h3 : V c = 3
        · simp only [h3, ↓reduceIte]
        · simp only [h3, ↓reduceIte]
theorem c_together (hv : g.1 (w + 16) = fI V) (hB : ∀ k, V k < 1048576) {i j : Nat} (hi : i < 4) (hj : j < 4) : fX6_together La w (nI i) (nI j) g = some (pI (V (42 + i) = 0 ∧ V (42 + j) = 0 ∧ V (30 + j) = V (30 + i)), g) := by
  have b0 := hB (30 + i)
  unfold fX6_together
  simp (disch := omega) only [l_0, l_1, l_2, l_3, l_4, l_5, l_6, l_7, l_8, l_9, l_10, l_11, l_12, l_13, l_14, l_15, l_16, l_17, l_18, l_19, l_20, l_21, l_22, l_23, l_24, l_25, l_26, l_28, l_29, l_30, l_31, l_32, l_33, l_34, l_36, l_37, l_38, l_39, l_40, l_41, l_42, l_43, l_44, l_45, l_46, l_47, l_48, l_49, l_50, l_53, l_54, l_57, l_58, l_59, l_60, l_61, l_62, l_63, l_91, l_93, l_97, l_98, l_99, l_100, l_103, l_104, l_110, l_112, l_114, l_115, l_116, l_119, l_120, l_121, l_124, l_128, l_231, l_240, l_241, l_255, l_496, l_999, l_1000, l_8191, l_9999, l_10000, l_100000, l_200000, l_1000000, l_1000000000, gz_let_eq, Option.bind_some, ↓reduceIte, wi_wa, wa_at, wa_wa, upd_fI, fI_ap, wa_2, n_add, n_ok, n_cl, n_lt, n_le, n_eq, p_0, p_1, p_01, hv, c_goes hv hB, c_goesOn hv hB]
  (repeat' split) <;> first | exact p_t (by omega) | exact p_f (by omega)
theorem xx_eq {x y : Int32} : (x = y) = (x.toInt = y.toInt) := propext Int32.toInt_inj.symm
theorem c_hasPair (hv : g.1 (w + 16) = fI V) (hB : ∀ k, V k < 1048576) {x y : Int32} : fX6_hasPair La w x y g = some (pI ((0 ≤ x.toInt ∧ x.toInt < (V 60 : Int)) ∧ (0 ≤ y.toInt ∧ y.toInt < (V 60 : Int)) ∧ (x.toInt < y.toInt ∨ y.toInt < x.toInt)), g) := by
  unfold fX6_hasPair
  simp (disch := omega) only [l_0, l_1, l_2, l_3, l_4, l_5, l_6, l_7, l_8, l_9, l_10, l_11, l_12, l_13, l_14, l_15, l_16, l_17, l_18, l_19, l_20, l_21, l_22, l_23, l_24, l_25, l_26, l_28, l_29, l_30, l_31, l_32, l_33, l_34, l_36, l_37, l_38, l_39, l_40, l_41, l_42, l_43, l_44, l_45, l_46, l_47, l_48, l_49, l_50, l_53, l_54, l_57, l_58, l_59, l_60, l_61, l_62, l_63, l_91, l_93, l_97, l_98, l_99, l_100, l_103, l_104, l_110, l_112, l_114, l_115, l_116, l_119, l_120, l_121, l_124, l_128, l_231, l_240, l_241, l_255, l_496, l_999, l_1000, l_8191, l_9999, l_10000, l_100000, l_200000, l_1000000, l_1000000000, gz_let_eq, Option.bind_some, ↓reduceIte, wi_wa, wa_at, wa_wa, upd_fI, fI_ap, wa_2, n_add, n_ok, n_cl, n_lt, n_le, n_eq, p_0, p_1, p_01, hv, c_hasGoer hv hB]
  simp only [xx_eq (x := x) (y := y)]
  (repeat' split) <;> first | exact p_t (by omega) | exact p_f (by omega)
theorem c_maySweep (hv : g.1 (w + 16) = fI V) (hW : Wf B V) {c : Nat} (hc : c < 30) : fX6_maySweep La w (nI c) g = some (pI (c < V 58 * V 59 ∧ 0 < sCnt V c ∧ 1 ≤ V 48), g) := by
  have h30 := hW.cells
  have hn : sCnt V c ≤ 4 := Nat.le_trans sCnt_le hW.2.2.2.1.2
  obtain ⟨hB, h58, h59, h60, h46, h47, h48, -⟩ := hW
  unfold fX6_maySweep
  simp (disch := omega) only [l_0, l_1, l_2, l_3, l_4, l_5, l_6, l_7, l_8, l_9, l_10, l_11, l_12, l_13, l_14, l_15, l_16, l_17, l_18, l_19, l_20, l_21, l_22, l_23, l_24, l_25, l_26, l_28, l_29, l_30, l_31, l_32, l_33, l_34, l_36, l_37, l_38, l_39, l_40, l_41, l_42, l_43, l_44, l_45, l_46, l_47, l_48, l_49, l_50, l_53, l_54, l_57, l_58, l_59, l_60, l_61, l_62, l_63, l_91, l_93, l_97, l_98, l_99, l_100, l_103, l_104, l_110, l_112, l_114, l_115, l_116, l_119, l_120, l_121, l_124, l_128, l_231, l_240, l_241, l_255, l_496, l_999, l_1000, l_8191, l_9999, l_10000, l_100000, l_200000, l_1000000, l_1000000000, gz_let_eq, Option.bind_some, ↓reduceIte, wi_wa, wa_at, wa_wa, upd_fI, fI_ap, wa_2, n_add, n_ok, n_cl, n_lt, n_le, n_eq, p_0, p_1, p_01, hv, c_hasCell hv h30, c_goingOn hv hB h60.2, n_ti]
  (repeat' split) <;> first | exact p_t (by omega) | exact p_f (by omega)
theorem c_mayTurnStone (hv : g.1 (w + 16) = fI V) (hW : Wf B V) {x : Int32} : fX6_mayTurnStone La w x g = some (pI (0 ≤ x.toInt ∧ x.toInt < ((V 58 * V 59 : Nat) : Int) ∧ V x.toInt.toNat ≤ 1 ∧ sCnt V x.toInt.toNat = 0 ∧ 2 ≤ V 48), g) := by
  have h30 := hW.cells
  have hn : ∀ c, sCnt V c ≤ 4 := fun c => Nat.le_trans sCnt_le hW.2.2.2.1.2
  have hB := hW.1
  have h60 := hW.2.2.2.1.2
  have h48 := hW.1 48
  unfold fX6_mayTurnStone
  rw [c_hasCell hv h30]
  by_cases h : 0 ≤ x.toInt ∧ x.toInt < ((V 58 * V 59 : Nat) : Int)
  · obtain ⟨c, hc, rfl, hc2⟩ := x_of h.1
    rw [← hc2] at h ⊢
    have b0 := hB c
    have b1 := hn c
    simp (disch := omega) only [l_0, l_1, l_2, l_3, l_4, l_5, l_6, l_7, l_8, l_9, l_10, l_11, l_12, l_13, l_14, l_15, l_16, l_17, l_18, l_19, l_20, l_21, l_22, l_23, l_24, l_25, l_26, l_28, l_29, l_30, l_31, l_32, l_33, l_34, l_36, l_37, l_38, l_39, l_40, l_41, l_42, l_43, l_44, l_45, l_46, l_47, l_48, l_49, l_50, l_53, l_54, l_57, l_58, l_59, l_60, l_61, l_62, l_63, l_91, l_93, l_97, l_98, l_99, l_100, l_103, l_104, l_110, l_112, l_114, l_115, l_116, l_119, l_120, l_121, l_124, l_128, l_231, l_240, l_241, l_255, l_496, l_999, l_1000, l_8191, l_9999, l_10000, l_100000, l_200000, l_1000000, l_1000000000, gz_let_eq, Option.bind_some, ↓reduceIte, wi_wa, wa_at, wa_wa, upd_fI, fI_ap, wa_2, n_add, n_ok, n_cl, n_lt, n_le, n_eq, p_0, p_1, p_01, hv, c_kind hv, c_goingOn hv hB h60, Int.toNat_natCast]
    (repeat' split) <;> first | exact p_t (by omega) | exact p_f (by omega)
  · simp (disch := omega) only [l_0, l_1, l_2, l_3, l_4, l_5, l_6, l_7, l_8, l_9, l_10, l_11, l_12, l_13, l_14, l_15, l_16, l_17, l_18, l_19, l_20, l_21, l_22, l_23, l_24, l_25, l_26, l_28, l_29, l_30, l_31, l_32, l_33, l_34, l_36, l_37, l_38, l_39, l_40, l_41, l_42, l_43, l_44, l_45, l_46, l_47, l_48, l_49, l_50, l_53, l_54, l_57, l_58, l_59, l_60, l_61, l_62, l_63, l_91, l_93, l_97, l_98, l_99, l_100, l_103, l_104, l_110, l_112, l_114, l_115, l_116, l_119, l_120, l_121, l_124, l_128, l_231, l_240, l_241, l_255, l_496, l_999, l_1000, l_8191, l_9999, l_10000, l_100000, l_200000, l_1000000, l_1000000000, gz_let_eq, Option.bind_some, ↓reduceIte, wi_wa, wa_at, wa_wa, upd_fI, fI_ap, wa_2, n_add, n_ok, n_cl, n_lt, n_le, n_eq, p_0, p_1, p_01]
    (repeat' split) <;> first | exact p_t (by omega) | exact p_f (by omega)
theorem c_begin (hv : g.1 (w + 16) = fI V) {i l : Nat} (hi : i < 4) : fX6_begin La w (nI i) (nI l) g = some (gz_wa g (w + 16) (fI (sBegin V i l))) := by
  unfold fX6_begin sBegin
  simp (disch := omega) only [l_0, l_1, l_2, l_3, l_4, l_5, l_6, l_7, l_8, l_9, l_10, l_11, l_12, l_13, l_14, l_15, l_16, l_17, l_18, l_19, l_20, l_21, l_22, l_23, l_24, l_25, l_26, l_28, l_29, l_30, l_31, l_32, l_33, l_34, l_36, l_37, l_38, l_39, l_40, l_41, l_42, l_43, l_44, l_45, l_46, l_47, l_48, l_49, l_50, l_53, l_54, l_57, l_58, l_59, l_60, l_61, l_62, l_63, l_91, l_93, l_97, l_98, l_99, l_100, l_103, l_104, l_110, l_112, l_114, l_115, l_116, l_119, l_120, l_121, l_124, l_128, l_231, l_240, l_241, l_255, l_496, l_999, l_1000, l_8191, l_9999, l_10000, l_100000, l_200000, l_1000000, l_1000000000, gz_let_eq, Option.bind_some, ↓reduceIte, wi_wa, wa_at, wa_wa, upd_fI, fI_ap, wa_2, n_add, n_ok, n_cl, n_lt, n_le, n_eq, p_0, p_1, p_01, hv]
theorem c_payAndBegin (hv : g.1 (w + 16) = fI V) {i l : Nat} (hi : i < 4) (h : 3 ≤ V 48) : fX6_payAndBegin La w (nI i) (nI l) g = some (gz_wa g (w + 16) (fI (sPay V i l))) := by
  unfold fX6_payAndBegin sPay
  simp (disch := omega) only [l_0, l_1, l_2, l_3, l_4, l_5, l_6, l_7, l_8, l_9, l_10, l_11, l_12, l_13, l_14, l_15, l_16, l_17, l_18, l_19, l_20, l_21, l_22, l_23, l_24, l_25, l_26, l_28, l_29, l_30, l_31, l_32, l_33, l_34, l_36, l_37, l_38, l_39, l_40, l_41, l_42, l_43, l_44, l_45, l_46, l_47, l_48, l_49, l_50, l_53, l_54, l_57, l_58, l_59, l_60, l_61, l_62, l_63, l_91, l_93, l_97, l_98, l_99, l_100, l_103, l_104, l_110, l_112, l_114, l_115, l_116, l_119, l_120, l_121, l_124, l_128, l_231, l_240, l_241, l_255, l_496, l_999, l_1000, l_8191, l_9999, l_10000, l_100000, l_200000, l_1000000, l_1000000000, gz_let_eq, Option.bind_some, ↓reduceIte, wi_wa, wa_at, wa_wa, upd_fI, fI_ap, wa_2, n_add, n_ok, n_cl, n_lt, n_le, n_eq, p_0, p_1, p_01, hv, n_sub, c_begin (wa_at g (w + 16) (fI (uN V 48 (V 48 - 3))))]
theorem c_turnStone (hv : g.1 (w + 16) = fI V) (hB : ∀ k, V k < 1048576) {c : Nat} (hc : c < 30) (h : 2 ≤ V 48) : fX6_turnStone La w (nI c) g = some (gz_wa g (w + 16) (fI (sStone V c))) := by
  have b0 := hB c
  have e : uN V 48 (V 48 - 2) c = V c := uN_n (by omega)
  unfold fX6_turnStone sStone
  simp (disch := omega) only [l_0, l_1, l_2, l_3, l_4, l_5, l_6, l_7, l_8, l_9, l_10, l_11, l_12, l_13, l_14, l_15, l_16, l_17, l_18, l_19, l_20, l_21, l_22, l_23, l_24, l_25, l_26, l_28, l_29, l_30, l_31, l_32, l_33, l_34, l_36, l_37, l_38, l_39, l_40, l_41, l_42, l_43, l_44, l_45, l_46, l_47, l_48, l_49, l_50, l_53, l_54, l_57, l_58, l_59, l_60, l_61, l_62, l_63, l_91, l_93, l_97, l_98, l_99, l_100, l_103, l_104, l_110, l_112, l_114, l_115, l_116, l_119, l_120, l_121, l_124, l_128, l_231, l_240, l_241, l_255, l_496, l_999, l_1000, l_8191, l_9999, l_10000, l_100000, l_200000, l_1000000, l_1000000000, gz_let_eq, Option.bind_some, ↓reduceIte, wi_wa, wa_at, wa_wa, upd_fI, fI_ap, wa_2, n_add, n_ok, n_cl, n_lt, n_le, n_eq, p_0, p_1, p_01, hv, n_sub, c_kind (wa_at g (w + 16) (fI (uN V 48 (V 48 - 2)))), e, fX6_turnStone_31, Nat.zero_add]
  by_cases h : V c = 0
  · simp only [h, ↓reduceIte]
  · simp only [h, ↓reduceIte]
theorem c_copy {w0 : Nat} {V0 : Nat → Nat} (hv : g.1 (w + 16) = fI V) (hv0 : g.1 (w0 + 16) = fI V0) (h1 : ∀ k, 61 ≤ k → V0 k = V k) : fX6_copy La w0 w g = some (gz_wa g (w0 + 16) (fI V)) := by
  have e : va_cpy (fI V) (fI V0) 0 0 61 = fI V := by
    funext k; unfold va_cpy
    by_cases h : 0 ≤ k ∧ k < 0 + 61
    · rw [if_pos h]; unfold fI; congr 2; omega
    · rw [if_neg h]; unfold fI; rw [h1 k (by omega)]
  unfold fX6_copy
  rw [if_pos (by omega), hv, hv0, e]; rfl
theorem c_mayBegin (hv : g.1 (w + 16) = fI V) (hW : Wf B V) {x y : Int32} : fX6_mayBegin La w x y g = some (pI ((0 ≤ x.toInt ∧ x.toInt < (V 60 : Int)) ∧ (0 ≤ y.toInt ∧ y.toInt < 4) ∧ ¬ V (V (54 + x.toInt.toNat)) = 1 ∧ 3 ≤ V 48), g) := by
  have hB := hW.1
  have h60 := hW.2.2.2.1.2
  have h48 := hW.1 48
  unfold fX6_mayBegin
  rw [c_hasGoer hv hB]
  by_cases h : 0 ≤ x.toInt ∧ x.toInt < (V 60 : Int)
  · obtain ⟨i, hi, rfl, hi2⟩ := x_of h.1
    rw [← hi2] at h ⊢
    have b0 := (hW.2.2.2.2.2.2.2.2.2.1 i (by omega)).2.2.2.2.2
    have b1 := hB (V (54 + i))
    simp (disch := omega) only [l_0, l_1, l_2, l_3, l_4, l_5, l_6, l_7, l_8, l_9, l_10, l_11, l_12, l_13, l_14, l_15, l_16, l_17, l_18, l_19, l_20, l_21, l_22, l_23, l_24, l_25, l_26, l_28, l_29, l_30, l_31, l_32, l_33, l_34, l_36, l_37, l_38, l_39, l_40, l_41, l_42, l_43, l_44, l_45, l_46, l_47, l_48, l_49, l_50, l_53, l_54, l_57, l_58, l_59, l_60, l_61, l_62, l_63, l_91, l_93, l_97, l_98, l_99, l_100, l_103, l_104, l_110, l_112, l_114, l_115, l_116, l_119, l_120, l_121, l_124, l_128, l_231, l_240, l_241, l_255, l_496, l_999, l_1000, l_8191, l_9999, l_10000, l_100000, l_200000, l_1000000, l_1000000000, gz_let_eq, Option.bind_some, ↓reduceIte, wi_wa, wa_at, wa_wa, upd_fI, fI_ap, wa_2, n_add, n_ok, n_cl, n_lt, n_le, n_eq, p_0, p_1, p_01, hv, c_isLook, c_kind hv, Int.toNat_natCast]
    (repeat' split) <;> first | exact p_t (by omega) | exact p_f (by omega)
  · simp (disch := omega) only [l_0, l_1, l_2, l_3, l_4, l_5, l_6, l_7, l_8, l_9, l_10, l_11, l_12, l_13, l_14, l_15, l_16, l_17, l_18, l_19, l_20, l_21, l_22, l_23, l_24, l_25, l_26, l_28, l_29, l_30, l_31, l_32, l_33, l_34, l_36, l_37, l_38, l_39, l_40, l_41, l_42, l_43, l_44, l_45, l_46, l_47, l_48, l_49, l_50, l_53, l_54, l_57, l_58, l_59, l_60, l_61, l_62, l_63, l_91, l_93, l_97, l_98, l_99, l_100, l_103, l_104, l_110, l_112, l_114, l_115, l_116, l_119, l_120, l_121, l_124, l_128, l_231, l_240, l_241, l_255, l_496, l_999, l_1000, l_8191, l_9999, l_10000, l_100000, l_200000, l_1000000, l_1000000000, gz_let_eq, Option.bind_some, ↓reduceIte, wi_wa, wa_at, wa_wa, upd_fI, fI_ap, wa_2, n_add, n_ok, n_cl, n_lt, n_le, n_eq, p_0, p_1, p_01]
    (repeat' split) <;> first | exact p_t (by omega) | exact p_f (by omega)
theorem c_mayTurnTide (hv : g.1 (w + 16) = fI V) (hB : ∀ k, V k < 1048576) {x : Int32} : fX6_mayTurnTide La w x g = some (pI (0 < V 60 ∧ 0 ≤ x.toInt ∧ x.toInt ≤ 5 ∧ (x.toInt < (V 46 : Int) ∨ (V 46 : Int) < x.toInt)), g) := by
  have b0 := hB 46
  unfold fX6_mayTurnTide
  simp (disch := omega) only [l_0, l_1, l_2, l_3, l_4, l_5, l_6, l_7, l_8, l_9, l_10, l_11, l_12, l_13, l_14, l_15, l_16, l_17, l_18, l_19, l_20, l_21, l_22, l_23, l_24, l_25, l_26, l_28, l_29, l_30, l_31, l_32, l_33, l_34, l_36, l_37, l_38, l_39, l_40, l_41, l_42, l_43, l_44, l_45, l_46, l_47, l_48, l_49, l_50, l_53, l_54, l_57, l_58, l_59, l_60, l_61, l_62, l_63, l_91, l_93, l_97, l_98, l_99, l_100, l_103, l_104, l_110, l_112, l_114, l_115, l_116, l_119, l_120, l_121, l_124, l_128, l_231, l_240, l_241, l_255, l_496, l_999, l_1000, l_8191, l_9999, l_10000, l_100000, l_200000, l_1000000, l_1000000000, gz_let_eq, Option.bind_some, ↓reduceIte, wi_wa, wa_at, wa_wa, upd_fI, fI_ap, wa_2, n_add, n_ok, n_cl, n_lt, n_le, n_eq, p_0, p_1, p_01, hv, c_hasShore hv hB, x_lt, x_gt, x_eq (x := x)]
  (repeat' split) <;> first | exact p_t (by omega) | exact p_f (by omega)
theorem c_mayBeGiven (hv : g.1 (w + 16) = fI V) (h48 : V 48 ≤ 999) (hB : ∀ k, V k < 1048576) {x : Int32} : fX6_mayBeGiven La w x g = some (pI (0 < V 60 ∧ 1 ≤ x.toInt ∧ x.toInt ≤ 50 ∧ (V 48 : Int) + x.toInt ≤ 999), g) := by
  unfold fX6_mayBeGiven
  simp (disch := omega) only [l_0, l_1, l_2, l_3, l_4, l_5, l_6, l_7, l_8, l_9, l_10, l_11, l_12, l_13, l_14, l_15, l_16, l_17, l_18, l_19, l_20, l_21, l_22, l_23, l_24, l_25, l_26, l_28, l_29, l_30, l_31, l_32, l_33, l_34, l_36, l_37, l_38, l_39, l_40, l_41, l_42, l_43, l_44, l_45, l_46, l_47, l_48, l_49, l_50, l_53, l_54, l_57, l_58, l_59, l_60, l_61, l_62, l_63, l_91, l_93, l_97, l_98, l_99, l_100, l_103, l_104, l_110, l_112, l_114, l_115, l_116, l_119, l_120, l_121, l_124, l_128, l_231, l_240, l_241, l_255, l_496, l_999, l_1000, l_8191, l_9999, l_10000, l_100000, l_200000, l_1000000, l_1000000000, gz_let_eq, Option.bind_some, ↓reduceIte, wi_wa, wa_at, wa_wa, upd_fI, fI_ap, wa_2, n_add, n_ok, n_cl, n_lt, n_le, n_eq, p_0, p_1, p_01, hv, c_hasShore hv hB, x_lt, x_gt]
  by_cases h : 1 ≤ x.toInt ∧ x.toInt ≤ 50
  · obtain ⟨n, hn, rfl, hn2⟩ := x_of (by omega : 0 ≤ x.toInt)
    rw [← hn2] at h ⊢
    simp (disch := omega) only [l_0, l_1, l_2, l_3, l_4, l_5, l_6, l_7, l_8, l_9, l_10, l_11, l_12, l_13, l_14, l_15, l_16, l_17, l_18, l_19, l_20, l_21, l_22, l_23, l_24, l_25, l_26, l_28, l_29, l_30, l_31, l_32, l_33, l_34, l_36, l_37, l_38, l_39, l_40, l_41, l_42, l_43, l_44, l_45, l_46, l_47, l_48, l_49, l_50, l_53, l_54, l_57, l_58, l_59, l_60, l_61, l_62, l_63, l_91, l_93, l_97, l_98, l_99, l_100, l_103, l_104, l_110, l_112, l_114, l_115, l_116, l_119, l_120, l_121, l_124, l_128, l_231, l_240, l_241, l_255, l_496, l_999, l_1000, l_8191, l_9999, l_10000, l_100000, l_200000, l_1000000, l_1000000000, gz_let_eq, Option.bind_some, ↓reduceIte, wi_wa, wa_at, wa_wa, upd_fI, fI_ap, wa_2, n_add, n_ok, n_cl, n_lt, n_le, n_eq, p_0, p_1, p_01, n_ti]
    (repeat' split) <;> first | exact p_t (by omega) | exact p_f (by omega)
  · have h1 : x.toInt < ((1 : Nat) : Int) ∨ ((50 : Nat) : Int) < x.toInt := by omega
    rcases h1 with h1 | h1
    · simp only [h1, ↓reduceIte]
      (repeat' split) <;> first | exact p_t (by omega) | exact p_f (by omega)
    · have h2 : ¬ x.toInt < ((1 : Nat) : Int) := by omega
      simp only [h1, h2, ↓reduceIte]
      (repeat' split) <;> first | exact p_t (by omega) | exact p_f (by omega)
end C6
