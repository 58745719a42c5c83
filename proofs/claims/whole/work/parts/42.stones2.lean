/-! the class's foresight: two rocks -/
theorem sMat_tb {T : sT} {V : Nat → Nat} {a b n c d : Nat} : sMat T V a b n c d = (((sLooked T V a b n).testBit c || (sLooked T V a b n).testBit d) && lbT (sLb T V a b n c) d && lbT (sLb T V a b n d) c) := rfl
theorem nb_or {p q : Bool} : (nI (if p = true then 1 else 0) ||| nI (if q = true then 1 else 0) = nI 0) = ¬ (p || q) = true := by
  rw [n_or, tb_or]; exact nb_0
theorem sLb_lt {B : Nat} {V : Nat → Nat} {T : sT} (hT : TLt T) (h : Wf B V) {a b n c : Nat} (hn : B + 20 * n < 800000) (hc : c < 30) : ∀ x, sLb T V a b n c = some x → x < 1073741824 := by
  intro x hx
  unfold sLb at hx
  split at hx
  · cases hx; exact sLooked_lt hT (sRock_wf (o := some c) h (fun e he => by cases he; exact hc)) hn
  · cases hx
section C2
variable {La : gz_L} {g : gz_S} {V : Nat → Nat} {B : Nat} {T : sT}
theorem c_twoStones (h : CF La g V T B) (hB : B < 400000) {a b n : Nat} (ha : a < 4) (hb : b < 4) (hn : n ≤ 20) (h5 : g.1 10 5 = nI (sLooked T V a b n)) (h30 : ∀ c, c < V 58 * V 59 → g.1 30 c = lbI (sLb T V a b n c)) :
    ∃ g', fX2_twoStones La (nI a) (nI b) (nI n) g = some (oI (sTwo T V a b n), g') ∧ FT g g' := by
  have hW := h.2.1
  have hL := h.2.2.2.1
  have c30 := hW.cells
  have hlk := sLooked_lt hL.lt hW (a := a) (b := b) (n := n) (by omega)
  have l_100' : ∀ (x4 x5 : Int32), x4 * 100 + x5 = x4 * nI 100 + x5 := fun _ _ => rfl
  unfold fX2_twoStones
  rw [l_0]
  -- what stays
  have stay : ∀ g1, FS g g1 → g1.1 10 5 = nI (sLooked T V a b n) ∧ (∀ c, c < V 58 * V 59 → g1.1 30 c = lbI (sLb T V a b n c)) ∧ CF La g1 V T B := fun g1 hf =>
    ⟨by rw [hf.1.1 10 (by omega)]; exact h5, fun c hc => by rw [hf.1.1 30 (by omega)]; exact h30 c hc, h.fs hf⟩
  have key : ∃ g', fX2_twoStones_3 La (fun (x4 : Int32) (x5 : Int32) g => some ((x4 * 100) + x5, g)) gz_FU (nI a) (nI b) (nI n) (nI 0) g = some (oI (sTwo T V a b n), g') ∧ FS g g' := by
    refine lp (fun f k g1 => fX2_twoStones_3 La (fun (x4 : Int32) (x5 : Int32) g => some ((x4 * 100) + x5, g)) f (nI a) (nI b) (nI n) (nI k) g1)
      (fun k g1 => FS g g1 ∧ ∀ c, c < k → ¬ (sTwo1 T V a b n c).isSome = true) (V 58 * V 59)
      (fun r => ∃ g', r = some (oI (sTwo T V a b n), g') ∧ FS g g') ?_ ?_ gz_FU 0 g (by omega) (by unfold gz_FU; omega)
      ⟨⟨Fr.rf, h.2.2.2.2⟩, fun c hc => absurd hc (Nat.not_lt_zero _)⟩
    · intro f k g1 hk h1
      have hx : ¬ V 58 * V 59 ≤ k := by omega
      have hv1 : g1.1 (6 + 16) = fI V := (stay g1 h1.1).2.2.1
      -- the inner loop: either it ends there, or goes on
      have inner : (∃ g', fX2_twoStones_21 La (fun (x1 : Int32) (x2 : Int32) (x3 : Int32) (x4 : Int32) g => gz_let (x4 + 1) (fun y144 => fX2_twoStones_3 La (fun (x4 : Int32) (x5 : Int32) g => some ((x4 * 100) + x5, g)) f x1 x2 x3 y144 g)) (fun (x4 : Int32) (x5 : Int32) g => some ((x4 * 100) + x5, g)) gz_FU (nI a) (nI b) (nI n) (nI k) (nI (k + 1)) g1 = fX2_twoStones_3 La (fun (x4 : Int32) (x5 : Int32) g => some ((x4 * 100) + x5, g)) f (nI a) (nI b) (nI n) (nI (k + 1)) g' ∧ FS g g' ∧ sTwo1 T V a b n k = none) ∨
          (∃ g' d, fX2_twoStones_21 La (fun (x1 : Int32) (x2 : Int32) (x3 : Int32) (x4 : Int32) g => gz_let (x4 + 1) (fun y144 => fX2_twoStones_3 La (fun (x4 : Int32) (x5 : Int32) g => some ((x4 * 100) + x5, g)) f x1 x2 x3 y144 g)) (fun (x4 : Int32) (x5 : Int32) g => some ((x4 * 100) + x5, g)) gz_FU (nI a) (nI b) (nI n) (nI k) (nI (k + 1)) g1 = some (nI (k * 100 + d), g') ∧ FS g g' ∧ sTwo1 T V a b n k = some d) := by
        refine lp (fun f' d g2 => fX2_twoStones_21 La (fun (x1 : Int32) (x2 : Int32) (x3 : Int32) (x4 : Int32) g => gz_let (x4 + 1) (fun y144 => fX2_twoStones_3 La (fun (x4 : Int32) (x5 : Int32) g => some ((x4 * 100) + x5, g)) f x1 x2 x3 y144 g)) (fun (x4 : Int32) (x5 : Int32) g => some ((x4 * 100) + x5, g)) f' (nI a) (nI b) (nI n) (nI k) (nI d) g2)
          (fun d g2 => k < d ∧ FS g g2 ∧ ∀ c, c < d → ¬ sTwoP T V a b n k c = true) (V 58 * V 59)
          (fun r => (∃ g', r = fX2_twoStones_3 La (fun (x4 : Int32) (x5 : Int32) g => some ((x4 * 100) + x5, g)) f (nI a) (nI b) (nI n) (nI (k + 1)) g' ∧ FS g g' ∧ sTwo1 T V a b n k = none) ∨ (∃ g' d, r = some (nI (k * 100 + d), g') ∧ FS g g' ∧ sTwo1 T V a b n k = some d)) ?_ ?_ gz_FU (k + 1) g1 (by omega) (by unfold gz_FU; omega)
          ⟨by omega, h1.1, fun c hc => by unfold sTwoP; rw [decide_eq_false (by omega)]; simp⟩
        · intro f' d g2 hd h2
          have hkd := h2.1
          obtain ⟨s1, s2, s3⟩ := stay g2 h2.2.1
          have hv2 : g2.1 (6 + 16) = fI V := s3.1
          have hx2 : ¬ V 58 * V 59 ≤ d := by omega
          have q1 := s2 k hk
          have q2 := s2 d hd
          have z1 := sLb_lt hL.lt hW (a := a) (b := b) (n := n) (c := k) (by omega) (by omega)
          have z2 := sLb_lt hL.lt hW (a := a) (b := b) (n := n) (c := d) (by omega) (by omega)
          have hst : fX2_twoStones_21 La (fun (x1 : Int32) (x2 : Int32) (x3 : Int32) (x4 : Int32) g => gz_let (x4 + 1) (fun y144 => fX2_twoStones_3 La (fun (x4 : Int32) (x5 : Int32) g => some ((x4 * 100) + x5, g)) f x1 x2 x3 y144 g)) (fun (x4 : Int32) (x5 : Int32) g => some ((x4 * 100) + x5, g)) (f' + 1) (nI a) (nI b) (nI n) (nI k) (nI d) g2 =
              if sMat T V a b n k d = true ∧ sFree V k ∧ sFree V d then (fX2_keepsApart La (nI a) (nI b) (nI n) (nI k) (nI d) g2).bind (fun q123 => if q123.1 = nI 0 then fX2_twoStones_21 La (fun (x1 : Int32) (x2 : Int32) (x3 : Int32) (x4 : Int32) g => gz_let (x4 + 1) (fun y144 => fX2_twoStones_3 La (fun (x4 : Int32) (x5 : Int32) g => some ((x4 * 100) + x5, g)) f x1 x2 x3 y144 g)) (fun (x4 : Int32) (x5 : Int32) g => some ((x4 * 100) + x5, g)) f' (nI a) (nI b) (nI n) (nI k) (nI (d + 1)) q123.2 else some (nI (k * 100 + d), q123.2))
              else fX2_twoStones_21 La (fun (x1 : Int32) (x2 : Int32) (x3 : Int32) (x4 : Int32) g => gz_let (x4 + 1) (fun y144 => fX2_twoStones_3 La (fun (x4 : Int32) (x5 : Int32) g => some ((x4 * 100) + x5, g)) f x1 x2 x3 y144 g)) (fun (x4 : Int32) (x5 : Int32) g => some ((x4 * 100) + x5, g)) f' (nI a) (nI b) (nI n) (nI k) (nI (d + 1)) g2 := by
            rw [fX2_twoStones_21, sMat_tb]
            simp (disch := omega) only [l_0, l_1, l_2, l_3, l_4, l_5, l_6, l_7, l_8, l_9, l_10, l_11, l_12, l_13, l_14, l_15, l_16, l_17, l_18, l_19, l_20, l_21, l_22, l_23, l_24, l_25, l_26, l_28, l_29, l_30, l_31, l_32, l_33, l_34, l_36, l_37, l_38, l_39, l_40, l_41, l_42, l_43, l_44, l_45, l_46, l_47, l_48, l_49, l_50, l_53, l_54, l_57, l_58, l_59, l_60, l_61, l_62, l_63, l_91, l_93, l_97, l_98, l_99, l_100, l_103, l_104, l_110, l_112, l_114, l_115, l_116, l_119, l_120, l_121, l_124, l_128, l_231, l_240, l_241, l_255, l_496, l_999, l_1000, l_8191, l_9999, l_10000, l_100000, l_200000, l_1000000, l_1000000000, gz_let_eq, Option.bind_some, ↓reduceIte, wi_wa, wa_at, wa_wa, upd_fI, fI_ap, wa_2, n_add, n_ok, n_cl, n_lt, n_le, n_eq, p_0, p_1, p_01, em_t, nb_0, hx2, c_cells hv2, s1, n_bit, nb_or, q1, q2, lb_bit z1, lb_bit z2, fX2_twoStones_89, fX2_twoStones_90, fX2_twoStones_138, c_isFree s3.1 hW, n_mul, show ¬ (1 = 0) by omega]
            by_cases b1 : ((sLooked T V a b n).testBit k || (sLooked T V a b n).testBit d) = true
            · by_cases b2 : lbT (sLb T V a b n k) d = true
              · by_cases b3 : lbT (sLb T V a b n d) k = true
                · by_cases b4 : sFree V k
                  · by_cases b5 : sFree V d
                    · rw [if_neg (not_not_intro b1), if_neg (not_not_intro b2), if_neg (not_not_intro b3), if_neg (not_not_intro b4), if_neg (not_not_intro b5), if_pos ⟨by rw [b1, b2, b3]; rfl, b4, b5⟩]
                    · rw [if_neg (not_not_intro b1), if_neg (not_not_intro b2), if_neg (not_not_intro b3), if_neg (not_not_intro b4), if_pos b5, if_neg (fun e => b5 e.2.2)]
                  · rw [if_neg (not_not_intro b1), if_neg (not_not_intro b2), if_neg (not_not_intro b3), if_pos b4, if_neg (fun e => b4 e.2.1)]
                · rw [if_neg (not_not_intro b1), if_neg (not_not_intro b2), if_pos b3, if_neg (fun e => b3 (by have := e.1; simp only [Bool.and_eq_true] at this; exact this.2))]
              · rw [if_neg (not_not_intro b1), if_pos b2, if_neg (fun e => b2 (by have := e.1; simp only [Bool.and_eq_true] at this; exact this.1.2))]
            · rw [if_pos b1, if_neg (fun e => b1 (by have := e.1; simp only [Bool.and_eq_true] at this; exact this.1.1))]
          have hP : sTwoP T V a b n k d = (decide (k < d) && sMat T V a b n k d && decide (sFree V k) && decide (sFree V d) && decide (sMeet T (sRock (sRock V (some k)) (some d)) a b n = none)) := rfl
          by_cases hc : sMat T V a b n k d = true ∧ sFree V k ∧ sFree V d
          · obtain ⟨g3, k1, k2, -⟩ := c_keepsApart (La := La) s3 hB ha hb hn (o1 := some k) (o2 := some d) (fun c e => by cases e; omega) (fun c e => by cases e; omega)
            have e1 : oI (some k) = nI k := rfl
            have e2 : oI (some d) = nI d := rfl
            rw [e1, e2] at k1
            rw [if_pos hc, k1, Option.bind_some] at hst
            simp only [p_0] at hst
            by_cases h8 : sMeet T (sRock (sRock V (some k)) (some d)) a b n = none
            · rw [if_neg (not_not_intro h8)] at hst
              refine Or.inl (Or.inr ⟨g3, d, hst, h2.2.1.tr k2, ?_⟩)
              refine ff_some (p := fun d => sTwoP T V a b n k d) (ff_f h2.2.2 (fun j => Iff.rfl)) ?_ hd
              show sTwoP T V a b n k d = true
              rw [hP, hc.1, decide_eq_true hc.2.1, decide_eq_true hc.2.2, decide_eq_true h8, decide_eq_true hkd]; rfl
            · rw [if_pos h8] at hst
              refine Or.inr ⟨g3, hst, by omega, h2.2.1.tr k2, fun c hcd => ?_⟩
              by_cases hcd2 : c = d
              · rw [hcd2, hP, decide_eq_false h8]; simp
              · exact h2.2.2 c (by omega)
          · rw [if_neg hc] at hst
            refine Or.inr ⟨g2, hst, by omega, h2.2.1, fun c hcd => ?_⟩
            by_cases hcd2 : c = d
            · rw [hcd2, hP]
              intro e
              simp only [Bool.and_eq_true, decide_eq_true_eq] at e
              exact hc ⟨e.1.1.1.2, e.1.1.2, e.1.2⟩
            · exact h2.2.2 c (by omega)
        · intro f' g2 h2
          obtain ⟨s1, s2, s3⟩ := stay g2 h2.2.1
          have hv2 : g2.1 (6 + 16) = fI V := s3.1
          refine Or.inl ⟨g2, ?_, h2.2.1, ff_none (ff_f h2.2.2 (fun j => Iff.rfl))⟩
          show fX2_twoStones_21 La _ _ (f' + 1) (nI a) (nI b) (nI n) (nI k) (nI (V 58 * V 59)) g2 = _
          rw [fX2_twoStones_21]
          simp (disch := omega) only [l_0, l_1, l_2, l_3, l_4, l_5, l_6, l_7, l_8, l_9, l_10, l_11, l_12, l_13, l_14, l_15, l_16, l_17, l_18, l_19, l_20, l_21, l_22, l_23, l_24, l_25, l_26, l_28, l_29, l_30, l_31, l_32, l_33, l_34, l_36, l_37, l_38, l_39, l_40, l_41, l_42, l_43, l_44, l_45, l_46, l_47, l_48, l_49, l_50, l_53, l_54, l_57, l_58, l_59, l_60, l_61, l_62, l_63, l_91, l_93, l_97, l_98, l_99, l_100, l_103, l_104, l_110, l_112, l_114, l_115, l_116, l_119, l_120, l_121, l_124, l_128, l_231, l_240, l_241, l_255, l_496, l_999, l_1000, l_8191, l_9999, l_10000, l_100000, l_200000, l_1000000, l_1000000000, gz_let_eq, Option.bind_some, ↓reduceIte, wi_wa, wa_at, wa_wa, upd_fI, fI_ap, wa_2, n_add, n_ok, n_cl, n_lt, n_le, n_eq, p_0, p_1, p_01, em_t, nb_0, c_cells hv2, Nat.le_refl]
      have hst : fX2_twoStones_3 La (fun (x4 : Int32) (x5 : Int32) g => some ((x4 * 100) + x5, g)) (f + 1) (nI a) (nI b) (nI n) (nI k) g1 = fX2_twoStones_21 La (fun (x1 : Int32) (x2 : Int32) (x3 : Int32) (x4 : Int32) g => gz_let (x4 + 1) (fun y144 => fX2_twoStones_3 La (fun (x4 : Int32) (x5 : Int32) g => some ((x4 * 100) + x5, g)) f x1 x2 x3 y144 g)) (fun (x4 : Int32) (x5 : Int32) g => some ((x4 * 100) + x5, g)) gz_FU (nI a) (nI b) (nI n) (nI k) (nI (k + 1)) g1 := by
        rw [fX2_twoStones_3]
        simp (disch := omega) only [l_0, l_1, l_2, l_3, l_4, l_5, l_6, l_7, l_8, l_9, l_10, l_11, l_12, l_13, l_14, l_15, l_16, l_17, l_18, l_19, l_20, l_21, l_22, l_23, l_24, l_25, l_26, l_28, l_29, l_30, l_31, l_32, l_33, l_34, l_36, l_37, l_38, l_39, l_40, l_41, l_42, l_43, l_44, l_45, l_46, l_47, l_48, l_49, l_50, l_53, l_54, l_57, l_58, l_59, l_60, l_61, l_62, l_63, l_91, l_93, l_97, l_98, l_99, l_100, l_103, l_104, l_110, l_112, l_114, l_115, l_116, l_119, l_120, l_121, l_124, l_128, l_231, l_240, l_241, l_255, l_496, l_999, l_1000, l_8191, l_9999, l_10000, l_100000, l_200000, l_1000000, l_1000000000, gz_let_eq, Option.bind_some, ↓reduceIte, wi_wa, wa_at, wa_wa, upd_fI, fI_ap, wa_2, n_add, n_ok, n_cl, n_lt, n_le, n_eq, p_0, p_1, p_01, em_t, nb_0, c_cells hv1, hx]
      rcases inner with ⟨g', i1, i2, i3⟩ | ⟨g', d, i1, i2, i3⟩
      · refine Or.inr ⟨g', hst.trans i1, i2, fun c hc => ?_⟩
        by_cases hck : c = k
        · rw [hck, i3]; simp
        · exact h1.2 c (by omega)
      · refine Or.inl ⟨g', ?_, i2⟩
        have he : ff (fun c => (sTwo1 T V a b n c).isSome) (V 58 * V 59) = some k := ff_some (ff_f h1.2 (fun j => Iff.rfl)) (by show (sTwo1 T V a b n k).isSome = true; rw [i3]; rfl) hk
        have he2 : sTwo T V a b n = some (k * 100 + d) := by unfold sTwo; rw [he]; show (sTwo1 T V a b n k).map _ = _; rw [i3]; rfl
        rw [he2]
        exact hst.trans i1
    · intro f g1 h1
      have hv1 : g1.1 (6 + 16) = fI V := (stay g1 h1.1).2.2.1
      refine ⟨g1, ?_, h1.1⟩
      have he : ff (fun c => (sTwo1 T V a b n c).isSome) (V 58 * V 59) = none := ff_none (ff_f h1.2 (fun j => Iff.rfl))
      have he2 : sTwo T V a b n = none := by unfold sTwo; rw [he]
      show fX2_twoStones_3 La _ (f + 1) (nI a) (nI b) (nI n) (nI (V 58 * V 59)) g1 = _
      rw [fX2_twoStones_3, he2]
      simp (disch := omega) only [l_0, l_1, l_2, l_3, l_4, l_5, l_6, l_7, l_8, l_9, l_10, l_11, l_12, l_13, l_14, l_15, l_16, l_17, l_18, l_19, l_20, l_21, l_22, l_23, l_24, l_25, l_26, l_28, l_29, l_30, l_31, l_32, l_33, l_34, l_36, l_37, l_38, l_39, l_40, l_41, l_42, l_43, l_44, l_45, l_46, l_47, l_48, l_49, l_50, l_53, l_54, l_57, l_58, l_59, l_60, l_61, l_62, l_63, l_91, l_93, l_97, l_98, l_99, l_100, l_103, l_104, l_110, l_112, l_114, l_115, l_116, l_119, l_120, l_121, l_124, l_128, l_231, l_240, l_241, l_255, l_496, l_999, l_1000, l_8191, l_9999, l_10000, l_100000, l_200000, l_1000000, l_1000000000, gz_let_eq, Option.bind_some, ↓reduceIte, wi_wa, wa_at, wa_wa, upd_fI, fI_ap, wa_2, n_add, n_ok, n_cl, n_lt, n_le, n_eq, p_0, p_1, p_01, em_t, nb_0, c_cells hv1, Nat.le_refl]
      rfl
  obtain ⟨g', k1, k2⟩ := key
  exact ⟨g', k1, k2.ft⟩
end C2
