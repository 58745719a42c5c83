/-! whole shores, class ShoreReader -/
section C7
variable {La : gz_L} {g : gz_S} {b : Nat → Nat} {len a : Nat} {s : SH}
/-- a table is filled -/
theorem c_fill {w : Nat} (hl : gz_ln w ≤ 2000) : ∃ g', fJ7_fill_53178 La w 0 g = some g' ∧ Fr (fun j => j = w) g g' ∧ ∀ c, c < gz_ln w → g'.1 w c = nI 0 := by
  unfold fJ7_fill_53178
  rw [gz_let_eq]
  refine lp (fun f c g1 => fJ7_fill_53178_5 La w f (nI 0) (nI c) (nI (gz_ln w)) g1) (fun c g1 => Fr (fun j => j = w) g g1 ∧ ∀ c', c' < c → g1.1 w c' = nI 0) (gz_ln w)
    (fun r => ∃ g', r = some g' ∧ Fr (fun j => j = w) g g' ∧ ∀ c, c < gz_ln w → g'.1 w c = nI 0) ?_ ?_ gz_FU 0 g (by omega) (by unfold gz_FU; omega) ⟨Fr.rf, fun c hc => absurd hc (Nat.not_lt_zero _)⟩
  · intro f c g1 hc h1
    have hn : ¬ gz_ln w ≤ c := by omega
    refine Or.inr ⟨gz_wa g1 w (upd (g1.1 w) c (nI 0)), ?_, h1.1.wa rfl, fun c' hc' => ?_⟩
    · show fJ7_fill_53178_5 La w (f + 1) (nI 0) (nI c) (nI (gz_ln w)) g1 = _
      rw [fJ7_fill_53178_5]
      simp (disch := omega) only [l_0, l_1, l_2, l_3, l_4, l_5, l_6, l_7, l_8, l_9, l_10, l_11, l_12, l_13, l_14, l_15, l_16, l_17, l_18, l_19, l_20, l_21, l_22, l_23, l_24, l_25, l_26, l_28, l_29, l_30, l_31, l_32, l_33, l_34, l_36, l_37, l_38, l_39, l_40, l_41, l_42, l_43, l_44, l_45, l_46, l_47, l_48, l_49, l_50, l_53, l_54, l_57, l_58, l_59, l_60, l_61, l_62, l_63, l_91, l_93, l_97, l_98, l_99, l_100, l_103, l_104, l_110, l_112, l_114, l_115, l_116, l_119, l_120, l_121, l_124, l_128, l_231, l_240, l_241, l_255, l_496, l_999, l_1000, l_8191, l_9999, l_10000, l_100000, l_200000, l_1000000, l_1000000000, gz_let_eq, Option.bind_some, ↓reduceIte, wi_wa, wa_at, wa_wa, upd_fI, fI_ap, wa_2, n_add, n_ok, n_cl, n_lt, n_le, n_eq, p_0, p_1, p_01, em_t, nb_0, t_10, n_modd, n_modm, Bool.false_eq_true, not_false_eq_true, not_true, hn]
    · rw [wa_at]; unfold upd
      by_cases hcc : c' = c
      · rw [if_pos hcc]
      · rw [if_neg hcc]; exact h1.2 c' (by omega)
  · intro f g1 h1
    refine ⟨g1, ?_, h1⟩
    show fJ7_fill_53178_5 La w (f + 1) (nI 0) (nI (gz_ln w)) (nI (gz_ln w)) g1 = _
    rw [fJ7_fill_53178_5]
    simp (disch := omega) only [l_0, l_1, l_2, l_3, l_4, l_5, l_6, l_7, l_8, l_9, l_10, l_11, l_12, l_13, l_14, l_15, l_16, l_17, l_18, l_19, l_20, l_21, l_22, l_23, l_24, l_25, l_26, l_28, l_29, l_30, l_31, l_32, l_33, l_34, l_36, l_37, l_38, l_39, l_40, l_41, l_42, l_43, l_44, l_45, l_46, l_47, l_48, l_49, l_50, l_53, l_54, l_57, l_58, l_59, l_60, l_61, l_62, l_63, l_91, l_93, l_97, l_98, l_99, l_100, l_103, l_104, l_110, l_112, l_114, l_115, l_116, l_119, l_120, l_121, l_124, l_128, l_231, l_240, l_241, l_255, l_496, l_999, l_1000, l_8191, l_9999, l_10000, l_100000, l_200000, l_1000000, l_1000000000, gz_let_eq, Option.bind_some, ↓reduceIte, wi_wa, wa_at, wa_wa, upd_fI, fI_ap, wa_2, n_add, n_ok, n_cl, n_lt, n_le, n_eq, p_0, p_1, p_01, em_t, nb_0, t_10, n_modd, n_modm, Bool.false_eq_true, not_false_eq_true, not_true, Nat.le_refl]
theorem c_clear (h : CT g b len a) : ∃ g', fX7_clear La g = some g' ∧ Fr F7 g g' ∧ CT g' b len 0 ∧ CS7 g' sh0 := by
  have h4 := h.2.2.2.1
  have b1 : fX9_rewind La g = some (gz_wa g 1 (upd (upd (g.1 1) 2 (nI 0)) 3 (-nI 1))) := by
    unfold fX9_rewind
    simp only [l_0, l_1, l_2, l_3, l_4, l_5, l_6, l_7, l_8, l_9, l_10, l_11, l_12, l_13, l_14, l_15, l_16, l_17, l_18, l_19, l_20, l_21, l_22, l_23, l_24, l_25, l_26, l_28, l_29, l_30, l_31, l_32, l_33, l_34, l_36, l_37, l_38, l_39, l_40, l_41, l_42, l_43, l_44, l_45, l_46, l_47, l_48, l_49, l_50, l_53, l_54, l_57, l_58, l_59, l_60, l_61, l_62, l_63, l_91, l_93, l_97, l_98, l_99, l_100, l_103, l_104, l_110, l_112, l_114, l_115, l_116, l_119, l_120, l_121, l_124, l_128, l_231, l_240, l_241, l_255, l_496, l_999, l_1000, l_8191, l_9999, l_10000, l_100000, l_200000, l_1000000, l_1000000000, gz_let_eq, Option.bind_some, ↓reduceIte, wi_wa, wa_at, wa_wa, upd_fI, fI_ap, wa_2, n_add, n_ok, n_cl, n_lt, n_le, n_eq, p_0, p_1, p_01, em_t, nb_0, t_10, n_modd, n_modm, Bool.false_eq_true, not_false_eq_true, not_true]
  have b3 : CT (gz_wa g 1 (upd (upd (g.1 1) 2 (nI 0)) 3 (-nI 1))) b len 0 :=
    ⟨by rw [wa_at]; exact h.1, by rw [wa_at]; rfl, Nat.zero_le _, h4, by rw [wa_ne (by omega)]; exact h.2.2.2.2⟩
  have b2 : Fr F7 g (gz_wa g 1 (upd (upd (g.1 1) 2 (nI 0)) 3 (-nI 1))) := Fr.rf.wa (Or.inl rfl)
  unfold fX7_clear
  rw [b1, Option.bind_some]
  generalize gz_wa g 1 (upd (upd (g.1 1) 2 (nI 0)) 3 (-nI 1)) = g0 at *
  have e0 : gz_wi (gz_wi (gz_wi g0 2 5 0) 2 6 0) 2 7 0 = gz_wa g0 2 (upd (upd (upd (g0.1 2) 5 (nI 0)) 6 (nI 0)) 7 (nI 0)) := by
    simp only [l_0, l_1, l_2, l_3, l_4, l_5, l_6, l_7, l_8, l_9, l_10, l_11, l_12, l_13, l_14, l_15, l_16, l_17, l_18, l_19, l_20, l_21, l_22, l_23, l_24, l_25, l_26, l_28, l_29, l_30, l_31, l_32, l_33, l_34, l_36, l_37, l_38, l_39, l_40, l_41, l_42, l_43, l_44, l_45, l_46, l_47, l_48, l_49, l_50, l_53, l_54, l_57, l_58, l_59, l_60, l_61, l_62, l_63, l_91, l_93, l_97, l_98, l_99, l_100, l_103, l_104, l_110, l_112, l_114, l_115, l_116, l_119, l_120, l_121, l_124, l_128, l_231, l_240, l_241, l_255, l_496, l_999, l_1000, l_8191, l_9999, l_10000, l_100000, l_200000, l_1000000, l_1000000000, gz_let_eq, Option.bind_some, ↓reduceIte, wi_wa, wa_at, wa_wa, upd_fI, fI_ap, wa_2, n_add, n_ok, n_cl, n_lt, n_le, n_eq, p_0, p_1, p_01, em_t, nb_0, t_10, n_modd, n_modm, Bool.false_eq_true, not_false_eq_true, not_true]
  simp only [gz_let_eq]
  rw [e0]
  have b4 : Fr F7 g (gz_wa g0 2 (upd (upd (upd (g0.1 2) 5 (nI 0)) 6 (nI 0)) 7 (nI 0))) := b2.wa (Or.inr (Or.inl rfl))
  have T4 : CT (gz_wa g0 2 (upd (upd (upd (g0.1 2) 5 (nI 0)) 6 (nI 0)) 7 (nI 0))) b len 0 := b3.fr (S := fun j => j = 2) (Fr.rf.wa rfl) (by omega) (by omega)
  have A4 : (gz_wa g0 2 (upd (upd (upd (g0.1 2) 5 (nI 0)) 6 (nI 0)) 7 (nI 0))).1 2 = upd (upd (upd (g0.1 2) 5 (nI 0)) 6 (nI 0)) 7 (nI 0) := by rw [wa_at]
  generalize gz_wa g0 2 (upd (upd (upd (g0.1 2) 5 (nI 0)) 6 (nI 0)) 7 (nI 0)) = g1 at *
  obtain ⟨g2, r2, F2, V2⟩ := c_fill (La := La) (g := g1) (w := 17) (by decide)
  obtain ⟨g3, r3, F3, V3⟩ := c_fill (La := La) (g := g2) (w := 18) (by decide)
  rw [r2, Option.bind_some, r3, Option.bind_some]
  have V2 : ∀ c, c < 30 → g2.1 17 c = nI 0 := V2
  have V3 : ∀ c, c < 5 → g3.1 18 c = nI 0 := V3
  refine lp (fun f i g4 => fX7_clear_40 La f (nI i) g4) (fun i g4 => Fr (fun j => j = 15) g3 g4 ∧ ∀ i', i' < i → g4.1 15 i' = nI (tS (i' * 4 + 3))) 4
    (fun r => ∃ g', r = some g' ∧ Fr F7 g g' ∧ CT g' b len 0 ∧ CS7 g' sh0) ?_ ?_ gz_FU 0 g3 (by omega) (by unfold gz_FU; omega) ⟨Fr.rf, fun i' hi' => absurd hi' (Nat.not_lt_zero _)⟩
  · intro f i g4 hi h1
    have t1 : gz_t0 (i * 4 + 3) = nI (tS (i * 4 + 3)) := (tt_s (i * 4 + 3) (by omega)).1
    refine Or.inr ⟨gz_wa g4 15 (upd (g4.1 15) i (nI (tS (i * 4 + 3)))), ?_, h1.1.wa rfl, fun i' hi' => ?_⟩
    · show fX7_clear_40 La (f + 1) (nI i) g4 = _
      rw [fX7_clear_40]
      simp (disch := omega) only [l_0, l_1, l_2, l_3, l_4, l_5, l_6, l_7, l_8, l_9, l_10, l_11, l_12, l_13, l_14, l_15, l_16, l_17, l_18, l_19, l_20, l_21, l_22, l_23, l_24, l_25, l_26, l_28, l_29, l_30, l_31, l_32, l_33, l_34, l_36, l_37, l_38, l_39, l_40, l_41, l_42, l_43, l_44, l_45, l_46, l_47, l_48, l_49, l_50, l_53, l_54, l_57, l_58, l_59, l_60, l_61, l_62, l_63, l_91, l_93, l_97, l_98, l_99, l_100, l_103, l_104, l_110, l_112, l_114, l_115, l_116, l_119, l_120, l_121, l_124, l_128, l_231, l_240, l_241, l_255, l_496, l_999, l_1000, l_8191, l_9999, l_10000, l_100000, l_200000, l_1000000, l_1000000000, gz_let_eq, n_mul, n_add, n_ok, n_cl, n_le, t1, wi_wa, ↓reduceIte, show ¬ 4 ≤ i by omega]
    · rw [wa_at]; unfold upd
      by_cases hh : i' = i
      · rw [if_pos hh, hh]
      · rw [if_neg hh]; exact h1.2 i' (by omega)
  · intro f g4 h1
    have e4 : fX7_clear_40 La (f + 1) (nI 4) g4 = some g4 := by
      rw [fX7_clear_40]
      exact if_pos (by decide)
    refine ⟨g4, e4, ((b4.tr (F2.mo (fun j hj => by omega))).tr (F3.mo (fun j hj => by omega))).tr (h1.1.mo (fun j hj => by omega)), ?_, ?_⟩
    · exact ((T4.fr F2 (by omega) (by omega)).fr F3 (by omega) (by omega)).fr h1.1 (by omega) (by omega)
    · have q2 : g4.1 2 = upd (upd (upd (g0.1 2) 5 (nI 0)) 6 (nI 0)) 7 (nI 0) := by rw [h1.1.1 2 (by omega), F3.1 2 (by omega), F2.1 2 (by omega), A4]
      have q17 : g4.1 17 = g2.1 17 := by rw [h1.1.1 17 (by omega), F3.1 17 (by omega)]
      have q18 : g4.1 18 = g3.1 18 := by rw [h1.1.1 18 (by omega)]
      unfold CS7
      rw [q2, q17, q18]
      have td : ∀ i, i < 4 → tS (i * 4 + 3) ≤ 99 := by decide
      exact ⟨rfl, ⟨rfl, Nat.zero_le _⟩, ⟨rfl, Nat.zero_le _⟩, fun i hi => ⟨h1.2 i hi, td i hi⟩, fun i hi => absurd hi (Nat.not_lt_zero _), fun i _ hi => V3 i hi, fun c hc => ⟨V2 c hc, Nat.zero_le _⟩, fun j hj => absurd hj (Nat.not_lt_zero _)⟩
def RdX (r : Option (Int32 × gz_S)) (g : gz_S) (b : Nat → Nat) (len : Nat) (s : Nat × Option SH) : Prop :=
  ∃ g', Fr F7 g g' ∧ (∃ a, CT g' b len a) ∧ (s.2 = none → r = some (nI 0, g') ∧ g'.1 1 3 = nI s.1) ∧ ∀ S, s.2 = some S → r = some (nI 1, g') ∧ CS7 g' S
theorem c_readShore_6 {K82 K32 : gz_S → Option (Int32 × gz_S)} (h82 : ∀ g p, CT g b len p → K82 g = some (nI 0, gz_wa g 1 (upd (g.1 1) 3 (nI p))))
    (h32 : ∀ g p s, CT g b len p → CS7 g s → K32 g = some (if sAgr s then (nI 1, g) else (nI 0, gz_wa g 1 (upd (g.1 1) 3 (nI p))))) : ∀ n i a g s f, n + i = 11 → CT g b len a → CS7 g s → n < f →
    RdX (fX7_readShore_6 La K82 K32 f (nI i) g) g b len (pSh b len n s a) := by
  intro n
  induction n with
  | zero =>
    intro i a g s f hn h hS hf
    obtain ⟨f', rfl⟩ : ∃ f', f = f' + 1 := ⟨f - 1, by omega⟩
    refine ⟨gz_wa g 1 (upd (g.1 1) 3 (nI a)), Fr.rf.wa (Or.inl rfl), ⟨a, h.wf (by omega)⟩, fun _ => ⟨?_, by rw [wa_at]; rfl⟩, fun S hh => (by cases hh)⟩
    rw [fX7_readShore_6, h82 g a h]
    have hi : i = 11 := by omega
    subst hi
    exact if_pos (by decide)
  | succ n ih =>
    intro i a g s f hn h hS hf
    obtain ⟨f', rfl⟩ : ∃ f', f = f' + 1 := ⟨f - 1, by omega⟩
    have e : pSh b len (n + 1) s a = match (pCl b len s a).2 with
      | none => ((pCl b len s a).1, none)
      | some S => if sg b len (nx b len (pCl b len s a).1) = none then (nx b len (pCl b len s a).1, if sAgr S then some S else none) else
        if sg b len (nx b len (pCl b len s a).1) = some 59 then pSh b len n S (nx b len (pCl b len s a).1 + 1) else (nx b len (pCl b len s a).1, none) := rfl
    have x10 : ¬ (10 : Int32) < nI i := by simp (disch := omega) only [l_0, l_1, l_2, l_3, l_4, l_5, l_6, l_7, l_8, l_9, l_10, l_11, l_12, l_13, l_14, l_15, l_16, l_17, l_18, l_19, l_20, l_21, l_22, l_23, l_24, l_25, l_26, l_28, l_29, l_30, l_31, l_32, l_33, l_34, l_36, l_37, l_38, l_39, l_40, l_41, l_42, l_43, l_44, l_45, l_46, l_47, l_48, l_49, l_50, l_53, l_54, l_57, l_58, l_59, l_60, l_61, l_62, l_63, l_91, l_93, l_97, l_98, l_99, l_100, l_103, l_104, l_110, l_112, l_114, l_115, l_116, l_119, l_120, l_121, l_124, l_128, l_231, l_240, l_241, l_255, l_496, l_999, l_1000, l_8191, l_9999, l_10000, l_100000, l_200000, l_1000000, l_1000000000, n_add, n_ok, n_cl, n_lt, n_le, n_eq, p_0, p_1, p_01]; omega
    obtain ⟨g1, G1, ⟨a1, T1, tp⟩, G3, G4⟩ := c_clause7 (La := La) h hS
    rw [e, fX7_readShore_6, if_neg x10]
    cases hc : (pCl b len s a).2 with
    | none =>
      obtain ⟨G5, G6⟩ := G3 hc
      refine ⟨g1, G1, ⟨a1, T1⟩, fun _ => ⟨?_, G6⟩, fun S hh => (by cases hh)⟩
      rw [G5, Option.bind_some]
      exact if_pos rfl
    | some S =>
      obtain ⟨G5, G6⟩ := G4 S hc
      have tp := tp (by rw [hc]; exact fun hh => (by cases hh))
      have hn3 := c_next (La := La) T1
      have hx := nx_le (b := b) T1.2.2.1
      have hnn : nx b len (nx b len a1) = nx b len a1 := nx_nx
      dsimp only
      rw [← tp, G5, Option.bind_some]
      have n01 : ¬ nI 1 = 0 := by decide
      rw [if_neg n01, hn3, Option.bind_some]
      generalize nx b len a1 = q at *
      have T2 : CT (st g1 q) b len q := T1.st hx.2
      have S2 : CS7 (st g1 q) S := G6.fr (S := fun j => j = 1) (st_fr Fr.rf rfl) (by omega) (by omega) (by omega) (by omega) (by omega)
      have F2 : Fr F7 g (st g1 q) := st_fr G1 (Or.inl rfl)
      have hsgc : ∀ c, sg b len q = some c → c < 2147483648 := fun c hc => by have := h.sg hc; omega
      have em1 : (oI (sg b len q) = -nI 1) = (sg b len q = none) := oI_m hsgc
      by_cases cn : sg b len q = none
      · have cn' : oI (sg b len q) = -1 := by rw [show (-1 : Int32) = -nI 1 from rfl, em1]; exact cn
        rw [if_pos cn, if_pos cn', h32 _ q S T2 S2]
        by_cases ca : sAgr S
        · rw [if_pos ca, if_pos ca]
          exact ⟨st g1 q, F2, ⟨q, T2⟩, fun hh => (by cases hh), fun S' hh => by cases hh; exact ⟨rfl, S2⟩⟩
        · rw [if_neg ca, if_neg ca]
          exact ⟨gz_wa (st g1 q) 1 (upd ((st g1 q).1 1) 3 (nI q)), F2.wa (Or.inl rfl), ⟨q, T2.wf (by omega)⟩, fun _ => ⟨rfl, by rw [wa_at]; rfl⟩, fun S' hh => (by cases hh)⟩
      · have cn' : ¬ oI (sg b len q) = -1 := by rw [show (-1 : Int32) = -nI 1 from rfl, em1]; exact cn
        rw [if_neg cn, if_neg cn']
        have hx := c_expect (La := La) T2 (c := 59) (by omega)
        have hx : fX9_expect La 59 (st g1 q) = _ := hx
        rw [hnn] at hx
        rw [hx, Option.bind_some]
        by_cases c59 : sg b len q = some 59
        · rw [if_pos c59, if_pos c59, if_neg n01]
          have hlq := (sg_lt c59).1
          obtain ⟨g', K1, K2, K3, K4⟩ := ih (i + 1) (q + 1) (st (st g1 q) (q + 1)) S f' (by omega) (T2.st (by omega)) (S2.fr (S := fun j => j = 1) (st_fr Fr.rf rfl) (by omega) (by omega) (by omega) (by omega) (by omega)) (by omega)
          have ei : nI i + 1 = nI (i + 1) := n_add i 1
          rw [gz_let_eq, ei]
          exact ⟨g', (st_fr F2 (Or.inl rfl)).tr K1, K2, K3, K4⟩
        · rw [if_neg c59, if_neg c59, if_pos (show nI 0 = 0 from rfl)]
          exact ⟨gz_wa (st (st g1 q) q) 1 (upd ((st (st g1 q) q).1 1) 3 (nI q)), (st_fr F2 (Or.inl rfl)).wa (Or.inl rfl), ⟨q, (T2.st (by omega)).wf (by omega)⟩, fun _ => ⟨rfl, by rw [wa_at]; rfl⟩, fun S' hh => (by cases hh)⟩
theorem c_readShore (h : CT g b len a) : RdX (fX7_readShore La g) g b len (pSh b len 11 sh0 0) := by
  obtain ⟨g1, r1, F1, T1, S1⟩ := c_clear (La := La) h
  unfold fX7_readShore
  rw [r1, Option.bind_some]
  have k := c_readShore_6 (La := La) (b := b) (len := len) (K82 := fun g => (fX9_refuse La (g.1 1 2) g).bind (fun q93 => if q93.1 = 0 ∨ q93.1 = 1 then some (q93.1, q93.2) else none))
    (K32 := fun g => (fX7_agrees La g).bind (fun q33 => if q33.1 = 0 then (fX9_refuse La (q33.2.1 1 2) q33.2).bind (fun q50 => if q50.1 = 0 then some (0, q50.2) else some (1, q50.2)) else some (1, q33.2)))
    (fun g p hp => c_rf7 hp) (fun g p s hp hs => by
      rw [c_agrees7 hs, Option.bind_some]
      by_cases ca : sAgr s
      · rw [if_pos ca, if_neg (show ¬ pI (sAgr s) = 0 by rw [show (0 : Int32) = nI 0 from rfl, p_0]; exact not_not_intro ca)]; rfl
      · rw [if_neg ca, if_pos (show pI (sAgr s) = 0 by rw [show (0 : Int32) = nI 0 from rfl, p_0]; exact ca), hp.2.1, c_refuse, Option.bind_some]; rfl) 11 0 0 g1 sh0 gz_FU (by omega) T1 S1 (by unfold gz_FU; omega)
  obtain ⟨g', K1, K2, K3, K4⟩ := k
  exact ⟨g', F1.tr K1, K2, K3, K4⟩
end C7
