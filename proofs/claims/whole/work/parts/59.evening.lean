/-! evenings as texts, and class EveningReader -/
abbrev eS : Type := Nat × Option Nat × Option Nat
def pDg (b : Nat → Nat) (len p : Nat) : Nat × Option Nat := if dg b len (nx b len p) then (nx b len p + 1, some (b (nx b len p) - 48)) else (nx b len p, none)
def pDs (b : Nat → Nat) (len k p : Nat) : Nat × Option eS :=
  match (pDg b len p).2 with
  | none => ((pDg b len p).1, none)
  | some d => if k = 2 then ((pDg b len p).1, some (2, some d, none)) else
    match (pDg b len (pDg b len p).1).2 with
    | none => ((pDg b len (pDg b len p).1).1, none)
    | some e => ((pDg b len (pDg b len p).1).1, some (if k = 3 then (3, some (d * 10 + e), none) else (k, some d, some e)))
def pStp (b : Nat → Nat) (len p : Nat) : Nat × Option eS :=
  if sg b len (nx b len p) = some 103 then pDs b len 1 (nx b len p + 1)
  else if sg b len (nx b len p) = some 104 then (nx b len p + 1, some (0, none, none))
  else if sg b len (nx b len p) = some 115 then pDs b len 3 (nx b len p + 1)
  else if sg b len (nx b len p) = some 116 then pDs b len 2 (nx b len p + 1)
  else (nx b len p, none)
def pEv (b : Nat → Nat) (len : Nat) : Nat → Nat → Nat × Option (List eS)
  | 0, p => (p, none)
  | n + 1, p => match (pStp b len p).2 with
    | none => ((pStp b len p).1, none)
    | some s => if sg b len (nx b len (pStp b len p).1) = none then (nx b len (pStp b len p).1, some [s]) else if n = 0 then (nx b len (pStp b len p).1, none) else
      if sg b len (nx b len (pStp b len p).1) = some 59 then ((pEv b len n (nx b len (pStp b len p).1 + 1)).1, (pEv b len n (nx b len (pStp b len p).1 + 1)).2.map (s :: ·)) else (nx b len (pStp b len p).1, none)
abbrev FE (j : Nat) : Prop := j = 1 ∨ j = 4 ∨ j = 20
section C1
variable {La : gz_L} {g : gz_S} {b : Nat → Nat} {len a : Nat}
theorem c_readDigit (h : CT g b len a) : ∃ g', fX9_readDigit La g = some (pI (dg b len (nx b len a)), g') ∧ Fr (fun j => j = 1) g g' ∧ CT g' b len (pDg b len a).1 ∧ (dg b len (nx b len a) → g'.1 1 4 = nI (b (nx b len a) - 48)) ∧ (¬ dg b len (nx b len a) → g'.1 1 3 = nI (nx b len a)) := by
  have h4 := h.2.2.2.1
  have hx := nx_le (b := b) h.2.2.1
  have hn := c_next (La := La) h
  unfold pDg
  generalize hp : nx b len a = p at *
  have hst : CT (st g p) b len p := h.st hx.2
  have e0 : fX9_nextDigit La g = some (if dg b len p then nI (b p - 48) else -nI 1, st g p) := by
    unfold fX9_nextDigit
    rw [hn, Option.bind_some, c_digitHere hst, Option.bind_some]
  unfold fX9_readDigit
  rw [e0, Option.bind_some]
  by_cases hd : dg b len p
  · have hb := (hst.2.2.2.2 p hd.1).2
    refine ⟨st (gz_wa (st g p) 1 (upd ((st g p).1 1) 4 (nI (b p - 48)))) (p + 1), ?_, st_fr ((st_fr (S := fun j => j = 1) (g := g) (g' := g) (p := p) Fr.rf rfl).wa rfl) rfl, ?_, fun _ => ?_, fun hn => absurd hd hn⟩
    · have e2 : (gz_wa (st g p) 1 (upd ((st g p).1 1) 4 (nI (b p - 48)))).1 1 2 = nI p := by rw [wa_at]; exact hst.2.1
      have e4 : (gz_wa (st g p) 1 (upd ((st g p).1 1) 4 (nI (b p - 48)))).1 1 4 = nI (b p - 48) := by rw [wa_at]; rfl
      rw [if_pos hd, wi_wa]
      simp (disch := omega) only [l_0, l_1, l_2, l_3, l_4, l_5, l_6, l_7, l_8, l_9, l_10, l_11, l_12, l_13, l_14, l_15, l_16, l_17, l_18, l_19, l_20, l_21, l_22, l_23, l_24, l_25, l_26, l_28, l_29, l_30, l_31, l_32, l_33, l_34, l_36, l_37, l_38, l_39, l_40, l_41, l_42, l_43, l_44, l_45, l_46, l_47, l_48, l_49, l_50, l_53, l_54, l_57, l_58, l_59, l_60, l_61, l_62, l_63, l_91, l_93, l_97, l_98, l_99, l_100, l_103, l_104, l_110, l_112, l_114, l_115, l_116, l_119, l_120, l_121, l_124, l_128, l_231, l_240, l_241, l_255, l_496, l_999, l_1000, l_8191, l_9999, l_10000, l_100000, l_200000, l_1000000, l_1000000000, ↓reduceIte, gz_let_eq, n_add, n_ok, n_cl, n_lt, n_le, n_eq, p_0, p_1, p_01, e2, e4, m_eq, wi_st]
      exact p_t hd
    · rw [if_pos hd]; exact (hst.wf (by omega)).st (by omega)
    · rw [st_f (by omega), wa_at]; rfl
  · refine ⟨gz_wa (gz_wa (st g p) 1 (upd ((st g p).1 1) 4 (-nI 1))) 1 (upd ((gz_wa (st g p) 1 (upd ((st g p).1 1) 4 (-nI 1))).1 1) 3 (nI p)), ?_, ((st_fr (S := fun j => j = 1) (g := g) (g' := g) (p := p) Fr.rf rfl).wa rfl).wa rfl, ?_, fun hn => absurd hn hd, fun _ => ?_⟩
    · have e2 : (gz_wa (st g p) 1 (upd ((st g p).1 1) 4 (-nI 1))).1 1 2 = nI p := by rw [wa_at]; exact hst.2.1
      have e4 : (gz_wa (st g p) 1 (upd ((st g p).1 1) 4 (-nI 1))).1 1 4 = -nI 1 := by rw [wa_at]; rfl
      rw [if_neg hd, wi_wa]
      simp (disch := omega) only [l_0, l_1, l_2, l_3, l_4, l_5, l_6, l_7, l_8, l_9, l_10, l_11, l_12, l_13, l_14, l_15, l_16, l_17, l_18, l_19, l_20, l_21, l_22, l_23, l_24, l_25, l_26, l_28, l_29, l_30, l_31, l_32, l_33, l_34, l_36, l_37, l_38, l_39, l_40, l_41, l_42, l_43, l_44, l_45, l_46, l_47, l_48, l_49, l_50, l_53, l_54, l_57, l_58, l_59, l_60, l_61, l_62, l_63, l_91, l_93, l_97, l_98, l_99, l_100, l_103, l_104, l_110, l_112, l_114, l_115, l_116, l_119, l_120, l_121, l_124, l_128, l_231, l_240, l_241, l_255, l_496, l_999, l_1000, l_8191, l_9999, l_10000, l_100000, l_200000, l_1000000, l_1000000000, ↓reduceIte, gz_let_eq, Option.bind_some, n_add, n_ok, n_cl, n_lt, n_le, n_eq, p_0, p_1, p_01, e2, e4, c_refuse]
      exact p_f hd
    · rw [if_neg hd]; exact (hst.wf (by omega)).wf (by omega)
    · rw [wa_at]; rfl
theorem c_putStep {k : Nat} {x y z : Int32} (hk : k + 2 < 48) : fX1_putStep La (nI k) x y z g = some (nI 1, gz_wa g 20 (upd (upd (upd (g.1 20) k x) (k + 1) y) (k + 2) z)) := by
  unfold fX1_putStep
  simp (disch := omega) only [l_0, l_1, l_2, l_3, l_4, l_5, l_6, l_7, l_8, l_9, l_10, l_11, l_12, l_13, l_14, l_15, l_16, l_17, l_18, l_19, l_20, l_21, l_22, l_23, l_24, l_25, l_26, l_28, l_29, l_30, l_31, l_32, l_33, l_34, l_36, l_37, l_38, l_39, l_40, l_41, l_42, l_43, l_44, l_45, l_46, l_47, l_48, l_49, l_50, l_53, l_54, l_57, l_58, l_59, l_60, l_61, l_62, l_63, l_91, l_93, l_97, l_98, l_99, l_100, l_103, l_104, l_110, l_112, l_114, l_115, l_116, l_119, l_120, l_121, l_124, l_128, l_231, l_240, l_241, l_255, l_496, l_999, l_1000, l_8191, l_9999, l_10000, l_100000, l_200000, l_1000000, l_1000000000, gz_let_eq, Option.bind_some, ↓reduceIte, wi_wa, wa_at, wa_wa, upd_fI, fI_ap, wa_2, n_add, n_ok, n_cl, n_lt, n_le, n_eq, p_0, p_1, p_01, em_t, nb_0, t_10, n_modd, n_modm, Bool.false_eq_true, not_false_eq_true, not_true]
def RdE (r : Option (Int32 × gz_S)) (g : gz_S) (b : Nat → Nat) (len k : Nat) (s : Nat × Option eS) : Prop :=
  ∃ g', Fr (fun j => j = 1 ∨ j = 20) g g' ∧ (∃ a, CT g' b len a ∧ (s.2 ≠ none → a = s.1)) ∧ (s.2 = none → r = some (nI 0, g') ∧ g'.1 1 3 = nI s.1) ∧ ∀ e, s.2 = some e → r = some (nI 1, g') ∧ g'.1 20 = upd (upd (upd (g.1 20) k (nI e.1)) (k + 1) (oI e.2.1)) (k + 2) (oI e.2.2)
theorem pDg_p {p : Nat} (h : dg b len (nx b len p)) : pDg b len p = (nx b len p + 1, some (b (nx b len p) - 48)) := if_pos h
theorem pDg_n {p : Nat} (h : ¬ dg b len (nx b len p)) : pDg b len p = (nx b len p, none) := if_neg h
theorem c_readDigits (h : CT g b len a) {k m : Nat} (ha : a < len) (hm : m = 1 ∨ m = 2 ∨ m = 3) (hk : k + 2 < 48) : RdE (fX1_readDigits La (nI k) (nI m) (pI (m ≠ 2)) g) g b len k (pDs b len m (a + 1)) := by
  have h4 := h.2.2.2.1
  have hs := h.st (p := a + 1) (by omega)
  obtain ⟨g1, r1, F1, T1, v1, f1⟩ := c_readDigit (La := La) hs
  have F1' : Fr (fun j => j = 1 ∨ j = 20) g g1 := ((st_fr (S := fun j => j = 1) (g := g) (g' := g) (p := a + 1) Fr.rf rfl).tr F1).mo (fun j hj => Or.inl hj)
  have a20 : g1.1 20 = g.1 20 := by rw [F1.1 20 (by omega), st_n (by omega)]
  unfold fX1_readDigits pDs
  simp (disch := omega) only [l_0, l_1, l_2, l_3, l_4, l_5, l_6, l_7, l_8, l_9, l_10, l_11, l_12, l_13, l_14, l_15, l_16, l_17, l_18, l_19, l_20, l_21, l_22, l_23, l_24, l_25, l_26, l_28, l_29, l_30, l_31, l_32, l_33, l_34, l_36, l_37, l_38, l_39, l_40, l_41, l_42, l_43, l_44, l_45, l_46, l_47, l_48, l_49, l_50, l_53, l_54, l_57, l_58, l_59, l_60, l_61, l_62, l_63, l_91, l_93, l_97, l_98, l_99, l_100, l_103, l_104, l_110, l_112, l_114, l_115, l_116, l_119, l_120, l_121, l_124, l_128, l_231, l_240, l_241, l_255, l_496, l_999, l_1000, l_8191, l_9999, l_10000, l_100000, l_200000, l_1000000, l_1000000000, gz_let_eq, h.2.1, n_add, n_ok, n_cl, n_lt, n_le, n_eq, p_0, p_1, p_01, wi_st, r1, Option.bind_some]
  by_cases hd : dg b len (nx b len (a + 1))
  · rw [pDg_p hd] at T1 ⊢
    have T1 : CT g1 b len (nx b len (a + 1) + 1) := T1
    have hv := v1 hd
    have hb := (hs.2.2.2.2 _ hd.1).2
    generalize nx b len (a + 1) = p at *
    dsimp only
    rw [if_neg (not_not_intro hd)]
    by_cases h2 : m = 2
    · rw [if_pos h2, if_pos (not_not_intro h2), h2]
      refine ⟨gz_wa g1 20 (upd (upd (upd (g1.1 20) k (nI 2)) (k + 1) (nI (b p - 48))) (k + 2) (-nI 1)), F1'.wa (Or.inr rfl), ⟨p + 1, ?_, fun _ => rfl⟩, fun hn => (by cases hn), fun e he => ?_⟩
      · exact T1.fr (S := fun j => j = 20) (Fr.rf.wa rfl) (by omega) (by omega)
      · cases he
        refine ⟨?_, by rw [wa_at, a20]; rfl⟩
        rw [hv, c_putStep hk, Option.bind_some]
        exact if_pos (Or.inr rfl)
    · rw [if_neg h2, if_neg (fun hh => hh h2)]
      obtain ⟨g2, r2, F2, T2, v2, f2⟩ := c_readDigit (La := La) T1
      have F2' : Fr (fun j => j = 1 ∨ j = 20) g g2 := F1'.tr (F2.mo (fun j hj => Or.inl hj))
      have b20 : g2.1 20 = g.1 20 := by rw [F2.1 20 (by omega), a20]
      rw [r2, Option.bind_some]
      by_cases hd2 : dg b len (nx b len (p + 1))
      · rw [pDg_p hd2] at T2 ⊢
        have hv2 := v2 hd2
        have hb2 := (hs.2.2.2.2 _ hd2.1).2
        generalize nx b len (p + 1) = q at *
        dsimp only
        rw [if_neg (show ¬ pI (dg b len q) = nI 0 by rw [p_0]; exact not_not_intro hd2)]
        by_cases h3 : m = 3
        · rw [if_pos h3, if_pos h3, h3]
          refine ⟨gz_wa g2 20 (upd (upd (upd (g2.1 20) k (nI 3)) (k + 1) (nI ((b p - 48) * 10 + (b q - 48)))) (k + 2) (-nI 1)), F2'.wa (Or.inr rfl), ⟨q + 1, ?_, fun _ => rfl⟩, fun hn => (by cases hn), fun e he => ?_⟩
          · exact CT.fr (S := fun j => j = 20) T2 (Fr.rf.wa rfl) (by omega) (by omega)
          · cases he
            refine ⟨?_, by rw [wa_at, b20]; rfl⟩
            rw [hv, hv2]
            simp (disch := omega) only [n_add, n_ok, n_cl, n_lt, n_le, n_eq, p_0, p_1, p_01, n_mul, c_putStep hk, Option.bind_some]
            exact if_pos (Or.inr trivial)
        · have h1 : m = 1 := by omega
          rw [if_neg h3, if_neg h3, h1]
          refine ⟨gz_wa g2 20 (upd (upd (upd (g2.1 20) k (nI 1)) (k + 1) (nI (b p - 48))) (k + 2) (nI (b q - 48))), F2'.wa (Or.inr rfl), ⟨q + 1, ?_, fun _ => rfl⟩, fun hn => (by cases hn), fun e he => ?_⟩
          · exact CT.fr (S := fun j => j = 20) T2 (Fr.rf.wa rfl) (by omega) (by omega)
          · cases he
            refine ⟨?_, by rw [wa_at, b20]; rfl⟩
            rw [hv, hv2, c_putStep hk, Option.bind_some]
            exact if_pos (Or.inr rfl)
      · rw [pDg_n hd2] at T2 ⊢
        have hv2 := f2 hd2
        generalize nx b len (p + 1) = q at *
        dsimp only
        rw [if_pos (show pI (dg b len q) = nI 0 by rw [p_0]; exact hd2)]
        exact ⟨g2, F2', ⟨q, T2, fun _ => rfl⟩, fun _ => ⟨rfl, hv2⟩, fun e he => (by cases he)⟩
  · rw [pDg_n hd] at T1 ⊢
    have hv := f1 hd
    generalize nx b len (a + 1) = p at *
    dsimp only
    rw [if_pos hd]
    exact ⟨g1, F1', ⟨p, T1, fun _ => rfl⟩, fun _ => ⟨rfl, hv⟩, fun e he => (by cases he)⟩
theorem RdE.st {r : Option (Int32 × gz_S)} {k p : Nat} {s : Nat × Option eS} (h : RdE r (st g p) b len k s) : RdE r g b len k s := by
  obtain ⟨g', F, T, n, y⟩ := h
  exact ⟨g', (st_fr (g := g) (p := p) Fr.rf (Or.inl rfl)).tr F, T, n, fun e he => by obtain ⟨y1, y2⟩ := y e he; rw [st_n (by omega)] at y2; exact ⟨y1, y2⟩⟩
theorem RdE.ck {r : Option (Int32 × gz_S)} {k : Nat} {s : Nat × Option eS} (h : RdE r g b len k s) : r.bind (fun q => if q.1 = nI 0 ∨ q.1 = nI 1 then some (q.1, q.2) else none) = r := by
  obtain ⟨g', F, T, n, y⟩ := h
  cases hs : s.2 with
  | none => rw [(n hs).1, Option.bind_some]; exact if_pos (Or.inl rfl)
  | some e => rw [(y e hs).1, Option.bind_some]; exact if_pos (Or.inr rfl)
theorem c_readStep (h : CT g b len a) {k : Nat} (hk : k + 2 < 48) : RdE (fX1_readStep La (nI k) g) g b len k (pStp b len a) := by
  have h4 := h.2.2.2.1
  have hx := nx_le (b := b) h.2.2.1
  have hn := c_next (La := La) h
  unfold pStp
  generalize hp : nx b len a = p at *
  have hst : CT (st g p) b len p := h.st hx.2
  have hsgc : ∀ c, sg b len p = some c → c < 2147483648 := fun c hc => by have h5 := sg_lt hc; have := (h.2.2.2.2 _ h5.1).2; omega
  have e103 : (oI (sg b len p) = nI 103) = (sg b len p = some 103) := oI_eq (by omega) hsgc
  have e104 : (oI (sg b len p) = nI 104) = (sg b len p = some 104) := oI_eq (by omega) hsgc
  have e115 : (oI (sg b len p) = nI 115) = (sg b len p = some 115) := oI_eq (by omega) hsgc
  have e116 : (oI (sg b len p) = nI 116) = (sg b len p = some 116) := oI_eq (by omega) hsgc
  have p1 : pI (1 ≠ 2) = nI 1 := rfl
  have p3 : pI (3 ≠ 2) = nI 1 := rfl
  have p2 : pI (2 ≠ 2) = nI 0 := rfl
  unfold fX1_readStep
  rw [hn, Option.bind_some]
  simp only [l_0, l_1, l_2, l_3, l_4, l_5, l_6, l_7, l_8, l_9, l_10, l_11, l_12, l_13, l_14, l_15, l_16, l_17, l_18, l_19, l_20, l_21, l_22, l_23, l_24, l_25, l_26, l_28, l_29, l_30, l_31, l_32, l_33, l_34, l_36, l_37, l_38, l_39, l_40, l_41, l_42, l_43, l_44, l_45, l_46, l_47, l_48, l_49, l_50, l_53, l_54, l_57, l_58, l_59, l_60, l_61, l_62, l_63, l_91, l_93, l_97, l_98, l_99, l_100, l_103, l_104, l_110, l_112, l_114, l_115, l_116, l_119, l_120, l_121, l_124, l_128, l_231, l_240, l_241, l_255, l_496, l_999, l_1000, l_8191, l_9999, l_10000, l_100000, l_200000, l_1000000, l_1000000000, e103, e104, e115, e116]
  by_cases c1 : sg b len p = some 103
  · have k1 := c_readDigits (La := La) hst (k := k) (m := 1) (sg_lt c1).1 (by omega) hk
    rw [p1] at k1
    rw [if_pos c1, if_pos c1]
    have := k1.ck
    rw [← this] at k1
    exact k1.st
  · rw [if_neg c1, if_neg c1]
    by_cases c2 : sg b len p = some 104
    · rw [if_pos c2, if_pos c2]
      have hlp := (sg_lt c2).1
      refine ⟨gz_wa (st g (p + 1)) 20 (upd (upd (upd ((st g (p + 1)).1 20) k (nI 0)) (k + 1) (-nI 1)) (k + 2) (-nI 1)), (st_fr Fr.rf (Or.inl rfl)).wa (Or.inr rfl), ⟨p + 1, ?_, fun _ => rfl⟩, fun hn => (by cases hn), fun e he => ?_⟩
      · exact CT.fr (S := fun j => j = 20) (h.st (by omega)) (Fr.rf.wa rfl) (by omega) (by omega)
      · cases he
        refine ⟨?_, by rw [wa_at, st_n (by omega)]; rfl⟩
        simp (disch := omega) only [l_0, l_1, l_2, l_3, l_4, l_5, l_6, l_7, l_8, l_9, l_10, l_11, l_12, l_13, l_14, l_15, l_16, l_17, l_18, l_19, l_20, l_21, l_22, l_23, l_24, l_25, l_26, l_28, l_29, l_30, l_31, l_32, l_33, l_34, l_36, l_37, l_38, l_39, l_40, l_41, l_42, l_43, l_44, l_45, l_46, l_47, l_48, l_49, l_50, l_53, l_54, l_57, l_58, l_59, l_60, l_61, l_62, l_63, l_91, l_93, l_97, l_98, l_99, l_100, l_103, l_104, l_110, l_112, l_114, l_115, l_116, l_119, l_120, l_121, l_124, l_128, l_231, l_240, l_241, l_255, l_496, l_999, l_1000, l_8191, l_9999, l_10000, l_100000, l_200000, l_1000000, l_1000000000, gz_let_eq, st_2, n_add, n_ok, n_cl, n_lt, n_le, n_eq, p_0, p_1, p_01, wi_st, st_st, c_putStep hk, Option.bind_some]
        exact if_pos (Or.inr trivial)
    · rw [if_neg c2, if_neg c2]
      by_cases c3 : sg b len p = some 115
      · have k1 := c_readDigits (La := La) hst (k := k) (m := 3) (sg_lt c3).1 (by omega) hk
        rw [p3] at k1
        rw [if_pos c3, if_pos c3]
        have := k1.ck
        rw [← this] at k1
        exact k1.st
      · rw [if_neg c3, if_neg c3]
        by_cases c4 : sg b len p = some 116
        · have k1 := c_readDigits (La := La) hst (k := k) (m := 2) (sg_lt c4).1 (by omega) hk
          rw [p2] at k1
          rw [if_pos c4, if_pos c4]
          have := k1.ck
          rw [← this] at k1
          exact k1.st
        · rw [if_neg c4, if_neg c4]
          refine ⟨gz_wa (st g p) 1 (upd ((st g p).1 1) 3 (nI p)), (st_fr Fr.rf (Or.inl rfl)).wa (Or.inl rfl), ⟨p, hst.wf (by omega), fun _ => rfl⟩, fun _ => ⟨?_, by rw [wa_at]; rfl⟩, fun e he => (by cases he)⟩
          rw [st_2, c_refuse, Option.bind_some]
          exact if_pos (Or.inl rfl)
/-- an evening is in the array -/
def EvA (A : Nat → Int32) (l : List eS) : Prop := ∀ i s, l[i]? = some s → A (3 * i) = nI s.1 ∧ A (3 * i + 1) = oI s.2.1 ∧ A (3 * i + 2) = oI s.2.2
theorem EvA.snoc {A : Nat → Int32} {l : List eS} {s : eS} (h : EvA A l) : EvA (upd (upd (upd A (l.length * 3) (nI s.1)) (l.length * 3 + 1) (oI s.2.1)) (l.length * 3 + 2) (oI s.2.2)) (l ++ [s]) := by
  intro i t ht
  by_cases hi : i < l.length
  · rw [List.getElem?_append_left hi] at ht
    have := h i t ht
    unfold upd
    rw [if_neg (by omega), if_neg (by omega), if_neg (by omega), if_neg (by omega), if_neg (by omega), if_neg (by omega), if_neg (by omega), if_neg (by omega), if_neg (by omega)]
    exact this
  · by_cases hj : i = l.length
    · subst hj
      rw [List.getElem?_append_right (Nat.le_refl _), Nat.sub_self] at ht
      cases ht
      unfold upd
      refine ⟨?_, ?_, ?_⟩
      · rw [if_neg (by omega), if_neg (by omega), if_pos (by omega)]
      · rw [if_neg (by omega), if_pos (by omega)]
      · rw [if_pos (by omega)]
    · rw [List.getElem?_eq_none (by rw [List.length_append]; show _ + 1 ≤ _; omega)] at ht
      cases ht
theorem c_re76 {g : gz_S} {q : Nat} (h : CT g b len q) : fX1_readEvening_76 La g = some (nI 0, gz_wa g 1 (upd (g.1 1) 3 (nI q))) := by
  unfold fX1_readEvening_76
  rw [h.2.1, c_refuse, Option.bind_some]
  exact if_pos (Or.inl rfl)
theorem c_readEvening_14 {K : gz_S → Option (Int32 × gz_S)} : ∀ n i a g f (l : List eS), CT g b len a → g.1 4 2 = nI i → i + n + 1 = 16 → l.length = i → EvA (g.1 20) l → n < f →
    ∃ g', Fr FE g g' ∧ (∃ a', CT g' b len a') ∧ ((pEv b len (n + 1) a).2 = none → fX1_readEvening_14 La K (fX1_readEvening_76 La) f (nI i) g = some (nI 0, g') ∧ g'.1 1 3 = nI (pEv b len (n + 1) a).1) ∧
      ∀ r, (pEv b len (n + 1) a).2 = some r → fX1_readEvening_14 La K (fX1_readEvening_76 La) f (nI i) g = some (nI 1, g') ∧ g'.1 4 2 = nI (i + r.length) ∧ EvA (g'.1 20) (l ++ r) := by
  intro n
  induction n using Nat.strongRecOn with
  | _ n ih =>
    intro i a g f l h h42 hin hl hA hf
    obtain ⟨f', rfl⟩ : ∃ f', f = f' + 1 := ⟨f - 1, by omega⟩
    have h4 := h.2.2.2.1
    obtain ⟨g1, F1, ⟨p, T1, tp⟩, n1, y1⟩ := c_readStep (La := La) h (k := i * 3) (by omega)
    have e : pEv b len (n + 1) a = match (pStp b len a).2 with
      | none => ((pStp b len a).1, none)
      | some s => if sg b len (nx b len (pStp b len a).1) = none then (nx b len (pStp b len a).1, some [s]) else if n = 0 then (nx b len (pStp b len a).1, none) else
        if sg b len (nx b len (pStp b len a).1) = some 59 then ((pEv b len n (nx b len (pStp b len a).1 + 1)).1, (pEv b len n (nx b len (pStp b len a).1 + 1)).2.map (s :: ·)) else (nx b len (pStp b len a).1, none) := rfl
    have F1' : Fr FE g g1 := F1.mo (fun j hj => by omega)
    rw [e, fX1_readEvening_14]
    have x16 : ¬ (16 : Int32) ≤ nI i := by simp (disch := omega) only [l_0, l_1, l_2, l_3, l_4, l_5, l_6, l_7, l_8, l_9, l_10, l_11, l_12, l_13, l_14, l_15, l_16, l_17, l_18, l_19, l_20, l_21, l_22, l_23, l_24, l_25, l_26, l_28, l_29, l_30, l_31, l_32, l_33, l_34, l_36, l_37, l_38, l_39, l_40, l_41, l_42, l_43, l_44, l_45, l_46, l_47, l_48, l_49, l_50, l_53, l_54, l_57, l_58, l_59, l_60, l_61, l_62, l_63, l_91, l_93, l_97, l_98, l_99, l_100, l_103, l_104, l_110, l_112, l_114, l_115, l_116, l_119, l_120, l_121, l_124, l_128, l_231, l_240, l_241, l_255, l_496, l_999, l_1000, l_8191, l_9999, l_10000, l_100000, l_200000, l_1000000, l_1000000000, n_add, n_ok, n_cl, n_lt, n_le, n_eq, p_0, p_1, p_01]; omega
    have x3 : nI i * 3 = nI (i * 3) := by simp (disch := omega) only [l_0, l_1, l_2, l_3, l_4, l_5, l_6, l_7, l_8, l_9, l_10, l_11, l_12, l_13, l_14, l_15, l_16, l_17, l_18, l_19, l_20, l_21, l_22, l_23, l_24, l_25, l_26, l_28, l_29, l_30, l_31, l_32, l_33, l_34, l_36, l_37, l_38, l_39, l_40, l_41, l_42, l_43, l_44, l_45, l_46, l_47, l_48, l_49, l_50, l_53, l_54, l_57, l_58, l_59, l_60, l_61, l_62, l_63, l_91, l_93, l_97, l_98, l_99, l_100, l_103, l_104, l_110, l_112, l_114, l_115, l_116, l_119, l_120, l_121, l_124, l_128, l_231, l_240, l_241, l_255, l_496, l_999, l_1000, l_8191, l_9999, l_10000, l_100000, l_200000, l_1000000, l_1000000000, n_add, n_ok, n_cl, n_lt, n_le, n_eq, p_0, p_1, p_01, n_mul]
    rw [if_neg x16, x3]
    cases hs : (pStp b len a).2 with
    | none =>
      dsimp only
      rw [(n1 hs).1, Option.bind_some]
      exact ⟨g1, F1', ⟨p, T1⟩, fun _ => ⟨if_pos rfl, (n1 hs).2⟩, fun r hr => by cases hr⟩
    | some s =>
      obtain ⟨y1, y2⟩ := y1 s hs
      have tp := tp (by rw [hs]; exact fun hh => by cases hh)
      dsimp only
      rw [← tp, y1, Option.bind_some]
      have e42 : g1.1 4 2 = nI i := by rw [F1.1 4 (by omega)]; exact h42
      have T3 : CT (gz_wa g1 4 (upd (g1.1 4) 2 (nI (i + 1)))) b len p := CT.fr (S := fun j => j = 4) T1 (Fr.rf.wa rfl) (by omega) (by omega)
      have hn3 := c_next (La := La) T3
      have hx := nx_le (b := b) T3.2.2.1
      have hnn : nx b len (nx b len p) = nx b len p := nx_nx
      have A3 : (gz_wa g1 4 (upd (g1.1 4) 2 (nI (i + 1)))).1 20 = upd (upd (upd (g.1 20) (i * 3) (nI s.1)) (i * 3 + 1) (oI s.2.1)) (i * 3 + 2) (oI s.2.2) := by rw [wa_ne (by omega)]; exact y2
      have e43 : (gz_wa g1 4 (upd (g1.1 4) 2 (nI (i + 1)))).1 4 2 = nI (i + 1) := by rw [wa_at]; rfl
      have F3 : Fr FE g (gz_wa g1 4 (upd (g1.1 4) 2 (nI (i + 1)))) := F1'.wa (by omega)
      have e3 : gz_wi g1 4 2 (nI (i + 1)) = gz_wa g1 4 (upd (g1.1 4) 2 (nI (i + 1))) := wi_wa _ _ _ _
      generalize gz_wa g1 4 (upd (g1.1 4) 2 (nI (i + 1))) = g3 at *
      generalize nx b len p = q at *
      have T4 : CT (st g3 q) b len q := T3.st hx.2
      have A4 : EvA ((st g3 q).1 20) (l ++ [s]) := by rw [st_n (by omega), A3, ← hl]; exact hA.snoc
      have e44 : (st g3 q).1 4 2 = nI (i + 1) := by rw [st_n (by omega)]; exact e43
      have F4 : Fr FE g (st g3 q) := st_fr F3 (Or.inl rfl)
      have hsgc : ∀ c, sg b len q = some c → c < 2147483648 := fun c hc => by have h5 := sg_lt hc; have := (h.2.2.2.2 _ h5.1).2; omega
      have em1 : (oI (sg b len q) = -nI 1) = (sg b len q = none) := oI_m hsgc
      have k76 := c_re76 (La := La) T4
      simp (disch := omega) only [l_0, l_1, l_2, l_3, l_4, l_5, l_6, l_7, l_8, l_9, l_10, l_11, l_12, l_13, l_14, l_15, l_16, l_17, l_18, l_19, l_20, l_21, l_22, l_23, l_24, l_25, l_26, l_28, l_29, l_30, l_31, l_32, l_33, l_34, l_36, l_37, l_38, l_39, l_40, l_41, l_42, l_43, l_44, l_45, l_46, l_47, l_48, l_49, l_50, l_53, l_54, l_57, l_58, l_59, l_60, l_61, l_62, l_63, l_91, l_93, l_97, l_98, l_99, l_100, l_103, l_104, l_110, l_112, l_114, l_115, l_116, l_119, l_120, l_121, l_124, l_128, l_231, l_240, l_241, l_255, l_496, l_999, l_1000, l_8191, l_9999, l_10000, l_100000, l_200000, l_1000000, l_1000000000, n_add, n_ok, n_cl, n_lt, n_le, n_eq, p_0, p_1, p_01, ↓reduceIte, gz_let_eq, e42, e3, hn3, Option.bind_some, em1, e44, k76]
      have F5 : Fr FE g (gz_wa (st g3 q) 1 (upd ((st g3 q).1 1) 3 (nI q))) := F4.wa (Or.inl rfl)
      have e53 : (gz_wa (st g3 q) 1 (upd ((st g3 q).1 1) 3 (nI q))).1 1 3 = nI q := by rw [wa_at]; rfl
      have T5 : CT (gz_wa (st g3 q) 1 (upd ((st g3 q).1 1) 3 (nI q))) b len q := T4.wf (by omega)
      by_cases cn : sg b len q = none
      · rw [if_pos cn, if_pos cn]
        refine ⟨st g3 q, F4, ⟨q, T4⟩, fun hh => (by cases hh), fun r hr => ?_⟩
        cases hr
        exact ⟨rfl, e44, A4⟩
      · rw [if_neg cn, if_neg cn]
        by_cases c0 : n = 0
        · rw [if_pos c0, if_pos (show i + 1 = 16 by omega)]
          exact ⟨_, F5, ⟨q, T5⟩, fun _ => ⟨rfl, e53⟩, fun r hr => by cases hr⟩
        · rw [if_neg c0, if_neg (show ¬ i + 1 = 16 by omega)]
          have hx := c_expect (La := La) T4 (c := 59) (by omega)
          rw [hnn] at hx
          rw [hx, Option.bind_some]
          by_cases c59 : sg b len q = some 59
          · rw [if_pos c59, if_pos c59]
            have hlq := (sg_lt c59).1
            obtain ⟨m, rfl⟩ : ∃ m, n = m + 1 := ⟨n - 1, by omega⟩
            obtain ⟨g', G1, G2, G3, G4⟩ := ih m (by omega) (i + 1) (q + 1) (st (st g3 q) (q + 1)) f' (l ++ [s]) (T4.st (by omega)) (by rw [st_n (by omega)]; exact e44) (by omega) (by rw [List.length_append, hl]; rfl) (by rw [st_n (by omega)]; exact A4) (by omega)
            refine ⟨g', (st_fr F4 (Or.inl rfl)).tr G1, G2, fun hh => ?_, fun r hr => ?_⟩
            · have hh' : (pEv b len (m + 1) (q + 1)).2 = none := by
                cases hv : (pEv b len (m + 1) (q + 1)).2 with
                | none => rfl
                | some v => rw [hv] at hh; cases hh
              obtain ⟨G5, G6⟩ := G3 hh'
              exact ⟨by rw [← G5]; exact if_neg (by decide), G6⟩
            · cases hv : (pEv b len (m + 1) (q + 1)).2 with
              | none => rw [hv] at hr; cases hr
              | some v =>
                rw [hv] at hr
                cases hr
                obtain ⟨G5, G6, G7⟩ := G4 v hv
                refine ⟨by rw [← G5]; exact if_neg (by decide), by rw [G6, List.length_cons]; congr 1; omega, ?_⟩
                rw [show l ++ s :: v = l ++ [s] ++ v by rw [List.append_assoc]; rfl]
                exact G7
          · rw [if_neg c59, if_neg c59]
            have T6 : CT (gz_wa (st (st g3 q) q) 1 (upd ((st (st g3 q) q).1 1) 3 (nI q))) b len q := (T4.st (by omega)).wf (by omega)
            have k77 := c_re76 (La := La) T6
            refine ⟨gz_wa (gz_wa (st (st g3 q) q) 1 (upd ((st (st g3 q) q).1 1) 3 (nI q))) 1 (upd ((gz_wa (st (st g3 q) q) 1 (upd ((st (st g3 q) q).1 1) 3 (nI q))).1 1) 3 (nI q)), ((st_fr F4 (Or.inl rfl)).wa (Or.inl rfl)).wa (Or.inl rfl), ⟨q, T6.wf (by omega)⟩, fun _ => ⟨?_, by rw [wa_at]; rfl⟩, fun r hr => by cases hr⟩
            rw [← k77]
            exact (if_neg (by decide)).trans (if_pos rfl)
theorem c_readEvening (h : CT g b len a) : ∃ g', Fr FE g g' ∧ (∃ a', CT g' b len a') ∧ ((pEv b len 16 0).2 = none → fX1_readEvening La g = some (nI 0, g') ∧ g'.1 1 3 = nI (pEv b len 16 0).1) ∧
      ∀ r, (pEv b len 16 0).2 = some r → fX1_readEvening La g = some (nI 1, g') ∧ g'.1 4 2 = nI r.length ∧ EvA (g'.1 20) r := by
  have h4 := h.2.2.2.1
  have b1 : fX9_rewind La g = some (gz_wa g 1 (upd (upd (g.1 1) 2 (nI 0)) 3 (-nI 1))) := by
    unfold fX9_rewind
    simp only [l_0, l_1, l_2, l_3, l_4, l_5, l_6, l_7, l_8, l_9, l_10, l_11, l_12, l_13, l_14, l_15, l_16, l_17, l_18, l_19, l_20, l_21, l_22, l_23, l_24, l_25, l_26, l_28, l_29, l_30, l_31, l_32, l_33, l_34, l_36, l_37, l_38, l_39, l_40, l_41, l_42, l_43, l_44, l_45, l_46, l_47, l_48, l_49, l_50, l_53, l_54, l_57, l_58, l_59, l_60, l_61, l_62, l_63, l_91, l_93, l_97, l_98, l_99, l_100, l_103, l_104, l_110, l_112, l_114, l_115, l_116, l_119, l_120, l_121, l_124, l_128, l_231, l_240, l_241, l_255, l_496, l_999, l_1000, l_8191, l_9999, l_10000, l_100000, l_200000, l_1000000, l_1000000000, gz_let_eq, Option.bind_some, ↓reduceIte, wi_wa, wa_at, wa_wa, upd_fI, fI_ap, wa_2, n_add, n_ok, n_cl, n_lt, n_le, n_eq, p_0, p_1, p_01, em_t, nb_0, t_10, n_modd, n_modm, Bool.false_eq_true, not_false_eq_true, not_true]
  have b3 : CT (gz_wa g 1 (upd (upd (g.1 1) 2 (nI 0)) 3 (-nI 1))) b len 0 :=
    ⟨by rw [wa_at]; exact h.1, by rw [wa_at]; rfl, Nat.zero_le _, h4, by rw [wa_ne (by omega)]; exact h.2.2.2.2⟩
  have b2 : Fr FE g (gz_wa g 1 (upd (upd (g.1 1) 2 (nI 0)) 3 (-nI 1))) := Fr.rf.wa (Or.inl rfl)
  generalize gz_wa g 1 (upd (upd (g.1 1) 2 (nI 0)) 3 (-nI 1)) = g0 at *
  have e0 : gz_wi g0 4 2 0 = gz_wa g0 4 (upd (g0.1 4) 2 (nI 0)) := wi_wa _ _ _ _
  obtain ⟨g', G1, G2, G3, G4⟩ := c_readEvening_14 (La := La) (K := fun g => (fX9_refuse La  (g.1 1 2) g).bind (fun q108 => if q108.1 = 0 ∨ q108.1 = 1 then some (q108.1, q108.2) else none)) 15 0 0 (gz_wa g0 4 (upd (g0.1 4) 2 (nI 0))) gz_FU [] (CT.fr (S := fun j => j = 4) b3 (Fr.rf.wa rfl) (by omega) (by omega)) (by rw [wa_at]; rfl) (by omega) rfl (fun i s hi => by cases hi) (by unfold gz_FU; omega)
  unfold fX1_readEvening
  rw [b1, Option.bind_some, gz_let_eq, e0]
  refine ⟨g', (b2.wa (by omega)).tr G1, G2, G3, fun r hr => ?_⟩
  obtain ⟨k1, k2, k3⟩ := G4 r hr
  rw [Nat.zero_add] at k2
  exact ⟨k1, k2, k3⟩
end C1
