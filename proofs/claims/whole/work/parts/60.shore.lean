/-! shores as texts, and class ShoreReader -/
def tS (j : Nat) : Nat := ([119, 2, 6, 5, 104, 2, 5, 4, 116, 0, 5, 0, 99, 0, 99, 20] : List Nat).getD j 0
def tG (j : Nat) : Nat := ([120, 0, 5, 0, 121, 0, 4, 0, 98, 0, 3, 1, 112, 1, 4, 1] : List Nat).getD j 0
abbrev TtW (w : Nat) (t : Nat → Nat) : Prop := ∀ j, j < 16 → gz_tt w j = nI (t j) ∧ t j ≤ 121 ∧ t j ≠ 59
theorem tt_s : TtW 200 tS := by unfold TtW; decide
theorem tt_g : TtW 201 tG := by unfold TtW; decide
def itm (t : Nat → Nat) (c : Nat) : Option Nat := if c = t 0 then some 0 else if c = t 4 then some 1 else if c = t 8 then some 2 else if c = t 12 then some 3 else none
theorem itm_lt {t : Nat → Nat} {c i : Nat} (h : itm t c = some i) : i < 4 := by
  unfold itm at h
  repeat' split at h
  all_goals (cases h <;> omega)
/-- items: what they tell, by which letters there were -/
def pIt (b : Nat → Nat) (len : Nat) (t : Nat → Nat) : Nat → Nat → Nat → (Nat → Nat) → Nat × Option (Nat → Nat)
  | 0, _, p, v => (p, some v)
  | n + 1, u, p, v => match (sg b len (nx b len p)).bind (itm t) with
    | none => if sg b len (nx b len p) = some 59 ∨ sg b len (nx b len p) = none then (nx b len p, some v) else (nx b len p, none)
    | some i => if u.testBit i then (nx b len p, none) else
      if ¬ (nx b len (nx b len p + 1) < (numV b len 2 (nx b len (nx b len p + 1)) 0).1 ∧ ¬ dg b len (numV b len 2 (nx b len (nx b len p + 1)) 0).1) then ((numV b len 2 (nx b len (nx b len p + 1)) 0).1, none) else
      if (numV b len 2 (nx b len (nx b len p + 1)) 0).2 < t (i * 4 + 1) ∨ t (i * 4 + 2) < (numV b len 2 (nx b len (nx b len p + 1)) 0).2 then ((numV b len 2 (nx b len (nx b len p + 1)) 0).1 - 1, none) else
      pIt b len t n (u ||| 2 ^ i) (numV b len 2 (nx b len (nx b len p + 1)) 0).1 (uN v i (numV b len 2 (nx b len (nx b len p + 1)) 0).2)
section C7
variable {La : gz_L} {g : gz_S} {b : Nat → Nat} {len a : Nat}
theorem c_itemOf {w : Nat} {t : Nat → Nat} (ht : TtW w t) {o : Option Nat} (ho : ∀ c, o = some c → c < 2147483648) : fX7_itemOf La w (oI o) g = some (oI (o.bind (itm t)), g) := by
  obtain ⟨f, hf⟩ : ∃ f, gz_FU = f + 5 := ⟨gz_FU - 5, by unfold gz_FU; omega⟩
  have e : ∀ j, j < 16 → (gz_tt w j = oI o) = (o = some (t j)) := fun j hj => by
    rw [(ht j hj).1, ← oI_eq (by have := (ht j hj).2; omega) ho]
    exact propext eq_comm
  unfold fX7_itemOf
  rw [hf]
  rw [fX7_itemOf_2, gz_let_eq, fX7_itemOf_2, gz_let_eq, fX7_itemOf_2, gz_let_eq, fX7_itemOf_2, gz_let_eq, fX7_itemOf_2]
  simp (disch := omega) only [l_0, l_1, l_2, l_3, l_4, l_5, l_6, l_7, l_8, l_9, l_10, l_11, l_12, l_13, l_14, l_15, l_16, l_17, l_18, l_19, l_20, l_21, l_22, l_23, l_24, l_25, l_26, l_28, l_29, l_30, l_31, l_32, l_33, l_34, l_36, l_37, l_38, l_39, l_40, l_41, l_42, l_43, l_44, l_45, l_46, l_47, l_48, l_49, l_50, l_53, l_54, l_57, l_58, l_59, l_60, l_61, l_62, l_63, l_91, l_93, l_97, l_98, l_99, l_100, l_103, l_104, l_110, l_112, l_114, l_115, l_116, l_119, l_120, l_121, l_124, l_128, l_231, l_240, l_241, l_255, l_496, l_999, l_1000, l_8191, l_9999, l_10000, l_100000, l_200000, l_1000000, l_1000000000, gz_let_eq, Option.bind_some, ↓reduceIte, wi_wa, wa_at, wa_wa, upd_fI, fI_ap, wa_2, n_add, n_ok, n_cl, n_lt, n_le, n_eq, p_0, p_1, p_01, em_t, nb_0, t_10, n_modd, n_modm, Bool.false_eq_true, not_false_eq_true, not_true, n_mul, e 0 (by omega), e 4 (by omega), e 8 (by omega), e 12 (by omega)]
  cases o with
  | none => rfl
  | some c =>
    show _ = some (oI (itm t c), g)
    unfold itm
    simp only [Option.some.injEq]
    repeat' split
    all_goals first | rfl | omega
theorem c_endsClause (h : CT g b len a) : fX7_endsClause La g = some (if sg b len (nx b len a) = some 59 ∨ sg b len (nx b len a) = none then (nI 1, st g (nx b len a)) else (nI 0, gz_wa (st g (nx b len a)) 1 (upd ((st g (nx b len a)).1 1) 3 (nI (nx b len a))))) := by
  have hx := nx_le (b := b) h.2.2.1
  have hsgc : ∀ c, sg b len (nx b len a) = some c → c < 2147483648 := fun c hc => by have := h.sg hc; omega
  have e59 : (oI (sg b len (nx b len a)) = nI 59) = (sg b len (nx b len a) = some 59) := oI_eq (by omega) hsgc
  have em1 : (oI (sg b len (nx b len a)) = -nI 1) = (sg b len (nx b len a) = none) := oI_m hsgc
  unfold fX7_endsClause
  rw [c_next h, Option.bind_some]
  by_cases c1 : sg b len (nx b len a) = some 59
  · have c1' : oI (sg b len (nx b len a)) = nI 59 := by rw [e59]; exact c1
    rw [if_pos (Or.inl c1)]
    exact if_pos c1'
  · by_cases c2 : sg b len (nx b len a) = none
    · have c1' : ¬ oI (sg b len (nx b len a)) = nI 59 := by rw [e59]; exact c1
      have c2' : oI (sg b len (nx b len a)) = -nI 1 := by rw [em1]; exact c2
      rw [if_pos (Or.inr c2)]
      exact (if_neg c1').trans (if_pos c2')
    · rw [if_neg (show ¬ (sg b len (nx b len a) = some 59 ∨ sg b len (nx b len a) = none) from fun hh => hh.elim c1 c2)]
      simp only [l_0, l_1, l_2, l_3, l_4, l_5, l_6, l_7, l_8, l_9, l_10, l_11, l_12, l_13, l_14, l_15, l_16, l_17, l_18, l_19, l_20, l_21, l_22, l_23, l_24, l_25, l_26, l_28, l_29, l_30, l_31, l_32, l_33, l_34, l_36, l_37, l_38, l_39, l_40, l_41, l_42, l_43, l_44, l_45, l_46, l_47, l_48, l_49, l_50, l_53, l_54, l_57, l_58, l_59, l_60, l_61, l_62, l_63, l_91, l_93, l_97, l_98, l_99, l_100, l_103, l_104, l_110, l_112, l_114, l_115, l_116, l_119, l_120, l_121, l_124, l_128, l_231, l_240, l_241, l_255, l_496, l_999, l_1000, l_8191, l_9999, l_10000, l_100000, l_200000, l_1000000, l_1000000000, e59, em1, c1, c2, ↓reduceIte, st_2, c_refuse, Option.bind_some]
def RdI (r : Option (Int32 × gz_S)) (g : gz_S) (b : Nat → Nat) (len w o : Nat) (s : Nat × Option (Nat → Nat)) : Prop :=
  ∃ g', Fr (fun j => j = 1 ∨ j = w) g g' ∧ (∃ a, CT g' b len a ∧ (s.2 ≠ none → nx b len a = nx b len s.1)) ∧ (s.2 = none → r = some (nI 0, g') ∧ g'.1 1 3 = nI s.1) ∧
    ∀ v, s.2 = some v → r = some (nI 1, g') ∧ (∀ i, i < 4 → g'.1 w (o + i) = nI (v i) ∧ v i ≤ 99) ∧ ∀ j, ¬ (o ≤ j ∧ j < o + 4) → g'.1 w j = g.1 w j
theorem c_items {w1 w2 o : Nat} {t : Nat → Nat} (ht : TtW w1 t) (hw : w2 = 15 ∨ w2 = 16) (ho : o + 4 ≤ gz_ln w2) : ∀ n u a v g f, n ≤ 4 → u < 16 → CT g b len a → (∀ i, i < 4 → g.1 w2 (o + i) = nI (v i) ∧ v i ≤ 99) → n < f →
    RdI (fX7_readItems_35 La w1 w2 (fX7_readItems_70 La w1 w2) (fX7_readItems_146 La w1 w2) f (nI o) (nI u) (nI (4 - n)) g) g b len w2 o (pIt b len t n u a v) := by
  have hl16 : gz_ln w2 ≤ 16 := by rcases hw with rfl | rfl <;> decide
  intro n
  induction n with
  | zero =>
    intro u a v g f hn hu h hv hf
    obtain ⟨f', rfl⟩ : ∃ f', f = f' + 1 := ⟨f - 1, by omega⟩
    refine ⟨g, Fr.rf, ⟨a, h, fun _ => rfl⟩, fun hh => (by cases hh), fun v' hv' => ?_⟩
    cases hv'
    refine ⟨?_, hv, fun _ _ => rfl⟩
    rw [fX7_readItems_35]
    exact if_pos (by decide)
  | succ n ih =>
    intro u a v g f hn hu h hv hf
    obtain ⟨f', rfl⟩ : ∃ f', f = f' + 1 := ⟨f - 1, by omega⟩
    have h4 := h.2.2.2.1
    have hx := nx_le (b := b) h.2.2.1
    have hn3 := c_next (La := La) h
    have hend := c_endsClause (La := La) h
    have hnn : nx b len (nx b len a) = nx b len a := nx_nx
    have e : pIt b len t (n + 1) u a v = match (sg b len (nx b len a)).bind (itm t) with
      | none => if sg b len (nx b len a) = some 59 ∨ sg b len (nx b len a) = none then (nx b len a, some v) else (nx b len a, none)
      | some i => if u.testBit i then (nx b len a, none) else
        if ¬ (nx b len (nx b len a + 1) < (numV b len 2 (nx b len (nx b len a + 1)) 0).1 ∧ ¬ dg b len (numV b len 2 (nx b len (nx b len a + 1)) 0).1) then ((numV b len 2 (nx b len (nx b len a + 1)) 0).1, none) else
        if (numV b len 2 (nx b len (nx b len a + 1)) 0).2 < t (i * 4 + 1) ∨ t (i * 4 + 2) < (numV b len 2 (nx b len (nx b len a + 1)) 0).2 then ((numV b len 2 (nx b len (nx b len a + 1)) 0).1 - 1, none) else
        pIt b len t n (u ||| 2 ^ i) (numV b len 2 (nx b len (nx b len a + 1)) 0).1 (uN v i (numV b len 2 (nx b len (nx b len a + 1)) 0).2) := rfl
    rw [e, fX7_readItems_35]
    generalize hp : nx b len a = p at *
    have hst : CT (st g p) b len p := h.st hx.2
    have hsgc : ∀ c, sg b len p = some c → c < 2147483648 := fun c hc => by have := h.sg hc; omega
    have x4 : ¬ (4 : Int32) ≤ nI (4 - (n + 1)) := by simp (disch := omega) only [l_0, l_1, l_2, l_3, l_4, l_5, l_6, l_7, l_8, l_9, l_10, l_11, l_12, l_13, l_14, l_15, l_16, l_17, l_18, l_19, l_20, l_21, l_22, l_23, l_24, l_25, l_26, l_28, l_29, l_30, l_31, l_32, l_33, l_34, l_36, l_37, l_38, l_39, l_40, l_41, l_42, l_43, l_44, l_45, l_46, l_47, l_48, l_49, l_50, l_53, l_54, l_57, l_58, l_59, l_60, l_61, l_62, l_63, l_91, l_93, l_97, l_98, l_99, l_100, l_103, l_104, l_110, l_112, l_114, l_115, l_116, l_119, l_120, l_121, l_124, l_128, l_231, l_240, l_241, l_255, l_496, l_999, l_1000, l_8191, l_9999, l_10000, l_100000, l_200000, l_1000000, l_1000000000, n_add, n_ok, n_cl, n_lt, n_le, n_eq, p_0, p_1, p_01]; omega
    rw [if_neg x4, hn3, Option.bind_some, c_itemOf ht hsgc, Option.bind_some]
    have F0 : Fr (fun j => j = 1 ∨ j = w2) g (st g p) := st_fr Fr.rf (Or.inl rfl)
    have hend' := c_endsClause (La := La) hst
    rw [hnn, st_st] at hend'
    have k70 : fX7_readItems_70 La w1 w2 (st g p) = some (if sg b len p = some 59 ∨ sg b len p = none then (nI 1, st g p) else (nI 0, gz_wa (st g p) 1 (upd ((st g p).1 1) 3 (nI p)))) := by
      unfold fX7_readItems_70
      rw [hend', Option.bind_some]
      split
      · exact if_pos (Or.inr rfl)
      · exact if_pos (Or.inl rfl)
    have T0 : CT (gz_wa (st g p) 1 (upd ((st g p).1 1) 3 (nI p))) b len p := hst.wf (by omega)
    have e03 : (gz_wa (st g p) 1 (upd ((st g p).1 1) 3 (nI p))).1 1 3 = nI p := by rw [wa_at]; rfl
    cases hs : (sg b len p).bind (itm t) with
    | none =>
      dsimp only
      rw [if_pos (show oI none = -1 from rfl), k70]
      by_cases ce : sg b len p = some 59 ∨ sg b len p = none
      · rw [if_pos ce, if_pos ce]
        refine ⟨st g p, F0, ⟨p, hst, fun _ => rfl⟩, fun hh => (by cases hh), fun v' hv' => ?_⟩
        cases hv'
        exact ⟨rfl, fun i hi => by rw [st_n (by omega)]; exact hv i hi, fun j _ => by rw [st_n (by omega)]⟩
      · rw [if_neg ce, if_neg ce]
        exact ⟨_, F0.wa (Or.inl rfl), ⟨p, T0, fun hh => absurd rfl hh⟩, fun _ => ⟨rfl, e03⟩, fun v' hv' => by cases hv'⟩
    | some i =>
      obtain ⟨c, hc1, hc2⟩ : ∃ c, sg b len p = some c ∧ itm t c = some i := by
        cases hc : sg b len p with
        | none => rw [hc] at hs; cases hs
        | some c => rw [hc] at hs; exact ⟨c, rfl, hs⟩
      have hi := itm_lt hc2
      have hlp := (sg_lt hc1).1
      have c59 : ¬ (sg b len p = some 59 ∨ sg b len p = none) := by
        have h0 := (ht 0 (by omega)).2.2
        have h4 := (ht 4 (by omega)).2.2
        have h8 := (ht 8 (by omega)).2.2
        have h12 := (ht 12 (by omega)).2.2
        rw [hc1]
        rintro (hh | hh)
        · injection hh with hh
          subst hh
          unfold itm at hc2
          rw [if_neg (by omega), if_neg (by omega), if_neg (by omega), if_neg (by omega)] at hc2
          cases hc2
        · cases hh
      rw [if_neg c59] at k70
      have eb : ((nI u >>> (nI i &&& nI 31)) &&& nI 1 = nI 0) = ¬ u.testBit i = true := by
        rw [n_bit (by omega) (by omega)]
        cases u.testBit i
        · exact propext ⟨fun _ => Bool.false_ne_true, fun _ => rfl⟩
        · exact propext ⟨fun hh => absurd hh (by decide), fun hh => absurd rfl hh⟩
      have ei : oI (some i) = nI i := rfl
      have T1 : CT (st g (p + 1)) b len (p + 1) := h.st (by omega)
      obtain ⟨g1, r1, F1, T2, v1, f1, _⟩ := c_readNumber (La := La) T1 (m := 2) (by omega)
      dsimp only
      by_cases cb : u.testBit i = true
      · rw [if_pos cb]
        have eb' : ¬ ((nI u >>> (nI i &&& nI 31)) &&& nI 1 = nI 0) := by rw [eb]; exact not_not_intro cb
        simp (disch := omega) only [l_0, l_1, l_2, l_3, l_4, l_5, l_6, l_7, l_8, l_9, l_10, l_11, l_12, l_13, l_14, l_15, l_16, l_17, l_18, l_19, l_20, l_21, l_22, l_23, l_24, l_25, l_26, l_28, l_29, l_30, l_31, l_32, l_33, l_34, l_36, l_37, l_38, l_39, l_40, l_41, l_42, l_43, l_44, l_45, l_46, l_47, l_48, l_49, l_50, l_53, l_54, l_57, l_58, l_59, l_60, l_61, l_62, l_63, l_91, l_93, l_97, l_98, l_99, l_100, l_103, l_104, l_110, l_112, l_114, l_115, l_116, l_119, l_120, l_121, l_124, l_128, l_231, l_240, l_241, l_255, l_496, l_999, l_1000, l_8191, l_9999, l_10000, l_100000, l_200000, l_1000000, l_1000000000, ei, m_eq, ↓reduceIte, eb', k70]
        exact ⟨_, F0.wa (Or.inl rfl), ⟨p, T0, fun hh => absurd rfl hh⟩, fun _ => ⟨rfl, e03⟩, fun v' hv' => (by cases hv')⟩
      · rw [if_neg cb]
        have eb' : ((nI u >>> (nI i &&& nI 31)) &&& nI 1 = nI 0) := by rw [eb]; exact cb
        simp (disch := omega) only [l_0, l_1, l_2, l_3, l_4, l_5, l_6, l_7, l_8, l_9, l_10, l_11, l_12, l_13, l_14, l_15, l_16, l_17, l_18, l_19, l_20, l_21, l_22, l_23, l_24, l_25, l_26, l_28, l_29, l_30, l_31, l_32, l_33, l_34, l_36, l_37, l_38, l_39, l_40, l_41, l_42, l_43, l_44, l_45, l_46, l_47, l_48, l_49, l_50, l_53, l_54, l_57, l_58, l_59, l_60, l_61, l_62, l_63, l_91, l_93, l_97, l_98, l_99, l_100, l_103, l_104, l_110, l_112, l_114, l_115, l_116, l_119, l_120, l_121, l_124, l_128, l_231, l_240, l_241, l_255, l_496, l_999, l_1000, l_8191, l_9999, l_10000, l_100000, l_200000, l_1000000, l_1000000000, ei, m_eq, ↓reduceIte, eb', gz_let_eq, st_2, n_add, wi_st, st_st, r1, Option.bind_some]
        have hN2 := numV_v (b := b) (len := len) 2 (nx b len (p + 1)) 0 1 (by omega)
        generalize numV b len 2 (nx b len (p + 1)) 0 = N at *
        generalize nx b len (p + 1) = q at *
        have F1' : Fr (fun j => j = 1 ∨ j = w2) g g1 := (st_fr (S := fun j => j = 1 ∨ j = w2) (g := g) (g' := g) (p := p + 1) Fr.rf (Or.inl rfl)).tr (F1.mo (fun j hj => Or.inl hj))
        by_cases hok : q < N.1 ∧ ¬ dg b len N.1
        · rw [if_neg (not_not_intro hok), if_neg (show ¬ pI (q < N.1 ∧ ¬ dg b len N.1) = nI 0 by rw [p_0]; exact not_not_intro hok)]
          have t1 := (ht (i * 4 + 1) (by omega))
          have t2 := (ht (i * 4 + 2) (by omega))
          have k146 : fX7_readItems_146 La w1 w2 g1 = some (nI 0, gz_wa g1 1 (upd (g1.1 1) 3 (nI (N.1 - 1)))) := by
            unfold fX7_readItems_146
            rw [T2.2.1]
            simp only [l_0, l_1, l_2, l_3, l_4, l_5, l_6, l_7, l_8, l_9, l_10, l_11, l_12, l_13, l_14, l_15, l_16, l_17, l_18, l_19, l_20, l_21, l_22, l_23, l_24, l_25, l_26, l_28, l_29, l_30, l_31, l_32, l_33, l_34, l_36, l_37, l_38, l_39, l_40, l_41, l_42, l_43, l_44, l_45, l_46, l_47, l_48, l_49, l_50, l_53, l_54, l_57, l_58, l_59, l_60, l_61, l_62, l_63, l_91, l_93, l_97, l_98, l_99, l_100, l_103, l_104, l_110, l_112, l_114, l_115, l_116, l_119, l_120, l_121, l_124, l_128, l_231, l_240, l_241, l_255, l_496, l_999, l_1000, l_8191, l_9999, l_10000, l_100000, l_200000, l_1000000, l_1000000000]
            rw [n_sub (by omega) , c_refuse, Option.bind_some]
            exact if_pos (Or.inl rfl)
          have hlN := T2.2.2.1
          simp (disch := omega) only [l_0, l_1, l_2, l_3, l_4, l_5, l_6, l_7, l_8, l_9, l_10, l_11, l_12, l_13, l_14, l_15, l_16, l_17, l_18, l_19, l_20, l_21, l_22, l_23, l_24, l_25, l_26, l_28, l_29, l_30, l_31, l_32, l_33, l_34, l_36, l_37, l_38, l_39, l_40, l_41, l_42, l_43, l_44, l_45, l_46, l_47, l_48, l_49, l_50, l_53, l_54, l_57, l_58, l_59, l_60, l_61, l_62, l_63, l_91, l_93, l_97, l_98, l_99, l_100, l_103, l_104, l_110, l_112, l_114, l_115, l_116, l_119, l_120, l_121, l_124, l_128, l_231, l_240, l_241, l_255, l_496, l_999, l_1000, l_8191, l_9999, l_10000, l_100000, l_200000, l_1000000, l_1000000000, n_mul, n_add, n_ok, n_cl, t1.1, t2.1, n_lt, n_le, ↓reduceIte, v1, k146]
          have k2 : RdI (some (nI 0, gz_wa g1 1 (upd (g1.1 1) 3 (nI (N.1 - 1))))) g b len w2 o (N.1 - 1, none) :=
            ⟨_, F1'.wa (Or.inl rfl), ⟨N.1, T2.wf (by omega), fun hh => absurd rfl hh⟩, fun _ => ⟨rfl, by rw [wa_at]; rfl⟩, fun v' hv' => (by cases hv')⟩
          by_cases ca : N.2 < t (i * 4 + 1)
          · rw [if_pos (Or.inl ca), if_pos ca]
            exact k2
          · by_cases cc : t (i * 4 + 2) < N.2
            · rw [if_pos (Or.inr cc), if_neg ca, if_neg (show ¬ N.2 ≤ t (i * 4 + 2) by omega)]
              exact k2
            · rw [if_neg (show ¬ (N.2 < t (i * 4 + 1) ∨ t (i * 4 + 2) < N.2) by omega), if_neg ca, if_pos (show N.2 ≤ t (i * 4 + 2) by omega)]
              have hu2 : u ||| 2 ^ i < 16 := Nat.or_lt_two_pow (n := 4) hu (Nat.pow_lt_pow_right (by omega) hi)
              have T3 : CT (gz_wa g1 w2 (upd (g1.1 w2) (o + i) (nI N.2))) b len N.1 := CT.fr (S := fun j => j = w2) T2 (Fr.rf.wa rfl) (by omega) (by omega)
              have A1 : g1.1 w2 = g.1 w2 := by rw [F1.1 w2 (by omega), st_n (by omega)]
              have hv3 : ∀ i', i' < 4 → (gz_wa g1 w2 (upd (g1.1 w2) (o + i) (nI N.2))).1 w2 (o + i') = nI (uN v i N.2 i') ∧ uN v i N.2 i' ≤ 99 := by
                intro i' hi'
                rw [wa_at]
                unfold upd uN
                by_cases hh : i' = i
                · rw [if_pos (by omega), if_pos hh]; exact ⟨rfl, by omega⟩
                · rw [if_neg (by omega), if_neg hh, A1]; exact hv i' hi'
              obtain ⟨g', G1, G2, G3, G4⟩ := ih (u ||| 2 ^ i) N.1 (uN v i N.2) _ f' (by omega) hu2 T3 hv3 (by omega)
              have ex : fX7_readItems_35 La w1 w2 (fX7_readItems_70 La w1 w2) (fX7_readItems_146 La w1 w2) f' (nI o) (nI (u ||| 2 ^ i)) (nI (4 - n)) (gz_wa g1 w2 (upd (g1.1 w2) (o + i) (nI N.2))) = fX7_readItems_35 La w1 w2 (fX7_readItems_70 La w1 w2) (fX7_readItems_146 La w1 w2) f' (nI o) (nI u ||| nI 1 <<< (nI i &&& nI 31)) (nI (4 - (n + 1) + 1)) (gz_wi g1 w2 (o + i) (nI N.2)) := by
                rw [n_shl1 (by omega), n_or, wi_wa, show 4 - (n + 1) + 1 = 4 - n by omega]
              rw [← ex]
              refine ⟨g', (F1'.wa (Or.inr rfl)).tr G1, G2, G3, fun v' hv' => ?_⟩
              obtain ⟨G5, G6, G7⟩ := G4 v' hv'
              refine ⟨G5, G6, fun j hj => ?_⟩
              rw [G7 j hj, wa_at]
              unfold upd
              rw [if_neg (by omega), A1]
        · rw [if_pos hok, if_pos (show pI (q < N.1 ∧ ¬ dg b len N.1) = nI 0 by rw [p_0]; exact hok)]
          exact ⟨g1, F1', ⟨N.1, T2, fun hh => absurd rfl hh⟩, fun _ => ⟨rfl, f1 hok⟩, fun v' hv' => (by cases hv')⟩
end C7
