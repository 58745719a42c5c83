/-! calls of the class: feed, end, fault -/
abbrev tb (l : List Nat) : Nat → Nat := fun k => l.getD k 0
abbrev FA (j : Nat) : Prop := j = 1 ∨ j = 2 ∨ j = 3 ∨ j = 4 ∨ (15 ≤ j ∧ j ≤ 20)
/-- where texts fail -/
def ft (l : List Nat) (x : Int32) : Int32 :=
  if x = 0 then (if (pSh (tb l) l.length 11 sh0 0).2 = none then nI (pSh (tb l) l.length 11 sh0 0).1 else -nI 1)
  else if x = 1 then (if (pLawT (tb l) l.length).2 = none then nI (pLawT (tb l) l.length).1 else -nI 1)
  else if x = 2 then (if (pEv (tb l) l.length 16 0).2 = none then nI (pEv (tb l) l.length 16 0).1 else -nI 1)
  else -nI 2
section C11
variable {La : gz_L} {g : gz_S} {l : List Nat}
theorem c_rew : fX9_rewind La (st g 0) = fX9_rewind La g := by
  unfold fX9_rewind st
  simp only [gz_let_eq, wi_wa, wa_at, wa_wa, upd_upd]
theorem c_rewS : fX7_readShore La (st g 0) = fX7_readShore La g := by
  unfold fX7_readShore fX7_clear; rw [c_rew]
theorem c_rewL : fX4_readLaw La (st g 0) = fX4_readLaw La g := by
  unfold fX4_readLaw; rw [c_rew]
theorem c_rewE : fX1_readEvening La (st g 0) = fX1_readEvening La g := by
  unfold fX1_readEvening; rw [c_rew]
theorem c_fault (h : TP g l) (x : Int32) : ∃ g', fX11_fault La x g = some (ft l x, g') ∧ Fr FA g g' ∧ TP g' l := by
  have hc := h.ct (Nat.zero_le _)
  have F0 : Fr FA g (st g 0) := st_fr Fr.rf (Or.inl rfl)
  unfold fX11_fault ft
  by_cases x0 : x = 0
  · rw [if_pos x0, if_pos x0]
    obtain ⟨g', G1, ⟨a, G2⟩, G3, G4⟩ := c_readShore (La := La) hc
    rw [c_rewS] at G3 G4
    refine ⟨g', ?_, F0.tr (G1.mo (fun j hj => by unfold FA; omega)), CT.tp G2⟩
    cases hs : (pSh (tb l) l.length 11 sh0 0).2 with
    | none =>
      obtain ⟨G5, G6⟩ := G3 hs
      rw [G5, Option.bind_some]
      refine (if_pos rfl).trans ?_
      rw [if_pos rfl]
      exact congrArg (fun v => some (v, g')) G6
    | some S =>
      rw [(G4 S hs).1, Option.bind_some]
      refine (if_neg (show ¬ nI 1 = 0 by decide)).trans ?_
      rw [if_neg (fun hh => by cases hh)]
      rfl
  rw [if_neg x0, if_neg x0]
  by_cases x1 : x = 1
  · rw [if_pos x1, if_pos x1]
    obtain ⟨g', G1, ⟨a, G2⟩, G3, G4⟩ := c_readLaw (La := La) hc
    rw [c_rewL] at G3 G4
    refine ⟨g', ?_, F0.tr (G1.mo (fun j hj => by unfold FA; omega)), CT.tp G2⟩
    cases hs : (pLawT (tb l) l.length).2 with
    | none =>
      obtain ⟨G5, G6⟩ := G3 hs
      rw [G5, Option.bind_some]
      refine (if_pos rfl).trans ?_
      rw [if_pos rfl]
      exact congrArg (fun v => some (v, g')) G6
    | some S =>
      rw [(G4 S hs).1, Option.bind_some]
      refine (if_neg (show ¬ nI 1 = 0 by decide)).trans ?_
      rw [if_neg (fun hh => by cases hh)]
      rfl
  rw [if_neg x1, if_neg x1]
  by_cases x2 : x = 2
  · rw [if_pos x2, if_pos x2]
    obtain ⟨g', G1, ⟨a, G2⟩, G3, G4⟩ := c_readEvening (La := La) hc
    rw [c_rewE] at G3 G4
    refine ⟨g', ?_, F0.tr (G1.mo (fun j hj => by unfold FA; omega)), CT.tp G2⟩
    cases hs : (pEv (tb l) l.length 16 0).2 with
    | none =>
      obtain ⟨G5, G6⟩ := G3 hs
      rw [G5, Option.bind_some]
      refine (if_pos rfl).trans ?_
      rw [if_pos rfl]
      exact congrArg (fun v => some (v, g')) G6
    | some S =>
      rw [(G4 S hs).1, Option.bind_some]
      refine (if_neg (show ¬ nI 1 = 0 by decide)).trans ?_
      rw [if_neg (fun hh => by cases hh)]
      rfl
  rw [if_neg x2, if_neg x2]
  exact ⟨g, rfl, Fr.rf, h⟩
theorem c_end (h : TP g l) {x : Int32} : ∃ g', fX11_end La x g = some (pI (0 ≤ x.toInt ∧ x.toInt ≤ l.length), g') ∧ Fr (fun j => j = 1) g g' ∧ TP g' (if 0 ≤ x.toInt ∧ x.toInt ≤ l.length then l.take x.toInt.toNat else l) := by
  have hl := h.2.1
  have e0 : (x < 0) = (x.toInt < 0) := propext Int32.lt_iff_toInt_lt
  have e1 : (x ≤ g.1 1 1) = (x.toInt ≤ l.length) := by rw [h.1]; exact x_le (by omega)
  unfold fX11_end
  by_cases c0 : x.toInt < 0
  · rw [if_pos (by rw [e0]; exact c0), if_neg (by omega)]
    exact ⟨g, p_f (by omega), Fr.rf, h⟩
  rw [if_neg (by rw [e0]; exact c0)]
  by_cases c1 : x.toInt ≤ l.length
  · rw [if_pos (by rw [e1]; exact c1), if_pos (by omega)]
    refine ⟨gz_wi g 1 1 x, p_t (by omega), Fr.rf.wi rfl, ?_⟩
    obtain ⟨n, hn, hn2⟩ : ∃ n : Nat, x.toInt = n ∧ n ≤ l.length := ⟨x.toInt.toNat, by omega, by omega⟩
    have hx : x = nI n := by rw [x_eq (by omega)]; exact hn
    have ht : x.toInt.toNat = n := by omega
    rw [ht, wi_wa]
    refine ⟨?_, ?_, fun k hk => ?_⟩
    · rw [wa_at, List.length_take, Nat.min_eq_left hn2, ← hx]; exact if_pos rfl
    · rw [List.length_take]; omega
    · rw [List.length_take] at hk
      have e : (l.take n).getD k 0 = l.getD k 0 := by
        rw [List.getD_eq_getElem?_getD, List.getD_eq_getElem?_getD, List.getElem?_take_of_lt (by omega)]
      rw [e, wa_ne (by omega)]
      exact h.2.2 k (by omega)
  · rw [if_neg (by rw [e1]; exact c1), if_neg (by omega)]
    exact ⟨g, p_f (by omega), Fr.rf, h⟩
theorem c_feed (h : TP g l) {a1 a2 a3 a4 a5 : Nat} (h1 : a1 < 4294967296) (h2 : a2 < 4294967296) (h3 : a3 < 4294967296) (h4 : a4 < 4294967296) (h5 : a5 < 4294967296) :
    ∃ g', fX11_feed La (nI a1) (nI a2) (nI a3) (nI a4) (nI a5) g = some (if (l ++ bts a1 ++ bts a2 ++ bts a3 ++ bts a4 ++ bts a5).length ≤ 240 then nI (l ++ bts a1 ++ bts a2 ++ bts a3 ++ bts a4 ++ bts a5).length else -nI 1, g') ∧ Fr (fun j => j = 1 ∨ j = 14) g g' ∧
      TP g' (if (l ++ bts a1 ++ bts a2 ++ bts a3 ++ bts a4 ++ bts a5).length ≤ 240 then l ++ bts a1 ++ bts a2 ++ bts a3 ++ bts a4 ++ bts a5 else l) := by
  have hb : ∀ a k, (bp a k).length ≤ 1 := fun a k => by unfold bp; split <;> first | exact Nat.zero_le _ | exact Nat.le_refl _
  have hb4 : ∀ a, (bts a).length ≤ 4 := fun a => by
    unfold bts
    rw [List.length_append, List.length_append, List.length_append]
    have := hb a 24; have := hb a 16; have := hb a 8; have := hb a 0
    omega
  have b1 := hb4 a1
  have b2 := hb4 a2
  have b3 := hb4 a3
  have b4 := hb4 a4
  have b5 := hb4 a5
  have hl := h.2.1
  have el : (l ++ bts a1 ++ bts a2 ++ bts a3 ++ bts a4 ++ bts a5).length = l.length + ((((bts a1).length + (bts a2).length) + (bts a3).length + (bts a4).length) + (bts a5).length) := by
    simp only [List.length_append]; omega
  unfold fX11_feed
  simp (disch := omega) only [c_filled h1, c_filled h2, c_filled h3, c_filled h4, c_filled h5, Option.bind_some, gz_let_eq, h.1, n_add, l_0, l_1, l_2, l_3, l_4, l_5, l_6, l_7, l_8, l_9, l_10, l_11, l_12, l_13, l_14, l_15, l_16, l_17, l_18, l_19, l_20, l_21, l_22, l_23, l_24, l_25, l_26, l_28, l_29, l_30, l_31, l_32, l_33, l_34, l_36, l_37, l_38, l_39, l_40, l_41, l_42, l_43, l_44, l_45, l_46, l_47, l_48, l_49, l_50, l_53, l_54, l_57, l_58, l_59, l_60, l_61, l_62, l_63, l_91, l_93, l_97, l_98, l_99, l_100, l_103, l_104, l_110, l_112, l_114, l_115, l_116, l_119, l_120, l_121, l_124, l_128, l_231, l_240, l_241, l_255, l_496, l_999, l_1000, l_8191, l_9999, l_10000, l_100000, l_200000, l_1000000, l_1000000000, n_le]
  by_cases hf : (l ++ bts a1 ++ bts a2 ++ bts a3 ++ bts a4 ++ bts a5).length ≤ 240
  · rw [if_pos hf, if_pos hf, if_pos (by omega)]
    have hl2 : ∀ x y : List Nat, (x ++ y).length = x.length + y.length := fun x y => List.length_append
    obtain ⟨g1, r1, F1, T1, _⟩ := c_add9 (La := La) h1 h (by rw [hl2]; omega)
    obtain ⟨g2, r2, F2, T2, _⟩ := c_add9 (La := La) h2 T1 (by rw [hl2, hl2]; omega)
    obtain ⟨g3, r3, F3, T3, _⟩ := c_add9 (La := La) h3 T2 (by rw [hl2, hl2, hl2]; omega)
    obtain ⟨g4, r4, F4, T4, _⟩ := c_add9 (La := La) h4 T3 (by rw [hl2, hl2, hl2, hl2]; omega)
    obtain ⟨g5, r5, F5, T5, _⟩ := c_add9 (La := La) h5 T4 hf
    refine ⟨g5, ?_, (((F1.tr F2).tr F3).tr F4).tr F5, T5⟩
    rw [r1, Option.bind_some, r2, Option.bind_some, r3, Option.bind_some, r4, Option.bind_some, r5, Option.bind_some, T5.1]
  · rw [if_neg hf, if_neg hf, if_neg (by omega)]
    exact ⟨g, rfl, Fr.rf, h⟩
end C11
