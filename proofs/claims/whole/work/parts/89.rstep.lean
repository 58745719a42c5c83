/-! the reference: steps, goers -/
abbrev KW : Nat → Prop := fun k => (8 ≤ k ∧ k ≤ 14 ∨ k = 17) ∨ k = 38 ∨ k = 39
abbrev SW (w : Nat) : Nat → Prop := fun j => j = w ∨ j = 43 ∨ j = 55 ∨ j = 56
def RG (w : Nat) (g g' : gz_S) : Prop := Fy KL (SW w) g g' ∧ ∀ j, 50 ≤ j → g'.1 w j = g.1 w j
abbrev isW (w : Nat) : Prop := w = 53 ∨ w = 54
def CX (g : gz_S) (w : Nat) (V : Nat → Nat) (Ls : List (List Nat)) (cur : Option Nat) : Prop := RV g w V ∧ RK g V ∧ RLw g Ls cur
theorem RG.z0 {w : Nat} {g : gz_S} : RG w g g := ⟨Fy.z0, fun _ _ => rfl⟩
theorem RG.tr {w : Nat} {g g' g'' : gz_S} (h : RG w g g') (h' : RG w g' g'') : RG w g g'' := ⟨h.1.tr h'.1, fun j hj => (h'.2 j hj).trans (h.2 j hj)⟩
theorem RG.up {w k : Nat} {g g' : gz_S} {x : Int32} (hw : isW w) (h : RG w g g') (hk : k < 50) : RG w g (gz_wi g' w k x) :=
  ⟨h.1.s (by omega) (Or.inl rfl), fun j hj => by rw [wi_sn (by omega)]; exact h.2 j hj⟩
theorem RG.l {w : Nat} {g g' g'' : gz_S} (hw : isW w) (h : RG w g g') (hF : Fy KL SL g' g'') : RG w g g'' :=
  ⟨h.1.tr (hF.mo (fun k hk => hk) (fun j hj => Or.inr hj)), fun j hj => by rw [hF.1 w (by omega) (by omega)]; exact h.2 j hj⟩
/-- of a whole hour: also which met and who ended -/
def RGp (w : Nat) (g g' : gz_S) : Prop := Fy KW (SW w) g g' ∧ ∀ j, 50 ≤ j → g'.1 w j = g.1 w j
theorem RGp.z0 {w : Nat} {g : gz_S} : RGp w g g := ⟨Fy.z0, fun _ _ => rfl⟩
theorem RGp.tr {w : Nat} {g g' g'' : gz_S} (h : RGp w g g') (h' : RGp w g' g'') : RGp w g g'' := ⟨h.1.tr h'.1, fun j hj => (h'.2 j hj).trans (h.2 j hj)⟩
theorem RG.p {w : Nat} {g g' : gz_S} (h : RG w g g') : RGp w g g' := ⟨h.1.mo (fun k hk => Or.inl hk) (fun j hj => hj), h.2⟩
theorem RGp.f {w k : Nat} {g g' : gz_S} {x : Int32} (hw : isW w) (h : RGp w g g') (hk : k = 38 ∨ k = 39) : RGp w g (gz_wi g' 39 k x) :=
  ⟨h.1.w (Or.inr hk), fun j hj => by rw [wi_no (by omega)]; exact h.2 j hj⟩
theorem RGp.up {w k : Nat} {g g' : gz_S} {x : Int32} (hw : isW w) (h : RGp w g g') (hk : k < 50) : RGp w g (gz_wi g' w k x) :=
  ⟨h.1.s (by omega) (Or.inl rfl), fun j hj => by rw [wi_sn (by omega)]; exact h.2 j hj⟩
section RW
variable {g : gz_S} {w : Nat} {V : Nat → Nat} {B : Nat} {La : gz_L} {Ls : List (List Nat)} {cur : Option Nat}
theorem CX.up {k j x : Nat} (hw : isW w) (h : CX g w V Ls cur) (hk : k < 50) (hj : rp k = j) : CX (gz_wi g w j (nI x)) w (uN V k x) Ls cur := by
  subst hj
  have F : Fy KW (SW w) g (gz_wi g w (rp k) (nI x)) := Fy.z0.s (by omega) (Or.inl rfl)
  have h1 := h.2.1.fr F (by omega) (by omega) (by omega)
  refine ⟨h.1.up hk, ?_, h.2.2.fr (K := fun _ => False) (S := fun j => j = w) (Fy.z0.s (by omega) rfl) id id (by omega) (by omega) (by omega) (by omega) (by omega)⟩
  refine ⟨by rw [uN_n (by omega)]; exact h1.1, by rw [uN_n (by omega)]; exact h1.2.1, by rw [uN_n (by omega)]; exact h1.2.2.1, fun i hi => ?_⟩
  rw [uN_n (by omega)] at hi
  rw [uN_n (by omega), uN_n (by omega)]
  exact h1.2.2.2 i hi
theorem CX.l {g' : gz_S} (hw : isW w) (h : CX g w V Ls cur) (hF : Fy KL SL g g') (hL : RLw g' Ls cur) : CX g' w V Ls cur :=
  ⟨h.1.fr (hF.1 w (by omega) (by omega)), h.2.1.fr hF (by omega) (by omega) (by omega), hL⟩
theorem CX.f {k : Nat} {x : Int32} (hw : isW w) (h : CX g w V Ls cur) (hk : k = 38 ∨ k = 39) : CX (gz_wi g 39 k x) w V Ls cur :=
  ⟨h.1.fr (wi_no (by omega)), h.2.1.fr (K := fun j => j = k) (S := fun _ => False) (Fy.z0.w rfl) id id (by omega), h.2.2.fr (K := fun j => j = k) (S := fun _ => False) (Fy.z0.w rfl) (by omega) (by omega) id id id id id⟩
theorem CX.at0 {i : Nat} (h : CX g w V Ls cur) (hi : i < 4) : g.1 w (30 + 4 * i + 0) = nI (V (30 + i)) ∧ g.1 w (30 + 4 * i + 1) = nI (V (34 + i)) ∧ g.1 w (30 + 4 * i + 2) = nI (V (38 + i)) ∧ g.1 w (30 + 4 * i + 3) = nI (V (42 + i)) := by
  refine ⟨?_, ?_, ?_, ?_⟩
  · rw [← rp_0 hi]; exact h.1 _ (by omega)
  · rw [← rp_1 hi]; exact h.1 _ (by omega)
  · rw [← rp_2 hi]; exact h.1 _ (by omega)
  · rw [← rp_3 hi]; exact h.1 _ (by omega)
theorem CX.at46 {k : Nat} (h : CX g w V Ls cur) (hk : 46 ≤ k ∧ k < 50) : g.1 w k = nI (V k) := by
  have := h.1 k hk.2
  rw [rp_n hk.1] at this; exact this
theorem r_turnOf (hw : isW w) (h : CX g w V Ls cur) (hW : Wf B V) {i : Nat} (hi : i < V 60) : ∃ g', fX12_turnOf La w (nI i) (nI (V (50 + i))) g = some (nI (sTurn (sTof Ls cur) V i), g') ∧ Fy KL SL g g' ∧ RLw g' Ls cur := by
  have h60 := hW.2.2.2.1.2
  have hi4 : i < 4 := by omega
  obtain ⟨a0, a1, a2, a3⟩ := h.at0 hi4
  have a49 := h.at46 (k := 49) (by omega)
  obtain ⟨c1, c2, c3, c4, c5, c6⟩ := hW.2.2.2.2.2.2.2.2.2.1 i hi4
  obtain ⟨d1, d2, d3⟩ := hW.2.2.2.2.2.2.2.2.2.2 i hi
  have b38 := hW.1 (38 + i)
  have b49 := hW.1 49
  have hA := r_aheadOf (La := La) h.1 h.2.1 hW d1 (d := V (34 + i)) (by omega)
  have hA2 := r_aheadOf (La := La) h.1 h.2.1 hW d1 (d := (V (34 + i) + 1) % 4) (by omega)
  have s1 : sAhd V i (V (34 + i)) ≤ 3 := sLie_le
  have s2 : sAhd V i ((V (34 + i) + 1) % 4) ≤ 3 := sLie_le
  have hA : fX12_aheadOf La w (nI (V (30 + i))) (nI (V (34 + i))) g = some (nI (sAhd V i (V (34 + i))), g) := hA
  have hA2 : fX12_aheadOf La w (nI (V (30 + i))) (nI ((V (34 + i) + 1) % 4)) g = some (nI (sAhd V i ((V (34 + i) + 1) % 4)), g) := hA2
  generalize hrr : sAhd V i ((V (34 + i) + 1) % 4) = rr at *
  have hm4 : nI (V (34 + i) + 1) - nI (V (34 + i) + 1) / nI 4 * nI 4 = nI ((V (34 + i) + 1) % 4) := n_mod (by omega) (by omega)
  have hm100 : nI (V (38 + i)) - nI (V (38 + i)) / nI 100 * nI 100 = nI (V (38 + i) % 100) := n_mod (by omega) (by omega)
  have hm24 : nI (V 49) - nI (V 49) / nI 24 * nI 24 = nI (V 49 % 24) := n_mod (by omega) (by omega)
  have r34 := h.2.2.2.2.2.2.1
  unfold fX12_turnOf
  cases cur with
  | none =>
    have r34 : g.1 39 34 = -nI 1 := r34
    refine ⟨g, ?_, Fy.z0, h.2.2⟩
    simp (disch := omega) only [l_0, l_1, l_2, l_3, l_4, l_5, l_6, l_7, l_8, l_9, l_10, l_11, l_12, l_13, l_14, l_15, l_16, l_17, l_18, l_19, l_20, l_21, l_22, l_23, l_24, l_25, l_26, l_28, l_29, l_30, l_31, l_32, l_33, l_34, l_36, l_37, l_38, l_39, l_40, l_41, l_42, l_43, l_44, l_45, l_46, l_47, l_48, l_49, l_50, l_53, l_54, l_57, l_58, l_59, l_60, l_61, l_62, l_63, l_91, l_93, l_97, l_98, l_99, l_100, l_103, l_104, l_110, l_112, l_114, l_115, l_116, l_119, l_120, l_121, l_124, l_128, l_231, l_240, l_241, l_255, l_496, l_999, l_1000, l_8191, l_9999, l_10000, l_100000, l_200000, l_1000000, l_1000000000, gz_let_eq, n_mul, n_add, n_ok, n_cl, ↓reduceIte, a0, a1, hA, Option.bind_some, hm4, r34, n_eq]
    show _ = some (nI (if sAhd V i (V (34 + i)) = 1 then (V (34 + i) + 1) % 4 else V (34 + i)), g)
    by_cases c : sAhd V i (V (34 + i)) = 1
    · rw [if_pos c, if_pos c]
    · rw [if_neg c, if_neg c]
  | some L =>
    have r34 : g.1 39 34 = nI L := r34
    have hLl := h.2.2.2.2.2.2.2 L rfl
    have hL4 := h.2.2.1.2
    have hne : (nI L = -nI 1) = False := m_eq (by omega)
    obtain ⟨g', u1, u2, u3⟩ := r_worthOf (La := La) (b := V (34 + i)) (a := sAhd V i (V (34 + i))) (r := rr) (p := V (50 + i)) (n := V (38 + i) % 100) (h := V 49 % 24) h.2.2 ⟨by omega, by omega, by omega, by omega, Nat.mod_lt _ (by omega), Nat.mod_lt _ (by omega)⟩
    refine ⟨g', ?_, u2, u3⟩
    simp (disch := omega) only [l_0, l_1, l_2, l_3, l_4, l_5, l_6, l_7, l_8, l_9, l_10, l_11, l_12, l_13, l_14, l_15, l_16, l_17, l_18, l_19, l_20, l_21, l_22, l_23, l_24, l_25, l_26, l_28, l_29, l_30, l_31, l_32, l_33, l_34, l_36, l_37, l_38, l_39, l_40, l_41, l_42, l_43, l_44, l_45, l_46, l_47, l_48, l_49, l_50, l_53, l_54, l_57, l_58, l_59, l_60, l_61, l_62, l_63, l_91, l_93, l_97, l_98, l_99, l_100, l_103, l_104, l_110, l_112, l_114, l_115, l_116, l_119, l_120, l_121, l_124, l_128, l_231, l_240, l_241, l_255, l_496, l_999, l_1000, l_8191, l_9999, l_10000, l_100000, l_200000, l_1000000, l_1000000000, gz_let_eq, n_mul, n_add, n_ok, n_cl, ↓reduceIte, a0, a1, a2, a49, hA, hA2, Option.bind_some, hm4, hm100, hm24, r34, hne, u1]
    rw [← hrr]; rfl
theorem r_goStep (hw : isW w) (h : CX g w V Ls cur) (hW : Wf B V) {i : Nat} (hi : i < V 60) : ∃ g', fX12_goStep La w (nI i) (nI (V (50 + i))) g = some g' ∧ RG w g g' ∧ CX g' w (sStep (sTof Ls cur) V i) Ls cur := by
  have h60 := hW.2.2.2.1.2
  have h30 := hW.cells
  have hi4 : i < 4 := by omega
  obtain ⟨g1, r1, r2, r3⟩ := r_turnOf (La := La) hw h hW hi
  have hl := sTurn_lt (i := i) (V := V) (sTof_lt (Ls := Ls) (cur := cur)) (hW.2.2.2.2.2.2.2.2.2.1 i hi4).2.1
  have h1 := h.l hw r2 r3
  have G1 : RG w g g1 := RG.z0.l hw r2
  unfold sStep fX12_goStep
  generalize sTurn (sTof Ls cur) V i = l at *
  have h2 := h1.up hw (k := 34 + i) (x := l) (by omega) (rp_1 hi4)
  have G2 : RG w g (gz_wi g1 w (30 + 4 * i + 1) (nI l)) := G1.up hw (by omega)
  obtain ⟨d1, d2, d3⟩ := hW.2.2.2.2.2.2.2.2.2.2 i hi
  obtain ⟨c1, c2, c3, c4, c5, c6⟩ := hW.2.2.2.2.2.2.2.2.2.1 i hi4
  have hW2 : Wf B (uN V (34 + i) l) := hW.up (by omega) (by omega) (by omega) (by omega) (by omega) (by omega) (by omega) (by omega) (by omega) (by omega) (by omega) (by omega) (by omega)
  have e58 : uN V (34 + i) l 58 = V 58 := uN_n (by omega)
  have e59 : uN V (34 + i) l 59 = V 59 := uN_n (by omega)
  have e30 : uN V (34 + i) l (30 + i) = V (30 + i) := uN_n (by omega)
  have e34 : uN V (34 + i) l (34 + i) = l := uN_s _ _ _
  have hA := r_aheadOf (La := La) h2.1 h2.2.1 hW2 (c := V (30 + i)) (d := l) (by rw [e58, e59]; exact d1) hl
  have hN := r_nextCell (La := La) h2.2.1 hW2 (c := V (30 + i)) (d := l) (by rw [e58, e59]; exact d1) hl
  have hs : sLie (uN V (34 + i) l) (sBes (uN V (34 + i) l) (V (30 + i)) l) = sAhd V i l := by
    have := sAhd_uN (k := 34 + i) (x := l) (d := l) hW hi4 d1 (by omega) (by omega) (by omega) (by omega)
    unfold sAhd at this ⊢
    rw [e30] at this; exact this
  rw [hs] at hA
  rw [sBes_uN (by omega) (by omega)] at hN
  obtain ⟨a0, a1, a2, a3⟩ := h2.at0 hi4
  rw [e30] at a0
  rw [e34] at a1
  have s1 : sAhd V i l ≤ 3 := sLie_le
  have gen : ∀ Q : Option gz_S, (if nI (sAhd V i l) = nI 1 then some (gz_wi g1 w (30 + 4 * i + 1) (nI l)) else (fX12_nextCell La (nI (V (30 + i))) (nI l) (gz_wi g1 w (30 + 4 * i + 1) (nI l))).bind (fun q65 => gz_let (gz_wi q65.2 w (30 + 4 * i + 0) q65.1) (fun g68 => gz_let (gz_wi g68 w (30 + 4 * i + 2) ((g68.1 w (30 + 4 * i + 2)) + 1)) (fun g78 => if nI (sAhd V i l) = nI 2 then gz_let (gz_wi g78 w (30 + 4 * i + 3) 2) (fun g91 => fX12_goStep_92 La w (nI (30 + 4 * i)) (nI (sAhd V i l)) g91) else fX12_goStep_92 La w (nI (30 + 4 * i)) (nI (sAhd V i l)) g78)))) = Q →
      fX12_goStep La w (nI i) (nI (V (50 + i))) g = Q := by
    intro Q hQ
    unfold fX12_goStep
    rw [ix_0, gz_let_eq, r1, Option.bind_some]
    simp (disch := omega) only [l_0, l_1, l_2, l_3, l_4, l_5, l_6, l_7, l_8, l_9, l_10, l_11, l_12, l_13, l_14, l_15, l_16, l_17, l_18, l_19, l_20, l_21, l_22, l_23, l_24, l_25, l_26, l_28, l_29, l_30, l_31, l_32, l_33, l_34, l_36, l_37, l_38, l_39, l_40, l_41, l_42, l_43, l_44, l_45, l_46, l_47, l_48, l_49, l_50, l_53, l_54, l_57, l_58, l_59, l_60, l_61, l_62, l_63, l_91, l_93, l_97, l_98, l_99, l_100, l_103, l_104, l_110, l_112, l_114, l_115, l_116, l_119, l_120, l_121, l_124, l_128, l_231, l_240, l_241, l_255, l_496, l_999, l_1000, l_8191, l_9999, l_10000, l_100000, l_200000, l_1000000, l_1000000000, n_add, n_ok, n_cl, ↓reduceIte]
    rw [gz_let_eq, a0, a1, hA, Option.bind_some]
    rw [a0, a1]
    exact hQ
  unfold sGo
  by_cases c1 : sAhd V i l = 1
  · rw [if_pos c1]
    refine ⟨_, gen _ (if_pos (by rw [c1])), G2, h2⟩
  · rw [if_neg c1]
    have hsome : ∃ q, sBes V (V (30 + i)) l = some q := by
      cases ho : sBes V (V (30 + i)) l with
      | none => exfalso; apply c1; unfold sAhd; rw [ho]; rfl
      | some q => exact ⟨q, rfl⟩
    obtain ⟨q, hq⟩ := hsome
    rw [hq] at hN ⊢
    have e38 : uN (uN V (34 + i) l) (30 + i) q (38 + i) = V (38 + i) := by rw [uN_n (by omega), uN_n (by omega)]
    have h3 := h2.up hw (k := 30 + i) (x := q) (by omega) (rp_0 hi4)
    have G3 := G2.up hw (k := 30 + 4 * i + 0) (x := nI q) (by omega)
    have w2 := (h3.at0 hi4).2.2.1
    rw [e38] at w2
    have h4 := h3.up hw (k := 38 + i) (x := V (38 + i) + 1) (by omega) (rp_2 hi4)
    have G4 := G3.up hw (k := 30 + 4 * i + 2) (x := nI (V (38 + i) + 1)) (by omega)
    have gen2 : ∀ Q : Option gz_S, (if nI (sAhd V i l) = nI 2 then gz_let (gz_wi (gz_wi (gz_wi (gz_wi g1 w (30 + 4 * i + 1) (nI l)) w (30 + 4 * i + 0) (nI q)) w (30 + 4 * i + 2) (nI (V (38 + i) + 1))) w (30 + 4 * i + 3) 2) (fun g91 => fX12_goStep_92 La w (nI (30 + 4 * i)) (nI (sAhd V i l)) g91) else fX12_goStep_92 La w (nI (30 + 4 * i)) (nI (sAhd V i l)) (gz_wi (gz_wi (gz_wi g1 w (30 + 4 * i + 1) (nI l)) w (30 + 4 * i + 0) (nI q)) w (30 + 4 * i + 2) (nI (V (38 + i) + 1)))) = Q →
        fX12_goStep La w (nI i) (nI (V (50 + i))) g = Q := by
      intro Q hQ
      refine gen Q ?_
      rw [if_neg (show ¬ nI (sAhd V i l) = nI 1 by rw [n_eq (by omega) (by omega)]; exact c1), hN, Option.bind_some]
      show gz_let (gz_wi (gz_wi g1 w (30 + 4 * i + 1) (nI l)) w (30 + 4 * i + 0) (nI q)) _ = Q
      rw [gz_let_eq, w2, show nI (V (38 + i)) + (1 : Int32) = nI (V (38 + i) + 1) from n_add _ _, gz_let_eq]
      exact hQ
    show ∃ g', _ ∧ _ ∧ CX g' w ((if sAhd V i l = 2 then fun W => uN W (42 + i) 2 else if sAhd V i l = 3 then fun W => uN W (42 + i) 1 else fun W => W) (uN (uN (uN V (34 + i) l) (30 + i) q) (38 + i) (V (38 + i) + 1))) Ls cur
    by_cases c2 : sAhd V i l = 2
    · rw [if_pos c2]
      refine ⟨_, gen2 _ ((if_pos (show nI (sAhd V i l) = nI 2 by rw [c2])).trans ?_), G4.up hw (k := 30 + 4 * i + 3) (x := nI 2) (by omega), h4.up hw (k := 42 + i) (x := 2) (by omega) (rp_3 hi4)⟩
      rw [gz_let_eq]
      unfold fX12_goStep_92
      exact if_neg (show ¬ nI (sAhd V i l) = nI 3 by rw [n_eq (by omega) (by omega)]; omega)
    · rw [if_neg c2]
      by_cases c3 : sAhd V i l = 3
      · rw [if_pos c3]
        refine ⟨_, gen2 _ ((if_neg (show ¬ nI (sAhd V i l) = nI 2 by rw [n_eq (by omega) (by omega)]; exact c2)).trans ?_), G4.up hw (k := 30 + 4 * i + 3) (x := nI 1) (by omega), h4.up hw (k := 42 + i) (x := 1) (by omega) (rp_3 hi4)⟩
        unfold fX12_goStep_92
        refine (if_pos (show nI (sAhd V i l) = nI 3 by rw [c3])).trans ?_
        simp (disch := omega) only [l_0, l_1, l_2, l_3, l_4, l_5, l_6, l_7, l_8, l_9, l_10, l_11, l_12, l_13, l_14, l_15, l_16, l_17, l_18, l_19, l_20, l_21, l_22, l_23, l_24, l_25, l_26, l_28, l_29, l_30, l_31, l_32, l_33, l_34, l_36, l_37, l_38, l_39, l_40, l_41, l_42, l_43, l_44, l_45, l_46, l_47, l_48, l_49, l_50, l_53, l_54, l_57, l_58, l_59, l_60, l_61, l_62, l_63, l_91, l_93, l_97, l_98, l_99, l_100, l_103, l_104, l_110, l_112, l_114, l_115, l_116, l_119, l_120, l_121, l_124, l_128, l_231, l_240, l_241, l_255, l_496, l_999, l_1000, l_8191, l_9999, l_10000, l_100000, l_200000, l_1000000, l_1000000000, n_add, n_ok, n_cl, ↓reduceIte, gz_let_eq]
      · rw [if_neg c3]
        refine ⟨_, gen2 _ ((if_neg (show ¬ nI (sAhd V i l) = nI 2 by rw [n_eq (by omega) (by omega)]; exact c2)).trans ?_), G4, h4⟩
        unfold fX12_goStep_92
        exact if_neg (show ¬ nI (sAhd V i l) = nI 3 by rw [n_eq (by omega) (by omega)]; exact c3)
end RW
