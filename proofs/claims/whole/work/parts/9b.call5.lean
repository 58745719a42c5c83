/-! calls: again, ahead, game -/
section ST
variable {La : gz_L} {g : gz_S} {l : List Nat} {Ls : List (List Nat)} {Es : List (List eS)} {cur : Option Nat} {lv : Nat} {V V0 : Nat → Nat} {a : Nat} {K : Nat → Nat → Nat} {Lg : Nat → Nat} {him : Nat} {IV ILg : Nat → Nat} {s : sS} {B : Nat}
theorem w_again (hw : WR La g B) (hB : B < 400000) (x : Int32) : CallOk La (fX11_again La x) (fX12_again La x) g B := by
  obtain ⟨l, Ls, Es, cur, lv, V, V0, a, K, Lg, him, IV, ILg, s, hC, hR, hI⟩ := hw
  have hg4 := hI.g4
  by_cases q1 : 0 ≤ x.toInt ∧ x.toInt < (V 60 : Int)
  · have h0 : ¬ V 60 = 0 := fun h0 => by omega
    obtain ⟨i, i1, rfl, i3⟩ := x_of (x := x) q1.1
    obtain ⟨hW, h49, _⟩ := hI.2.2.1 h0
    have hi : i < V 60 := by omega
    by_cases yes : V (42 + i) = 0
    · refine CallOk.q (v := oI ((sAgain (sTof Ls cur) V i).map (· + 1))) hC hR hI ?_ (fun g1 hR1 => ?_)
      · obtain ⟨g1, u1, u2⟩ := c_sameAgain (La := La) (hC.cf hW) hB (i := i) (by omega)
        refine ⟨g1, ?_, u2⟩
        unfold fX11_again
        rw [c_hasGoerW hC hI, Option.bind_some]
        refine (if_neg (pI1 q1)).trans ?_
        rw [c_goes (w := 6) hC.2.1 hI.b (by omega), Option.bind_some]
        refine (if_neg (pI1 yes)).trans ?_
        rw [u1, Option.bind_some]
      · obtain ⟨hcx, hkp⟩ := hR1.f0.1.cx hI h0
        obtain ⟨g2, v1, v2, v3, v4⟩ := r_copy (La := La) hcx hkp
        have e53 : g2.1 53 = (gz_wi g1 39 0 0).1 53 := v2.1 53 (by omega) (by omega)
        obtain ⟨n0, n1, n2, n3⟩ := hcx.at0 (i := i) (by omega)
        have n0 : (gz_wi g1 39 0 0).1 53 (30 + 4 * i) = nI (V (30 + i)) := n0
        have hgo := lp (fun f k g3 => fX12_again_46 La f (nI i) (nI (30 + 4 * i)) (nI (k + 1)) g3) (fun k g3 => TQ g2 g3 (sHrs (sTof Ls cur) V k) Ls cur ∧ ∀ j, j < k → ¬ (sOn (sHrs (sTof Ls cur) V (j + 1)) (V (30 + i)) i ∧ sHrs (sTof Ls cur) V (j + 1) (34 + i) = V (34 + i))) 99
          (fun q => ∃ g', q = some (oI ((sAgain (sTof Ls cur) V i).map (· + 1)), g') ∧ Fy KQ SQ g2 g' ∧ RLw g' Ls cur) ?_ ?_ gz_FU 0 g2 (by omega) (by unfold gz_FU; omega) ⟨⟨Fy.z0, v3, v4⟩, fun j hj => absurd hj (Nat.not_lt_zero _)⟩
        · obtain ⟨g', w1, w2, w3⟩ := hgo
          refine ⟨g', ?_, (hR1.f0q.tr v2).tr w2, w3⟩
          unfold fX12_again
          rw [gz_let_eq, hR1.f0.1.isGoer hI, Option.bind_some]
          refine (if_neg (pI1 q1)).trans ?_
          rw [r_does hcx.1 hW.1 (by omega), Option.bind_some]
          refine (if_neg (pI1 yes)).trans ?_
          rw [v1, Option.bind_some, ix_0, gz_let_eq]; exact w1
        · intro f k g3 hk ⟨⟨q1, q2, q3⟩, q4⟩
          have hWk := sHrs_wf (sTof_lt (Ls := Ls) (cur := cur)) hW k (by omega)
          obtain ⟨g4, w1, w2, w3, w4, _⟩ := r_hr (La := La) q2 q3 hWk (by omega)
          rw [← sHrs_s] at w3 w4
          have hWk1 := sHrs_wf (sTof_lt (Ls := Ls) (cur := cur)) hW (k + 1) (by omega)
          obtain ⟨m0, m1, m2, m3⟩ := w3.at0 (i := i) (by omega)
          have m0 : g4.1 54 (30 + 4 * i) = nI (sHrs (sTof Ls cur) V (k + 1) (30 + i)) := m0
          have o0 : g4.1 53 (30 + 4 * i) = nI (V (30 + i)) := by rw [w2.1 53 (by omega) (by omega), q1.1 53 (by omega) (by omega), e53]; exact n0
          have o1 : g4.1 53 (30 + 4 * i + 1) = nI (V (34 + i)) := by rw [w2.1 53 (by omega) (by omega), q1.1 53 (by omega) (by omega), e53]; exact n1
          have b1 := hW.1 (30 + i)
          have b2 := hW.1 (34 + i)
          have b3 := hWk1.1 (30 + i)
          have b4 := hWk1.1 (34 + i)
          have st : ∀ Q : Option (Int32 × gz_S), (if pI (sHrs (sTof Ls cur) V (k + 1) (42 + i) = 0) = 0 then fX12_again_46 La f (nI i) (nI (30 + 4 * i)) (nI (k + 1 + 1)) g4 else if nI (sHrs (sTof Ls cur) V (k + 1) (30 + i)) = nI (V (30 + i)) then if nI (sHrs (sTof Ls cur) V (k + 1) (34 + i)) = nI (V (34 + i)) then some (nI (k + 1), g4) else fX12_again_46 La f (nI i) (nI (30 + 4 * i)) (nI (k + 1 + 1)) g4 else fX12_again_46 La f (nI i) (nI (30 + 4 * i)) (nI (k + 1 + 1)) g4) = Q → fX12_again_46 La (f + 1) (nI i) (nI (30 + 4 * i)) (nI (k + 1)) g3 = Q := by
            intro Q hQ
            rw [fX12_again_46, if_neg (show ¬ (99 : Int32) < nI (k + 1) by show ¬ nI 99 < nI (k + 1); rw [n_lt (by omega) (by omega)]; omega), w1, Option.bind_some, r_does w3.1 hWk1.1 (by omega), Option.bind_some]
            unfold fX12_again_109
            rw [if_pos (n_okP (a := 30 + 4 * i) (n := 231) (by omega) (by omega)), if_pos (n_okP (a := 30 + 4 * i) (n := 231) (by omega) (by omega)), show nI (30 + 4 * i) + (1 : Int32) = nI (30 + 4 * i + 1) from n_add _ 1, if_pos (n_okP (a := 30 + 4 * i + 1) (n := 231) (by omega) (by omega)), if_pos (n_okP (a := 30 + 4 * i + 1) (n := 231) (by omega) (by omega))]
            simp only [n_cl (show 30 + 4 * i < 2147483648 by omega), n_cl (show 30 + 4 * i + 1 < 2147483648 by omega), m0, m1, o0, o1, gz_let_eq, show nI (k + 1) + (1 : Int32) = nI (k + 1 + 1) from n_add _ _]
            exact hQ
          by_cases c : sOn (sHrs (sTof Ls cur) V (k + 1)) (V (30 + i)) i ∧ sHrs (sTof Ls cur) V (k + 1) (34 + i) = V (34 + i)
          · refine Or.inl ⟨g4, st _ ?_, q1.tr w2, w3.2.2⟩
            have : sAgain (sTof Ls cur) V i = some k := ff_some (fun j hj => by rw [decide_eq_false_iff_not]; exact q4 j hj) (by rw [decide_eq_true_eq]; exact c) hk
            rw [if_neg (pI1 c.1.1), if_pos (by rw [c.1.2]), if_pos (by rw [c.2]), this]; rfl
          · refine Or.inr ⟨g4, st _ ?_, ⟨q1.tr w2, w3, w4⟩, fun j hj => ?_⟩
            · by_cases d1 : sHrs (sTof Ls cur) V (k + 1) (42 + i) = 0
              · rw [if_neg (pI1 d1)]
                by_cases d2 : sHrs (sTof Ls cur) V (k + 1) (30 + i) = V (30 + i)
                · rw [if_pos (by rw [d2]), if_neg (by rw [n_eq (by omega) (by omega)]; exact fun hh => c ⟨⟨d1, d2⟩, hh⟩)]
                · rw [if_neg (by rw [n_eq (by omega) (by omega)]; exact d2)]
              · rw [if_pos (pI0 d1)]
            · by_cases cj : j = k
              · rw [cj]; exact c
              · exact q4 j (by omega)
        · intro f g3 ⟨⟨q1, q2, q3⟩, q4⟩
          refine ⟨g3, ?_, q1, q2.2.2⟩
          show fX12_again_46 La (f + 1) (nI i) (nI (30 + 4 * i)) (nI (99 + 1)) g3 = _
          have : sAgain (sTof Ls cur) V i = none := ff_none (fun j hj => by rw [decide_eq_false_iff_not]; exact q4 j hj)
          rw [fX12_again_46, if_pos (show (99 : Int32) < nI (99 + 1) by decide), this]; rfl
    · refine CallOk.no (v := -1) ?_ ?_ hC hR hI
      · unfold fX11_again
        rw [c_hasGoerW hC hI, Option.bind_some]
        refine (if_neg (pI1 q1)).trans ?_
        rw [c_goes (w := 6) hC.2.1 hI.b (by omega), Option.bind_some]
        exact if_pos (pI0 yes)
      · obtain ⟨hcx, hkp⟩ := hR.f0.1.cx hI h0
        unfold fX12_again
        rw [gz_let_eq, hR.f0.1.isGoer hI, Option.bind_some]
        refine (if_neg (pI1 q1)).trans ?_
        rw [r_does hcx.1 hW.1 (by omega), Option.bind_some]
        exact if_pos (pI0 yes)
  · refine CallOk.no (v := -1) ?_ ?_ hC hR hI
    · unfold fX11_again
      rw [c_hasGoerW hC hI, Option.bind_some]
      exact if_pos (pI0 q1)
    · unfold fX12_again
      rw [gz_let_eq, hR.f0.1.isGoer hI, Option.bind_some]
      exact if_pos (pI0 q1)
theorem w_ahead (hw : WR La g B) (hB : B < 400000) (x : Int32) : CallOk La (fX11_ahead La x) (fX12_ahead La x) g B := by
  obtain ⟨l, Ls, Es, cur, lv, V, V0, a, K, Lg, him, IV, ILg, s, hC, hR, hI⟩ := hw
  have hg4 := hI.g4
  by_cases q1 : 0 ≤ x.toInt ∧ x.toInt < (V 60 : Int)
  · have h0 : ¬ V 60 = 0 := fun h0 => by omega
    obtain ⟨i, i1, rfl, i3⟩ := x_of (x := x) q1.1
    obtain ⟨hW, h49, _⟩ := hI.2.2.1 h0
    have hi : i < V 60 := by omega
    have h30 := hW.cells
    have d1 := (hW.2.2.2.2.2.2.2.2.2.2 i hi).1
    have e22 : g.1 22 = fI V := hC.2.1
    have ix : (30 : Int32) + nI i = nI (30 + i) := n_add 30 i
    by_cases yes : V (42 + i) = 0
    · by_cases hu : sUnd V (V (30 + i))
      · refine CallOk.no (v := -1) ?_ ?_ hC hR hI
        · unfold fX11_ahead
          rw [c_hasGoerW hC hI, Option.bind_some]
          refine (if_neg (pI1 q1)).trans ?_
          rw [c_goes (w := 6) hC.2.1 hI.b (by omega), Option.bind_some]
          refine (if_neg (pI1 yes)).trans ?_
          rw [ix]
          refine (if_pos (n_okP (by omega) (by omega))).trans ?_
          show (fX6_under La 6 (g.1 22 (Int32.toNatClampNeg (nI (30 + i)))) g).bind _ = _
          rw [show g.1 22 (Int32.toNatClampNeg (nI (30 + i))) = nI (V (30 + i)) by rw [n_cl (by omega), e22, fI_ap], c_under (w := 6) hC.2.1 hW (by omega), Option.bind_some]
          exact if_neg (pI1 hu)
        · obtain ⟨hcx, hkp⟩ := hR.f0.1.cx hI h0
          have n0 : (gz_wi g 39 0 0).1 53 (30 + 4 * i) = nI (V (30 + i)) := (hcx.at0 (i := i) (by omega)).1
          unfold fX12_ahead
          rw [gz_let_eq, hR.f0.1.isGoer hI, Option.bind_some]
          refine (if_neg (pI1 q1)).trans ?_
          rw [r_does hcx.1 hW.1 (by omega), Option.bind_some, ix_0]
          refine (if_neg (pI1 yes)).trans ((if_pos (n_okP (by omega) (by omega))).trans ?_)
          show (fX12_isUnder La 53 ((gz_wi g 39 0 0).1 53 (Int32.toNatClampNeg (nI (30 + 4 * i)))) (gz_wi g 39 0 0)).bind _ = _
          rw [show (gz_wi g 39 0 0).1 53 (Int32.toNatClampNeg (nI (30 + 4 * i))) = nI (V (30 + i)) by rw [n_cl (by omega)]; exact n0, r_isUnder hcx.1 hcx.2.1 hW (by omega), Option.bind_some]
          exact if_neg (pI1 hu)
      · refine CallOk.q (v := nI (sStep (sTof Ls cur) V i (30 + i))) hC hR hI ?_ (fun g1 hR1 => ?_)
        · have hz := hC.2.2.2.2.1
          have hcp := c_spare (La := La) (w := 6) (Or.inr rfl) hC.2.1 hz hC.2.2.2.1
          have hs := FS.sp (g := g) hz
          obtain ⟨g2, w1, w2, w3, w4, w5⟩ := c_takeStep (La := La) (w := 7) sc7 (V := V) (g := gz_wa g 23 (fI V)) (wa_at _ _ _) hW (hC.1.lw.fr hs.1 (WF_lt sc7)) hi
          have w2 : g2.1 23 = fI (sStep (sTof Ls cur) V i) := w2
          refine ⟨g2, ?_, hs.1.tr w5, _, w2, fun k hk => ?_⟩
          · unfold fX11_ahead
            rw [c_hasGoerW hC hI, Option.bind_some]
            refine (if_neg (pI1 q1)).trans ?_
            rw [c_goes (w := 6) hC.2.1 hI.b (by omega), Option.bind_some]
            refine (if_neg (pI1 yes)).trans ?_
            rw [ix]
            refine (if_pos (n_okP (by omega) (by omega))).trans ?_
            show (fX6_under La 6 (g.1 22 (Int32.toNatClampNeg (nI (30 + i)))) g).bind _ = _
            rw [show g.1 22 (Int32.toNatClampNeg (nI (30 + i))) = nI (V (30 + i)) by rw [n_cl (by omega), e22, fI_ap], c_under (w := 6) hC.2.1 hW (by omega), Option.bind_some]
            refine (if_pos (pI0 hu)).trans ?_
            rw [hcp, Option.bind_some, w1, Option.bind_some]
            refine (if_pos (n_okP (by omega) (by omega))).trans ?_
            rw [n_cl (by omega), w2, fI_ap]
          · have hf := sGo_fix (V := V) (i := i) (l := sTurn (sTof Ls cur) V i) (by omega)
            show sStep (sTof Ls cur) V i k = 0
            unfold sStep
            rw [hf k (by omega)]; exact hz k hk
        · obtain ⟨hcx, hkp⟩ := hR1.f0.1.cx hI h0
          have n0 : (gz_wi g1 39 0 0).1 53 (30 + 4 * i) = nI (V (30 + i)) := (hcx.at0 (i := i) (by omega)).1
          obtain ⟨g2, v1, v2, v3, v4⟩ := r_copy (La := La) hcx hkp
          obtain ⟨g3, w1, w2, w3⟩ := r_goStep (La := La) (Or.inr rfl) v3 hW hi
          have e0 : g3.1 54 (30 + 4 * i) = nI (sStep (sTof Ls cur) V i (30 + i)) := (w3.at0 (i := i) (by omega)).1
          refine ⟨g3, ?_, (hR1.f0q.tr v2).tr (w2.1.mo (fun k hk => by have := hk; omega) (fun j hj => by have := hj; omega)), w3.2.2⟩
          unfold fX12_ahead
          rw [gz_let_eq, hR1.f0.1.isGoer hI, Option.bind_some]
          refine (if_neg (pI1 q1)).trans ?_
          rw [r_does hcx.1 hW.1 (by omega), Option.bind_some, ix_0]
          refine (if_neg (pI1 yes)).trans ((if_pos (n_okP (by omega) (by omega))).trans ?_)
          show (fX12_isUnder La 53 ((gz_wi g1 39 0 0).1 53 (Int32.toNatClampNeg (nI (30 + 4 * i)))) (gz_wi g1 39 0 0)).bind _ = _
          rw [show (gz_wi g1 39 0 0).1 53 (Int32.toNatClampNeg (nI (30 + 4 * i))) = nI (V (30 + i)) by rw [n_cl (by omega)]; exact n0, r_isUnder hcx.1 hcx.2.1 hW (by omega), Option.bind_some]
          refine (if_pos (pI0 hu)).trans ?_
          rw [v1, Option.bind_some, r_paceOf v4 hi hg4, Option.bind_some, w1, Option.bind_some]
          refine (if_pos (n_okP (by omega) (by omega))).trans ?_
          rw [n_cl (by omega), e0]
    · refine CallOk.no (v := -1) ?_ ?_ hC hR hI
      · unfold fX11_ahead
        rw [c_hasGoerW hC hI, Option.bind_some]
        refine (if_neg (pI1 q1)).trans ?_
        rw [c_goes (w := 6) hC.2.1 hI.b (by omega), Option.bind_some]
        exact if_pos (pI0 yes)
      · obtain ⟨hcx, hkp⟩ := hR.f0.1.cx hI h0
        unfold fX12_ahead
        rw [gz_let_eq, hR.f0.1.isGoer hI, Option.bind_some]
        refine (if_neg (pI1 q1)).trans ?_
        rw [r_does hcx.1 hW.1 (by omega), Option.bind_some]
        exact if_pos (pI0 yes)
  · refine CallOk.no (v := -1) ?_ ?_ hC hR hI
    · unfold fX11_ahead
      rw [c_hasGoerW hC hI, Option.bind_some]
      exact if_pos (pI0 q1)
    · unfold fX12_ahead
      rw [gz_let_eq, hR.f0.1.isGoer hI, Option.bind_some]
      exact if_pos (pI0 q1)
end ST
