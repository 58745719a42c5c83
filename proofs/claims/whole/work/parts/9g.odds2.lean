/-! call odds: both -/
section ST
variable {La : gz_L} {g : gz_S} {l : List Nat} {Ls : List (List Nat)} {Es : List (List eS)} {cur : Option Nat} {lv : Nat} {V V0 : Nat → Nat} {a : Nat} {K : Nat → Nat → Nat} {Lg : Nat → Nat} {him : Nat} {IV ILg : Nat → Nat} {s : sS} {B : Nat}
theorem w_odds (hw : WR La g B) (hB : B < 400000) (x y x3 x4 : Int32) : CallOk La (fX11_odds La x y x3 x4) (fX12_odds La x y x3 x4) g B := by
  obtain ⟨l, Ls, Es, cur, lv, V, V0, a, K, Lg, him, IV, ILg, s, hC, hR, hI⟩ := hw
  have hg4 := hI.g4
  have hc30 := hI.c30
  have h31 := Int32.toInt_lt x3
  have h32 := Int32.le_toInt x3
  have h41 := Int32.toInt_lt x4
  have h42 := Int32.le_toInt x4
  by_cases yes : (0 ≤ x.toInt ∧ x.toInt < (V 60 : Int)) ∧ (0 ≤ y.toInt ∧ y.toInt < ((V 58 * V 59 : Nat) : Int)) ∧ (0 ≤ x3.toInt ∧ x3.toInt ≤ 6) ∧ 0 ≤ x4.toInt ∧ x4.toInt ≤ 100
  · obtain ⟨y1, y2, y3, y4⟩ := yes
    obtain ⟨i, i1, rfl, i3⟩ := x_of (x := x) y1.1
    obtain ⟨c, c1, rfl, c3⟩ := x_of (x := y) y2.1
    obtain ⟨n, n1, rfl, n3⟩ := x_of (x := x3) y3.1
    obtain ⟨ch, p1, rfl, p3⟩ := x_of (x := x4) y4.1
    have h0 : ¬ V 60 = 0 := fun h0 => by omega
    obtain ⟨hW, h49, _⟩ := hI.2.2.1 h0
    have hi : i < V 60 := by omega
    have hc : c < V 58 * V 59 := by omega
    refine CallOk.q (v := nI (rO (sTof Ls cur) i c ch n V 1000000000)) hC hR hI ?_ (fun g1 hR1 => ?_)
    · obtain ⟨g1, u1, u2⟩ := c_partsOn (La := La) (hC.cf hW) hB (i := i) (n := n) (ch := ch) (c := c) (by omega) (by omega) (by omega) (by omega)
      refine ⟨g1, ?_, u2⟩
      rw [sOdds_rO (by omega) (by omega) hg4] at u1
      unfold fX11_odds
      rw [c_hasGoerW hC hI, Option.bind_some]
      refine (if_neg (pI1 y1)).trans ?_
      rw [c_hasCellW hC hI, Option.bind_some]
      refine (if_neg (pI1 y2)).trans ((if_neg (show ¬ nI n < nI 0 by rw [n_lt (by omega) (by omega)]; omega)).trans ((if_neg (show ¬ nI 6 < nI n by rw [n_lt (by omega) (by omega)]; omega)).trans ((if_neg (show ¬ nI ch < nI 0 by rw [n_lt (by omega) (by omega)]; omega)).trans ((if_pos (show nI ch ≤ nI 100 by rw [n_le (by omega) (by omega)]; omega)).trans ?_))))
      rw [u1, Option.bind_some]
    · obtain ⟨hcx, hkp⟩ := hR1.f0.1.cx hI h0
      obtain ⟨g2, v1, v2, v3, v4⟩ := r_copy (La := La) hcx hkp
      obtain ⟨g3, w1, w2, _, w4⟩ := r_odds (La := La) (i := i) (c := c) (ch := ch) (by omega) (by omega) n (by omega) 10 (by omega) g2 V B 1000000000 v3 v4 hW (by omega) hi (Nat.le_refl _)
      refine ⟨g3, ?_, hR1.f0q.tr (v2.tr w2), w4⟩
      unfold fX12_odds
      rw [gz_let_eq, hR1.f0.1.isGoer hI, Option.bind_some]
      refine (if_neg (pI1 y1)).trans ?_
      rw [hR1.f0.1.isCell hI, Option.bind_some]
      refine (if_neg (pI1 y2)).trans ?_
      rw [x_l, x_l, show (0 : Int64) = Int64.ofInt 0 from rfl, show (6 : Int64) = Int64.ofInt 6 from rfl, show (100 : Int64) = Int64.ofInt 100 from rfl, r_isInZ (by omega) (by omega) (by omega), Option.bind_some]
      refine (if_neg (pI1 y3)).trans ?_
      rw [r_isInZ (by omega) (by omega) (by omega), Option.bind_some]
      refine (if_neg (pI1 y4)).trans ?_
      rw [v1, Option.bind_some]
      show (fX12_oddsFromD La 10 (nI i) (nI c) (nI n) (nI ch) (nI 1000000000) g2).bind _ = _
      rw [w1, Option.bind_some]
  · refine CallOk.no (v := -1) ?_ ?_ hC hR hI
    · unfold fX11_odds
      rw [c_hasGoerW hC hI, Option.bind_some]
      by_cases q1 : 0 ≤ x.toInt ∧ x.toInt < (V 60 : Int)
      · refine (if_neg (pI1 q1)).trans ?_
        rw [c_hasCellW hC hI, Option.bind_some]
        by_cases q2 : 0 ≤ y.toInt ∧ y.toInt < ((V 58 * V 59 : Nat) : Int)
        · refine (if_neg (pI1 q2)).trans ?_
          by_cases q3 : x3.toInt < 0
          · exact if_pos (show x3 < nI 0 by rw [x_lt (by omega)]; omega)
          · refine (if_neg (show ¬ x3 < nI 0 by rw [x_lt (by omega)]; omega)).trans ?_
            by_cases q4 : 6 < x3.toInt
            · exact if_pos (show nI 6 < x3 by rw [x_gt (by omega)]; omega)
            · refine (if_neg (show ¬ nI 6 < x3 by rw [x_gt (by omega)]; omega)).trans ?_
              by_cases q5 : x4.toInt < 0
              · exact if_pos (show x4 < nI 0 by rw [x_lt (by omega)]; omega)
              · exact (if_neg (show ¬ x4 < nI 0 by rw [x_lt (by omega)]; omega)).trans (if_neg (show ¬ x4 ≤ nI 100 by rw [x_le (by omega)]; omega))
        · exact if_pos (pI0 q2)
      · exact if_pos (pI0 q1)
    · unfold fX12_odds
      rw [gz_let_eq, hR.f0.1.isGoer hI, Option.bind_some]
      by_cases q1 : 0 ≤ x.toInt ∧ x.toInt < (V 60 : Int)
      · refine (if_neg (pI1 q1)).trans ?_
        rw [hR.f0.1.isCell hI, Option.bind_some]
        by_cases q2 : 0 ≤ y.toInt ∧ y.toInt < ((V 58 * V 59 : Nat) : Int)
        · refine (if_neg (pI1 q2)).trans ?_
          rw [x_l, x_l, show (0 : Int64) = Int64.ofInt 0 from rfl, show (6 : Int64) = Int64.ofInt 6 from rfl, show (100 : Int64) = Int64.ofInt 100 from rfl, r_isInZ (by omega) (by omega) (by omega), Option.bind_some]
          by_cases q3 : 0 ≤ x3.toInt ∧ x3.toInt ≤ 6
          · refine (if_neg (pI1 q3)).trans ?_
            rw [r_isInZ (by omega) (by omega) (by omega), Option.bind_some]
            exact if_pos (pI0 (fun q4 => yes ⟨q1, q2, q3, q4⟩))
          · exact if_pos (pI0 q3)
        · exact if_pos (pI0 q2)
      · exact if_pos (pI0 q1)
end ST
