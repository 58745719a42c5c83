/-! call stones: both -/
theorem sTwo_lt {V : Nat → Nat} {T : sT} {a b n x : Nat} (h30 : V 58 * V 59 ≤ 30) (h : sTwo T V a b n = some x) : x < 10000 := by
  unfold sTwo at h
  cases hf : ff (fun c => (sTwo1 T V a b n c).isSome) (V 58 * V 59) with
  | none => rw [hf] at h; cases h
  | some c =>
    rw [hf] at h
    have hc := (ff_lt hf).1
    have h : (sTwo1 T V a b n c).map (fun d => c * 100 + d) = some x := h
    cases h1 : sTwo1 T V a b n c with
    | none => rw [h1] at h; cases h
    | some d =>
      rw [h1] at h
      have hd := (ff_lt h1).1
      have : c * 100 + d = x := by injection h
      omega
section ST
variable {La : gz_L} {g : gz_S} {l : List Nat} {Ls : List (List Nat)} {Es : List (List eS)} {cur : Option Nat} {lv : Nat} {V V0 : Nat → Nat} {a : Nat} {K : Nat → Nat → Nat} {Lg : Nat → Nat} {him : Nat} {IV ILg : Nat → Nat} {s : sS} {B : Nat}
def vSt (T : sT) (V : Nat → Nat) (a b n w : Nat) : Int32 :=
  if sMeet T V a b n = none then (if w = 0 then 0 else -1) else match sOne T V a b n with
    | some c => if w = 0 then 1 else nI c
    | none => match sTwo T V a b n with
      | some x => if w = 0 then 2 else nI x
      | none => -1
theorem w_stones (hw : WR La g B) (hB : B < 400000) (x y x3 x4 : Int32) : CallOk La (fX11_stones La x y x3 x4) (fX12_stones La x y x3 x4) g B := by
  obtain ⟨l, Ls, Es, cur, lv, V, V0, a, K, Lg, him, IV, ILg, s, hC, hR, hI⟩ := hw
  have hg4 := hI.g4
  have hc30 := hI.c30
  have h31 := Int32.toInt_lt x3
  have h32 := Int32.le_toInt x3
  have h41 := Int32.toInt_lt x4
  have h42 := Int32.le_toInt x4
  by_cases yes : ((0 ≤ x.toInt ∧ x.toInt < (V 60 : Int)) ∧ (0 ≤ y.toInt ∧ y.toInt < (V 60 : Int)) ∧ (x.toInt < y.toInt ∨ y.toInt < x.toInt)) ∧ (1 ≤ x3.toInt ∧ x3.toInt ≤ 20) ∧ 0 ≤ x4.toInt ∧ x4.toInt ≤ 1
  · obtain ⟨yp, y3, y4⟩ := yes
    obtain ⟨i, i1, rfl, i3⟩ := x_of (x := x) yp.1.1
    obtain ⟨j, j1, rfl, j3⟩ := x_of (x := y) yp.2.1.1
    obtain ⟨n, n1, rfl, n3⟩ := x_of (x := x3) (by omega)
    obtain ⟨w, w1, rfl, w3⟩ := x_of (x := x4) y4.1
    have h0 : ¬ V 60 = 0 := fun h0 => by omega
    obtain ⟨hW, h49, _⟩ := hI.2.2.1 h0
    have hi : i < V 60 := by omega
    have hj : j < V 60 := by omega
    have hij : i ≠ j := by omega
    have w01 : (nI w = 0) = (w = 0) := n_eq (b := 0) (by omega) (by omega)
    have w11 : (nI w = 1) = (w = 1) := n_eq (b := 1) (by omega) (by omega)
    refine CallOk.qt (v := vSt (sTof Ls cur) V i j n w) hC hR hI ?_ (fun g1 hR1 => ?_)
    · have hCF := hC.cf hW
      obtain ⟨g1, u1, u2, u3⟩ := c_apartAnyway (La := La) hCF hB (a := i) (b := j) (n := n) (by omega) (by omega) (by omega)
      unfold fX11_stones
      rw [c_hasPair (w := 6) hC.2.1 hI.b, Option.bind_some]
      refine ex_q ((if_neg (pI1 yp)).trans ((if_neg (show ¬ nI n < nI 1 by rw [n_lt (by omega) (by omega)]; omega)).trans ((if_neg (show ¬ nI 20 < nI n by rw [n_lt (by omega) (by omega)]; omega)).trans ((if_neg (show ¬ nI w < nI 0 by rw [n_lt (by omega) (by omega)]; omega)).trans (if_pos (show nI w ≤ nI 1 by rw [n_le (by omega) (by omega)]; omega)))))) ?_
      rw [u1, Option.bind_some]
      unfold vSt
      by_cases hm : sMeet (sTof Ls cur) V i j n = none
      · refine ⟨g1, ?_, u2⟩
        rw [if_pos hm]
        refine (if_neg (pI1 hm)).trans ?_
        by_cases c0 : w = 0
        · rw [if_pos c0]; exact if_pos (w01 ▸ c0)
        · rw [if_neg c0]; exact if_neg (w01 ▸ c0)
      · rw [if_neg hm]
        refine ex_q (if_pos (pI0 hm)) ?_
        obtain ⟨g2, v1, v2, v3, v4⟩ := c_oneStone (La := La) (hCF.ft u2) hB (a := i) (b := j) (n := n) (by omega) (by omega) (by omega) u3
        rw [v1, Option.bind_some]
        cases h1 : sOne (sTof Ls cur) V i j n with
        | some c =>
          have hc := (ff_lt h1).1
          refine ⟨g2, ?_, u2.tr v2⟩
          refine (if_neg (show ¬ nI c = -1 by show ¬ nI c = -nI 1; rw [m_eq (by omega)]; exact id)).trans ?_
          unfold fX11_stones_96
          show (if nI w = 1 then some (nI c, g2) else if nI c = -1 then some (nI c, g2) else some (1, g2)) = some ((if w = 0 then 1 else nI c), g2)
          by_cases c0 : w = 0
          · rw [if_pos c0, if_neg (by rw [w11]; omega)]
            exact if_neg (show ¬ nI c = -1 by show ¬ nI c = -nI 1; rw [m_eq (by omega)]; exact id)
          · rw [if_neg c0]; exact if_pos (by rw [w11]; omega)
        | none =>
          have hCF2 := (hCF.ft u2).ft v2
          obtain ⟨g3, p1, p2⟩ := c_twoStones (La := La) hCF2 hB (a := i) (b := j) (n := n) (by omega) (by omega) (by omega) v3 (v4 h1)
          refine ex_q (if_pos (show oI none = -1 from rfl)) ?_
          rw [p1, Option.bind_some]
          refine ⟨g3, ?_, (u2.tr v2).tr p2⟩
          unfold fX11_stones_96
          cases h2 : sTwo (sTof Ls cur) V i j n with
          | some z =>
            have hz := sTwo_lt hc30 h2
            show (if nI w = 1 then some (nI z, g3) else if nI z = -1 then some (nI z, g3) else some (2, g3)) = some ((if w = 0 then 2 else nI z), g3)
            by_cases c0 : w = 0
            · rw [if_pos c0, if_neg (by rw [w11]; omega)]
              exact if_neg (show ¬ nI z = -1 by show ¬ nI z = -nI 1; rw [m_eq (by omega)]; exact id)
            · rw [if_neg c0]; exact if_pos (by rw [w11]; omega)
          | none =>
            show (if nI w = 1 then some (-1, g3) else if (-1 : Int32) = -1 then some (-1, g3) else some (2, g3)) = some (-1, g3)
            by_cases c0 : nI w = 1
            · rw [if_pos c0]
            · rw [if_neg c0, if_pos rfl]
    · obtain ⟨hcx, hkp⟩ := hR1.f0.1.cx hI h0
      obtain ⟨g2, v1, v2, v3⟩ := r_stonesOf (La := La) (n := n) hcx hkp hW hB hi hj hij (by omega)
      refine ⟨g2, ?_, hR1.f0q.tr v2, v3⟩
      unfold fX12_stones
      rw [gz_let_eq, hR1.f0.1.areTwo hI, Option.bind_some]
      refine (if_neg (pI1 yp)).trans ?_
      rw [x_l, x_l, show (0 : Int64) = Int64.ofInt 0 from rfl, show (20 : Int64) = Int64.ofInt 20 from rfl, show (1 : Int64) = Int64.ofInt 1 from rfl, r_isInZ (by omega) (by omega) (by omega), Option.bind_some]
      refine (if_neg (pI1 y3)).trans ?_
      rw [r_isInZ (by omega) (by omega) (by omega), Option.bind_some]
      refine (if_neg (pI1 y4)).trans ?_
      rw [v1, Option.bind_some]
      unfold vSt rSt
      by_cases hm : sMeet (sTof Ls cur) V i j n = none
      · rw [if_pos hm, if_pos hm]
        refine (if_neg (show ¬ (0 : Int32) = -1 by decide)).trans ?_
        by_cases c0 : w = 0
        · rw [if_pos c0]; exact (if_pos (w01 ▸ c0)).trans (by show some ((0 : Int32) / 100000, g2) = some (0, g2); rw [show (0 : Int32) / 100000 = 0 by decide])
        · rw [if_neg c0]; exact (if_neg (w01 ▸ c0)).trans (if_pos rfl)
      · rw [if_neg hm, if_neg hm]
        have big : ∀ (q m r : Nat), q = m * 100000 + r → r < 100000 → 1 ≤ m → m ≤ 2 → (if nI q = -1 then some (-1, g2) else if nI w = 0 then some (nI q / 100000, g2) else if nI q = 0 then some (-1, g2) else some (nI q - nI q / 100000 * 100000, g2)) = some ((if w = 0 then nI m else nI r), g2) := by
          intro q m r hq hr hm1 hm2
          rw [if_neg (show ¬ nI q = -1 by show ¬ nI q = -nI 1; rw [m_eq (by omega)]; exact id)]
          by_cases c0 : w = 0
          · rw [if_pos c0, if_pos (w01 ▸ c0), show (100000 : Int32) = nI 100000 from rfl, n_div (by omega) (by omega), show q / 100000 = m by omega]
          · rw [if_neg c0, if_neg (w01 ▸ c0), if_neg (show ¬ nI q = 0 by show ¬ _ = nI 0; rw [n_eq (by omega) (by omega)]; omega), show (100000 : Int32) = nI 100000 from rfl, n_mod (by omega) (by omega), show q % 100000 = r by omega]
        cases h1 : sOne (sTof Ls cur) V i j n with
        | some c =>
          have hc := (ff_lt h1).1
          exact big (100000 + c) 1 c (by omega) (by omega) (by omega) (by omega)
        | none =>
          cases h2 : sTwo (sTof Ls cur) V i j n with
          | some z =>
            have hz := sTwo_lt hc30 h2
            exact big (200000 + z) 2 z (by omega) (by omega) (by omega) (by omega)
          | none => exact if_pos rfl
  · refine CallOk.no (v := -1) ?_ ?_ hC hR hI
    · unfold fX11_stones
      rw [c_hasPair (w := 6) hC.2.1 hI.b, Option.bind_some]
      by_cases q1 : (0 ≤ x.toInt ∧ x.toInt < (V 60 : Int)) ∧ (0 ≤ y.toInt ∧ y.toInt < (V 60 : Int)) ∧ (x.toInt < y.toInt ∨ y.toInt < x.toInt)
      · refine (if_neg (pI1 q1)).trans ?_
        by_cases q3 : x3.toInt < 1
        · exact if_pos (show x3 < nI 1 by rw [x_lt (by omega)]; omega)
        · refine (if_neg (show ¬ x3 < nI 1 by rw [x_lt (by omega)]; omega)).trans ?_
          by_cases q4 : 20 < x3.toInt
          · exact if_pos (show nI 20 < x3 by rw [x_gt (by omega)]; omega)
          · refine (if_neg (show ¬ nI 20 < x3 by rw [x_gt (by omega)]; omega)).trans ?_
            by_cases q5 : x4.toInt < 0
            · exact if_pos (show x4 < nI 0 by rw [x_lt (by omega)]; omega)
            · exact (if_neg (show ¬ x4 < nI 0 by rw [x_lt (by omega)]; omega)).trans (if_neg (show ¬ x4 ≤ nI 1 by rw [x_le (by omega)]; omega))
      · exact if_pos (pI0 q1)
    · unfold fX12_stones
      rw [gz_let_eq, hR.f0.1.areTwo hI, Option.bind_some]
      by_cases q1 : (0 ≤ x.toInt ∧ x.toInt < (V 60 : Int)) ∧ (0 ≤ y.toInt ∧ y.toInt < (V 60 : Int)) ∧ (x.toInt < y.toInt ∨ y.toInt < x.toInt)
      · refine (if_neg (pI1 q1)).trans ?_
        rw [x_l, x_l, show (0 : Int64) = Int64.ofInt 0 from rfl, show (20 : Int64) = Int64.ofInt 20 from rfl, show (1 : Int64) = Int64.ofInt 1 from rfl, r_isInZ (by omega) (by omega) (by omega), Option.bind_some]
        by_cases q3 : 1 ≤ x3.toInt ∧ x3.toInt ≤ 20
        · refine (if_neg (pI1 q3)).trans ?_
          rw [r_isInZ (by omega) (by omega) (by omega), Option.bind_some]
          exact if_pos (pI0 (fun q4 => yes ⟨q1, q3, q4⟩))
        · exact if_pos (pI0 q3)
      · exact if_pos (pI0 q1)
end ST
