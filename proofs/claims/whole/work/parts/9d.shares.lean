/-! call shares -/
section ST
variable {La : gz_L} {g : gz_S} {l : List Nat} {Ls : List (List Nat)} {Es : List (List eS)} {cur : Option Nat} {lv : Nat} {V V0 : Nat → Nat} {a : Nat} {K : Nat → Nat → Nat} {Lg : Nat → Nat} {him : Nat} {IV ILg : Nat → Nat} {s : sS} {B : Nat}
theorem j_cmp0 {n : Nat} (hn : n < 1000000000) : (lg_cmp (Int64.ofInt n) 0 = 0) = (n = 0) := by
  rw [show (0 : Int64) = Int64.ofInt 0 from rfl, j_cmp (by omega) (by omega)]
  by_cases c : n = 0
  · subst c; exact propext ⟨fun _ => rfl, fun _ => by decide⟩
  · rw [if_pos (by omega)]; exact propext ⟨fun h => absurd h (by decide), fun h => absurd h c⟩
theorem j_n (n : Nat) : Int64.ofInt (n : Int) = Int64.ofNat n := rfl
theorem w_shares (hw : WR La g B) (x y : Int32) : CallOk La (fX11_shares La x y) (fX12_shares La x y) g B := by
  obtain ⟨l, Ls, Es, cur, lv, V, V0, a, K, Lg, him, IV, ILg, s, hC, hR, hI⟩ := hw
  have hg4 := hI.g4
  have h31 := Int32.toInt_lt y
  have h32 := Int32.le_toInt y
  have hv : g.1 22 = fI V := hC.2.1
  by_cases yes : (0 ≤ x.toInt ∧ x.toInt < (V 60 : Int)) ∧ 0 ≤ y.toInt ∧ y.toInt ≤ 999
  · obtain ⟨y1, y2⟩ := yes
    obtain ⟨i, i1, rfl, i3⟩ := x_of (x := x) y1.1
    obtain ⟨p, p1, rfl, p3⟩ := x_of (x := y) y2.1
    have h0 : ¬ V 60 = 0 := fun h0 => by omega
    have hi : i < V 60 := by omega
    have hp : p ≤ 999 := by omega
    have s1 := sWent_le hI.b (V 60)
    have s2 := hI.b (38 + i)
    have s3 : V 60 * 1048576 ≤ 4 * 1048576 := Nat.mul_le_mul_right _ hg4
    have s4 : p * V (38 + i) ≤ 999 * 1048576 := Nat.mul_le_mul hp (by omega)
    refine CallOk.no (v := if sWent V (V 60) = 0 then 0 else nI (p * V (38 + i) / sWent V (V 60))) ?_ ?_ hC hR hI
    · unfold fX11_shares
      rw [c_hasGoerW hC hI, Option.bind_some]
      refine (if_neg (pI1 y1)).trans ((if_neg (show ¬ nI p < nI 0 by rw [n_lt (by omega) (by omega)]; omega)).trans ((if_pos (show nI p ≤ nI 999 by rw [n_le (by omega) (by omega)]; omega)).trans ?_))
      rw [c_wentInAll (w := 6) hv hI.b hg4, Option.bind_some]
      by_cases c : sWent V (V 60) = 0
      · rw [if_pos c, c]; rfl
      · rw [if_neg c]
        refine (if_pos (show nI 1 ≤ nI (sWent V (V 60)) by rw [n_le (by omega) (by omega)]; omega)).trans ?_
        rw [show (38 : Int32) + nI i = nI (38 + i) from n_add 38 i]
        refine (if_pos (n_okP (by omega) (by omega))).trans ((if_pos (show ¬ nI (sWent V (V 60)) = nI 0 by rw [n_eq (by omega) (by omega)]; exact c)).trans ?_)
        show some ((nI p * (g.1 22 (Int32.toNatClampNeg (nI (38 + i)))) / nI (sWent V (V 60)), g)) = _
        rw [n_cl (by omega), hv]
        show some ((nI p * nI (V (38 + i)) / nI (sWent V (V 60)), g)) = _
        rw [n_mul, n_div (by omega) (by omega)]
    · obtain ⟨hR0, F0⟩ := hR.f0
      obtain ⟨hcx, _⟩ := hR0.cx hI h0
      unfold fX12_shares
      rw [gz_let_eq, hR0.isGoer hI, Option.bind_some]
      refine (if_neg (pI1 y1)).trans ?_
      rw [x_l, show (0 : Int64) = Int64.ofInt 0 from rfl, show (999 : Int64) = Int64.ofInt 999 from rfl, r_isInZ (by omega) (by omega) (by omega), Option.bind_some]
      refine (if_neg (pI1 (by omega))).trans ?_
      have n27 := hR0.n27 hI
      generalize gz_wi g 39 0 0 = g0 at *
      refine lp (fun f k (_ : Unit) => fX12_shares_32 La _ f (nI i) (nI p) (Int64.ofInt (sWent V k : Nat)) (nI k) g0) (fun _ _ => True) (V 60) (fun q => q = some (if sWent V (V 60) = 0 then 0 else nI (p * V (38 + i) / sWent V (V 60)), g0)) ?_ ?_ gz_FU 0 () (by omega) (by unfold gz_FU; omega) trivial
      · intro f k _ hk _
        refine Or.inr ⟨(), ?_, trivial⟩
        show fX12_shares_32 La _ (f + 1) (nI i) (nI p) (Int64.ofInt (sWent V k : Nat)) (nI k) g0 = _
        have m2 := (hcx.at0 (i := k) (by omega)).2.2.1
        rw [fX12_shares_32, n27, if_neg (show ¬ nI (V 60) ≤ nI k by rw [n_le (by omega) (by omega)]; omega), show (4 : Int32) * nI k = nI (4 * k) from n_mul 4 k, show (30 : Int32) + nI (4 * k) = nI (30 + 4 * k) from n_add 30 _, show nI (30 + 4 * k) + (2 : Int32) = nI (30 + 4 * k + 2) from n_add _ 2]
        refine (if_pos (n_okP (by omega) (by omega))).trans ?_
        rw [n_cl (by omega), m2, gz_let_eq, gz_let_eq, show nI k + (1 : Int32) = nI (k + 1) from n_add k 1, x_l, n_ti (by have := hI.b (38 + k); omega), ← Int64.ofInt_add]
        rfl
      · intro f _ _
        show fX12_shares_32 La _ (f + 1) (nI i) (nI p) (Int64.ofInt (sWent V (V 60) : Nat)) (nI (V 60)) g0 = _
        have m2 := (hcx.at0 (i := i) (by omega)).2.2.1
        rw [fX12_shares_32, n27, if_pos (show nI (V 60) ≤ nI (V 60) by rw [n_le (by omega) (by omega)]; omega)]
        by_cases c : sWent V (V 60) = 0
        · rw [if_pos c]; exact if_pos ((j_cmp0 (by omega)).mpr c)
        · rw [if_neg c]
          refine (if_neg (fun hh => c ((j_cmp0 (by omega)).mp hh))).trans ?_
          rw [show (4 : Int32) * nI i = nI (4 * i) from n_mul 4 i, show (30 : Int32) + nI (4 * i) = nI (30 + 4 * i) from n_add 30 _, show nI (30 + 4 * i) + (2 : Int32) = nI (30 + 4 * i + 2) from n_add _ 2]
          refine (if_pos (n_okP (by omega) (by omega))).trans ((if_pos (fun hh => c ?_)).trans ?_)
          · have := (j_cmp0 (n := sWent V (V 60)) (by omega)).mp (by rw [hh]; rfl)
            exact this
          · rw [n_cl (by omega), m2, x_l, x_l, n_ti (by omega), n_ti (by omega), j_n, j_n, j_n, ← Int64.ofNat_mul, ← Int64.ofNat_div (by omega) (by omega)]; exact congrArg (fun z => some (z, g0)) (lN_i _)
  · refine CallOk.no (v := -1) ?_ ?_ hC hR hI
    · unfold fX11_shares
      rw [c_hasGoerW hC hI, Option.bind_some]
      by_cases c1 : 0 ≤ x.toInt ∧ x.toInt < (V 60 : Int)
      · refine (if_neg (pI1 c1)).trans ?_
        by_cases c2 : y.toInt < 0
        · exact if_pos (show y < nI 0 by rw [x_lt (by omega)]; omega)
        · exact (if_neg (show ¬ y < nI 0 by rw [x_lt (by omega)]; omega)).trans (if_neg (show ¬ y ≤ nI 999 by rw [x_le (by omega)]; omega))
      · exact if_pos (pI0 c1)
    · unfold fX12_shares
      rw [gz_let_eq, hR.f0.1.isGoer hI, Option.bind_some]
      by_cases c1 : 0 ≤ x.toInt ∧ x.toInt < (V 60 : Int)
      · refine (if_neg (pI1 c1)).trans ?_
        rw [x_l, show (0 : Int64) = Int64.ofInt 0 from rfl, show (999 : Int64) = Int64.ofInt 999 from rfl, r_isInZ (by omega) (by omega) (by omega), Option.bind_some]
        exact if_pos (pI0 (fun hh => yes ⟨c1, hh⟩))
      · exact if_pos (pI0 c1)
end ST
