/-! evenings: call step -/
theorem ev_at {l : List eS} {i : Nat} (h : i < l.length) : l[i]? = some (l.getD i (0, none, none)) := by
  rw [List.getD_eq_getElem?_getD, List.getElem?_eq_getElem h]; rfl
section ST
variable {La : gz_L} {g : gz_S} {l : List Nat} {Ls : List (List Nat)} {Es : List (List eS)} {cur : Option Nat} {lv : Nat} {V V0 : Nat → Nat} {a : Nat} {K : Nat → Nat → Nat} {Lg : Nat → Nat} {him : Nat} {IV ILg : Nat → Nat} {s : sS} {B : Nat}
theorem c_eveningOf {m : Nat} (h14 : g.1 0 14 = nI m) (hm : La.2.1 = m) (h4 : m ≤ 4) {x : Int32} : fX11_eveningOf La x g = some ((if 0 ≤ x.toInt ∧ x.toInt < (m : Int) then some (110 + 2 * x.toInt.toNat) else none), g) := by
  unfold fX11_eveningOf fX11_eveningOf_21
  by_cases c : x.toInt < 0
  · rw [if_pos (by show x < nI 0; rw [x_lt (by omega)]; omega), if_neg (by omega)]
  · rw [if_neg (by show ¬ x < nI 0; rw [x_lt (by omega)]; omega), h14]
    by_cases c2 : (m : Int) ≤ x.toInt
    · rw [if_pos (show nI m ≤ x by rw [x_ge (by omega)]; exact c2), if_neg (by omega)]
    · obtain ⟨i, i1, rfl, i3⟩ := x_of (x := x) (by omega)
      rw [if_neg (show ¬ nI m ≤ nI i by rw [n_le (by omega) (by omega)]; omega), if_pos (n_okP (by omega) (by omega)), n_cl (by omega), if_pos (by omega)]
      have er : gz_rf La g 13 i = some (110 + 2 * i) := by
        unfold gz_rf
        rw [if_neg (show ¬ (13 = 8 ∧ i = 0) by omega), if_neg (show ¬ (13 = 39 ∧ i = 5) by omega), if_pos (show 13 < 40 by omega), if_neg (show ¬ 13 = 12 by omega), if_pos rfl, if_pos (show i < La.2.1 by omega)]
      rw [er, ← i3]; rfl
theorem r_isPlan {m : Nat} (h30 : g.1 39 30 = nI m) (h4 : m ≤ 4) {x : Int32} : fX12_isPlan La x g = some (pI (0 ≤ x.toInt ∧ x.toInt < (m : Int)), g) := by
  unfold fX12_isPlan
  by_cases c : x.toInt < 0
  · rw [if_pos (by show x < nI 0; rw [x_lt (by omega)]; omega)]; exact p_f (by omega)
  · rw [if_neg (by show ¬ x < nI 0; rw [x_lt (by omega)]; omega), h30]
    by_cases c2 : (m : Int) ≤ x.toInt
    · rw [if_pos (show nI m ≤ x by rw [x_ge (by omega)]; exact c2)]; exact p_f (by omega)
    · rw [if_neg (show ¬ nI m ≤ x by rw [x_ge (by omega)]; exact c2)]; exact p_t (by omega)
theorem nm1 {n : Nat} (h : n ≤ 1000) : Int32.toInt64 (nI n - 1) = Int64.ofInt ((n : Int) - 1) := by
  rw [x_l, show nI n - (1 : Int32) = nI n - nI 1 from rfl, i_sub (by rw [n_ti (by omega), n_ti (by omega)]; omega) (by rw [n_ti (by omega), n_ti (by omega)]; omega), n_ti (by omega), n_ti (by omega)]; rfl
def stE (e : sE) (i j : Nat) : Int32 := if j = 0 then nI (e.2.1 i) else if j = 1 then oI (e.2.2.1 i) else oI (e.2.2.2 i)
theorem w_step (hw : WR La g B) (x x2 x3 : Int32) : CallOk La (fX11_step La x x2 x3) (fX12_step La x x2 x3) g B := by
  obtain ⟨l, Ls, Es, cur, lv, V, V0, a, K, Lg, him, IV, ILg, s, hC, hR, hI⟩ := hw
  have h21 := Int32.toInt_lt x2
  have h22 := Int32.le_toInt x2
  have h31 := Int32.toInt_lt x3
  have h32 := Int32.le_toInt x3
  obtain ⟨t1, ⟨t2a, t2b, t2c, t2d⟩, t3, t4, t5, t6, t7, t8, t9, t10, t11⟩ := hC.1
  have ce := c_eveningOf (x := x) t4 t2b t2d
  obtain ⟨hR0, F0⟩ := hR.f0
  obtain ⟨p1, p2, p3⟩ := hR0.1.2.2.1
  have rp := r_isPlan (La := La) (x := x) p1 p2
  by_cases y1 : 0 ≤ x.toInt ∧ x.toInt < (Es.length : Int)
  · obtain ⟨E, i1, rfl, i3⟩ := x_of (x := x) y1.1
    have hE : E < Es.length := by omega
    obtain ⟨q1, q2, q3⟩ := p3 E hE
    have hev := t11 E hE
    generalize hl : Es.getD E [] = le at *
    have hn : (eOf le).1 = le.length := rfl
    have e0 : g.1 (110 + 2 * E) 0 = nI le.length := hev.2.2.1
    have hge : gz_ev La (110 + 2 * E) := ⟨by omega, by omega, by omega, by omega⟩
    have k1 : fX11_step La (nI E) x2 x3 g = (if x2 < 0 then some ((-1000000), g) else if nI le.length ≤ x2 then some ((-1000000), g) else if x3 < 0 then some ((-1000000), g) else if x3 ≤ 2 then (fX0_part La (110 + 2 * E) x2 x3 g).bind (fun q42 => some (q42.1, q42.2)) else some ((-1000000), g)) := by
      unfold fX11_step
      rw [ce, if_pos y1, Option.bind_some]
      show (if gz_ev La (110 + 2 * (nI E).toInt.toNat) then _ else none) = _
      rw [show (nI E).toInt.toNat = E by omega, if_pos hge, e0]
    have k2 : fX12_step La (nI E) x2 x3 g = (fX12_isIn La (Int32.toInt64 x2) 0 (Int32.toInt64 (nI le.length - 1)) (gz_wi g 39 0 0)).bind (fun q25 => if q25.1 = 0 then some ((-1000000), q25.2) else (fX12_isIn La (Int32.toInt64 x3) 0 2 q25.2).bind (fun q37 => if q37.1 = 0 then some ((-1000000), q37.2) else if gz_ok (((3 : Int32) * (((16 : Int32) * nI E) + x2)) + x3) 240 then some (q37.2.1 51 (Int32.toNatClampNeg (((3 : Int32) * (((16 : Int32) * nI E) + x2)) + x3)), q37.2) else none)) := by
      unfold fX12_step
      rw [gz_let_eq, rp, Option.bind_some]
      refine (if_neg (pI1 y1)).trans ((if_pos (n_okP (by omega) (by omega))).trans ?_)
      show (fX12_isIn La (Int32.toInt64 x2) 0 (Int32.toInt64 ((gz_wi g 39 0 0).1 52 (nI E).toNatClampNeg - 1)) (gz_wi g 39 0 0)).bind _ = _
      rw [n_cl (by omega), q2]
    rw [nm1 (by omega), x_l x2, show (0 : Int64) = Int64.ofInt 0 from rfl, r_isInZ (by omega) (by omega) (by omega), Option.bind_some] at k2
    by_cases y2 : 0 ≤ x2.toInt ∧ x2.toInt < (le.length : Int)
    · obtain ⟨i, j1, rfl, j3⟩ := x_of (x := x2) y2.1
      have hi : i < le.length := by omega
      have k1 := k1.trans ((if_neg (show ¬ nI i < nI 0 by rw [n_lt (by omega) (by omega)]; omega)).trans (if_neg (show ¬ nI le.length ≤ nI i by rw [n_le (by omega) (by omega)]; omega)))
      have k2 := k2.trans (if_neg (pI1 (by omega)))
      rw [x_l x3, show (2 : Int64) = Int64.ofInt 2 from rfl, r_isInZ (by omega) (by omega) (by omega), Option.bind_some] at k2
      by_cases y3 : 0 ≤ x3.toInt ∧ x3.toInt ≤ 2
      · obtain ⟨j, m1, rfl, m3⟩ := x_of (x := x3) y3.1
        have k2 := k2.trans (if_neg (pI1 y3))
        obtain ⟨f1, f2, f3, _⟩ := hev.2.2.2 i hi
        obtain ⟨g1', g2', g3'⟩ := q1 i _ (ev_at hi)
        refine CallOk.no (v := stE (eOf le) i j) (k1.trans ?_) (k2.trans ?_) hC hR hI
        · refine (if_neg (show ¬ nI j < nI 0 by rw [n_lt (by omega) (by omega)]; omega)).trans ((if_pos (show nI j ≤ nI 2 by rw [n_le (by omega) (by omega)]; omega)).trans ?_)
          rw [c_part hev hi (by omega), Option.bind_some]
          unfold stE
          have : j = 0 ∨ j = 1 ∨ j = 2 := by omega
          rcases this with rfl | rfl | rfl
          · show some (g.1 (110 + 2 * E + 1) (3 * i), g) = _; rw [f1]; rfl
          · show some (g.1 (110 + 2 * E + 1) (3 * i + 1), g) = _; rw [f2]; rfl
          · show some (g.1 (110 + 2 * E + 1) (3 * i + 2), g) = _; rw [f3]; rfl
        · rw [show (16 : Int32) * nI E = nI (16 * E) from n_mul 16 E, n_add, show (3 : Int32) * nI (16 * E + i) = nI (3 * (16 * E + i)) from n_mul 3 _, n_add]
          refine (if_pos (n_okP (by omega) (by omega))).trans ?_
          rw [n_cl (by omega)]
          unfold stE
          have : j = 0 ∨ j = 1 ∨ j = 2 := by omega
          rcases this with rfl | rfl | rfl
          · show some ((gz_wi g 39 0 0).1 51 (3 * (16 * E + i) + 0), _) = _
            rw [show 3 * (16 * E + i) + 0 = 48 * E + 3 * i by omega, g1']; rfl
          · show some ((gz_wi g 39 0 0).1 51 (3 * (16 * E + i) + 1), _) = _
            rw [show 3 * (16 * E + i) + 1 = 48 * E + 3 * i + 1 by omega, g2']; rfl
          · show some ((gz_wi g 39 0 0).1 51 (3 * (16 * E + i) + 2), _) = _
            rw [show 3 * (16 * E + i) + 2 = 48 * E + 3 * i + 2 by omega, g3']; rfl
      · refine CallOk.no (v := -1000000) (k1.trans ?_) (k2.trans (if_pos (pI0 y3))) hC hR hI
        by_cases c : x3.toInt < 0
        · exact if_pos (show x3 < nI 0 by rw [x_lt (by omega)]; omega)
        · exact (if_neg (show ¬ x3 < nI 0 by rw [x_lt (by omega)]; omega)).trans (if_neg (show ¬ x3 ≤ nI 2 by rw [x_le (by omega)]; omega))
    · refine CallOk.no (v := -1000000) (k1.trans ?_) (k2.trans (if_pos (pI0 (by omega)))) hC hR hI
      by_cases c : x2.toInt < 0
      · exact if_pos (show x2 < nI 0 by rw [x_lt (by omega)]; omega)
      · exact (if_neg (show ¬ x2 < nI 0 by rw [x_lt (by omega)]; omega)).trans (if_pos (show nI le.length ≤ x2 by rw [x_ge (by omega)]; omega))
  · refine CallOk.no (v := -1000000) ?_ ?_ hC hR hI
    · unfold fX11_step
      rw [ce, if_neg y1, Option.bind_some]; rfl
    · unfold fX12_step
      rw [gz_let_eq, rp, Option.bind_some]
      exact if_pos (pI0 y1)
end ST
