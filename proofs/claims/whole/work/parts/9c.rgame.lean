/-! the reference's games and rests; calls game, rests -/
section RW
variable {g : gz_S} {V W : Nat → Nat} {B : Nat} {La : gz_L} {Ls : List (List Nat)} {cur : Option Nat}
theorem CX.q {g' : gz_S} (h : CX g 53 V Ls cur) (hF : Fy KQ SQ g g') (hL : RLw g' Ls cur) : CX g' 53 V Ls cur :=
  ⟨h.1.fr (hF.1 53 (by omega) (by omega)), h.2.1.fr hF (by omega) (by omega) (by omega), hL⟩
theorem sTrail_s (T : sT) (U : Nat → Nat) (i n : Nat) : sTrail T U i (n + 1) = sTrail T U i n ||| 2 ^ sHrs T U (n + 1) (30 + i) := rfl
theorem sLess_s (T : sT) (U : Nat → Nat) (a b n : Nat) : sLess T U a b (n + 1) = if sTog (sHrs T U (n + 1)) a b then 3 else sLess T U a b n := rfl
theorem sLess_03 (T : sT) (U : Nat → Nat) (a b : Nat) : ∀ n, sLess T U a b n = 0 ∨ sLess T U a b n = 3 := by
  intro n
  induction n with
  | zero => exact Or.inl rfl
  | succ n ih => rw [sLess_s]; split
                 · exact Or.inr rfl
                 · exact ih
theorem r_gameOf (h : CX g 53 V Ls cur) (hp : RKp g V) (hW : Wf B V) (hB : B < 400000) {a b x y w : Nat} (ha : a < V 60) (hb : b < V 60) (hab : a ≠ b) (hx : x < 4) (hy : y < 4) (hw : w ≤ 1) :
    ∃ g', fX12_gameOf La (nI a) (nI b) (nI x) (nI y) (nI w) g = some (sGain (sTof Ls cur) V a b x y (if w = 0 then a else b), g') ∧ Fy KQ SQ g g' ∧ RLw g' Ls cur := by
  have h60 := hW.2.2.2.1.2
  have hT := sTof_lt (Ls := Ls) (cur := cur)
  have hU := sPl_wf hW (a := a) (b := b) (x := x) (y := y) (by omega) (by omega) hx hy
  have u60 : sPl V a b x y 60 = V 60 := by unfold sPl; rw [uN_n (by omega), uN_n (by omega)]
  obtain ⟨g1, u1, u2, u3, u4⟩ := r_copy (La := La) h hp
  have w1 := u3.up (Or.inr rfl) (k := 34 + a) (x := x) (by omega) (rp_1 (by omega))
  have w2 := w1.up (Or.inr rfl) (k := 34 + b) (x := y) (by omega) (rp_1 (by omega))
  have F2 : Fy KQ SQ g1 (gz_wi (gz_wi g1 54 (30 + 4 * a + 1) (nI x)) 54 (30 + 4 * b + 1) (nI y)) := (Fy.z0.s (by omega) (by omega)).s (by omega) (by omega)
  have p2 : RKp (gz_wi (gz_wi g1 54 (30 + 4 * a + 1) (nI x)) 54 (30 + 4 * b + 1) (nI y)) (sPl V a b x y) := (u4.fr F2 (by omega)).mo (fun k hk => by unfold sPl; rw [uN_n (by omega), uN_n (by omega)]) h60
  have main : ∀ i, i < V 60 → ∃ g', fX12_gameOf_53 La (nI a) (nI b) (nI i) 4 30 (gz_wi (gz_wi g1 54 (30 + 4 * a + 1) (nI x)) 54 (30 + 4 * b + 1) (nI y)) = some (sGain (sTof Ls cur) V a b x y i, g') ∧ Fy KQ SQ g g' ∧ RLw g' Ls cur := by
    intro i hi
    have F3 := u2.tr F2
    have w2 : CX (gz_wi (gz_wi g1 54 (30 + 4 * a + 1) (nI x)) 54 (30 + 4 * b + 1) (nI y)) 54 (sPl V a b x y) Ls cur := w2
    generalize gz_wi (gz_wi g1 54 (30 + 4 * a + 1) (nI x)) 54 (30 + 4 * b + 1) (nI y) = g2 at *
    unfold fX12_gameOf_53 sGain
    rw [show (4 : Int32) * nI i = nI (4 * i) from n_mul 4 i, show (30 : Int32) + nI (4 * i) = nI (30 + 4 * i) from n_add 30 _, gz_let_eq]
    generalize hUe : sPl V a b x y = U at *
    refine lp (fun f k (z : gz_S) => fX12_gameOf_66 La (fun (x6 : Int32) (x7 : Int32) (x8 : Int32) g => if gz_ok x6 231 then (fJ6_bitCount_0f7a4 La (x7 &&& (((1 : Int32) <<< ((g.1 53 (Int32.toNatClampNeg x6)) &&& 31)) ^^^ ((-1) : Int32))) g).bind (fun q138 => if x8 = 0 then fX12_gameOf_151 La 0 q138.1 q138.2 else fX12_gameOf_151 La 3 q138.1 q138.2) else none) f (nI a) (nI b) (nI (30 + 4 * i)) (nI (sTrail (sTof Ls cur) U i k)) (if sLess (sTof Ls cur) U a b k = 0 then nI 0 else nI 1) (nI k) z)
      (fun k z => Fy KQ SQ g z ∧ CX z 54 (sHrs (sTof Ls cur) U k) Ls cur ∧ RKp z (sHrs (sTof Ls cur) U k)) 6
      (fun q => ∃ g', q = some (nI (pc 32 (sTrail (sTof Ls cur) U i 6 ^^^ (sTrail (sTof Ls cur) U i 6 &&& 2 ^ V (30 + i)))) - nI (sLess (sTof Ls cur) U a b 6), g') ∧ Fy KQ SQ g g' ∧ RLw g' Ls cur) ?_ ?_ gz_FU 0 g2 (by omega) (by unfold gz_FU; omega) ⟨F3, w2, p2⟩
    · intro f k g3 hk ⟨q1, q2, q3⟩
      have hWk := sHrs_wf hT hU k (by omega)
      have e60 : sHrs (sTof Ls cur) U k 60 = V 60 := (sHrs_60 (by omega) k 60 (by omega)).trans u60
      obtain ⟨g4, v1, v2, v3, v4, v5⟩ := r_hr (La := La) q2 q3 hWk (by omega)
      have v6 := v5 a b (by rw [e60]; exact ha) (by rw [e60]; exact hb) hab
      rw [← sHrs_s] at v3 v4 v6
      have hWk1 := sHrs_wf hT hU (k + 1) (by omega)
      have m0 : g4.1 54 (30 + 4 * i) = nI (sHrs (sTof Ls cur) U (k + 1) (30 + i)) := (v3.at0 (i := i) (by omega)).1
      have c30 := (hWk1.2.2.2.2.2.2.2.2.2.1 i (by omega)).1
      have hsh : (1 : Int32) <<< ((g4.1 54 (30 + 4 * i)) &&& 31) = nI (2 ^ sHrs (sTof Ls cur) U (k + 1) (30 + i)) := by rw [m0]; exact n_shl1 (by omega)
      refine Or.inr ⟨g4, ?_, q1.tr v2, v3, v4⟩
      show fX12_gameOf_66 La _ (f + 1) (nI a) (nI b) (nI (30 + 4 * i)) (nI (sTrail (sTof Ls cur) U i k)) (if sLess (sTof Ls cur) U a b k = 0 then nI 0 else nI 1) (nI k) g3 = _
      rw [fX12_gameOf_66, if_neg (show ¬ (6 : Int32) ≤ nI k by show ¬ nI 6 ≤ nI k; rw [n_le (by omega) (by omega)]; omega), v1, Option.bind_some]
      refine (if_pos (n_okP (by omega) (by omega))).trans ?_
      rw [n_cl (by omega), hsh, n_or, gz_let_eq, ← sTrail_s]
      unfold fX12_gameOf_111 fX12_gameOf_116
      rw [gz_let_eq, show nI k + (1 : Int32) = nI (k + 1) from n_add _ _, v6, Option.bind_some, gz_let_eq]
      by_cases l0 : sLess (sTof Ls cur) U a b k = 0
      · rw [if_pos l0, if_pos (show nI 0 = (0 : Int32) from rfl)]
        by_cases t1 : sTog (sHrs (sTof Ls cur) U (k + 1)) a b
        · rw [sLess_s, if_pos t1, if_neg (show ¬ 3 = 0 by decide)]
          exact if_neg (pI1 t1)
        · rw [sLess_s, if_neg t1, if_pos l0]
          exact if_pos (pI0 t1)
      · have l1 : ¬ sLess (sTof Ls cur) U a b (k + 1) = 0 := by rw [sLess_s]; split; decide; exact l0
        rw [if_neg l0, if_neg (show ¬ nI 1 = (0 : Int32) by decide), if_neg l1]; rfl
    · intro f g3 ⟨q1, q2, q3⟩
      have hWk := sHrs_wf hT hU 6 (by omega)
      have t1 := sTrail_lt hT hU (show i < 4 by omega) 6 (by omega)
      have h53 : g3.1 53 (30 + 4 * i) = nI (V (30 + i)) := by rw [q1.1 53 (by omega) (by omega)]; exact (h.at0 (i := i) (by omega)).1
      have c30 := (hW.2.2.2.2.2.2.2.2.2.1 i (by omega)).1
      have hsh : (1 : Int32) <<< ((g3.1 53 (30 + 4 * i)) &&& 31) = nI (2 ^ V (30 + i)) := by rw [h53]; exact n_shl1 (by omega)
      have hand : sTrail (sTof Ls cur) U i 6 &&& 2 ^ V (30 + i) < 1073741824 := Nat.lt_of_le_of_lt Nat.and_le_left t1
      refine ⟨g3, ?_, q1, q2.2.2⟩
      show fX12_gameOf_66 La _ (f + 1) (nI a) (nI b) (nI (30 + 4 * i)) (nI (sTrail (sTof Ls cur) U i 6)) (if sLess (sTof Ls cur) U a b 6 = 0 then nI 0 else nI 1) (nI 6) g3 = _
      rw [fX12_gameOf_66, if_pos (show (6 : Int32) ≤ nI 6 by decide), if_pos (n_okP (by omega) (by omega)), n_cl (by omega), hsh, show ((-1) : Int32) = -nI 1 from rfl, n_clr, c_bitCount (b_xor t1 hand), Option.bind_some]
      unfold fX12_gameOf_151
      rcases sLess_03 (sTof Ls cur) U a b 6 with l0 | l0
      · rw [l0]; rfl
      · rw [l0]; rfl
  unfold fX12_gameOf
  rw [u1, Option.bind_some, ix_0, ix_0, show nI (30 + 4 * a) + (1 : Int32) = nI (30 + 4 * a + 1) from n_add _ 1, show nI (30 + 4 * b) + (1 : Int32) = nI (30 + 4 * b + 1) from n_add _ 1, if_pos (n_okP (by omega) (by omega)), n_cl (by omega), gz_let_eq, if_pos (n_okP (by omega) (by omega)), n_cl (by omega), gz_let_eq]
  by_cases c : w = 0
  · subst c
    rw [if_pos (show nI 0 = (0 : Int32) from rfl), if_pos rfl]; exact main a ha
  · rw [if_neg (show ¬ nI w = 0 by show ¬ _ = nI 0; rw [n_eq (by omega) (by omega)]; exact c), if_neg c]; exact main b hb
end RW
section ST
variable {La : gz_L} {g : gz_S} {l : List Nat} {Ls : List (List Nat)} {Es : List (List eS)} {cur : Option Nat} {lv : Nat} {V V0 : Nat → Nat} {a : Nat} {K : Nat → Nat → Nat} {Lg : Nat → Nat} {him : Nat} {IV ILg : Nat → Nat} {s : sS} {B : Nat}
theorem ClW.ft {g' : gz_S} (h : ClW La g l Ls Es cur lv V V0 a K Lg him IV ILg s) (hF : FT g g') : ClW La g' l Ls Es cur lv V V0 a K Lg him IV ILg s :=
  h.sp hF.1 (fun j hj => by have := hj; omega) hF.2
theorem CallOk.qt {F1 F2 : gz_S → Option (Int32 × gz_S)} {v : Int32} (hC : ClW La g l Ls Es cur lv V V0 a K Lg him IV ILg s) (hR : ReW g l Ls Es cur lv V V0 a K Lg him IV ILg s) (hI : Inv V V0 a K Lg him IV ILg s B)
    (h1 : ∃ g1, F1 g = some (v, g1) ∧ FT g g1) (h2 : ∀ g1, ReW g1 l Ls Es cur lv V V0 a K Lg him IV ILg s → ∃ g2, F2 g1 = some (v, g2) ∧ Fy KQ SQ g1 g2 ∧ RLw g2 Ls cur) : CallOk La F1 F2 g B := by
  obtain ⟨g1, u1, u2⟩ := h1
  have hR1 := hR.fr (FC.of u2.1 (fun j hj => by have := hj; omega))
  obtain ⟨g2, v1, v2, v3⟩ := h2 g1 hR1
  exact CallOk.of u1 v1 (hC.ft u2) (FR.y v2 (fun j hj => by have := hj; omega)) (hR1.sp v2 v3) hI
abbrev goingP (V : Nat → Nat) (x y : Int32) : Prop := ((0 ≤ x.toInt ∧ x.toInt < (V 60 : Int)) ∧ (0 ≤ y.toInt ∧ y.toInt < (V 60 : Int)) ∧ (x.toInt < y.toInt ∨ y.toInt < x.toInt)) ∧ V (42 + x.toInt.toNat) = 0 ∧ V (42 + y.toInt.toNat) = 0
theorem c_going (h : ClW La g l Ls Es cur lv V V0 a K Lg him IV ILg s) (hI : Inv V V0 a K Lg him IV ILg s B) {x y : Int32} : fX6_hasGoingPair La 6 x y g = some (pI (goingP V x y), g) := by
  have hg4 := hI.g4
  unfold fX6_hasGoingPair
  rw [c_hasPair (w := 6) h.2.1 hI.b, Option.bind_some]
  by_cases c : (0 ≤ x.toInt ∧ x.toInt < (V 60 : Int)) ∧ (0 ≤ y.toInt ∧ y.toInt < (V 60 : Int)) ∧ (x.toInt < y.toInt ∨ y.toInt < x.toInt)
  · obtain ⟨i, i1, rfl, i3⟩ := x_of (x := x) c.1.1
    obtain ⟨n, n1, rfl, n3⟩ := x_of (x := y) c.2.1.1
    have ei : (nI i).toInt.toNat = i := by omega
    have en : (nI n).toInt.toNat = n := by omega
    refine (if_neg (pI1 c)).trans ?_
    rw [c_goes (w := 6) h.2.1 hI.b (by omega), Option.bind_some]
    by_cases c1 : V (42 + i) = 0
    · refine (if_neg (pI1 c1)).trans ?_
      rw [c_goes (w := 6) h.2.1 hI.b (by omega), Option.bind_some]
      by_cases c2 : V (42 + n) = 0
      · exact (if_neg (pI1 c2)).trans (p_t ⟨c, by rw [ei]; exact c1, by rw [en]; exact c2⟩)
      · exact (if_pos (pI0 c2)).trans (p_f (fun hh => c2 (by have := hh.2.2; rw [en] at this; exact this)))
    · exact (if_pos (pI0 c1)).trans (p_f (fun hh => c1 (by have := hh.2.1; rw [ei] at this; exact this)))
  · exact (if_pos (pI0 c)).trans (p_f (fun hh => c hh.1))
theorem ReW.canPlay (h : ReW g l Ls Es cur lv V V0 a K Lg him IV ILg s) (hI : Inv V V0 a K Lg him IV ILg s B) {x y : Int32} : fX12_canPlay La x y g = some (pI (goingP V x y), g) := by
  have hg4 := hI.g4
  unfold fX12_canPlay
  rw [h.areTwo hI, Option.bind_some]
  by_cases c : (0 ≤ x.toInt ∧ x.toInt < (V 60 : Int)) ∧ (0 ≤ y.toInt ∧ y.toInt < (V 60 : Int)) ∧ (x.toInt < y.toInt ∨ y.toInt < x.toInt)
  · obtain ⟨i, i1, rfl, i3⟩ := x_of (x := x) c.1.1
    obtain ⟨n, n1, rfl, n3⟩ := x_of (x := y) c.2.1.1
    have ei : (nI i).toInt.toNat = i := by omega
    have en : (nI n).toInt.toNat = n := by omega
    have h0 : ¬ V 60 = 0 := fun h0 => by omega
    obtain ⟨hcx, _⟩ := h.cx hI h0
    refine (if_neg (pI1 c)).trans ?_
    rw [r_does hcx.1 hI.b (by omega), Option.bind_some]
    by_cases c1 : V (42 + i) = 0
    · refine (if_neg (pI1 c1)).trans ?_
      rw [r_does hcx.1 hI.b (by omega), Option.bind_some]
      by_cases c2 : V (42 + n) = 0
      · exact (if_neg (pI1 c2)).trans (p_t ⟨c, by rw [ei]; exact c1, by rw [en]; exact c2⟩)
      · exact (if_pos (pI0 c2)).trans (p_f (fun hh => c2 (by have := hh.2.2; rw [en] at this; exact this)))
    · exact (if_pos (pI0 c1)).trans (p_f (fun hh => c1 (by have := hh.2.1; rw [ei] at this; exact this)))
  · exact (if_pos (pI0 c)).trans (p_f (fun hh => c hh.1))
theorem w_game (hw : WR La g B) (hB : B < 400000) (x y x3 x4 x5 : Int32) : CallOk La (fX11_game La x y x3 x4 x5) (fX12_game La x y x3 x4 x5) g B := by
  obtain ⟨l, Ls, Es, cur, lv, V, V0, a, K, Lg, him, IV, ILg, s, hC, hR, hI⟩ := hw
  have hg4 := hI.g4
  have h31 := Int32.toInt_lt x3
  have h32 := Int32.le_toInt x3
  have h41 := Int32.toInt_lt x4
  have h42 := Int32.le_toInt x4
  have h51 := Int32.toInt_lt x5
  have h52 := Int32.le_toInt x5
  by_cases yes : goingP V x y ∧ (0 ≤ x3.toInt ∧ x3.toInt < 4) ∧ (0 ≤ x4.toInt ∧ x4.toInt < 4) ∧ 0 ≤ x5.toInt ∧ x5.toInt ≤ 1
  · obtain ⟨yp, y3, y4, y5⟩ := yes
    obtain ⟨i, i1, rfl, i3⟩ := x_of (x := x) yp.1.1.1
    obtain ⟨n, n1, rfl, n3⟩ := x_of (x := y) yp.1.2.1.1
    obtain ⟨p, p1, rfl, p3⟩ := x_of (x := x3) y3.1
    obtain ⟨q, q1, rfl, q3⟩ := x_of (x := x4) y4.1
    obtain ⟨w, w1, rfl, w3⟩ := x_of (x := x5) y5.1
    have h0 : ¬ V 60 = 0 := fun h0 => by have := yp.1.1; omega
    obtain ⟨hW, h49, _⟩ := hI.2.2.1 h0
    have hi : i < V 60 := by have := yp.1.1; omega
    have hn : n < V 60 := by have := yp.1.2.1; omega
    have hin : i ≠ n := by have := yp.1.2.2; omega
    refine CallOk.qt (v := sGain (sTof Ls cur) V i n p q (if w = 0 then i else n)) hC hR hI ?_ (fun g1 hR1 => ?_)
    · obtain ⟨g1, u1, u2, u3, u4, _⟩ := c_play (La := La) (hC.cf hW) hB (a := i) (b := n) (x := p) (y := q) (by omega) (by omega) (by omega) (by omega)
      refine ⟨g1, ?_, u2⟩
      unfold fX11_game
      rw [c_going hC hI, Option.bind_some]
      refine (if_neg (pI1 yp)).trans ((if_neg (show ¬ nI w < nI 0 by rw [n_lt (by omega) (by omega)]; omega)).trans ((if_pos (show nI w ≤ nI 1 by rw [n_le (by omega) (by omega)]; omega)).trans ?_))
      rw [c_isLook, Option.bind_some]
      refine (if_neg (pI1 y3)).trans ?_
      rw [c_isLook, Option.bind_some]
      refine (if_neg (pI1 y4)).trans ?_
      rw [u1, Option.bind_some]
      by_cases c : w = 0
      · rw [if_pos c, if_pos (show nI w = 0 by rw [c]; rfl), u3]
      · rw [if_neg c, if_neg (show ¬ nI w = 0 by show ¬ _ = nI 0; rw [n_eq (by omega) (by omega)]; exact c), u4]
    · obtain ⟨hcx, hkp⟩ := hR1.f0.1.cx hI h0
      obtain ⟨g2, v1, v2, v3⟩ := r_gameOf (La := La) hcx hkp hW hB hi hn hin (x := p) (y := q) (w := w) (by omega) (by omega) (by omega)
      refine ⟨g2, ?_, hR1.f0q.tr v2, v3⟩
      unfold fX12_game
      rw [gz_let_eq, hR1.f0.1.canPlay hI, Option.bind_some]
      refine (if_neg (pI1 yp)).trans ?_
      rw [x_l, x_l, x_l, show (0 : Int64) = Int64.ofInt 0 from rfl, show (3 : Int64) = Int64.ofInt 3 from rfl, show (1 : Int64) = Int64.ofInt 1 from rfl, r_isInZ (by omega) (by omega) (by omega), Option.bind_some]
      refine (if_neg (pI1 (by omega))).trans ?_
      rw [r_isInZ (by omega) (by omega) (by omega), Option.bind_some]
      refine (if_neg (pI1 (by omega))).trans ?_
      rw [r_isInZ (by omega) (by omega) (by omega), Option.bind_some]
      refine (if_neg (pI1 (by omega))).trans ?_
      rw [v1, Option.bind_some]
  · refine CallOk.no (v := -1000000) ?_ ?_ hC hR hI
    · unfold fX11_game
      rw [c_going hC hI, Option.bind_some]
      by_cases c1 : goingP V x y
      · refine (if_neg (pI1 c1)).trans ?_
        by_cases c2 : x5.toInt < 0
        · exact if_pos (show x5 < nI 0 by rw [x_lt (by omega)]; omega)
        · refine (if_neg (show ¬ x5 < nI 0 by rw [x_lt (by omega)]; omega)).trans ?_
          by_cases c3 : x5.toInt ≤ 1
          · refine (if_pos (show x5 ≤ nI 1 by rw [x_le (by omega)]; omega)).trans ?_
            rw [c_isLook, Option.bind_some]
            by_cases c4 : 0 ≤ x3.toInt ∧ x3.toInt < 4
            · refine (if_neg (pI1 c4)).trans ?_
              rw [c_isLook, Option.bind_some]
              exact if_pos (pI0 (fun hh => yes ⟨c1, c4, hh, by omega, c3⟩))
            · exact if_pos (pI0 c4)
          · exact if_neg (show ¬ x5 ≤ nI 1 by rw [x_le (by omega)]; omega)
      · exact if_pos (pI0 c1)
    · unfold fX12_game
      rw [gz_let_eq, hR.f0.1.canPlay hI, Option.bind_some]
      by_cases c1 : goingP V x y
      · refine (if_neg (pI1 c1)).trans ?_
        rw [x_l, x_l, x_l, show (0 : Int64) = Int64.ofInt 0 from rfl, show (3 : Int64) = Int64.ofInt 3 from rfl, show (1 : Int64) = Int64.ofInt 1 from rfl, r_isInZ (by omega) (by omega) (by omega), Option.bind_some]
        by_cases c4 : 0 ≤ x3.toInt ∧ x3.toInt ≤ 3
        · refine (if_neg (pI1 c4)).trans ?_
          rw [r_isInZ (by omega) (by omega) (by omega), Option.bind_some]
          by_cases c5 : 0 ≤ x4.toInt ∧ x4.toInt ≤ 3
          · refine (if_neg (pI1 c5)).trans ?_
            rw [r_isInZ (by omega) (by omega) (by omega), Option.bind_some]
            exact if_pos (pI0 (fun hh => yes ⟨c1, by omega, by omega, hh⟩))
          · exact if_pos (pI0 c5)
        · exact if_pos (pI0 c4)
      · exact if_pos (pI0 c1)
end ST
