/-! calls: shore, seen, count -/
section ST
variable {La : gz_L} {g : gz_S} {l : List Nat} {Ls : List (List Nat)} {Es : List (List eS)} {cur : Option Nat} {lv : Nat} {V V0 : Nat → Nat} {a : Nat} {K : Nat → Nat → Nat} {Lg : Nat → Nat} {him : Nat} {IV ILg : Nat → Nat} {s : sS} {B : Nat}
theorem Inv.c0 (hI : Inv V V0 a K Lg him IV ILg s B) (h0 : V 60 = 0) : V 58 * V 59 = 0 := by rw [show V 58 = 0 from congrFun (hI.2.1 h0).1 58, Nat.zero_mul]
theorem w_shore (hw : WR La g B) (x y : Int32) : CallOk La (fX11_shore La x y) (fX12_shore La x y) g B := by
  obtain ⟨l, Ls, Es, cur, lv, V, V0, a, K, Lg, him, IV, ILg, s, hC, hR, hI⟩ := hw
  have hy1 := Int32.toInt_lt y
  have hy2 := Int32.le_toInt y
  have h30 := hI.c30
  by_cases c : 0 ≤ x.toInt ∧ x.toInt < ((V 58 * V 59 : Nat) : Int)
  · have h0 : ¬ V 60 = 0 := fun h0 => by have := hI.c0 h0; omega
    obtain ⟨hW, h49, _⟩ := hI.2.2.1 h0
    obtain ⟨n, n1, rfl, n3⟩ := x_of (x := x) c.1
    have en := hR.f0.1.2.1.1 n (by omega)
    rw [rp_c (by omega)] at en
    have e0 : (y = 0) = (y.toInt = 0) := x_eq (n := 0) (by omega)
    have e1 : (y = 1) = (y.toInt = 1) := x_eq (n := 1) (by omega)
    obtain ⟨hcx, _⟩ := hR.f0.1.cx hI h0
    have hl : fX11_shore La (nI n) y g = if y = 0 then some (nI (V n), g) else if y = 1 then some (pI (sUnd V n), g) else some (-1, g) := by
      unfold fX11_shore
      rw [c_hasCellW hC hI, Option.bind_some]
      refine (if_neg (pI1 c)).trans ?_
      rw [c_kind (w := 6) hC.2.1 (by omega), c_under (w := 6) hC.2.1 hW (by omega), Option.bind_some, Option.bind_some]
      by_cases y0 : y = 0
      · rw [if_pos y0, if_pos y0]
      · rw [if_neg y0, if_neg y0]
        by_cases y1 : y = 1
        · rw [if_pos y1, if_pos y1]
          by_cases cu : sUnd V n
          · exact (if_neg (pI1 cu)).trans (p_t cu)
          · exact (if_pos (pI0 cu)).trans (p_f cu)
        · rw [if_neg y1, if_neg y1]
    have hr : fX12_shore La (nI n) y (g) = if y = 0 then some (nI (V n), gz_wi g 39 0 0) else if y = 1 then some (pI (sUnd V n), gz_wi g 39 0 0) else some (-1, gz_wi g 39 0 0) := by
      unfold fX12_shore
      rw [gz_let_eq, hR.f0.1.isCell hI, Option.bind_some]
      refine (if_neg (pI1 c)).trans ?_
      rw [x_l y, show (0 : Int64) = Int64.ofInt 0 from rfl, show (1 : Int64) = Int64.ofInt 1 from rfl, r_isInZ (by omega) (by omega) (by omega), Option.bind_some]
      by_cases y0 : y = 0
      · have y0' := y0
        rw [e0] at y0'
        refine (if_neg (pI1 (by omega))).trans ?_
        rw [if_pos y0, if_pos y0]
        refine (if_pos (n_okP (by omega) (by omega))).trans ?_
        show some ((gz_wi g 39 0 0).1 53 (Int32.toNatClampNeg (nI n)), gz_wi g 39 0 0) = _
        rw [n_cl (by omega), en]
      · have y0' := y0
        rw [e0] at y0'
        by_cases y1 : y = 1
        · have y1' := y1
          rw [e1] at y1'
          refine (if_neg (pI1 (by omega))).trans ?_
          rw [if_neg y0, if_neg y0, if_pos y1, r_isUnder hcx.1 hcx.2.1 hW (by omega), Option.bind_some]
          by_cases cu : sUnd V n
          · exact (if_neg (pI1 cu)).trans (p_t cu)
          · exact (if_pos (pI0 cu)).trans (p_f cu)
        · have y1' := y1
          rw [e1] at y1'
          refine (if_pos (pI0 (by omega))).trans ?_
          rw [if_neg y0, if_neg y1]
    by_cases y0 : y = 0
    · rw [if_pos y0] at hl hr; exact CallOk.no hl hr hC hR hI
    · rw [if_neg y0] at hl hr
      by_cases y1 : y = 1
      · rw [if_pos y1] at hl hr; exact CallOk.no hl hr hC hR hI
      · rw [if_neg y1] at hl hr; exact CallOk.no hl hr hC hR hI
  · refine CallOk.no (v := -1) ?_ ?_ hC hR hI
    · unfold fX11_shore
      rw [c_hasCellW hC hI, Option.bind_some]
      exact if_pos (pI0 c)
    · unfold fX12_shore
      rw [gz_let_eq, hR.f0.1.isCell hI, Option.bind_some]
      exact if_pos (pI0 c)
theorem w_seen (hw : WR La g B) (x y z : Int32) : CallOk La (fX11_seen La x y z) (fX12_seen La x y z) g B := by
  obtain ⟨l, Ls, Es, cur, lv, V, V0, a, K, Lg, him, IV, ILg, s, hC, hR, hI⟩ := hw
  have hy1 := Int32.toInt_lt y
  have hy2 := Int32.le_toInt y
  have h30 := hI.c30
  have hg4 := hI.g4
  have hs10 := hC.2.2.2.2.2.2.2.2.1
  have e47 : (gz_wi g 39 0 0).1 39 47 = nI s.1 := hR.f0.1.2.2.2.2.2.1
  by_cases yes : (0 ≤ x.toInt ∧ x.toInt < (V 60 : Int)) ∧ (0 ≤ z.toInt ∧ z.toInt < ((V 58 * V 59 : Nat) : Int)) ∧ (0 ≤ y.toInt ∧ y.toInt ≤ 30)
  · obtain ⟨n, n1, rfl, n3⟩ := x_of (x := x) yes.1.1
    obtain ⟨m, m1, rfl, m3⟩ := x_of (x := y) yes.2.2.1
    obtain ⟨k, k1, rfl, k3⟩ := x_of (x := z) yes.2.1.1
    obtain ⟨g1, u1, u2, u3⟩ := c_add (La := La) hC.2.2.2.2.2.2.2 (x1 := n) (x2 := m) (x3 := k) (by omega) (by omega) (by omega)
    have hcl : ∀ Q : Option (Int32 × gz_S), (if pI (s.1 < 10) = 0 then some ((-1 : Int32), g1) else some (g1.1 11 0, g1)) = Q → fX11_seen La (nI n) (nI m) (nI k) g = Q := by
      intro Q hQ
      unfold fX11_seen
      rw [c_hasGoerW hC hI, Option.bind_some]
      refine (if_neg (pI1 yes.1)).trans ?_
      rw [c_hasCellW hC hI, Option.bind_some]
      refine (if_neg (pI1 yes.2.1)).trans ((if_neg (show ¬ nI m < nI 0 by rw [n_lt (by omega) (by omega)]; omega)).trans ((if_pos (show nI m ≤ nI 30 by rw [n_le (by omega) (by omega)]; omega)).trans ?_))
      rw [u1, Option.bind_some]
      exact hQ
    have hrl : ∀ (h : gz_S) (Q : Option (Int32 × gz_S)), ReW h l Ls Es cur lv V V0 a K Lg him IV ILg s → (if (h.1 39 47) = 10 then some ((-1 : Int32), h) else if gz_ok ((3 : Int32) * (h.1 39 47)) 30 then gz_let (gz_wi h 59 (Int32.toNatClampNeg ((3 : Int32) * (h.1 39 47))) (nI n)) (fun g55 => if gz_ok (((3 : Int32) * (g55.1 39 47)) + 1) 30 then gz_let (gz_wi g55 59 (Int32.toNatClampNeg (((3 : Int32) * (g55.1 39 47)) + 1)) (nI m)) (fun g69 => if gz_ok (((3 : Int32) * (g69.1 39 47)) + 2) 30 then gz_let (gz_wi g69 59 (Int32.toNatClampNeg (((3 : Int32) * (g69.1 39 47)) + 2)) (nI k)) (fun g83 => gz_let (gz_wi g83 39 47 ((g83.1 39 47) + 1)) (fun g91 => some (g91.1 39 47, g91))) else none) else none) else none) = Q →
        (fX12_isGoer La (nI n) h).bind (fun q7 => if q7.1 = 0 then some ((-1), q7.2) else (fX12_isIn La (Int32.toInt64 (nI m)) 0 30 q7.2).bind (fun q19 => if q19.1 = 0 then some ((-1), q19.2) else (fX12_isCell La (nI k) q19.2).bind (fun q27 => if q27.1 = 0 then some ((-1), q27.2) else if (q27.2.1 39 47) = 10 then some ((-1), q27.2) else if gz_ok ((3 : Int32) * (q27.2.1 39 47)) 30 then gz_let (gz_wi q27.2 59 (Int32.toNatClampNeg ((3 : Int32) * (q27.2.1 39 47))) (nI n)) (fun g55 => if gz_ok (((3 : Int32) * (g55.1 39 47)) + 1) 30 then gz_let (gz_wi g55 59 (Int32.toNatClampNeg (((3 : Int32) * (g55.1 39 47)) + 1)) (nI m)) (fun g69 => if gz_ok (((3 : Int32) * (g69.1 39 47)) + 2) 30 then gz_let (gz_wi g69 59 (Int32.toNatClampNeg (((3 : Int32) * (g69.1 39 47)) + 2)) (nI k)) (fun g83 => gz_let (gz_wi g83 39 47 ((g83.1 39 47) + 1)) (fun g91 => some (g91.1 39 47, g91))) else none) else none) else none))) = Q := by
      intro h Q hh hQ
      rw [hh.isGoer hI, Option.bind_some]
      refine (if_neg (pI1 yes.1)).trans ?_
      rw [x_l, show (0 : Int64) = Int64.ofInt 0 from rfl, show (30 : Int64) = Int64.ofInt 30 from rfl, r_isInZ (by omega) (by omega) (by omega), Option.bind_some]
      refine (if_neg (pI1 yes.2.2)).trans ?_
      rw [hh.isCell hI, Option.bind_some]
      exact (if_neg (pI1 yes.2.1)).trans hQ
    have hS : ∀ j, (j = 11 ∨ j = 33 ∨ j = 34 ∨ j = 35) → j < 39 ∨ 64 ≤ j := fun j hj => by omega
    have e : ∀ j, ¬ (j = 11 ∨ j = 33 ∨ j = 34 ∨ j = 35) → g1.1 j = g.1 j := u2.1
    have hR1 := (hR.fr (FC.of u2 hS)).f0
    have e47' : (gz_wi g1 39 0 0).1 39 47 = nI s.1 := hR1.1.2.2.2.2.2.1
    obtain ⟨c1, c2, c3, c4, c5, c6, c7, c8⟩ := id hC
    have hC1 : ∀ s', CS g1 s' → ClW La g1 l Ls Es cur lv V V0 a K Lg him IV ILg s' := fun s' hs' => ⟨c1.cg (e 0 (by omega)) (e 1 (by omega)) (e 14 (by omega)) (Tq.ww u2.2) (fun j hj => e j (by omega)), by rw [e 22 (by omega)]; exact c2, by rw [e 21 (by omega)]; exact c3, by rw [e 23 (by omega)]; exact c4, c5, c6, c7.fr u2 (fun j hj => by omega), hs'⟩
    by_cases c10 : s.1 < 10
    · rw [if_pos c10] at u3
      have h0 : ¬ V 60 = 0 := fun h0 => by omega
      refine CallOk.of (v := nI (s.1 + 1)) (g1 := g1) (g2 := gz_wi (gz_wi (gz_wi (gz_wi (gz_wi g1 39 0 0) 59 (3 * s.1) (nI n)) 59 (3 * s.1 + 1) (nI m)) 59 (3 * s.1 + 2) (nI k)) 39 47 (nI (s.1 + 1))) ?_ ?_ (hC1 _ u3) ?_ ?_ ?_
      · refine hcl _ ?_
        rw [if_neg (pI1 c10), u3.1]
      · unfold fX12_seen
        rw [gz_let_eq]
        refine hrl _ _ hR1.1 ?_
        have m3' : (3 : Int32) * nI s.1 = nI (3 * s.1) := n_mul 3 s.1
        rw [e47', if_neg (show ¬ nI s.1 = 10 by show ¬ nI s.1 = nI 10; rw [n_eq (by omega) (by omega)]; omega), m3', if_pos (n_okP (by omega) (by omega)), n_cl (by omega), gz_let_eq, wi_39 (by omega), e47', m3', show nI (3 * s.1) + (1 : Int32) = nI (3 * s.1 + 1) from n_add _ 1, if_pos (n_okP (by omega) (by omega)), n_cl (by omega), gz_let_eq, wi_39 (by omega), wi_39 (by omega), e47', m3', show nI (3 * s.1) + (2 : Int32) = nI (3 * s.1 + 2) from n_add _ 2, if_pos (n_okP (by omega) (by omega)), n_cl (by omega), gz_let_eq, wi_39 (by omega), wi_39 (by omega), wi_39 (by omega), e47', show nI s.1 + (1 : Int32) = nI (s.1 + 1) from n_add _ 1, gz_let_eq, wi_ss]
      · have F : Fy (fun k => k = 47) (fun j => j = 59) (gz_wi g1 39 0 0) (gz_wi (gz_wi (gz_wi (gz_wi (gz_wi g1 39 0 0) 59 (3 * s.1) (nI n)) 59 (3 * s.1 + 1) (nI m)) 59 (3 * s.1 + 2) (nI k)) 39 47 (nI (s.1 + 1))) :=
          Fy.w (Fy.s (Fy.s (Fy.s Fy.z0 (j := 59) (by omega) rfl) (j := 59) (by omega) rfl) (j := 59) (by omega) rfl) rfl
        exact hR1.2.tr (FR.y F (fun j hj => by omega))
      · obtain ⟨⟨s1, s2, s3, s4⟩, d2, d3, d4, d5, d6, d7⟩ := hR1.1
        have F : Fy (fun k => k = 47) (fun j => j = 59) (gz_wi g1 39 0 0) (gz_wi (gz_wi (gz_wi (gz_wi (gz_wi g1 39 0 0) 59 (3 * s.1) (nI n)) 59 (3 * s.1 + 1) (nI m)) 59 (3 * s.1 + 2) (nI k)) 39 47 (nI (s.1 + 1))) :=
          Fy.w (Fy.s (Fy.s (Fy.s Fy.z0 (j := 59) (by omega) rfl) (j := 59) (by omega) rfl) (j := 59) (by omega) rfl) rfl
        refine ⟨⟨s1, s2.fr F (by omega) (by omega) (by omega) (by omega) (by omega) (by omega) (by omega), s3, s4⟩, d2, d3, d4, d5, wi_ss, fun i hi => ?_⟩
        have hi : i < s.1 + 1 := hi
        show (gz_wi (gz_wi (gz_wi (gz_wi (gz_wi g1 39 0 0) 59 (3 * s.1) (nI n)) 59 (3 * s.1 + 1) (nI m)) 59 (3 * s.1 + 2) (nI k)) 39 47 (nI (s.1 + 1))).1 59 (3 * i) = nI (uN s.2.1 s.1 n i) ∧ (gz_wi (gz_wi (gz_wi (gz_wi (gz_wi g1 39 0 0) 59 (3 * s.1) (nI n)) 59 (3 * s.1 + 1) (nI m)) 59 (3 * s.1 + 2) (nI k)) 39 47 (nI (s.1 + 1))).1 59 (3 * i + 1) = nI (uN s.2.2.1 s.1 m i) ∧ (gz_wi (gz_wi (gz_wi (gz_wi (gz_wi g1 39 0 0) 59 (3 * s.1) (nI n)) 59 (3 * s.1 + 1) (nI m)) 59 (3 * s.1 + 2) (nI k)) 39 47 (nI (s.1 + 1))).1 59 (3 * i + 2) = nI (uN s.2.2.2 s.1 k i)
        rw [wi_no (by omega)]
        by_cases ci : i = s.1
        · subst ci
          rw [uN_s, uN_s, uN_s]
          refine ⟨?_, ?_, wi_ss⟩
          · rw [wi_sn (by omega), wi_sn (by omega), wi_ss]
          · rw [wi_sn (by omega), wi_ss]
        · rw [uN_n ci, uN_n ci, uN_n ci, wi_sn (by omega), wi_sn (by omega), wi_sn (by omega), wi_sn (by omega), wi_sn (by omega), wi_sn (by omega), wi_sn (by omega), wi_sn (by omega), wi_sn (by omega)]
          exact d7 i (by omega)
      · exact ⟨hI.1, fun hh => absurd hh h0, hI.2.2.1, hI.2.2.2⟩
    · rw [if_neg c10] at u3
      refine CallOk.of (v := -1) (g1 := g1) (g2 := gz_wi g1 39 0 0) ?_ ?_ (hC1 _ u3) hR1.2 hR1.1 hI
      · refine hcl _ ?_
        rw [if_pos (pI0 c10)]
      · unfold fX12_seen
        rw [gz_let_eq]
        refine hrl _ _ hR1.1 ?_
        rw [if_pos (show (gz_wi g1 39 0 0).1 39 47 = 10 by rw [e47', show s.1 = 10 by omega]; rfl)]
  · refine CallOk.no (v := -1) ?_ ?_ hC hR hI
    · unfold fX11_seen
      rw [c_hasGoerW hC hI, Option.bind_some]
      by_cases q1 : 0 ≤ x.toInt ∧ x.toInt < (V 60 : Int)
      · refine (if_neg (pI1 q1)).trans ?_
        rw [c_hasCellW hC hI, Option.bind_some]
        by_cases q2 : 0 ≤ z.toInt ∧ z.toInt < ((V 58 * V 59 : Nat) : Int)
        · refine (if_neg (pI1 q2)).trans ?_
          by_cases q3 : y.toInt < 0
          · exact if_pos (show y < nI 0 by rw [x_lt (by omega)]; omega)
          · exact (if_neg (show ¬ y < nI 0 by rw [x_lt (by omega)]; omega)).trans (if_neg (show ¬ y ≤ nI 30 by rw [x_le (by omega)]; omega))
        · exact if_pos (pI0 q2)
      · exact if_pos (pI0 q1)
    · unfold fX12_seen
      rw [gz_let_eq, hR.f0.1.isGoer hI, Option.bind_some]
      by_cases q1 : 0 ≤ x.toInt ∧ x.toInt < (V 60 : Int)
      · refine (if_neg (pI1 q1)).trans ?_
        rw [x_l, show (0 : Int64) = Int64.ofInt 0 from rfl, show (30 : Int64) = Int64.ofInt 30 from rfl, r_isInZ (by omega) (by omega) (by omega), Option.bind_some]
        by_cases q3 : 0 ≤ y.toInt ∧ y.toInt ≤ 30
        · refine (if_neg (pI1 q3)).trans ?_
          rw [hR.f0.1.isCell hI, Option.bind_some]
          exact if_pos (pI0 (fun q2 => yes ⟨q1, q2, q3⟩))
        · exact if_pos (pI0 q3)
      · exact if_pos (pI0 q1)
theorem w_count (hw : WR La g B) (x : Int32) : CallOk La (fX11_count La x) (fX12_count La x) g B := by
  obtain ⟨l, Ls, Es, cur, lv, V, V0, a, K, Lg, him, IV, ILg, s, hC, hR, hI⟩ := hw
  obtain ⟨hR0, F0⟩ := hR.f0
  have a0 : fX6_cells La 6 g = some (nI (V 58 * V 59), g) := c_cells (w := 6) hC.2.1
  have b0 : fX12_cells La (gz_wi g 39 0 0) = some (nI (V 58 * V 59), gz_wi g 39 0 0) := by
    unfold fX12_cells
    rw [hR0.n27 hI]
    by_cases h0 : V 60 = 0
    · rw [if_pos (by rw [h0]; rfl), hI.c0 h0]; rfl
    · have hg4 := hI.g4
      obtain ⟨hcx, _⟩ := hR0.cx hI h0
      rw [if_neg (by show ¬ _ = nI 0; rw [n_eq (by omega) (by omega)]; exact h0), hcx.2.1.1, hcx.2.1.2.1, n_mul]
  have hv : g.1 22 = fI V := hC.2.1
  have l12 : fX5_logLength La 6 g = some (nI (min 60 (V 49)), g) := c_logLength hv hI.b
  have key : ∃ v, fX11_count La x g = some (v, g) ∧ fX12_count La x g = some (v, gz_wi g 39 0 0) := by
    unfold fX11_count fX12_count
    rw [gz_let_eq, a0, b0, l12, Option.bind_some, Option.bind_some, Option.bind_some]
    by_cases c0 : x = 0
    · rw [if_pos c0, if_pos c0]; exact ⟨_, rfl, rfl⟩
    rw [if_neg c0, if_neg c0]
    by_cases c1 : x = 1
    · rw [if_pos c1, if_pos c1]; exact ⟨_, rfl, by rw [hR0.n27 hI, hv]; rfl⟩
    rw [if_neg c1, if_neg c1]
    by_cases c2 : x = 2
    · rw [if_pos c2, if_pos c2]; exact ⟨_, rfl, by rw [hR0.1.2.1.1.1, hC.1.2.2.1]⟩
    rw [if_neg c2, if_neg c2]
    by_cases c3 : x = 3
    · rw [if_pos c3, if_pos c3]; exact ⟨_, rfl, by rw [hR0.1.2.2.1.1, hC.1.2.2.2.1]⟩
    rw [if_neg c3, if_neg c3]
    by_cases c4 : x = 4
    · rw [if_pos c4, if_pos c4]; exact ⟨_, rfl, by rw [hR0.1.1.1, hC.1.1.1]⟩
    rw [if_neg c4, if_neg c4]
    by_cases c5 : x = 5
    · rw [if_pos c5, if_pos c5]; exact ⟨_, rfl, by rw [hR0.1.2.1.2.2.2.2.1, hC.1.2.2.2.2.1]⟩
    rw [if_neg c5, if_neg c5]
    by_cases c6 : x = 6
    · rw [if_pos c6, if_pos c6]; exact ⟨_, rfl, by rw [hR0.at46 (by omega), hv]; rfl⟩
    rw [if_neg c6, if_neg c6]
    by_cases c7 : x = 7
    · rw [if_pos c7, if_pos c7]; exact ⟨_, rfl, by rw [hR0.at46 (by omega), hv]; rfl⟩
    rw [if_neg c7, if_neg c7]
    by_cases c8 : x = 8
    · rw [if_pos c8, if_pos c8]; exact ⟨_, rfl, by rw [hR0.at46 (by omega), hv]; rfl⟩
    rw [if_neg c8, if_neg c8]
    by_cases c9 : x = 9
    · rw [if_pos c9, if_pos c9]; exact ⟨_, rfl, by rw [hR0.at46 (by omega), hv]; rfl⟩
    rw [if_neg c9, if_neg c9]
    by_cases c10 : x = 10
    · rw [if_pos c10, if_pos c10]; exact ⟨_, rfl, by rw [hR0.1.2.2.2, hC.1.2.2.2.2.2.2.2.1]⟩
    rw [if_neg c10, if_neg c10]
    by_cases c11 : x = 11
    · rw [if_pos c11, if_pos c11]; exact ⟨_, rfl, by rw [hR0.2.2.2.2.2.1, hC.2.2.2.2.2.2.2.1]⟩
    rw [if_neg c11, if_neg c11]
    by_cases c12 : x = 12
    · rw [if_pos c12, if_pos c12]; exact ⟨_, rfl, by rw [hR0.2.1.2.1]⟩
    rw [if_neg c12, if_neg c12]
    by_cases c13 : x = 13
    · rw [if_pos c13, if_pos c13]; exact ⟨_, rfl, by rw [hR0.2.2.2.1.1, hC.2.2.2.2.2.2.1.1]⟩
    rw [if_neg c13, if_neg c13]
    exact ⟨_, rfl, rfl⟩
  obtain ⟨v, k1, k2⟩ := key
  exact CallOk.no k1 k2 hC hR hI
end ST
