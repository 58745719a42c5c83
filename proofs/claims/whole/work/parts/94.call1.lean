/-! calls: feed, end, fault, law, children, shore, count -/
section ST
variable {La : gz_L} {g : gz_S} {l : List Nat} {Ls : List (List Nat)} {Es : List (List eS)} {cur : Option Nat} {lv : Nat} {V V0 : Nat → Nat} {a : Nat} {K : Nat → Nat → Nat} {Lg : Nat → Nat} {him : Nat} {IV ILg : Nat → Nat} {s : sS} {B : Nat}
theorem ClW.tp {S : Nat → Prop} {g' : gz_S} {l' : List Nat} (h : ClW La g l Ls Es cur lv V V0 a K Lg him IV ILg s) (hF : Fr S g g') (hS : ∀ j, S j → j = 1 ∨ j = 14) (ht : TP g' l') : ClW La g' l' Ls Es cur lv V V0 a K Lg him IV ILg s := by
  have e : ∀ j, ¬ (j = 1 ∨ j = 14) → g'.1 j = g.1 j := fun j hj => hF.1 j (fun hh => hj (hS j hh))
  obtain ⟨⟨t1, t2, t3, t4, t5, t6, t7, t8, t9, t10, t11⟩, c2, c3, c4, c5, c6, c7, c8⟩ := h
  refine ⟨⟨ht, t2, by rw [e 0 (by omega)]; exact t3, by rw [e 0 (by omega)]; exact t4, by rw [e 0 (by omega)]; exact t5, t6, by rw [hF.2]; exact t7, by rw [e 0 (by omega)]; exact t8, t9, fun L hL => ?_, fun E hE => ?_⟩, by rw [e 22 (by omega)]; exact c2, by rw [e 21 (by omega)]; exact c3, by rw [e 23 (by omega)]; exact c4, c5, c6, c7.fr hF (fun j hj => by have := hS j hj; omega), c8.cg (e 11 (by omega)) (e 33 (by omega)) (e 34 (by omega)) (e 35 (by omega))⟩
  · obtain ⟨d, d1, d2⟩ := t10 L hL
    exact ⟨d, d1, d2.cg (e _ (by omega))⟩
  · exact (t11 E hE).cg (e _ (by omega)) (e _ (by omega))
theorem ReW.tp {K0 S : Nat → Prop} {g' : gz_S} {l' : List Nat} (h : ReW g l Ls Es cur lv V V0 a K Lg him IV ILg s) (hF : Fy K0 S g g') (hK : ∀ k, K0 k → k = 0 ∨ k = 6) (hS : ∀ j, S j → j = 40) (ht : RTP g' l') : ReW g' l' Ls Es cur lv V V0 a K Lg him IV ILg s := by
  obtain ⟨⟨t1, t2, t3, t4⟩, c2, c3, c4, c5, c6, c7⟩ := h
  have e : ∀ j, j ≠ 39 → j ≠ 40 → g'.1 j = g.1 j := fun j hj h40 => hF.1 j hj (fun hh => h40 (hS j hh))
  have k : ∀ j, ¬ (j = 0 ∨ j = 6) → g'.1 39 j = g.1 39 j := fun j hj => hF.2.1 j (fun hh => hj (hK j hh))
  refine ⟨⟨ht, t2.fr hF (fun hh => by have := hK _ hh; omega) (fun hh => by have := hK _ hh; omega) (fun hh => by have := hS _ hh; omega) (fun hh => by have := hS _ hh; omega) (fun hh => by have := hS _ hh; omega) (fun hh => by have := hS _ hh; omega) (fun hh => by have := hS _ hh; omega), ?_, by rw [k 35 (by omega)]; exact t4⟩, by rw [e 53 (by omega) (by omega)]; exact c2, ?_, ?_, ?_, by rw [k 47 (by omega)]; exact c6, by rw [e 59 (by omega) (by omega)]; exact c7⟩
  · rw [k 30 (by omega), e 51 (by omega) (by omega), e 52 (by omega) (by omega)]; exact t3
  · unfold Tld; rw [k 27 (by omega), e 44 (by omega) (by omega), e 46 (by omega) (by omega), e 48 (by omega) (by omega)]; exact c3
  · unfold RU; rw [k 41 (by omega), e 57 (by omega) (by omega)]; exact c4
  · rw [k 50 (by omega), e 63 (by omega) (by omega)]; exact c5
theorem Fr.y {S : Nat → Prop} {g' : gz_S} (hF : Fr S g g') (hk : ∀ j, ¬ (j = 0 ∨ j = 6) → g'.1 39 j = g.1 39 j) (hS : ∀ j, S j → j = 39 ∨ j = 40) : Fy (fun k => k = 0 ∨ k = 6) (fun j => j = 40) g g' :=
  ⟨fun j h1 h2 => hF.1 j (fun hh => by have := hS j hh; omega), hk, by rw [hF.2], Tq.ww hF.2⟩
theorem w_feed (hw : WR La g B) (x1 x2 x3 x4 x5 : Int32) : CallOk La (fX11_feed La x1 x2 x3 x4 x5) (fX12_feed La x1 x2 x3 x4 x5) g B := by
  obtain ⟨l, Ls, Es, cur, lv, V, V0, a, K, Lg, him, IV, ILg, s, hC, hR, hI⟩ := hw
  obtain ⟨a1, b1, rfl⟩ := x_nat x1
  obtain ⟨a2, b2, rfl⟩ := x_nat x2
  obtain ⟨a3, b3, rfl⟩ := x_nat x3
  obtain ⟨a4, b4, rfl⟩ := x_nat x4
  obtain ⟨a5, b5, rfl⟩ := x_nat x5
  obtain ⟨g1, u1, u2, u3⟩ := c_feed (La := La) hC.1.1 b1 b2 b3 b4 b5
  have hC1 := hC.tp u2 (fun j hj => hj) u3
  have hR1 := hR.fr (FC.of u2 (fun j hj => by omega))
  obtain ⟨g2, v1, v2, v3, v4⟩ := r_feed (La := La) hR1.1.1 (a1 := a1) (a2 := a2) (a3 := a3) (a4 := a4) (a5 := a5)
  exact CallOk.of u1 v1 hC1 (FR.o v2 (fun j hj => by omega)) (hR1.tp (v2.y v4 (fun j hj => hj)) (fun k hk => hk) (fun j hj => hj) v3) hI
theorem w_end (hw : WR La g B) (x : Int32) : CallOk La (fX11_end La x) (fX12_end La x) g B := by
  obtain ⟨l, Ls, Es, cur, lv, V, V0, a, K, Lg, him, IV, ILg, s, hC, hR, hI⟩ := hw
  obtain ⟨g1, u1, u2, u3⟩ := c_end (La := La) hC.1.1 (x := x)
  have hC1 := hC.tp u2 (fun j hj => Or.inl hj) u3
  have hR1 := hR.fr (FC.of u2 (fun j hj => by omega))
  obtain ⟨g2, v1, v2, v3, v4⟩ := r_end (La := La) hR1.1.1 (x := x)
  exact CallOk.of u1 v1 hC1 (FR.o v2 (fun j hj => by omega)) (hR1.tp (v2.y v4 (fun j hj => Or.inl hj)) (fun k hk => hk) (fun j hj => hj) v3) hI
theorem Ff.rlw {g' : gz_S} (h : RLw g Ls cur) (hF : Ff g g') : RLw g' Ls cur := by
  unfold RLw MI LL Byt
  rw [hF.2.1 7 (by omega), hF.2.1 34 (by omega), hF.1 41 (by omega) (by omega), hF.1 42 (by omega) (by omega), hF.1 43 (by omega) (by omega), hF.1 55 (by omega) (by omega), hF.1 56 (by omega) (by omega)]
  exact h
theorem ReW.ff {g' : gz_S} (h : ReW g l Ls Es cur lv V V0 a K Lg him IV ILg s) (hF : Ff g g') : ReW g' l Ls Es cur lv V V0 a K Lg him IV ILg s := by
  obtain ⟨⟨t1, t2, t3, t4⟩, c2, c3, c4, c5, c6, c7⟩ := h
  have e : ∀ j, j ≠ 39 → ¬ SF j → g'.1 j = g.1 j := hF.1
  have k : ∀ j, ¬ KF j → g'.1 39 j = g.1 39 j := hF.2.1
  refine ⟨⟨t1.ff hF, Ff.rlw t2 hF, ?_, by rw [k 35 (by omega)]; exact t4⟩, by rw [e 53 (by omega) (by omega)]; exact c2, ?_, ?_, ?_, by rw [k 47 (by omega)]; exact c6, by rw [e 59 (by omega) (by omega)]; exact c7⟩
  · rw [k 30 (by omega)]
    refine ⟨t3.1, t3.2.1, fun E hE => ?_⟩
    obtain ⟨q1, q2, q3⟩ := t3.2.2 E hE
    refine ⟨fun i x hi => ?_, by rw [hF.2.2.2.1 E (by omega)]; exact q2, q3⟩
    have hlt : i < (Es.getD E []).length := by
      rcases Nat.lt_or_ge i (Es.getD E []).length with hh | hh
      · exact hh
      · rw [List.getElem?_eq_none hh] at hi; cases hi
    rw [hF.2.2.1 _ (by omega), hF.2.2.1 _ (by omega), hF.2.2.1 _ (by omega)]
    exact q1 i x hi
  · unfold Tld; rw [k 27 (by omega), e 44 (by omega) (by omega), e 46 (by omega) (by omega), e 48 (by omega) (by omega)]; exact c3
  · unfold RU; rw [k 41 (by omega), e 57 (by omega) (by omega)]; exact c4
  · rw [k 50 (by omega), e 63 (by omega) (by omega)]; exact c5
theorem w_fault (hw : WR La g B) (x : Int32) : CallOk La (fX11_fault La x) (fX12_fault La x) g B := by
  obtain ⟨l, Ls, Es, cur, lv, V, V0, a, K, Lg, him, IV, ILg, s, hC, hR, hI⟩ := hw
  obtain ⟨g1, u1, u2, u3⟩ := c_fault (La := La) hC.1.1 x
  have e : ∀ j, ¬ FA j → g1.1 j = g.1 j := u2.1
  have hC1 : ClW La g1 l Ls Es cur lv V V0 a K Lg him IV ILg s := by
    obtain ⟨⟨t1, t2, t3, t4, t5, t6, t7, t8, t9, t10, t11⟩, c2, c3, c4, c5, c6, c7, c8⟩ := hC
    refine ⟨⟨u3, t2, by rw [e 0 (by omega)]; exact t3, by rw [e 0 (by omega)]; exact t4, by rw [e 0 (by omega)]; exact t5, t6, by rw [u2.2]; exact t7, by rw [e 0 (by omega)]; exact t8, t9, fun L hL => ?_, fun E hE => ?_⟩, by rw [e 22 (by omega)]; exact c2, by rw [e 21 (by omega)]; exact c3, by rw [e 23 (by omega)]; exact c4, c5, c6, c7.fr u2 (fun j hj => by have := hj; omega), c8.cg (e 11 (by omega)) (e 33 (by omega)) (e 34 (by omega)) (e 35 (by omega))⟩
    · obtain ⟨d, d1, d2⟩ := t10 L hL
      exact ⟨d, d1, d2.cg (e _ (by omega))⟩
    · exact (t11 E hE).cg (e _ (by omega)) (e _ (by omega))
  have hR1 := hR.fr (FC.of u2 (fun j hj => by have := hj; omega))
  obtain ⟨lt, h1, h2⟩ := hR1.1.2.1.2.2.2.1
  obtain ⟨g2, v1, v2, _⟩ := r_fault (La := La) h1 h2 hR1.1.1 x
  exact CallOk.of u1 v1 hC1 (FR.f v2) (hR1.ff v2) hI
theorem x_m {x : Int32} : (x = -1) = (x.toInt = -1) := by
  refine propext ⟨fun h => by rw [h]; decide, fun h => Int32.toInt.inj (by rw [h]; decide)⟩
theorem x_ltm {x : Int32} : (x < -1) = (x.toInt < -1) := by
  rw [Int32.lt_iff_toInt_lt, show (-1 : Int32).toInt = -1 by decide]
theorem w_law (hw : WR La g B) (x : Int32) : CallOk La (fX11_law La x) (fX12_law La x) g B := by
  obtain ⟨l, Ls, Es, cur, lv, V, V0, a, K, Lg, him, IV, ILg, s, hC, hR, hI⟩ := hw
  obtain ⟨⟨t1, t2, t3, t4, t5, t6, t7, t8, t9, t10, t11⟩, c2, c3, c4, c5, c6, c7, c8⟩ := id hC
  obtain ⟨hR0, F0⟩ := hR.f0
  have h7 : (gz_wi g 39 0 0).1 39 7 = nI Ls.length := hR0.1.2.1.1.1
  have hb1 := Int32.toInt_lt x
  have hb2 := Int32.le_toInt x
  have hl4 := t2.2.2.1
  by_cases no : x.toInt < -1 ∨ (Ls.length : Int) ≤ x.toInt
  · refine CallOk.no (v := 0) ?_ ?_ hC hR hI
    · unfold fX11_law
      by_cases c : x.toInt < -1
      · rw [if_pos (by rw [x_ltm]; exact c)]
      · rw [if_neg (by rw [x_ltm]; exact c), if_neg (by rw [t3, x_lt (by omega)]; omega)]
    · unfold fX12_law
      rw [gz_let_eq, if_neg (by rw [x_m]; omega), h7]
      have e1 : Int32.toInt64 (nI Ls.length - 1) = Int64.ofInt ((Ls.length : Int) - 1) := by
        rw [x_l, show nI Ls.length - (1 : Int32) = nI Ls.length - nI 1 from rfl, i_sub (by rw [n_ti (by omega), n_ti (by omega)]; omega) (by rw [n_ti (by omega), n_ti (by omega)]; omega), n_ti (by omega), n_ti (by omega)]; rfl
      rw [e1, x_l x, show (0 : Int64) = Int64.ofInt 0 from rfl, r_isInZ (by omega) (by omega) (by omega), Option.bind_some]
      exact if_pos (pI0 (by omega))
  · -- the law is held
    have hcur : ∃ cur' : Option Nat, x = oI cur' ∧ (∀ L, cur' = some L → L < Ls.length) := by
      by_cases c : x.toInt = -1
      · exact ⟨none, by rw [← x_m] at c; exact c, fun L h => by cases h⟩
      · obtain ⟨n, n1, n2, n3⟩ := x_of (x := x) (by omega)
        exact ⟨some n, n2, fun L h => by cases h; omega⟩
    obtain ⟨cur', rfl, hlt⟩ := hcur
    have F1 : Fr (fun j => j = 0) g (gz_wi g 0 15 (oI cur')) := Fr.rf.wi rfl
    refine CallOk.of (v := 1) (g1 := gz_wd (gz_wi g 0 15 (oI cur')) 0 (cur'.map (fun L => 100 + 2 * L))) (g2 := gz_wi (gz_wi (gz_wd (gz_wi g 0 15 (oI cur')) 0 (cur'.map (fun L => 100 + 2 * L))) 39 0 0) 39 34 (oI cur')) (l := l) (Ls := Ls) (Es := Es) (cur := cur') (lv := lv) ?_ ?_ ?_ ?_ ?_ hI
    · unfold fX11_law
      rw [if_neg (by rw [x_ltm]; omega)]
      cases cur' with
      | none =>
        rw [if_pos (by rw [t3, x_lt (by omega)]; show (-nI 1).toInt < _; rw [x_m1]; omega), gz_let_eq, if_pos (show oI none = (-1 : Int32) from rfl), gz_let_eq]; rfl
      | some L =>
        have hL := hlt L rfl
        rw [if_pos (by rw [t3]; show nI L < _; rw [n_lt (by omega) (by omega)]; exact hL), gz_let_eq, if_neg (show ¬ oI (some L) = -1 by show ¬ nI L = -1; rw [show (-1 : Int32) = -nI 1 from rfl, m_eq (by omega)]; exact id), if_pos (show gz_ok (oI (some L)) 4 from n_okP (by omega) (by omega))]
        have er : gz_rf La (gz_wi g 0 15 (oI (some L))) 12 (Int32.toNatClampNeg (oI (some L))) = some (100 + 2 * L) := by
          show gz_rf La (gz_wi g 0 15 (oI (some L))) 12 (Int32.toNatClampNeg (nI L)) = _
          rw [n_cl (by omega)]
          unfold gz_rf
          rw [if_neg (show ¬ (12 = 8 ∧ L = 0) by omega), if_neg (show ¬ (12 = 39 ∧ L = 5) by omega), if_pos (show 12 < 40 by omega), if_pos rfl, if_pos (show L < La.1 by omega)]
        rw [er]
        show gz_let _ _ = _
        rw [gz_let_eq]; rfl
    · have h7' : (gz_wi (gz_wd (gz_wi g 0 15 (oI cur')) 0 (cur'.map (fun L => 100 + 2 * L))) 39 0 0).1 39 7 = nI Ls.length := h7
      have e1 : Int32.toInt64 (nI Ls.length - 1) = Int64.ofInt ((Ls.length : Int) - 1) := by
        rw [x_l, show nI Ls.length - (1 : Int32) = nI Ls.length - nI 1 from rfl, i_sub (by rw [n_ti (by omega), n_ti (by omega)]; omega) (by rw [n_ti (by omega), n_ti (by omega)]; omega), n_ti (by omega), n_ti (by omega)]; rfl
      unfold fX12_law fX12_law_28
      rw [gz_let_eq, gz_let_eq]
      by_cases c : oI cur' = -1
      · rw [if_pos c]
      · have c' := c
        rw [x_m] at c'
        rw [if_neg c, h7', e1, x_l, show (0 : Int64) = Int64.ofInt 0 from rfl, r_isInZ (by omega) (by omega) (by omega), Option.bind_some]
        exact (if_neg (pI1 (by omega))).trans rfl
    · have c7' := c7.fr F1 (fun j hj => by omega)
      have e0 : ∀ j, j ≠ 0 → (gz_wd (gz_wi g 0 15 (oI cur')) 0 (cur'.map (fun L => 100 + 2 * L))).1 j = g.1 j := fun j hj => (wi_no hj : (gz_wi g 0 15 (oI cur')).1 j = g.1 j)
      exact ⟨⟨t1, t2, t3, t4, rfl, hlt, ⟨rfl, t7.2⟩, t8, t9, t10, fun E hE => (t11 E hE).cg (e0 _ (by omega)) (e0 _ (by omega))⟩, c2, c3, c4, c5, c6, c7', c8⟩
    · have F : Fy (fun k => k = 0 ∨ k = 34) (fun _ => False) (gz_wd (gz_wi g 0 15 (oI cur')) 0 (cur'.map (fun L => 100 + 2 * L))) (gz_wi (gz_wi (gz_wd (gz_wi g 0 15 (oI cur')) 0 (cur'.map (fun L => 100 + 2 * L))) 39 0 0) 39 34 (oI cur')) := (Fy.z0.w (Or.inl rfl)).w (Or.inr rfl)
      exact FR.y F (fun j hj => hj.elim)
    · have FCg : FC g (gz_wd (gz_wi g 0 15 (oI cur')) 0 (cur'.map (fun L => 100 + 2 * L))) := ⟨fun j h1 h2 => by show (gz_wi g 0 15 (oI cur')).1 j = _; exact wi_no (by omega), rfl⟩
      obtain ⟨⟨s1, ⟨s2, s2b, s2c, s2d, s2e, s2f⟩, s3, s4⟩, d2, d3, d4, d5, d6, d7⟩ := hR.fr FCg
      exact ⟨⟨s1, ⟨s2, s2b, s2c, s2d, wi_ss, hlt⟩, s3, s4⟩, d2, d3, d4, d5, d6, d7⟩
theorem w_children (hw : WR La g B) (x : Int32) : CallOk La (fX11_children La x) (fX12_children La x) g B := by
  obtain ⟨l, Ls, Es, cur, lv, V, V0, a, K, Lg, him, IV, ILg, s, hC, hR, hI⟩ := hw
  obtain ⟨⟨t1, t2, t3, t4, t5, t6, t7, t8, t9, t10, t11⟩, c2, c3, c4, c5, c6, c7, c8⟩ := id hC
  have hb1 := Int32.toInt_lt x
  have hb2 := Int32.le_toInt x
  have h35 : g.1 39 35 = nI lv := hR.1.2.2.2
  have h35' : (gz_wi g 39 0 0).1 39 35 = nI lv := h35
  by_cases no : x.toInt < 0 ∨ 9 < x.toInt ∨ x.toInt = (lv : Int)
  · refine CallOk.no (v := 0) ?_ ?_ hC hR hI
    · unfold fX11_children
      by_cases q1 : x.toInt < 0
      · rw [if_pos (by show x < nI 0; rw [x_lt (by omega)]; omega)]
      · rw [if_neg (by show ¬ x < nI 0; rw [x_lt (by omega)]; omega)]
        by_cases q2 : 9 < x.toInt
        · rw [if_pos (by show nI 9 < x; rw [x_gt (by omega)]; omega)]
        · rw [if_neg (by show ¬ nI 9 < x; rw [x_gt (by omega)]; omega), if_pos (by rw [t8, x_eq (by omega)]; omega)]
    · unfold fX12_children
      rw [gz_let_eq, x_l x, show (0 : Int64) = Int64.ofInt 0 from rfl, show (9 : Int64) = Int64.ofInt 9 from rfl, r_isInZ (by omega) (by omega) (by omega), Option.bind_some]
      by_cases q1 : 0 ≤ x.toInt ∧ x.toInt ≤ 9
      · refine (if_neg (pI1 q1)).trans (if_pos ?_)
        show x = (gz_wi g 39 0 0).1 39 35
        rw [h35', x_eq (by omega)]; omega
      · exact if_pos (pI0 q1)
  · obtain ⟨n, n1, rfl, n3⟩ := x_of (x := x) (by omega)
    have F1 : Fr (fun j => j = 0) g (gz_wi g 0 16 (nI n)) := Fr.rf.wi rfl
    refine CallOk.of (v := 1) (g1 := gz_wi g 0 16 (nI n)) (g2 := gz_wi (gz_wi (gz_wi g 0 16 (nI n)) 39 0 0) 39 35 (nI n)) (l := l) (Ls := Ls) (Es := Es) (cur := cur) (lv := n) ?_ ?_ ?_ ?_ ?_ hI
    · unfold fX11_children
      rw [if_neg (by show ¬ nI n < nI 0; rw [n_lt (by omega) (by omega)]; omega), if_neg (by show ¬ nI 9 < nI n; rw [n_lt (by omega) (by omega)]; omega), if_neg (by rw [t8, n_eq (by omega) (by omega)]; omega), gz_let_eq]
    · unfold fX12_children
      have h35'' : (gz_wi (gz_wi g 0 16 (nI n)) 39 0 0).1 39 35 = nI lv := h35
      rw [gz_let_eq, x_l, show (0 : Int64) = Int64.ofInt 0 from rfl, show (9 : Int64) = Int64.ofInt 9 from rfl, r_isInZ (by omega) (by omega) (by omega), Option.bind_some]
      refine (if_neg (pI1 (by omega))).trans ((if_neg ?_).trans rfl)
      show ¬ nI n = (gz_wi (gz_wi g 0 16 (nI n)) 39 0 0).1 39 35
      rw [h35'', n_eq (by omega) (by omega)]; omega
    · exact ⟨⟨t1, t2, t3, t4, t5, t6, t7, rfl, by omega, t10, fun E hE => (t11 E hE).cg (wi_no (by omega)) (wi_no (by omega))⟩, c2, c3, c4, c5, c6, c7.fr F1 (fun j hj => by omega), c8⟩
    · have F : Fy (fun k => k = 0 ∨ k = 35) (fun _ => False) (gz_wi g 0 16 (nI n)) (gz_wi (gz_wi (gz_wi g 0 16 (nI n)) 39 0 0) 39 35 (nI n)) := (Fy.z0.w (Or.inl rfl)).w (Or.inr rfl)
      exact FR.y F (fun j hj => hj.elim)
    · obtain ⟨⟨s1, s2, s3, s4⟩, d2, d3, d4, d5, d6, d7⟩ := hR.fr (FC.of F1 (fun j hj => by omega))
      exact ⟨⟨s1, s2, s3, wi_ss⟩, d2, d3, d4, d5, d6, d7⟩
end ST
