/-! the reference reads whole shores -/
section RP
variable {g : gz_S} {e o : Nat} {b : Nat → Nat} {len a : Nat} {La : gz_L} {s : SH}
theorem Fz.ft {K S : Nat → Prop} {g g' : gz_S} (h : Fz KE (fun j => j = 45) g g') : Fz KS SS g g' := h.mo (fun k hk => by omega) (fun j hj => by omega)
theorem r_clause7 (h : RP g e o b len a) (hS : CSR g s) : ∃ g', fX12_readClause La g = some g' ∧ Fz KS SS g g' ∧ RdO CSR g' e o b len (pCl b len s a) := by
  have hx := nx_le (b := b) h.le.1
  have h240 := h.le.2
  have hR := h.st hx.2
  have hC : CSR (rs g (nx b len a)) s := hS.fr (K := fun k => k = 10) (S := S0) (Fz.z0.r rfl) (by omega) (by omega) (by omega) id id id id
  have F0 : Fz KS SS g (rs g (nx b len a)) := Fz.z0.r (Or.inl rfl)
  unfold fX12_readClause pCl
  rw [r_lookR h, Option.bind_some]
  generalize nx b len a = p at *
  generalize rs g p = g1 at *
  obtain ⟨z31, ⟨z29, z29'⟩, ⟨z28, z28'⟩, zr, zl, zk, zg⟩ := hC
  have e115 : (oI (sg b len p) = (115 : Int32)) = (sg b len p = some 115) := hR.oc (c := 115) (by omega)
  have e114 : (oI (sg b len p) = (114 : Int32)) = (sg b len p = some 114) := hR.oc (c := 114) (by omega)
  have e103 : (oI (sg b len p) = (103 : Int32)) = (sg b len p = some 103) := hR.oc (c := 103) (by omega)
  have k50 : ∀ x, ∃ g', fX12_readClause_50 La x g1 = some g' ∧ Fz KS SS g g' ∧ RdO CSR g' e o b len (p, none) := fun x => by
    refine ⟨rf g1 p, ?_, F0.f (Or.inr (Or.inl rfl)), Or.inl ⟨p, rf_11 _ _, by omega, Or.inl ⟨rfl, rfl⟩⟩⟩
    unfold fX12_readClause_50 fX12_readClause_51
    rw [if_pos rfl, r_failsR hR, Option.bind_some]
  have k32 : ∃ g', fX12_readClause_32 La (oI (sg b len p)) g1 = some g' ∧ Fz KS SS g g' ∧ RdO CSR g' e o b len (if sg b len p = some 103 ∧ s.gn < 4 then ((pIt b len tG 4 0 (p + 1) (fun i => tG (i * 4 + 3))).1, (pIt b len tG 4 0 (p + 1) (fun i => tG (i * 4 + 3))).2.map (fun v => (s.hr, s.ru, s.rn, s.rl, s.rk, s.gn + 1, fun j => if j / 4 = s.gn then v (j % 4) else s.go j))) else (p, none)) := by
    unfold fX12_readClause_32
    by_cases c1 : sg b len p = some 103
    · have hpl := (sg_lt c1).1
      rw [if_pos (by rw [e103]; exact c1)]
      by_cases c2 : s.gn < 4
      · rw [if_neg (show ¬ (4 : Int32) ≤ g1.1 39 28 by rw [z28]; show ¬ nI 4 ≤ nI s.gn; rw [n_le (by omega) (by omega)]; omega), if_pos ⟨c1, c2⟩]
        have hS2 := (hR.st (p := p + 1) (by omega)).wf (k := 28) (x := nI (s.gn + 1)) (by omega)
        obtain ⟨g3, y1, y2, y3, y4⟩ := r_readItems (La := La) (kd := 103) (w4 := 213) (w2 := 47) (off := 4 * s.gn) (t := tG) (Or.inr ⟨rfl, rfl, rfl⟩) (Or.inr rfl) (by show 4 * s.gn + 4 ≤ 16; omega) (by decide) hS2
        have F3 : Fz KS SS g g3 := Fz.tr ((F0.r (Or.inl rfl)).w (by omega)) (y2.mo (fun k hk => by omega) (fun j hj => by omega))
        refine ⟨g3, ?_, F3, ?_⟩
        · unfold fX12_readClause_46 fX12_readClause_51
          rw [if_neg (by decide), r_step1 hR hpl, gz_let_eq, c1]
          refine (if_neg (show ¬ oI (some 103) = (115 : Int32) by decide)).trans ((if_neg (show ¬ oI (some 103) = (114 : Int32) by decide)).trans ?_)
          rw [rs_f (by omega), z28, show nI s.gn + (1 : Int32) = nI (s.gn + 1) from n_add _ _, gz_let_eq]
          have eo : (4 : Int32) * (((gz_wi (rs g1 (p + 1)) 39 28 (nI (s.gn + 1))).1 39 28) - 1) = nI (4 * s.gn) := by
            rw [wi_ss, show nI (s.gn + 1) - (1 : Int32) = nI s.gn from n_sub (a := s.gn + 1) (b := 1) (by omega), show (4 : Int32) = nI 4 from rfl, n_mul]
          rw [eo]
          show (fX12_readItems La (nI 103) 47 (nI (4 * s.gn)) 213 _).bind _ = _
          rw [y1]; rfl
        · refine y4.mo (fun v hv hG => ?_)
          have w31 : g3.1 39 31 = g1.1 39 31 := by rw [y2.2.1 31 (by omega), wi_sn (by omega), rs_f (by omega)]
          have w29 : g3.1 39 29 = g1.1 39 29 := by rw [y2.2.1 29 (by omega), wi_sn (by omega), rs_f (by omega)]
          have w28 : g3.1 39 28 = nI (s.gn + 1) := by rw [y2.2.1 28 (by omega), wi_ss]
          have ws : ∀ j, j ≠ 39 → j ≠ 47 → g3.1 j = g1.1 j := fun j hj hj2 => by rw [y2.1 j hj hj2, wi_no hj, rs_n hj]
          refine ⟨w31.trans z31, ⟨w29.trans z29, z29'⟩, ⟨w28, by show s.gn + 1 ≤ 4; omega⟩, by rw [ws 45 (by omega) (by omega)]; exact zr, by rw [ws 50 (by omega) (by omega)]; exact zl, by rw [ws 49 (by omega) (by omega)]; exact zk, fun j hj => ?_⟩
          have hj : j < 4 * (s.gn + 1) := hj
          show g3.1 47 j = nI (if j / 4 = s.gn then v (j % 4) else s.go j) ∧ (if j / 4 = s.gn then v (j % 4) else s.go j) ≤ 99
          by_cases cj : j / 4 = s.gn
          · rw [if_pos cj]
            have := hG (j % 4) (by omega)
            rw [show 4 * s.gn + j % 4 = j by omega] at this
            exact this
          · rw [if_neg cj, y3 j (by omega), wi_no (by omega), rs_n (by omega)]
            exact zg j (by omega)
      · rw [if_pos (show (4 : Int32) ≤ g1.1 39 28 by rw [z28]; show nI 4 ≤ nI s.gn; rw [n_le (by omega) (by omega)]; omega), if_neg (fun hh => c2 hh.2)]
        exact k50 _
    · rw [if_neg (by rw [e103]; exact c1), if_neg (fun hh => c1 hh.1)]
      exact k50 _
  have k18 : ∃ g', fX12_readClause_18 La (oI (sg b len p)) g1 = some g' ∧ Fz KS SS g g' ∧ RdO CSR g' e o b len (if sg b len p = some 114 ∧ s.rn < 5 then ((pRow b len (s.rn * 6) 6 0 (p + 1) s.rk).1, (pRow b len (s.rn * 6) 6 0 (p + 1) s.rk).2.map (fun r => (s.hr, s.ru, s.rn + 1, uN s.rl s.rn r.1, r.2, s.gn, s.go)))
      else if sg b len p = some 103 ∧ s.gn < 4 then ((pIt b len tG 4 0 (p + 1) (fun i => tG (i * 4 + 3))).1, (pIt b len tG 4 0 (p + 1) (fun i => tG (i * 4 + 3))).2.map (fun v => (s.hr, s.ru, s.rn, s.rl, s.rk, s.gn + 1, fun j => if j / 4 = s.gn then v (j % 4) else s.go j))) else (p, none)) := by
    unfold fX12_readClause_18
    by_cases c1 : sg b len p = some 114
    · have hpl := (sg_lt c1).1
      rw [if_pos (by rw [e114]; exact c1)]
      by_cases c2 : s.rn < 5
      · rw [if_pos (show g1.1 39 29 < (5 : Int32) by rw [z29]; show nI s.rn < nI 5; rw [n_lt (by omega) (by omega)]; exact c2), if_pos ⟨c1, c2⟩]
        have hS2 := hR.st (p := p + 1) (by omega)
        obtain ⟨g3, y1, y2, y3, y4⟩ := r_readRow (La := La) (r := s.rn) (K := s.rk) c2 hS2 (by rw [rs_f (by omega)]; exact z29) (fun c hc => by rw [rs_n (by omega)]; exact zk c hc)
        have F3 : Fz KS SS g g3 := Fz.tr (F0.r (Or.inl rfl)) (y2.mo (fun k hk => by omega) (fun j hj => by omega))
        refine ⟨g3, ?_, F3, ?_⟩
        · unfold fX12_readClause_46 fX12_readClause_51
          rw [if_neg (by decide), r_step1 hR hpl, gz_let_eq, c1]
          refine (if_neg (show ¬ oI (some 114) = (115 : Int32) by decide)).trans ((if_pos (show oI (some 114) = (114 : Int32) by decide)).trans ?_)
          rw [y1]; rfl
        · refine y4.mo (fun r hr hG => ?_)
          obtain ⟨g6, g29, g50, g49⟩ := hG
          have w31 : g3.1 39 31 = g1.1 39 31 := by rw [y2.2.1 31 (by omega), rs_f (by omega)]
          have w28 : g3.1 39 28 = g1.1 39 28 := by rw [y2.2.1 28 (by omega), rs_f (by omega)]
          have ws : ∀ j, j ≠ 39 → ¬ (j = 49 ∨ j = 50) → g3.1 j = g1.1 j := fun j hj hj2 => by rw [y2.1 j hj hj2, rs_n hj]
          refine ⟨w31.trans z31, ⟨g29, by show s.rn + 1 ≤ 5; omega⟩, ⟨w28.trans z28, z28'⟩, by rw [ws 45 (by omega) (by omega)]; exact zr, fun i hi => ?_, g49, by rw [ws 47 (by omega) (by omega)]; exact zg⟩
          have hi : i < s.rn + 1 := hi
          show g3.1 50 i = nI (uN s.rl s.rn r.1 i) ∧ uN s.rl s.rn r.1 i ≤ 6
          by_cases ci : i = s.rn
          · rw [ci, uN_s]; exact ⟨g50, g6⟩
          · rw [uN_n ci, y3 i ci, rs_n (by omega)]; exact zl i (by omega)
      · rw [if_neg (show ¬ g1.1 39 29 < (5 : Int32) by rw [z29]; show ¬ nI s.rn < nI 5; rw [n_lt (by omega) (by omega)]; exact c2), if_neg (fun hh => c2 hh.2)]
        exact k32
    · rw [if_neg (by rw [e114]; exact c1), if_neg (fun hh => c1 hh.1)]
      exact k32
  by_cases c1 : sg b len p = some 115
  · have hpl := (sg_lt c1).1
    by_cases c2 : s.hr = false
    · rw [if_pos (show sg b len p = some 115 ∧ s.hr = false from ⟨c1, c2⟩)]
      have hS2 := (hR.st (p := p + 1) (by omega)).wf (k := 31) (x := 1) (by omega)
      obtain ⟨g3, y1, y2, y3, y4⟩ := r_readItems (La := La) (kd := 115) (w4 := 212) (w2 := 45) (off := 0) (t := tS) (Or.inl ⟨rfl, rfl, rfl⟩) (Or.inl rfl) (by decide) (by decide) hS2
      have F3 : Fz KS SS g g3 := Fz.tr ((F0.r (Or.inl rfl)).w (by omega)) (y2.mo (fun k hk => by omega) (fun j hj => by omega))
      refine ⟨g3, ?_, F3, ?_⟩
      · refine (if_pos (show oI (sg b len p) = (115 : Int32) by rw [e115]; exact c1)).trans ((if_pos (show g1.1 39 31 = 0 by rw [z31, c2]; rfl)).trans ?_)
        unfold fX12_readClause_46 fX12_readClause_51
        rw [if_neg (by decide), r_step1 hR hpl, gz_let_eq, c1]
        refine (if_pos (show oI (some 115) = (115 : Int32) by decide)).trans ?_
        rw [gz_let_eq]
        show (fX12_readItems La (nI 115) 45 (nI 0) 212 _).bind _ = _
        rw [y1]; rfl
      · refine y4.mo (fun v hv hG => ?_)
        have w31 : g3.1 39 31 = nI 1 := by rw [y2.2.1 31 (by omega), wi_ss]; rfl
        have w29 : g3.1 39 29 = g1.1 39 29 := by rw [y2.2.1 29 (by omega), wi_sn (by omega), rs_f (by omega)]
        have w28 : g3.1 39 28 = g1.1 39 28 := by rw [y2.2.1 28 (by omega), wi_sn (by omega), rs_f (by omega)]
        have ws : ∀ j, j ≠ 39 → j ≠ 45 → g3.1 j = g1.1 j := fun j hj hj2 => by rw [y2.1 j hj hj2, wi_no hj, rs_n hj]
        refine ⟨w31, ⟨w29.trans z29, z29'⟩, ⟨w28.trans z28, z28'⟩, fun i hi => ?_, by rw [ws 50 (by omega) (by omega)]; exact zl, by rw [ws 49 (by omega) (by omega)]; exact zk, by rw [ws 47 (by omega) (by omega)]; exact zg⟩
        have := hG i hi
        rw [Nat.zero_add] at this
        exact this
    · rw [if_neg (show ¬ (sg b len p = some 115 ∧ s.hr = false) from fun hh => c2 hh.2)]
      obtain ⟨g', y1, y2, y3⟩ := k18
      refine ⟨g', ?_, y2, y3⟩
      refine (if_pos (show oI (sg b len p) = (115 : Int32) by rw [e115]; exact c1)).trans ((if_neg (show ¬ g1.1 39 31 = 0 from ?_)).trans y1)
      have : s.hr = true := by cases hh : s.hr; exact absurd hh c2; rfl
      rw [z31, this]; decide
  · rw [if_neg (show ¬ (sg b len p = some 115 ∧ s.hr = false) from fun hh => c1 hh.1)]
    obtain ⟨g', y1, y2, y3⟩ := k18
    refine ⟨g', ?_, y2, y3⟩
    exact (if_neg (show ¬ oI (sg b len p) = (115 : Int32) by rw [e115]; exact c1)).trans y1
theorem r_isWhole (hS : CSR g s) : fX12_isWhole La g = some (pI (sAgr s), g) := by
  obtain ⟨z31, ⟨z29, z29'⟩, ⟨z28, z28'⟩, zr, zl, zk, zg⟩ := hS
  obtain ⟨r0, r0'⟩ := zr 0 (by omega)
  obtain ⟨r1, r1'⟩ := zr 1 (by omega)
  unfold fX12_isWhole
  refine lp (fun f i g1 => fX12_isWhole_2 La (fun g => fX12_isWhole_35 La (fun g => if (g.1 39 28) ≤ 0 then some (0, g) else if (g.1 45 1) < (g.1 39 29) then some (0, g) else some (1, g)) gz_FU 0 g) f (nI i) g1)
    (fun i g1 => g1 = g ∧ ∀ i', i' < i → s.rl i' ≤ s.ru 0) s.rn (fun q => q = some (pI (sAgr s), g)) ?_ ?_ gz_FU 0 g (by omega) (by unfold gz_FU; omega) ⟨rfl, fun i' hi' => absurd hi' (Nat.not_lt_zero _)⟩
  · intro f i g1 hi ⟨k1, k2⟩
    subst k1
    obtain ⟨l1, l2⟩ := zl i hi
    show fX12_isWhole_2 La _ (f + 1) (nI i) g1 = some (pI (sAgr s), g1) ∨ _
    rw [fX12_isWhole_2, if_neg (show ¬ g1.1 39 29 ≤ nI i by rw [z29, n_le (by omega) (by omega)]; omega), if_pos (n_okP (by omega) (by omega)), n_cl (by omega)]
    by_cases c : s.rl i ≤ s.ru 0
    · refine Or.inr ⟨g1, ?_, rfl, fun i' hi' => ?_⟩
      · rw [if_pos (show g1.1 50 i ≤ g1.1 45 0 by rw [l1, r0, n_le (by omega) (by omega)]; exact c), gz_let_eq, show nI i + (1 : Int32) = nI (i + 1) from n_add _ _]
      · by_cases ci : i' = i
        · rw [ci]; exact c
        · exact k2 i' (by omega)
    · refine Or.inl ?_
      rw [if_neg (show ¬ g1.1 50 i ≤ g1.1 45 0 by rw [l1, r0, n_le (by omega) (by omega)]; exact c)]
      exact p_f (fun hh => c (hh.2.2.1 i hi))
  · intro f g1 ⟨k1, k2⟩
    subst k1
    show fX12_isWhole_2 La _ (f + 1) (nI s.rn) g1 = _
    rw [fX12_isWhole_2, if_pos (show g1.1 39 29 ≤ nI s.rn by rw [z29, n_le (by omega) (by omega)]; omega)]
    refine lp (fun f i g2 => fX12_isWhole_35 La (fun g => if (g.1 39 28) ≤ 0 then some (0, g) else if (g.1 45 1) < (g.1 39 29) then some (0, g) else some (1, g)) f (nI i) g2)
      (fun i g2 => g2 = g1 ∧ ∀ i', i' < i → s.go (i' * 4) < s.ru 0 ∧ s.go (i' * 4 + 1) < s.ru 1) s.gn (fun q => q = some (pI (sAgr s), g1)) ?_ ?_ gz_FU 0 g1 (by omega) (by unfold gz_FU; omega) ⟨rfl, fun i' hi' => absurd hi' (Nat.not_lt_zero _)⟩
    · intro f i g2 hi ⟨q1, q2⟩
      subst q1
      obtain ⟨l1, l2⟩ := zg (4 * i) (by omega)
      obtain ⟨l3, l4⟩ := zg (4 * i + 1) (by omega)
      show fX12_isWhole_35 La _ (f + 1) (nI i) g2 = some (pI (sAgr s), g2) ∨ _
      have e4 : (4 : Int32) * nI i = nI (4 * i) := n_mul 4 i
      have e5 : (4 : Int32) * nI i + 1 = nI (4 * i + 1) := by rw [e4]; exact n_add _ 1
      rw [fX12_isWhole_35, if_neg (show ¬ g2.1 39 28 ≤ nI i by rw [z28, n_le (by omega) (by omega)]; omega), e5, e4, if_pos (n_okP (by omega) (by omega)), if_pos (n_okP (a := 4 * i + 1) (n := 16) (by omega) (by omega))]
      simp only [n_cl (show 4 * i < 2147483648 by omega), n_cl (show 4 * i + 1 < 2147483648 by omega)]
      by_cases c : s.go (4 * i) < s.ru 0
      · by_cases c' : s.go (4 * i + 1) < s.ru 1
        · refine Or.inr ⟨g2, ?_, rfl, fun i' hi' => ?_⟩
          · rw [if_neg (show ¬ g2.1 45 0 ≤ g2.1 47 (4 * i) by rw [l1, r0, n_le (by omega) (by omega)]; omega), if_pos (show g2.1 47 (4 * i + 1) < g2.1 45 1 by rw [l3, r1, n_lt (by omega) (by omega)]; exact c'), gz_let_eq, show nI i + (1 : Int32) = nI (i + 1) from n_add _ _]
          · by_cases ci : i' = i
            · rw [ci, Nat.mul_comm]; exact ⟨c, c'⟩
            · exact q2 i' (by omega)
        · refine Or.inl ?_
          rw [if_neg (show ¬ g2.1 45 0 ≤ g2.1 47 (4 * i) by rw [l1, r0, n_le (by omega) (by omega)]; omega), if_neg (show ¬ g2.1 47 (4 * i + 1) < g2.1 45 1 by rw [l3, r1, n_lt (by omega) (by omega)]; exact c')]
          exact p_f (fun hh => c' (by have := (hh.2.2.2 i hi).2; rw [Nat.mul_comm] at this; exact this))
      · refine Or.inl ?_
        rw [if_pos (show g2.1 45 0 ≤ g2.1 47 (4 * i) by rw [l1, r0, n_le (by omega) (by omega)]; omega)]
        exact p_f (fun hh => c (by have := (hh.2.2.2 i hi).1; rw [Nat.mul_comm] at this; exact this))
    · intro f g2 ⟨q1, q2⟩
      subst q1
      show fX12_isWhole_35 La _ (f + 1) (nI s.gn) g2 = _
      rw [fX12_isWhole_35, if_pos (show g2.1 39 28 ≤ nI s.gn by rw [z28, n_le (by omega) (by omega)]; omega)]
      by_cases c0 : s.gn ≤ 0
      · rw [if_pos (show g2.1 39 28 ≤ 0 by rw [z28]; show nI s.gn ≤ nI 0; rw [n_le (by omega) (by omega)]; exact c0)]
        exact p_f (fun hh => by have := hh.1; omega)
      · rw [if_neg (show ¬ g2.1 39 28 ≤ 0 by rw [z28]; show ¬ nI s.gn ≤ nI 0; rw [n_le (by omega) (by omega)]; exact c0)]
        by_cases c1 : s.rn ≤ s.ru 1
        · rw [if_neg (show ¬ g2.1 45 1 < g2.1 39 29 by rw [z29, r1, n_lt (by omega) (by omega)]; omega)]
          exact p_t ⟨by omega, c1, k2, q2⟩
        · rw [if_pos (show g2.1 45 1 < g2.1 39 29 by rw [z29, r1, n_lt (by omega) (by omega)]; omega)]
          exact p_f (fun hh => c1 hh.2.1)
def RdSh (q : Option gz_S) (g : gz_S) (t : Nat × Option SH) : Prop :=
  ∃ g', q = some g' ∧ Fz KS SS g g' ∧ ((t.2 = none ∧ g'.1 39 11 = nI t.1) ∨ ∃ S, t.2 = some S ∧ g'.1 39 11 = -nI 1 ∧ CSR g' S)
theorem RdSh.of {q : Option gz_S} {g1 : gz_S} {t : Nat × Option SH} (h : RdSh q g1 t) (hF : Fz KS SS g g1) : RdSh q g t := by
  obtain ⟨g', h1, h2, h3⟩ := h
  exact ⟨g', h1, hF.tr h2, h3⟩
theorem r_155 (h : RP g e o b len a) : RdSh (fX12_readShore_155 La g) g (a, none) := by
  refine ⟨rf g a, ?_, Fz.z0.f (by omega), Or.inl ⟨rfl, rf_11 _ _⟩⟩
  unfold fX12_readShore_155
  rw [r_failsR h, Option.bind_some]
theorem r_shore76 : ∀ n f a g s, s.gn + s.rn + (if s.hr then 1 else 0) + n = 11 → n + 1 < f → RP g e o b len a → CSR g s → ShB s → RdSh (fX12_readShore_76 La (fX12_readShore_132 La) f 1 g) g (pSh b len n s a) := by
  intro n
  induction n with
  | zero =>
    intro f a g s hn hf h hC hB
    have h1 := hC.2.1.2
    have h2 := hC.2.2.1.2
    split at hn <;> omega
  | succ n ih =>
    intro f a g s hn hf h hC hB
    obtain ⟨f, rfl⟩ : ∃ f', f = f' + 1 := ⟨f - 1, by omega⟩
    obtain ⟨f, rfl⟩ : ∃ f', f = f' + 1 := ⟨f - 1, by omega⟩
    obtain ⟨g1, r1, r2, r3⟩ := r_clause7 (La := La) h hC
    have hok := fun S hS => pCl_ok (b := b) (len := len) (p := a) (s := s) (S := S) hB hS
    rw [fX12_readShore_76, if_neg (by decide), if_pos (show g.1 39 11 = -1 from h.2), r1, Option.bind_some]
    refine RdSh.of (g1 := g1) ?_ r2
    unfold pSh
    have flt : ∀ p, g1.1 39 11 = nI p → p ≤ 240 → RdSh (if g1.1 39 11 = -1 then (fX12_look La g1).bind (fun q101 => if q101.1 = 59 then fX12_readShore_114 La (fX12_readShore_76 La (fX12_readShore_132 La) (f + 1)) 1 q101.2 else fX12_readShore_113 La (fX12_readShore_76 La (fX12_readShore_132 La) (f + 1)) q101.2) else fX12_readShore_113 La (fX12_readShore_76 La (fX12_readShore_132 La) (f + 1)) g1) g1 (p, none) := by
      intro p hp hp2
      refine ⟨g1, ?_, Fz.z0, Or.inl ⟨rfl, hp⟩⟩
      rw [if_neg (fault_ne hp2 hp)]
      unfold fX12_readShore_113 fX12_readShore_114
      rw [if_pos rfl, fX12_readShore_76, if_pos rfl]
      unfold fX12_readShore_132
      exact if_neg (fault_ne hp2 hp)
    generalize hq : pCl b len s a = q at *
    obtain ⟨q1, q2⟩ := q
    rcases r3 with ⟨p, t1, t2, t3⟩ | ⟨a', t1, t2⟩
    · rcases t3 with ⟨u1, u2⟩ | ⟨u1, u2, u3, u4⟩
      · have u1 : q2 = none := u1
        subst u1
        have u2 : p = q1 := u2
        subst u2
        exact flt p t1 t2
      · cases q2 with
        | none => exact absurd rfl u1
        | some S =>
          have u2 : nx b len q1 = p := u2
          show RdSh _ g1 (if sg b len (nx b len q1) = none then _ else if sg b len (nx b len q1) = some 59 then _ else (nx b len q1, none))
          rw [u2, if_neg u3, if_neg u4]
          exact flt p t1 t2
    · have hx := nx_le (b := b) t1.le.1
      have hR := t1.st hx.2
      have hnx : nx b len (nx b len a') = nx b len a' := nx_nx
      have F1 : Fz KS SS g1 (rs g1 (nx b len a')) := Fz.z0.r (Or.inl rfl)
      have hCr : ∀ S, CSR g1 S → CSR (rs g1 (nx b len a')) S := fun S hS => hS.fr (K := fun k => k = 10) (S := S0) (Fz.z0.r rfl) (by omega) (by omega) (by omega) id id id id
      have e59 : (oI (sg b len (nx b len a')) = (59 : Int32)) = (sg b len (nx b len a') = some 59) := hR.oc (c := 59) (by omega)
      have start : ∀ t, RdSh (if oI (sg b len (nx b len a')) = 59 then fX12_readShore_114 La (fX12_readShore_76 La (fX12_readShore_132 La) (f + 1)) 1 (rs g1 (nx b len a')) else fX12_readShore_113 La (fX12_readShore_76 La (fX12_readShore_132 La) (f + 1)) (rs g1 (nx b len a'))) g1 t →
          RdSh (if g1.1 39 11 = -1 then (fX12_look La g1).bind (fun q101 => if q101.1 = 59 then fX12_readShore_114 La (fX12_readShore_76 La (fX12_readShore_132 La) (f + 1)) 1 q101.2 else fX12_readShore_113 La (fX12_readShore_76 La (fX12_readShore_132 La) (f + 1)) q101.2) else fX12_readShore_113 La (fX12_readShore_76 La (fX12_readShore_132 La) (f + 1)) g1) g1 t := by
        intro t ht
        rw [if_pos (show g1.1 39 11 = -1 from t1.2), r_lookR t1, Option.bind_some]
        exact ht
      refine start _ ?_
      generalize nx b len a' = p' at *
      generalize rs g1 p' = g2 at *
      have last : ∀ t, RdSh (if oI (sg b len p') = -1 then (fX12_isWhole La g2).bind (fun q149 => if q149.1 = 0 then fX12_readShore_155 La q149.2 else some q149.2) else fX12_readShore_155 La g2) g1 t → ¬ sg b len p' = some 59 → RdSh (if oI (sg b len p') = 59 then fX12_readShore_114 La (fX12_readShore_76 La (fX12_readShore_132 La) (f + 1)) 1 g2 else fX12_readShore_113 La (fX12_readShore_76 La (fX12_readShore_132 La) (f + 1)) g2) g1 t := by
        intro t ht hne
        rw [if_neg (show ¬ oI (sg b len p') = 59 by rw [e59]; exact hne)]
        unfold fX12_readShore_113 fX12_readShore_114
        rw [if_pos rfl, fX12_readShore_76, if_pos rfl]
        unfold fX12_readShore_132
        have hL : fX12_look La g2 = some (oI (sg b len p'), g2) := by
          have := r_lookR (La := La) hR
          rw [hnx, rs_id hR.ta] at this; exact this
        rw [if_pos (show g2.1 39 11 = -1 from hR.2), hL, Option.bind_some]
        exact ht
      have bad : sg b len p' ≠ none → ¬ sg b len p' = some 59 → RdSh (if oI (sg b len p') = 59 then fX12_readShore_114 La (fX12_readShore_76 La (fX12_readShore_132 La) (f + 1)) 1 g2 else fX12_readShore_113 La (fX12_readShore_76 La (fX12_readShore_132 La) (f + 1)) g2) g1 (p', none) := by
        intro hn1 hn2
        refine last _ ?_ hn2
        have hm1 : ¬ oI (sg b len p') = (-1 : Int32) := by
          cases hs : sg b len p' with
          | none => exact absurd hs hn1
          | some c =>
            have := hR.sgc hs
            show ¬ nI c = -1
            rw [show (-1 : Int32) = -nI 1 from rfl, m_eq (by omega)]; exact id
        rw [if_neg hm1]
        exact RdSh.of (r_155 hR) F1
      rcases t2 with ⟨S, u1, u2, u3⟩ | ⟨u1, u2, u3, u4⟩
      · have u1 : q2 = some S := u1
        subst u1
        have u3 : p' = nx b len q1 := u3
        obtain ⟨v1, v2⟩ := hok S rfl
        show RdSh _ g1 (if sg b len (nx b len q1) = none then (nx b len q1, if sAgr S then some S else none) else if sg b len (nx b len q1) = some 59 then pSh b len n S (nx b len q1 + 1) else (nx b len q1, none))
        rw [← u3]
        by_cases c0 : sg b len p' = none
        · rw [if_pos c0]
          refine last _ ?_ (by rw [c0]; exact fun hh => by cases hh)
          rw [if_pos (show oI (sg b len p') = -1 by rw [c0]; rfl), r_isWhole (hCr S u2), Option.bind_some]
          by_cases cA : sAgr S
          · rw [if_pos cA]
            exact ⟨g2, if_neg (pI1 cA), F1, Or.inr ⟨S, rfl, hR.2, hCr S u2⟩⟩
          · rw [if_neg cA]
            refine RdSh.of (g1 := g2) ?_ F1
            refine Eq.subst (motive := fun z => RdSh z _ _) (if_pos (show (pI (sAgr S), g2).1 = 0 from pI0 cA)).symm ?_
            exact r_155 hR
        · rw [if_neg c0]
          by_cases c59 : sg b len p' = some 59
          · have hpl := (sg_lt c59).1
            rw [if_pos c59, if_pos (by rw [e59]; exact c59)]
            unfold fX12_readShore_114
            rw [if_neg (by decide), r_step1 hR hpl, gz_let_eq]
            have hR2 := hR.st (p := p' + 1) (by omega)
            have F2 : Fz KS SS g1 (rs g2 (p' + 1)) := F1.r (Or.inl rfl)
            have hC2 : CSR (rs g2 (p' + 1)) S := (hCr S u2).fr (K := fun k => k = 10) (S := S0) (Fz.z0.r rfl) (by omega) (by omega) (by omega) id id id id
            exact RdSh.of (ih (f + 1) (p' + 1) (rs g2 (p' + 1)) S (by omega) (by omega) hR2 hC2 v1) F2
          · rw [if_neg c59]
            exact bad c0 c59
      · have u1 : q2 = none := u1
        subst u1
        have u2 : p' = q1 := u2
        subst u2
        exact bad u3 u4
end RP
