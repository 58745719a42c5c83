/-! call text: the class; both -/
section ST
variable {La : gz_L} {g : gz_S} {l : List Nat} {Ls : List (List Nat)} {Es : List (List eS)} {cur : Option Nat} {lv : Nat} {V V0 : Nat → Nat} {a : Nat} {K : Nat → Nat → Nat} {Lg : Nat → Nat} {him : Nat} {IV ILg : Nat → Nat} {s : sS} {B : Nat}
theorem c_textS {S : SH} (hC : ClW La g l Ls Es cur lv V V0 a K Lg him IV ILg s) (hs : (pSh (tb l) l.length 11 sh0 0).2 = some S) :
    ∃ g1, fX11_text La 0 g = some (nI (shV S 58 * shV S 59), La, g1) ∧ FC g g1 ∧ ClW La g1 [] Ls Es cur lv (shV S) (shV S) 0 K Lg 0 IV ILg (0, s.2) := by
  have hct := hC.1.1.ct (p := 0) (Nat.zero_le _)
  have F0 : Fr FA g (st g 0) := st_fr Fr.rf (Or.inl rfl)
  obtain ⟨g', G1, ⟨a', G2⟩, G3, G4⟩ := c_readShore (La := La) hct
  rw [c_rewS] at G3 G4
  have GF : Fr FA g g' := F0.tr (G1.mo (fun j hj => by unfold FA; omega))
  have hC1 := hC.fa GF (CT.tp G2)
  obtain ⟨G5, G6⟩ := G4 S hs
  obtain ⟨hb, hA⟩ := pSh_ok 11 sh0 0 S sh0_ok hs
  have c30 := (shV_wf hb hA).cells
  have tl := c_tell (La := La) hC1.2.2.1 hC1.2.2.2.2.2.1 G6 hA hb.1
  have h22 : (gz_wa g' 21 (fI (shV S))).1 (6 + 16) = fI V := by rw [wa_ne (by omega)]; exact hC1.2.1
  have cp := c_copy (La := La) (g := gz_wa g' 21 (fI (shV S))) (w := 5) (w0 := 6) (V := shV S) (V0 := V) (wa_at _ _ _) h22 (fun k hk => by rw [shV_z k hk, hC1.2.2.2.2.1 k hk])
  obtain ⟨t, ht, h96, _⟩ := hC1.2.2.2.2.2.2.1.2.2.2.2.1
  obtain ⟨y3, q1, q2, q3⟩ := c_forget (La := La) (g := gz_wa (gz_wa g' 21 (fI (shV S))) (6 + 16) (fI (shV S))) (V := shV S) (K := K) (Lg := Lg) (IV := IV) (ILg := ILg) (Or.inr ⟨t, ht, by rw [wa_ne (by omega), wa_ne (by omega)]; exact h96⟩) rfl
  have y22 : y3.1 22 = fI (shV S) := by rw [q2.1 22 (by omega)]; exact wa_at _ _ _
  have y21 : y3.1 21 = fI (shV S) := by rw [q2.1 21 (by omega), wa_ne (by omega)]; exact wa_at _ _ _
  have ye : ∀ j, j ≠ 9 → j ≠ 21 → j ≠ 22 → y3.1 j = g'.1 j := fun j h1 h2 h3 => by rw [q2.1 j h1, wa_ne (by omega), wa_ne (by omega)]
  have y2 : y3.2 = g'.2 := q2.2
  have z22 : (gz_wi y3 11 0 0).1 (6 + 16) = fI (shV S) := by rw [wi_no (by omega)]; exact y22
  have ze : ∀ j, j ≠ 1 → j ≠ 11 → (gz_wi (gz_wi y3 11 0 0) 1 1 0).1 j = y3.1 j := fun j h1 h2 => by rw [wi_no h1, wi_no h2]
  refine ⟨gz_wi (gz_wi y3 11 0 0) 1 1 0, ?_, ?_, ?_⟩
  · unfold fX11_text
    rw [if_pos rfl, G5, Option.bind_some]
    refine (if_neg (show ¬ nI 1 = 0 by decide)).trans ?_
    have hts : fX11_takeShore La g' = some (nI (shV S 58 * shV S 59), gz_wi y3 11 0 0) := by
      unfold fX11_takeShore
      rw [tl, Option.bind_some, cp, Option.bind_some, q1, Option.bind_some]
      unfold fX8_forget
      rw [gz_let_eq, Option.bind_some, c_cells (w := 6) z22, Option.bind_some]
    rw [hts, Option.bind_some]
    exact if_neg (show ¬ nI (shV S 58 * shV S 59) = -nI 1 by rw [m_eq (by omega)]; exact id)
  · refine FC.of (S := fun j => FA j ∨ j = 21 ∨ j = 22 ∨ j = 9 ∨ j = 11 ∨ j = 1) ⟨fun j hj => ?_, ?_⟩ (fun j hj => by omega)
    · rw [ze j (by omega) (by omega), ye j (by omega) (by omega) (by omega), GF.1 j (by omega)]
    · show y3.2 = g.2
      rw [y2, GF.2]
  · obtain ⟨⟨t1, t2, t3, t4, t5, t6, t7, t8, t9, t10, t11⟩, c2, c3, c4, c5, c6, c7, c8⟩ := hC1
    have E : ∀ j, j ≠ 1 → j ≠ 11 → j ≠ 9 → j ≠ 21 → j ≠ 22 → (gz_wi (gz_wi y3 11 0 0) 1 1 0).1 j = g'.1 j := fun j h1 h2 h3 h4 h5 => by rw [ze j h1 h2, ye j h3 h4 h5]
    have E2 : (gz_wi (gz_wi y3 11 0 0) 1 1 0).2 = g'.2 := y2
    refine ⟨⟨⟨wi_ss, Nat.zero_le _, fun k hk => absurd hk (Nat.not_lt_zero _)⟩, t2, ?_, ?_, ?_, t6, ?_, ?_, t9, fun L hL => ?_, fun E0 hE => ?_⟩, ?_, ?_, ?_, shV_z, shV_z, ?_, ⟨?_, Nat.zero_le _, fun k hk => absurd hk (Nat.not_lt_zero _)⟩⟩
    · rw [E 0 (by omega) (by omega) (by omega) (by omega) (by omega)]; exact t3
    · rw [E 0 (by omega) (by omega) (by omega) (by omega) (by omega)]; exact t4
    · rw [E 0 (by omega) (by omega) (by omega) (by omega) (by omega)]; exact t5
    · rw [E2]; exact t7
    · rw [E 0 (by omega) (by omega) (by omega) (by omega) (by omega)]; exact t8
    · obtain ⟨d, d1, d2⟩ := t10 L hL
      exact ⟨d, d1, d2.cg (E _ (by omega) (by omega) (by omega) (by omega) (by omega))⟩
    · exact (t11 E0 hE).cg (E _ (by omega) (by omega) (by omega) (by omega) (by omega)) (E _ (by omega) (by omega) (by omega) (by omega) (by omega))
    · rw [ze 22 (by omega) (by omega)]; exact y22
    · rw [ze 21 (by omega) (by omega)]; exact y21
    · rw [E 23 (by omega) (by omega) (by omega) (by omega) (by omega)]; exact c4
    · exact q3.cgV (fun j hj => ze j (by omega) (by omega)) (fun k hk => rfl)
    · rw [wi_no (by omega)]; exact wi_ss
theorem c_textW {d : pD} (hC : ClW La g l Ls Es cur lv V V0 a K Lg him IV ILg s) (hs : (pLawT (tb l) l.length).2 = some d) (hL : Ls.length < 4) (hg1 : (g.2.2 1).getD 0 < 100) :
    ∃ g1, fX11_text La 1 g = some (nI Ls.length, gz_Lw La d.1.length, g1) ∧ FC g g1 ∧ ClW (gz_Lw La d.1.length) g1 [] (Ls ++ [l]) Es cur lv V V0 a K Lg him IV ILg s := by
  have hct := hC.1.1.ct (p := 0) (Nat.zero_le _)
  have F0 : Fr FA g (st g 0) := st_fr Fr.rf (Or.inl rfl)
  obtain ⟨g', G1, ⟨a', G2⟩, G3, G4⟩ := c_readLaw (La := La) hct
  rw [c_rewL] at G3 G4
  have GF : Fr FA g g' := F0.tr (G1.mo (fun j hj => by unfold FA; omega))
  have hC0 := hC.1.2.2.1
  have hC1 := hC.fa GF (CT.tp G2)
  obtain ⟨G5, h32, h240, h19⟩ := G4 d hs
  obtain ⟨⟨t1, ⟨t2a, t2b, t2c, t2d⟩, t3, t4, t5, t6, t7, t8, t9, t10, t11⟩, c2, c3, c4, c5, c6, c7, c8⟩ := hC1
  have hcu : (g'.2.2 0).getD 0 < 100 + 2 * Ls.length := by
    rw [t7.1]
    cases hc : cur with
    | none => show 0 < 100 + 2 * Ls.length; omega
    | some L => have := t6 L hc; show 100 + 2 * L < 100 + 2 * Ls.length; omega
  have esz : (g'.1 3 2).toInt = (d.1.length : Int) := by rw [h32, n_ti (by omega)]
  have ze : ∀ j, j ≠ 1 → j ≠ 0 → j ≠ 101 + 2 * La.1 → (gz_wi (gz_wi (gz_wa g' (101 + 2 * La.1) (g'.1 19)) 0 13 (nI (La.1 + 1))) 1 1 0).1 j = g'.1 j := fun j h1 h2 h3 => by rw [wi_no h1, wi_no h2, wa_ne h3]
  have z0 : ∀ k, k ≠ 13 → (gz_wi (gz_wi (gz_wa g' (101 + 2 * La.1) (g'.1 19)) 0 13 (nI (La.1 + 1))) 1 1 0).1 0 k = g'.1 0 k := fun k hk => by rw [wi_no (by omega), wi_sn hk, wa_ne (by omega)]
  have z13 : (gz_wi (gz_wi (gz_wa g' (101 + 2 * La.1) (g'.1 19)) 0 13 (nI (La.1 + 1))) 1 1 0).1 0 13 = nI (La.1 + 1) := by rw [wi_no (by omega)]; exact wi_ss
  have zr : (gz_wi (gz_wi (gz_wa g' (101 + 2 * La.1) (g'.1 19)) 0 13 (nI (La.1 + 1))) 1 1 0).1 (101 + 2 * La.1) = g'.1 19 := by rw [wi_no (by omega), wi_no (by omega)]; exact wa_at _ _ _
  have z11 : (gz_wi (gz_wi (gz_wa g' (101 + 2 * La.1) (g'.1 19)) 0 13 (nI (La.1 + 1))) 1 1 0).1 1 1 = nI 0 := wi_ss
  have z2 : (gz_wi (gz_wi (gz_wa g' (101 + 2 * La.1) (g'.1 19)) 0 13 (nI (La.1 + 1))) 1 1 0).2 = g'.2 := rfl
  have hfx : fX11_text La 1 g = some (nI Ls.length, gz_Lw La d.1.length, gz_wi (gz_wi (gz_wa g' (101 + 2 * La.1) (g'.1 19)) 0 13 (nI (La.1 + 1))) 1 1 0) := by
    unfold fX11_text
    rw [if_neg (by decide), if_pos rfl, hC0, if_neg (show ¬ (4 : Int32) ≤ nI Ls.length by show ¬ nI 4 ≤ nI Ls.length; rw [n_le (by omega) (by omega)]; omega), G5, Option.bind_some]
    refine (if_neg (show ¬ nI 1 = 0 by decide)).trans ?_
    rw [if_pos ⟨by rw [t3, t2a], by omega, by rw [esz]; omega, by rw [esz]; omega, by rw [t2a]; exact hcu, by rw [GF.2]; exact hg1⟩, esz, t2a]
    rfl
  generalize gz_wi (gz_wi (gz_wa g' (101 + 2 * La.1) (g'.1 19)) 0 13 (nI (La.1 + 1))) 1 1 0 = y at *
  refine ⟨y, hfx, ⟨fun j h1 h2 => by rw [ze j (by omega) (by omega) (by omega), GF.1 j (by omega)], by rw [z2, GF.2]⟩, ?_⟩
  refine ⟨⟨⟨z11, Nat.zero_le _, fun k hk => absurd hk (Nat.not_lt_zero _)⟩, ⟨?_, t2b, ?_, t2d⟩, ?_, ?_, ?_, fun L hc => ?_, ?_, ?_, t9, fun L hL' => ?_, fun E0 hE => ?_⟩, ?_, ?_, ?_, c5, c6, c7.cgV (fun j hj => ze j (by omega) (by omega) (by omega)) (fun k hk => rfl), c8.cg (ze 11 (by omega) (by omega) (by omega)) (ze 33 (by omega) (by omega) (by omega)) (ze 34 (by omega) (by omega) (by omega)) (ze 35 (by omega) (by omega) (by omega))⟩
  · rw [List.length_append]; show La.1 + 1 = Ls.length + 1; rw [t2a]
  · rw [List.length_append]; show Ls.length + 1 ≤ 4; omega
  · rw [z13, t2a, List.length_append]; rfl
  · rw [z0 14 (by omega)]; exact t4
  · rw [z0 15 (by omega)]; exact t5
  · rw [List.length_append]
    have := t6 L hc
    show L < Ls.length + 1; omega
  · rw [z2]; exact t7
  · rw [z0 16 (by omega)]; exact t8
  · rw [List.length_append] at hL'
    have hL' : L < Ls.length + 1 := hL'
    by_cases c : L = Ls.length
    · subst c
      rw [gd_new]
      refine ⟨d, hs, ?_, h240, fun k hk => ?_, fun La' lt hlt => pLaw_sem hlt _ _ _ (nx_le (Nat.zero_le _)).2 ExL.nil d hs⟩
      · show (if 100 + 2 * Ls.length + 1 = 101 + 2 * La.1 then d.1.length else _) = _
        rw [if_pos (by omega)]
      · rw [show 100 + 2 * Ls.length + 1 = 101 + 2 * La.1 by omega, zr, Nat.zero_add]
        exact h19 k hk
    · obtain ⟨dd, d1, d2, d3, d4, d5⟩ := t10 L (by omega)
      rw [gd_old (by omega)]
      refine ⟨dd, d1, ?_, d3, fun k hk => ?_, d5⟩
      · show (if 100 + 2 * L + 1 = 101 + 2 * La.1 then d.1.length else La.2.2 (100 + 2 * L + 1)) = _
        rw [if_neg (by omega)]; exact d2
      · rw [ze _ (by omega) (by omega) (by omega)]; exact d4 k hk
  · have hq := t11 E0 hE
    unfold EvR
    rw [ze (110 + 2 * E0) (by omega) (by omega) (by omega), ze (110 + 2 * E0 + 1) (by omega) (by omega) (by omega)]
    refine ⟨?_, hq.2⟩
    show (if 110 + 2 * E0 + 1 = 101 + 2 * La.1 then d.1.length else La.2.2 (110 + 2 * E0 + 1)) = _
    rw [if_neg (by omega)]; exact hq.1
  · rw [ze 22 (by omega) (by omega) (by omega)]; exact c2
  · rw [ze 21 (by omega) (by omega) (by omega)]; exact c3
  · rw [ze 23 (by omega) (by omega) (by omega)]; exact c4
theorem c_textE {E : List eS} (hC : ClW La g l Ls Es cur lv V V0 a K Lg him IV ILg s) (hs : (pEv (tb l) l.length 16 0).2 = some E) (hL : Es.length < 4) (hg1 : (g.2.2 1).getD 0 < 100) :
    ∃ g1, fX11_text La 2 g = some (nI Es.length, gz_Le La (3 * E.length), g1) ∧ FC g g1 ∧ ClW (gz_Le La (3 * E.length)) g1 [] Ls (Es ++ [E]) cur lv V V0 a K Lg him IV ILg s := by
  have hct := hC.1.1.ct (p := 0) (Nat.zero_le _)
  have F0 : Fr FA g (st g 0) := st_fr Fr.rf (Or.inl rfl)
  obtain ⟨g', G1, ⟨a', G2⟩, G3, G4⟩ := c_readEvening (La := La) hct
  rw [c_rewE] at G3 G4
  have GF : Fr FA g g' := F0.tr (G1.mo (fun j hj => by unfold FA; omega))
  have hC0 := hC.1.2.2.2.1
  have hC1 := hC.fa GF (CT.tp G2)
  obtain ⟨G5, h42, h20⟩ := G4 E hs
  obtain ⟨w1, w2⟩ := pEv_w 16 0 E hs
  obtain ⟨⟨t1, ⟨t2a, t2b, t2c, t2d⟩, t3, t4, t5, t6, t7, t8, t9, t10, t11⟩, c2, c3, c4, c5, c6, c7, c8⟩ := hC1
  have hcu : (g'.2.2 0).getD 0 < 100 + 2 * Ls.length := by
    rw [t7.1]
    cases hc : cur with
    | none => show 0 < 100 + 2 * Ls.length; omega
    | some L => have := t6 L hc; show 100 + 2 * L < 100 + 2 * Ls.length; omega
  have esz : (g'.1 4 2).toInt = (E.length : Int) := by rw [h42, n_ti (by omega)]
  have ze : ∀ j, j ≠ 1 → j ≠ 0 → j ≠ 111 + 2 * La.2.1 → j ≠ 110 + 2 * La.2.1 → (gz_wi (gz_wi (gz_wi (gz_wa g' (111 + 2 * La.2.1) (g'.1 20)) (110 + 2 * La.2.1) 0 (g'.1 4 2)) 0 14 (nI (La.2.1 + 1))) 1 1 0).1 j = g'.1 j := fun j h1 h2 h3 h4 => by rw [wi_no h1, wi_no h2, wi_no h4, wa_ne h3]
  have z0 : ∀ k, k ≠ 14 → (gz_wi (gz_wi (gz_wi (gz_wa g' (111 + 2 * La.2.1) (g'.1 20)) (110 + 2 * La.2.1) 0 (g'.1 4 2)) 0 14 (nI (La.2.1 + 1))) 1 1 0).1 0 k = g'.1 0 k := fun k hk => by rw [wi_no (by omega), wi_sn hk, wi_no (by omega), wa_ne (by omega)]
  have z13 : (gz_wi (gz_wi (gz_wi (gz_wa g' (111 + 2 * La.2.1) (g'.1 20)) (110 + 2 * La.2.1) 0 (g'.1 4 2)) 0 14 (nI (La.2.1 + 1))) 1 1 0).1 0 14 = nI (La.2.1 + 1) := by rw [wi_no (by omega)]; exact wi_ss
  have zr : (gz_wi (gz_wi (gz_wi (gz_wa g' (111 + 2 * La.2.1) (g'.1 20)) (110 + 2 * La.2.1) 0 (g'.1 4 2)) 0 14 (nI (La.2.1 + 1))) 1 1 0).1 (111 + 2 * La.2.1) = g'.1 20 := by rw [wi_no (by omega), wi_no (by omega), wi_no (by omega)]; exact wa_at _ _ _
  have zs : (gz_wi (gz_wi (gz_wi (gz_wa g' (111 + 2 * La.2.1) (g'.1 20)) (110 + 2 * La.2.1) 0 (g'.1 4 2)) 0 14 (nI (La.2.1 + 1))) 1 1 0).1 (110 + 2 * La.2.1) 0 = nI E.length := by rw [wi_no (by omega), wi_no (by omega), wi_ss]; exact h42
  have z11 : (gz_wi (gz_wi (gz_wi (gz_wa g' (111 + 2 * La.2.1) (g'.1 20)) (110 + 2 * La.2.1) 0 (g'.1 4 2)) 0 14 (nI (La.2.1 + 1))) 1 1 0).1 1 1 = nI 0 := wi_ss
  have z2 : (gz_wi (gz_wi (gz_wi (gz_wa g' (111 + 2 * La.2.1) (g'.1 20)) (110 + 2 * La.2.1) 0 (g'.1 4 2)) 0 14 (nI (La.2.1 + 1))) 1 1 0).2 = g'.2 := rfl
  have hfx : fX11_text La 2 g = some (nI Es.length, gz_Le La (3 * E.length), gz_wi (gz_wi (gz_wi (gz_wa g' (111 + 2 * La.2.1) (g'.1 20)) (110 + 2 * La.2.1) 0 (g'.1 4 2)) 0 14 (nI (La.2.1 + 1))) 1 1 0) := by
    unfold fX11_text
    rw [if_neg (by decide), if_neg (by decide), if_pos rfl, hC0, if_neg (show ¬ (4 : Int32) ≤ nI Es.length by show ¬ nI 4 ≤ nI Es.length; rw [n_le (by omega) (by omega)]; omega), G5, Option.bind_some]
    refine (if_neg (show ¬ nI 1 = 0 by decide)).trans ?_
    rw [if_pos ⟨by rw [t4, t2b], by omega, by rw [esz]; omega, by rw [esz]; omega, by rw [t2a]; exact hcu, by rw [GF.2]; exact hg1⟩, esz, t2b]
    rfl
  generalize gz_wi (gz_wi (gz_wi (gz_wa g' (111 + 2 * La.2.1) (g'.1 20)) (110 + 2 * La.2.1) 0 (g'.1 4 2)) 0 14 (nI (La.2.1 + 1))) 1 1 0 = y at *
  refine ⟨y, hfx, ⟨fun j h1 h2 => by rw [ze j (by omega) (by omega) (by omega) (by omega), GF.1 j (by omega)], by rw [z2, GF.2]⟩, ?_⟩
  refine ⟨⟨⟨z11, Nat.zero_le _, fun k hk => absurd hk (Nat.not_lt_zero _)⟩, ⟨t2a, ?_, t2c, ?_⟩, ?_, ?_, ?_, t6, ?_, ?_, t9, fun L hL' => ?_, fun E0 hE => ?_⟩, ?_, ?_, ?_, c5, c6, c7.cgV (fun j hj => ze j (by omega) (by omega) (by omega) (by omega)) (fun k hk => rfl), c8.cg (ze 11 (by omega) (by omega) (by omega) (by omega)) (ze 33 (by omega) (by omega) (by omega) (by omega)) (ze 34 (by omega) (by omega) (by omega) (by omega)) (ze 35 (by omega) (by omega) (by omega) (by omega))⟩
  · rw [List.length_append]; show La.2.1 + 1 = Es.length + 1; rw [t2b]
  · rw [List.length_append]; show Es.length + 1 ≤ 4; omega
  · rw [z0 13 (by omega)]; exact t3
  · rw [z13, t2b, List.length_append]; rfl
  · rw [z0 15 (by omega)]; exact t5
  · rw [z2]; exact t7
  · rw [z0 16 (by omega)]; exact t8
  · obtain ⟨dd, d1, d2, d3, d4, d5⟩ := t10 L hL'
    refine ⟨dd, d1, ?_, d3, fun k hk => ?_, d5⟩
    · show (if 100 + 2 * L + 1 = 111 + 2 * La.2.1 then 3 * E.length else La.2.2 (100 + 2 * L + 1)) = _
      rw [if_neg (by omega)]; exact d2
    · rw [ze _ (by omega) (by omega) (by omega) (by omega)]; exact d4 k hk
  · rw [List.length_append] at hE
    have hE : E0 < Es.length + 1 := hE
    by_cases c : E0 = Es.length
    · subst c
      rw [gd_new]
      unfold EvR
      rw [show 110 + 2 * Es.length = 110 + 2 * La.2.1 by omega, show 110 + 2 * La.2.1 + 1 = 111 + 2 * La.2.1 by omega, zr, zs]
      refine ⟨if_pos rfl, w1, rfl, fun i hi => ?_⟩
      have hi : i < E.length := hi
      have ha := ev_at hi
      obtain ⟨k1, k2, k3⟩ := h20 i _ ha
      exact ⟨k1, k2, k3, w2 _ (List.mem_of_getElem? ha)⟩
    · have hq := t11 E0 (by omega)
      rw [gd_old (by omega)]
      unfold EvR
      rw [ze (110 + 2 * E0) (by omega) (by omega) (by omega) (by omega), ze (110 + 2 * E0 + 1) (by omega) (by omega) (by omega) (by omega)]
      refine ⟨?_, hq.2⟩
      show (if 110 + 2 * E0 + 1 = 111 + 2 * La.2.1 then 3 * E.length else La.2.2 (110 + 2 * E0 + 1)) = _
      rw [if_neg (by omega)]; exact hq.1
  · rw [ze 22 (by omega) (by omega) (by omega) (by omega)]; exact c2
  · rw [ze 21 (by omega) (by omega) (by omega) (by omega)]; exact c3
  · rw [ze 23 (by omega) (by omega) (by omega) (by omega)]; exact c4
theorem w_text (hw : WR La g B) (hg1 : (g.2.2 1).getD 0 < 100) (x : Int32) : TextOk La x g B := by
  obtain ⟨l, Ls, Es, cur, lv, V, V0, a, K, Lg, him, IV, ILg, s, hC, hR, hI⟩ := hw
  have hct := hC.1.1.ct (p := 0) (Nat.zero_le _)
  have h240 := hC.1.1.2.1
  have F0 : Fr FA g (st g 0) := st_fr Fr.rf (Or.inl rfl)
  have t2c := hC.1.2.1.2.2.1
  have t2d := hC.1.2.1.2.2.2
  have hC13 := hC.1.2.2.1
  have hC14 := hC.1.2.2.2.1
  by_cases x0 : x = 0
  · subst x0
    cases hs : (pSh (tb l) l.length 11 sh0 0).2 with
    | none =>
      have hf : ¬ ft l 0 = -1 := fun hh => by
        rcases ft_m h240 hh with ⟨_, S, h⟩ | ⟨h, _⟩ | ⟨h, _⟩
        · rw [hs] at h; cases h
        · exact absurd h (by decide)
        · exact absurd h (by decide)
      obtain ⟨g', G1, ⟨a', G2⟩, G3, G4⟩ := c_readShore (La := La) hct
      rw [c_rewS] at G3 G4
      have GF : Fr FA g g' := F0.tr (G1.mo (fun j hj => by unfold FA; omega))
      have hR1 := (hR.fr (FC.of GF (fun j hj => by omega))).f0
      obtain ⟨g2, v1, v2, v3⟩ := r_t43n (La := La) hR1.1 hf
      refine TextOk.no (La' := La) (g1 := g') (g2 := g2) ?_ (hC.fa GF (CT.tp G2)) ?_ (hR1.2.tr v2) v3 hI
      · unfold fX11_text
        rw [if_pos rfl, (G3 hs).1, Option.bind_some]; exact if_pos rfl
      · rw [r_text0, if_neg (not_not_intro (Or.inl rfl)), if_neg (by decide), if_neg (by decide)]; exact v1
    | some S =>
      obtain ⟨hb, hA⟩ := pSh_ok 11 sh0 0 S sh0_ok hs
      obtain ⟨g1, u1, u2, u3⟩ := c_textS (La := La) hC hs
      have hR1 := (hR.fr u2).f0
      obtain ⟨g2, v1, v2, v3⟩ := r_t43s (La := La) hR1.1 hs hb hA
      have hW := shV_wf hb hA
      refine ⟨_, La, g1, g2, u1, ?_, [], Ls, Es, cur, lv, shV S, shV S, 0, K, Lg, 0, IV, ILg, (0, s.2), u3.fr (hR1.2.tr v2), v3, fun k hk => rfl, fun hh => ?_, fun hh => ⟨hW.mo (Nat.zero_le _), Nat.zero_le _, fun i hi => absurd hi (Nat.not_lt_zero _), fun h1 => absurd h1 (by decide)⟩, hI.2.2.2.1, hI.2.2.2.2⟩
      · rw [r_text0, if_neg (not_not_intro (Or.inl rfl)), if_neg (by decide), if_neg (by decide)]; exact v1
      · exact absurd hh (by have := hW.2.2.2.1.1; omega)
  by_cases x1 : x = 1
  · subst x1
    by_cases f4 : Ls.length = 4
    · have hR1 := hR.f0
      refine TextOk.no (La' := La) (g1 := g) (g2 := gz_wi g 39 0 0) ?_ hC ?_ hR1.2 hR1.1 hI
      · unfold fX11_text
        rw [if_neg x0, if_pos rfl, hC13]; exact if_pos (by rw [f4]; decide)
      · rw [r_text0, if_neg (not_not_intro (Or.inr (Or.inl rfl))), if_pos rfl]
        exact if_pos (by rw [hR1.1.1.2.1.1.1, f4]; rfl)
    have hlt : Ls.length < 4 := by omega
    have r7 : ∀ {z : gz_S}, ReW z l Ls Es cur lv V V0 a K Lg him IV ILg s → ¬ z.1 39 7 = 4 := fun hz => by
      rw [hz.1.2.1.1.1]
      show ¬ nI Ls.length = nI 4
      rw [n_eq (by omega) (by omega)]; exact f4
    cases hs : (pLawT (tb l) l.length).2 with
    | none =>
      have hf : ¬ ft l 1 = -1 := fun hh => by
        rcases ft_m h240 hh with ⟨h, _⟩ | ⟨_, S, h⟩ | ⟨h, _⟩
        · exact absurd h (by decide)
        · rw [hs] at h; cases h
        · exact absurd h (by decide)
      obtain ⟨g', G1, ⟨a', G2⟩, G3, G4⟩ := c_readLaw (La := La) hct
      rw [c_rewL] at G3 G4
      have GF : Fr FA g g' := F0.tr (G1.mo (fun j hj => by unfold FA; omega))
      have hR1 := (hR.fr (FC.of GF (fun j hj => by omega))).f0
      obtain ⟨g2, v1, v2, v3⟩ := r_t43n (La := La) hR1.1 hf
      refine TextOk.no (La' := La) (g1 := g') (g2 := g2) ?_ (hC.fa GF (CT.tp G2)) ?_ (hR1.2.tr v2) v3 hI
      · unfold fX11_text
        rw [if_neg x0, if_pos rfl, hC13, if_neg (show ¬ (4 : Int32) ≤ nI Ls.length by show ¬ nI 4 ≤ nI Ls.length; rw [n_le (by omega) (by omega)]; omega), (G3 hs).1, Option.bind_some]; exact if_pos rfl
      · rw [r_text0, if_neg (not_not_intro (Or.inr (Or.inl rfl))), if_pos rfl, if_neg (r7 hR1.1)]; exact v1
    | some d =>
      obtain ⟨g1, u1, u2, u3⟩ := c_textW (La := La) hC hs hlt hg1
      have hR1 := (hR.fr u2).f0
      obtain ⟨g2, v1, v2, v3⟩ := r_t43w (La := gz_Lw La d.1.length) hR1.1 hs hlt
      refine ⟨_, gz_Lw La d.1.length, g1, g2, u1, ?_, [], Ls ++ [l], Es, cur, lv, V, V0, a, K, Lg, him, IV, ILg, s, u3.fr (hR1.2.tr v2), v3, hI⟩
      rw [r_text0, if_neg (not_not_intro (Or.inr (Or.inl rfl))), if_pos rfl, if_neg (r7 hR1.1)]; exact v1
  by_cases x2 : x = 2
  · subst x2
    by_cases f4 : Es.length = 4
    · have hR1 := hR.f0
      refine TextOk.no (La' := La) (g1 := g) (g2 := gz_wi g 39 0 0) ?_ hC ?_ hR1.2 hR1.1 hI
      · unfold fX11_text
        rw [if_neg x0, if_neg x1, if_pos rfl, hC14]; exact if_pos (by rw [f4]; decide)
      · rw [r_text0, if_neg (not_not_intro (Or.inr (Or.inr rfl))), if_neg x1, if_pos rfl]
        exact if_pos (by rw [hR1.1.1.2.2.1.1, f4]; rfl)
    have hlt : Es.length < 4 := by omega
    have r30 : ∀ {z : gz_S}, ReW z l Ls Es cur lv V V0 a K Lg him IV ILg s → ¬ z.1 39 30 = 4 := fun hz => by
      rw [hz.1.2.2.1.1]
      show ¬ nI Es.length = nI 4
      rw [n_eq (by omega) (by omega)]; exact f4
    cases hs : (pEv (tb l) l.length 16 0).2 with
    | none =>
      have hf : ¬ ft l 2 = -1 := fun hh => by
        rcases ft_m h240 hh with ⟨h, _⟩ | ⟨h, _⟩ | ⟨_, S, h⟩
        · exact absurd h (by decide)
        · exact absurd h (by decide)
        · rw [hs] at h; cases h
      obtain ⟨g', G1, ⟨a', G2⟩, G3, G4⟩ := c_readEvening (La := La) hct
      rw [c_rewE] at G3 G4
      have GF : Fr FA g g' := F0.tr (G1.mo (fun j hj => by unfold FA; omega))
      have hR1 := (hR.fr (FC.of GF (fun j hj => by omega))).f0
      obtain ⟨g2, v1, v2, v3⟩ := r_t43n (La := La) hR1.1 hf
      refine TextOk.no (La' := La) (g1 := g') (g2 := g2) ?_ (hC.fa GF (CT.tp G2)) ?_ (hR1.2.tr v2) v3 hI
      · unfold fX11_text
        rw [if_neg x0, if_neg x1, if_pos rfl, hC14, if_neg (show ¬ (4 : Int32) ≤ nI Es.length by show ¬ nI 4 ≤ nI Es.length; rw [n_le (by omega) (by omega)]; omega), (G3 hs).1, Option.bind_some]; exact if_pos rfl
      · rw [r_text0, if_neg (not_not_intro (Or.inr (Or.inr rfl))), if_neg x1, if_pos rfl, if_neg (r30 hR1.1)]; exact v1
    | some E =>
      obtain ⟨g1, u1, u2, u3⟩ := c_textE (La := La) hC hs hlt hg1
      have hR1 := (hR.fr u2).f0
      obtain ⟨g2, v1, v2, v3⟩ := r_t43e (La := gz_Le La (3 * E.length)) hR1.1 hs hlt
      refine ⟨_, gz_Le La (3 * E.length), g1, g2, u1, ?_, [], Ls, Es ++ [E], cur, lv, V, V0, a, K, Lg, him, IV, ILg, s, u3.fr (hR1.2.tr v2), v3, hI⟩
      rw [r_text0, if_neg (not_not_intro (Or.inr (Or.inr rfl))), if_neg x1, if_pos rfl, if_neg (r30 hR1.1)]; exact v1
  · have hR1 := hR.f0
    refine TextOk.no (La' := La) (g1 := g) (g2 := gz_wi g 39 0 0) ?_ hC ?_ hR1.2 hR1.1 hI
    · unfold fX11_text
      rw [if_neg x0, if_neg x1, if_neg x2]
    · rw [r_text0, if_pos (fun hh => by rcases hh with h | h | h; exact x0 h; exact x1 h; exact x2 h)]
end ST
