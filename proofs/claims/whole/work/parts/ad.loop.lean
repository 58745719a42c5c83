/-! the law's loop -/
set_option maxRecDepth 100000 in
set_option maxHeartbeats 4000000 in
theorem lw_loop {X : gx_T} {cs : Nat → ClassId} {b L : Nat} {xs : Nat → Int32} (EL : gx_EL X b) : ∀ (n k : Nat) (La : gz_L) (a : Nat → Nat) (g : gz_S) (kc nc B : Nat), L < 6 * k + 6 * n → 6 * k ≤ 3072 → kc ≤ 100 + 2 * k → nc ≤ 40000 + 300 * k → B ≤ 600 * k → lw_H X cs a b L xs → WR La g B → gx X mL_law kc nc (gz_w cs La a g) 23 (lw_ls a b (6 * k)) [] := by
  intro n
  induction n with
  | zero =>
    intro k La a g kc nc B hn hk h1 h2 h3 HH hW
    obtain ⟨C, RO, RE, SC, Rk, hl9, hL⟩ := HH
    refine gy_iload C dL_law_23 rfl ?_
    refine gy_aload_n C dL_law_25 rfl ?_
    refine gy_slen C SC dL_law_26 ?_
    refine gy_bipush (v := 6) C dL_law_27 (by decide) ?_
    refine gy_isub C dL_law_29 ?_
    refine gy_icmp_gt 1563 C dL_law_30 (by decide) (fun _ => ?_) (fun c => ?_)
    · refine gy_iconst (v := 1) C dL_law_1563 (by decide) ?_
      exact gy_lend C rfl EL dL_law_1564 (by omega) (by omega)
    · have := lw_stop hk hL c
      omega
  | succ n ih =>
    intro k La a g kc nc B hn hk h1 h2 h3 HH hW
    obtain ⟨C, RO, RE, SC, Rk, hl9, hL⟩ := id HH
    refine gy_iload C dL_law_23 rfl ?_
    refine gy_aload_n C dL_law_25 rfl ?_
    refine gy_slen C SC dL_law_26 ?_
    refine gy_bipush (v := 6) C dL_law_27 (by decide) ?_
    refine gy_isub C dL_law_29 ?_
    refine gy_icmp_gt 1563 C dL_law_30 (by decide) (fun _ => ?_) (fun c => ?_)
    · refine gy_iconst (v := 1) C dL_law_1563 (by decide) ?_
      exact gy_lend C rfl EL dL_law_1564 (by omega) (by omega)
    · have hi := lw_stop hk hL c
      have hkn : kc ≤ 500000 ∧ nc ≤ 6000000 := ⟨by omega, by omega⟩
      -- behind a call
      have nx : ∀ (La2 : gz_L) (a2 : Nat → Nat) (g2 : gz_S) (kc2 nc2 B2 : Nat), (∀ j, (j < 100 ∨ 200 ≤ j) → a2 j = a j) → kc2 ≤ kc + 2 → nc2 ≤ nc + 300 → B2 ≤ B + 600 → WR La2 g2 B2 → gx X mL_law kc2 nc2 (gz_w cs La2 a2 g2) 1557 (lw_ls a b (6 * k)) [] := by
        intro La2 a2 g2 kc2 nc2 B2 ha q1 q2 q3 hW2
        refine gy_iinc (k := 4) (v := nI (6 * (k + 1))) C dL_law_1557 rfl (by rw [show Int32.ofInt 6 = nI 6 from rfl, n_add, Nat.mul_add]) (by decide) rfl ?_
        refine gy_ls (l2 := lw_ls a2 b (6 * (k + 1))) (by show _ = [some (Value.ref b), some (Value.ref (a2 0)), some (Value.ref (a2 39)), some (Value.ref (a2 38)), some (Value.int (nI (6 * (k + 1)))), none, none]; rw [ha 0 (Or.inl (by omega)), ha 39 (Or.inl (by omega)), ha 38 (Or.inl (by omega))]; rfl) ?_
        refine gy_goto 23 C dL_law_1560 (by decide) ?_
        exact ih (k + 1) La2 a2 g2 kc2 nc2 B2 (by omega) (by omega) (by omega) (by omega) (by omega) ⟨C, RO.cg ha, RE, SC, Rk, hl9, hL⟩ hW2
      have nx0 : ∀ g2, WR La g2 B → gx X mL_law kc nc (gz_w cs La a g2) 1557 (lw_ls a b (6 * k)) [] := fun g2 h => nx La a g2 kc nc B (fun _ _ => rfl) (by omega) (by omega) (by omega) h
      have nx6 : ∀ g2, WR La g2 (B + 600) → gx X mL_law kc nc (gz_w cs La a g2) 1557 (lw_ls a b (6 * k)) [] := fun g2 h => nx La a g2 kc nc (B + 600) (fun _ _ => rfl) (by omega) (by omega) (by omega) h
      refine gy_aload_n C dL_law_33 rfl ?_
      refine gy_iload C dL_law_34 rfl ?_
      refine gy_sld C SC dL_law_36 (n_okP (by omega) (by omega)) ?_
      rw [n_cl (by omega)]
      refine gy_bipush (v := 63) C dL_law_37 (by decide) ?_
      refine gy_iand C dL_law_39 ?_
      generalize xs (6 * k) &&& 63 = t
      by_cases ct : 0 ≤ t.toInt ∧ t.toInt ≤ 37
      · obtain ⟨q, q1, rfl, q3⟩ := x_of ct.1
        have hq : q ≤ 37 := by omega
        clear q1 q3 ct
        rcases (show q = 0 ∨ q = 1 ∨ q = 2 ∨ q = 3 ∨ q = 4 ∨ q = 5 ∨ q = 6 ∨ q = 7 ∨ q = 8 ∨ q = 9 ∨ q = 10 ∨ q = 11 ∨ q = 12 ∨ q = 13 ∨ q = 14 ∨ q = 15 ∨ q = 16 ∨ q = 17 ∨ q = 18 ∨ q = 19 ∨ q = 20 ∨ q = 21 ∨ q = 22 ∨ q = 23 ∨ q = 24 ∨ q = 25 ∨ q = 26 ∨ q = 27 ∨ q = 28 ∨ q = 29 ∨ q = 30 ∨ q = 31 ∨ q = 32 ∨ q = 33 ∨ q = 34 ∨ q = 35 ∨ q = 36 ∨ q = 37 by omega) with rfl | rfl | rfl | rfl | rfl | rfl | rfl | rfl | rfl | rfl | rfl | rfl | rfl | rfl | rfl | rfl | rfl | rfl | rfl | rfl | rfl | rfl | rfl | rfl | rfl | rfl | rfl | rfl | rfl | rfl | rfl | rfl | rfl | rfl | rfl | rfl | rfl | rfl
        · refine gy_tableIn 208 C dL_law_40 (by decide +kernel) (by decide +kernel) (off := 168) (by decide +kernel) (by decide) ?_
          exact lw_c0 HH hkn hi (w_feed hW _ _ _ _ _) nx0
        · refine gy_tableIn 281 C dL_law_40 (by decide +kernel) (by decide +kernel) (off := 241) (by decide +kernel) (by decide) ?_
          exact lw_c1 HH hkn hi (w_end hW _) nx0
        · refine gy_tableIn 306 C dL_law_40 (by decide +kernel) (by decide +kernel) (off := 266) (by decide +kernel) (by decide) ?_
          exact lw_c2 HH hkn hi (w_fault hW _) nx0
        · refine gy_tableIn 331 C dL_law_40 (by decide +kernel) (by decide +kernel) (off := 291) (by decide +kernel) (by decide) ?_
          exact lw_c3 HH hkn hi hW.h1.2 (w_text hW hW.h1.1 _) (fun La2 a2 g2 ha h => nx La2 a2 g2 _ _ B ha (by omega) (by omega) (by omega) h)
        · refine gy_tableIn 356 C dL_law_40 (by decide +kernel) (by decide +kernel) (off := 316) (by decide +kernel) (by decide) ?_
          exact lw_c4 HH hkn hi (w_shore hW _ _) nx0
        · refine gy_tableIn 393 C dL_law_40 (by decide +kernel) (by decide +kernel) (off := 353) (by decide +kernel) (by decide) ?_
          exact lw_c5 HH hkn hi (w_goer hW _ _) (fun g2 h => nx La a g2 _ _ B (fun _ _ => rfl) (by omega) (by omega) (by omega) h)
        · refine gy_tableIn 461 C dL_law_40 (by decide +kernel) (by decide +kernel) (off := 421) (by decide +kernel) (by decide) ?_
          exact lw_c6 HH hkn hi (w_law hW _) nx0
        · refine gy_tableIn 486 C dL_law_40 (by decide +kernel) (by decide +kernel) (off := 446) (by decide +kernel) (by decide) ?_
          exact lw_c7 HH hkn hi (w_children hW _) nx0
        · refine gy_tableIn 511 C dL_law_40 (by decide +kernel) (by decide +kernel) (off := 471) (by decide +kernel) (by decide) ?_
          exact lw_c8 HH hkn hi (w_hour hW (by omega) ) nx6
        · refine gy_tableIn 524 C dL_law_40 (by decide +kernel) (by decide +kernel) (off := 484) (by decide +kernel) (by decide) ?_
          exact lw_c9 HH hkn hi (w_tide hW _) nx0
        · refine gy_tableIn 549 C dL_law_40 (by decide +kernel) (by decide +kernel) (off := 509) (by decide +kernel) (by decide) ?_
          exact lw_c10 HH hkn hi (w_stone hW _) nx0
        · refine gy_tableIn 574 C dL_law_40 (by decide +kernel) (by decide +kernel) (off := 534) (by decide +kernel) (by decide) ?_
          exact lw_c11 HH hkn hi (w_sweep hW _) nx0
        · refine gy_tableIn 599 C dL_law_40 (by decide +kernel) (by decide +kernel) (off := 559) (by decide +kernel) (by decide) ?_
          exact lw_c12 HH hkn hi (w_anew hW _ _) nx0
        · refine gy_tableIn 636 C dL_law_40 (by decide +kernel) (by decide +kernel) (off := 596) (by decide +kernel) (by decide) ?_
          exact lw_c13 HH hkn hi (w_give hW _) nx0
        · refine gy_tableIn 661 C dL_law_40 (by decide +kernel) (by decide +kernel) (off := 621) (by decide +kernel) (by decide) ?_
          exact lw_c14 HH hkn hi (w_years hW (by omega) _ _) nx6
        · refine gy_tableIn 730 C dL_law_40 (by decide +kernel) (by decide +kernel) (off := 690) (by decide +kernel) (by decide) ?_
          exact lw_c15 HH hkn hi (w_undo hW ) nx0
        · refine gy_tableIn 743 C dL_law_40 (by decide +kernel) (by decide +kernel) (off := 703) (by decide +kernel) (by decide) ?_
          exact lw_c16 HH hkn hi (w_log hW _ _) nx0
        · refine gy_tableIn 780 C dL_law_40 (by decide +kernel) (by decide +kernel) (off := 740) (by decide +kernel) (by decide) ?_
          exact lw_c17 HH hkn hi (w_step hW _ _ _) nx0
        · refine gy_tableIn 829 C dL_law_40 (by decide +kernel) (by decide +kernel) (off := 789) (by decide +kernel) (by decide) ?_
          exact lw_c18 HH hkn hi (w_run hW (by omega) _ _) nx0
        · refine gy_tableIn 866 C dL_law_40 (by decide +kernel) (by decide +kernel) (off := 826) (by decide +kernel) (by decide) ?_
          exact lw_c19 HH hkn hi (w_perform hW (by omega) _) nx6
        · refine gy_tableIn 891 C dL_law_40 (by decide +kernel) (by decide +kernel) (off := 851) (by decide +kernel) (by decide) ?_
          exact lw_c20 HH hkn hi (w_where hW (by omega) _ _) nx0
        · refine gy_tableIn 928 C dL_law_40 (by decide +kernel) (by decide +kernel) (off := 888) (by decide +kernel) (by decide) ?_
          exact lw_c21 HH hkn hi (w_meet hW (by omega) _ _) nx0
        · refine gy_tableIn 965 C dL_law_40 (by decide +kernel) (by decide +kernel) (off := 925) (by decide +kernel) (by decide) ?_
          exact lw_c22 HH hkn hi (w_ends hW (by omega) _ _) nx0
        · refine gy_tableIn 1002 C dL_law_40 (by decide +kernel) (by decide +kernel) (off := 962) (by decide +kernel) (by decide) ?_
          exact lw_c23 HH hkn hi (w_again hW (by omega) _) nx0
        · refine gy_tableIn 1027 C dL_law_40 (by decide +kernel) (by decide +kernel) (off := 987) (by decide +kernel) (by decide) ?_
          exact lw_c24 HH hkn hi (w_way hW _ _) nx0
        · refine gy_tableIn 1064 C dL_law_40 (by decide +kernel) (by decide +kernel) (off := 1024) (by decide +kernel) (by decide) ?_
          exact lw_c25 HH hkn hi (w_stones hW (by omega) _ _ _ _) nx0
        · refine gy_tableIn 1125 C dL_law_40 (by decide +kernel) (by decide +kernel) (off := 1085) (by decide +kernel) (by decide) ?_
          exact lw_c26 HH hkn hi (w_seen hW _ _ _) nx0
        · refine gy_tableIn 1174 C dL_law_40 (by decide +kernel) (by decide +kernel) (off := 1134) (by decide +kernel) (by decide) ?_
          exact lw_c27 HH hkn hi (w_fits hW (by omega) _ _) nx0
        · refine gy_tableIn 1211 C dL_law_40 (by decide +kernel) (by decide +kernel) (off := 1171) (by decide +kernel) (by decide) ?_
          exact lw_c28 HH hkn hi (w_ask hW (by omega) _) nx0
        · refine gy_tableIn 1236 C dL_law_40 (by decide +kernel) (by decide +kernel) (off := 1196) (by decide +kernel) (by decide) ?_
          exact lw_c29 HH hkn hi (w_game hW (by omega) _ _ _ _ _) nx0
        · refine gy_tableIn 1309 C dL_law_40 (by decide +kernel) (by decide +kernel) (off := 1269) (by decide +kernel) (by decide) ?_
          exact lw_c30 HH hkn hi (w_rests hW (by omega) _ _ _) nx0
        · refine gy_tableIn 1358 C dL_law_40 (by decide +kernel) (by decide +kernel) (off := 1318) (by decide +kernel) (by decide) ?_
          exact lw_c31 HH hkn hi (w_odds hW (by omega) _ _ _ _) nx0
        · refine gy_tableIn 1419 C dL_law_40 (by decide +kernel) (by decide +kernel) (off := 1379) (by decide +kernel) (by decide) ?_
          exact lw_c32 HH hkn hi (w_shares hW _ _) nx0
        · refine gy_tableIn 1456 C dL_law_40 (by decide +kernel) (by decide +kernel) (off := 1416) (by decide +kernel) (by decide) ?_
          exact lw_c33 HH hkn hi (w_ahead hW (by omega) _) nx0
        · refine gy_tableIn 1481 C dL_law_40 (by decide +kernel) (by decide +kernel) (off := 1441) (by decide +kernel) (by decide) ?_
          exact lw_c34 HH hkn hi (w_all hW _) nx0
        · refine gy_tableIn 1506 C dL_law_40 (by decide +kernel) (by decide +kernel) (off := 1466) (by decide +kernel) (by decide) ?_
          exact lw_c35 HH hkn hi (w_image hW ) nx0
        · refine gy_tableIn 1519 C dL_law_40 (by decide +kernel) (by decide +kernel) (off := 1479) (by decide +kernel) (by decide) ?_
          exact lw_c36 HH hkn hi (w_back hW ) nx0
        · refine gy_tableIn 1532 C dL_law_40 (by decide +kernel) (by decide +kernel) (off := 1492) (by decide +kernel) (by decide) ?_
          exact lw_c37 HH hkn hi (w_count hW _) nx0
      · refine gy_tableOut 1557 C dL_law_40 (by omega) (by decide) ?_
        exact nx0 g hW

