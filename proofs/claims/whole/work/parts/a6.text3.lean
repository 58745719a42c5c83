/-! the class takes a text: the walk -/
theorem fi11_13 : gz_fi 11 13 := ⟨rfl, rfl, rfl⟩
theorem fi11_14 : gz_fi 11 14 := ⟨rfl, rfl, rfl⟩
set_option maxRecDepth 100000 in
set_option maxHeartbeats 4000000 in
theorem kX11_text {l : Launch} {D : va_G} {cs : Nat → ClassId} {La La' : gz_L} {a : Nat → Nat} {g g' : gz_S} {x v : Int32} (hf : fX11_text La x g = some (v, La', g')) (hL : La.1 ≤ 4 ∧ La.2.1 ≤ 4) :
    gx_KR l D cs 130 mX11_text 2 300 [.ref (a 0), .int x] (gz_w cs La a g) a (fun u w' => u = some (.int v) ∧ ∃ a' : Nat → Nat, (∀ j, (j < 100 ∨ 200 ≤ j) → a' j = a j) ∧ w' = gz_w cs La' a' g') := by
  refine gx_KR.of 1 (by decide +kernel) rfl (fun X C E Rk RO => ?_)
  refine gy_ls (l2 := [some (.ref (a 0)), some (.int x), none]) rfl ?_
  refine gy_iconst (v := -1) C dX11_text_0 (by decide) ?_
  refine gy_istore_n C dX11_text_1 (k := 2) rfl (by decide) rfl ?_
  refine gy_ls (l2 := [some (.ref (a 0)), some (.int x), some (.int (-1))]) rfl ?_
  -- the end
  have t135 : ∀ (La1 : gz_L) (a1 : Nat → Nat) (g1 : gz_S) (u : Int32) (kc nc : Nat), kc ≤ 2 → nc ≤ 300 → (∀ j, (j < 100 ∨ 200 ≤ j) → a1 j = a j) → (u = -1 → v = u ∧ La' = La1 ∧ g' = g1) → (¬ u = -1 → v = u ∧ La' = La1 ∧ g' = gz_wi g1 1 1 0) →
      gx X mX11_text kc nc (gz_w cs La1 a1 g1) 135 [some (.ref (a 0)), some (.int x), some (.int u)] [] := by
    intro La1 a1 g1 u kc nc hk hn ha h1 h2
    refine gy_iload_n C dX11_text_135 rfl ?_
    refine gy_iconst (v := -1) C dX11_text_136 (by decide) ?_
    refine gy_icmp_eq 148 C dX11_text_137 (by decide) (fun c => ?_) (fun c => ?_)
    · obtain ⟨k1, k2, k3⟩ := h1 c
      refine gy_iload_n C dX11_text_148 rfl ?_
      refine gy_widen (k2 := 2) (n2 := 300) hk hn ?_
      exact gy_iret C E dX11_text_149 rfl ⟨by rw [k1], a1, ha, by rw [k2, k3]⟩
    · obtain ⟨k1, k2, k3⟩ := h2 c
      refine gy_aload_n C dX11_text_140 rfl ?_
      refine gy_st (st2 := [.ref (a1 0)]) (by rw [ha 0 (Or.inl (by omega))]) ?_
      refine gy_getW (j := 0) (v := .ref (a1 1)) C dX11_text_141 flX11_10 kd0 rfl ?_
      refine gy_iconst (v := 0) C dX11_text_144 (by decide) ?_
      refine gy_putW (j := 1) C dX11_text_145 flX11_105 kd1 fi9_1 ?_
      refine gy_iload_n C dX11_text_148 rfl ?_
      refine gy_widen (k2 := 2) (n2 := 300) hk hn ?_
      exact gy_iret C E dX11_text_149 rfl ⟨by rw [k1], a1, ha, by rw [k2, k3]⟩
  have ida : ∀ j, (j < 100 ∨ 200 ≤ j) → a j = a j := fun _ _ => rfl
  -- refused, where it is no evening
  have t81 : ∀ (g1 : gz_S) (kc nc : Nat), kc ≤ 2 → nc ≤ 300 → ¬ x = 2 → v = -1 ∧ La' = La ∧ g' = g1 → gx X mX11_text kc nc (gz_w cs La a g1) 81 [some (.ref (a 0)), some (.int x), some (.int (-1))] [] := by
    intro g1 kc nc hk hn hx h
    refine gy_iload_n C dX11_text_81 rfl ?_
    refine gy_iconst (v := 2) C dX11_text_82 (by decide) ?_
    refine gy_icmp_ne 135 C dX11_text_83 (by decide) (fun c => ?_) (fun c => absurd c hx)
    exact t135 La a g1 (-1) kc nc hk hn ida (fun _ => h) (fun hh => absurd rfl hh)
  unfold fX11_text at hf
  refine gy_iload_n C dX11_text_2 rfl ?_
  refine gy_if_ne 24 C dX11_text_3 (by decide) (fun x0 => ?_) (fun x0 => ?_)
  · rw [if_neg x0] at hf
    refine gy_iload_n C dX11_text_24 rfl ?_
    refine gy_iconst (v := 1) C dX11_text_25 (by decide) ?_
    refine gy_icmp_ne 81 C dX11_text_26 (by decide) (fun x1 => ?_) (fun x1 => ?_)
    · rw [if_neg x1] at hf
      refine gy_iload_n C dX11_text_81 rfl ?_
      refine gy_iconst (v := 2) C dX11_text_82 (by decide) ?_
      refine gy_icmp_ne 135 C dX11_text_83 (by decide) (fun x2 => ?_) (fun x2 => ?_)
      · rw [if_neg x2] at hf
        cases hf
        exact t135 La a g (-1) 0 0 (by omega) (by omega) ida (fun _ => ⟨rfl, rfl, rfl⟩) (fun hh => absurd rfl hh)
      · rw [if_pos x2] at hf
        refine gy_aload_n C dX11_text_86 rfl ?_
        refine gy_getW (j := 0) (v := .int (g.1 0 14)) C dX11_text_87 flX11_136 kd0 rfl ?_
        refine gy_iconst (v := 4) C dX11_text_90 (by decide) ?_
        refine gy_icmp_ge 135 C dX11_text_91 (by decide) (fun c => ?_) (fun c => ?_)
        · rw [if_pos c] at hf
          cases hf
          exact t135 La a g (-1) 0 0 (by omega) (by omega) ida (fun _ => ⟨rfl, rfl, rfl⟩) (fun hh => absurd rfl hh)
        · rw [if_neg c] at hf
          obtain ⟨q, hq, hf⟩ := gz_bd hf
          refine gy_aload_n C dX11_text_94 rfl ?_
          refine gy_getW (j := 0) (v := .ref (a 4)) C dX11_text_95 flX11_35 kd0 rfl ?_
          refine gy_callKV (j := 4) (ci := 1) (h2 := 6) (st := []) [] C RO dX11_text_98 mvX11_122 (Nat.le_of_ble_eq_true rfl) (by decide) kd4 rfl (Nat.le_of_ble_eq_true rfl) (Rk.mo (by omega) (by omega)) (kX1_readEvening hq) rfl (fun u g2 hu => ?_)
          obtain ⟨rfl, rfl⟩ := hu
          refine gy_st (st2 := [.int q.1]) rfl ?_
          refine gy_if_eq 135 C dX11_text_101 (by decide) (fun c1 => ?_) (fun c1 => ?_)
          · rw [if_pos c1] at hf
            cases hf
            exact t135 La a q.2 (-1) 0 0 (by omega) (by omega) ida (fun _ => ⟨rfl, rfl, rfl⟩) (fun hh => absurd rfl hh)
          · rw [if_neg c1] at hf
            obtain ⟨⟨h14, hk4, hz0, hz1, hr0, hr1⟩, hf⟩ := gz_gd hf
            cases hf
            obtain ⟨n, n1, n2, n3⟩ := x_of hz0
            have hn16 : n ≤ 16 := by omega
            have en : (q.2.1 4 2).toInt.toNat = n := by omega
            obtain ⟨p4, -, hp4⟩ := gz_at (cs := cs) (a := a) (g := q.2) (La := La) (j := 4) (by rw [kd4]; exact (by decide : 0 < 9))
            have e4 : gz_ce cs La a q.2 4 = .inr (1, [.ref (a 1), .ref (a 20), .int (q.2.1 4 2)]) := rfl
            rw [e4, n2] at hp4
            obtain ⟨p20, -, hp20⟩ := gz_at (cs := cs) (a := a) (g := q.2) (La := La) (j := 20) (by rw [kd20]; exact (by decide : 1 < 9))
            have e20 : gz_ce cs La a q.2 20 = .inl (cs 0, 48, .inl (q.2.1 20)) := rfl
            rw [e20] at hp20
            refine gy_aload_n C dX11_text_104 rfl ?_
            refine gy_getW (j := 0) (v := .ref (a 13)) C dX11_text_105 flX11_47 kd0 rfl ?_
            refine gy_aload_n C dX11_text_108 rfl ?_
            refine gy_getW (j := 0) (v := .int (nI La.2.1)) C dX11_text_109 flX11_136 kd0 (by show Value.int (q.2.1 0 14) = _; rw [h14]) ?_
            refine gy_aload_n C dX11_text_112 rfl ?_
            refine gy_getW (j := 0) (v := .ref (a 4)) C dX11_text_113 flX11_35 kd0 rfl ?_
            refine gy_callV (h2 := 4) (mc := 2) (ms := 2 + 3 * n) (q0 := p4) (ci := 1) (st := [.int (nI La.2.1), .ref (a 13)]) [] C dX11_text_116 mvX11_139 (Nat.le_of_ble_eq_true rfl) (by decide) hp4 rfl (Nat.le_of_ble_eq_true rfl) (Rk.mo (by omega) (by omega)) (kX1_made hp4 hp20 (by omega) (by omega)) (fun u w' hp => ?_)
            obtain ⟨z1, z2, rfl, rfl⟩ := hp
            refine gy_st (st2 := [.ref z1, .int (nI La.2.1), .ref (a 13)]) rfl ?_
            refine gy_aastW (La' := gz_Le La (3 * n)) (a' := gz_a2 a (110 + 2 * La.2.1) (111 + 2 * La.2.1) z1 z2) (g' := gz_wi (gz_wa q.2 (111 + 2 * La.2.1) (q.2.1 20)) (110 + 2 * La.2.1) 0 (nI n)) (ix := 4) (ci := 0) (jA := 13) (N := 4) (j1 := 110 + 2 * La.2.1) (j2 := 111 + 2 * La.2.1) (f := fun i => (gz_rf La q.2 13 i).map a) C dX11_text_119 (Or.inr ⟨rfl, rfl⟩) hL.1 hL.1 (by omega) (by rw [gz_mlv]; omega) (by rw [gz_mlv]; omega) (fun j hj => ?_) gz_a21 (gz_a22 (by omega)) (fun j hj => ?_) (gz_mlv.mpr (Or.inl (by omega))) rfl (by rw [n_cl (by omega)]; exact le_ce13 hk4 hL.1) (fun j hj hj2 => le_ce hk4 hL.1 ?_ hr1 hj hj2) (le_ce1 hk4 hL.1) (le_ce2 hk4 hL.1) (n_okP (by omega) (by omega)) ?_
            · rw [gz_mlv] at hj ⊢
              have hj : j < 64 ∨ (100 ≤ j ∧ j < 100 + 2 * La.1) ∨ (110 ≤ j ∧ j < 110 + 2 * (La.2.1 + 1)) := hj
              omega
            · rw [gz_mlv] at hj
              exact gz_a2o (by omega) (by omega)
            · by_cases cc : (q.2.2.2 0).getD 0 < 100
              · exact Or.inl cc
              · exact Or.inr (by rw [gz_mlv]; omega)
            have a0 : gz_a2 a (110 + 2 * La.2.1) (111 + 2 * La.2.1) z1 z2 0 = a 0 := gz_a2o (by omega) (by omega)
            have f14 : (gz_wi (gz_wa q.2 (111 + 2 * La.2.1) (q.2.1 20)) (110 + 2 * La.2.1) 0 (nI n)).1 0 14 = nI La.2.1 := by rw [wi_no (by omega), wa_ne (by omega)]; exact h14
            refine gy_aload_n C dX11_text_120 rfl ?_
            refine gy_st (st2 := [.ref (gz_a2 a (110 + 2 * La.2.1) (111 + 2 * La.2.1) z1 z2 0)]) (by rw [a0]) ?_
            refine gy_getW (j := 0) (v := .int (nI La.2.1)) C dX11_text_121 flX11_136 kd0 (by show Value.int _ = _; rw [f14]) ?_
            refine gy_istore_n C dX11_text_124 (k := 2) rfl (by decide) rfl ?_
            refine gy_ls (l2 := [some (.ref (a 0)), some (.int x), some (.int (nI La.2.1))]) rfl ?_
            refine gy_aload_n C dX11_text_125 rfl ?_
            refine gy_st (st2 := [.ref (gz_a2 a (110 + 2 * La.2.1) (111 + 2 * La.2.1) z1 z2 0)]) (by rw [a0]) ?_
            refine gy_dup C dX11_text_126 rfl ?_
            refine gy_getW (j := 0) (v := .int (nI La.2.1)) C dX11_text_127 flX11_136 kd0 (by show Value.int _ = _; rw [f14]) ?_
            refine gy_iconst (v := 1) C dX11_text_130 (by decide) ?_
            refine gy_iadd C dX11_text_131 ?_
            refine gy_putW (j := 0) C dX11_text_132 flX11_136 kd0 fi11_14 ?_
            refine t135 _ _ _ (nI La.2.1) _ _ (by omega) (by omega) (fun j hj => gz_a2o (by omega) (by omega)) (fun hh => ?_) (fun _ => ⟨rfl, by rw [en], ?_⟩)
            · exact absurd (show nI La.2.1 = -nI 1 from hh) (by rw [m_eq (by omega)]; exact id)
            · rw [n2, show nI La.2.1 + (1 : Int32) = nI (La.2.1 + 1) from n_add _ _]
    · rw [if_pos x1] at hf
      have hx2 : ¬ x = 2 := by rw [x1]; decide
      refine gy_aload_n C dX11_text_29 rfl ?_
      refine gy_getW (j := 0) (v := .int (g.1 0 13)) C dX11_text_30 flX11_129 kd0 rfl ?_
      refine gy_iconst (v := 4) C dX11_text_33 (by decide) ?_
      refine gy_icmp_ge 81 C dX11_text_34 (by decide) (fun c => ?_) (fun c => ?_)
      · rw [if_pos c] at hf
        cases hf
        exact t81 g 0 0 (by omega) (by omega) hx2 ⟨rfl, rfl, rfl⟩
      · rw [if_neg c] at hf
        obtain ⟨q, hq, hf⟩ := gz_bd hf
        refine gy_aload_n C dX11_text_37 rfl ?_
        refine gy_getW (j := 0) (v := .ref (a 3)) C dX11_text_38 flX11_28 kd0 rfl ?_
        refine gy_callKV (j := 3) (ci := 4) (h2 := 127) (st := []) [] C RO dX11_text_41 mvX11_119 (Nat.le_of_ble_eq_true rfl) (by decide) kd3 rfl (Nat.le_of_ble_eq_true rfl) (Rk.mo (by omega) (by omega)) (kX4_readLaw hq) rfl (fun u g2 hu => ?_)
        obtain ⟨rfl, rfl⟩ := hu
        refine gy_st (st2 := [.int q.1]) rfl ?_
        refine gy_if_eq 81 C dX11_text_44 (by decide) (fun c1 => ?_) (fun c1 => ?_)
        · rw [if_pos c1] at hf
          cases hf
          exact t81 q.2 0 0 (by omega) (by omega) hx2 ⟨rfl, rfl, rfl⟩
        · rw [if_neg c1] at hf
          obtain ⟨⟨h13, hk4, hz0, hz1, hr0, hr1⟩, hf⟩ := gz_gd hf
          cases hf
          obtain ⟨n, n1, n2, n3⟩ := x_of hz0
          have en : (q.2.1 3 2).toInt.toNat = n := by omega
          obtain ⟨p3, -, hp3⟩ := gz_at (cs := cs) (a := a) (g := q.2) (La := La) (j := 3) (by rw [kd3]; exact (by decide : 0 < 9))
          have e3 : gz_ce cs La a q.2 3 = .inr (4, [.ref (a 1), .ref (a 19), .int (q.2.1 3 2)]) := rfl
          rw [e3, n2] at hp3
          obtain ⟨p19, -, hp19⟩ := gz_at (cs := cs) (a := a) (g := q.2) (La := La) (j := 19) (by rw [kd19]; exact (by decide : 1 < 9))
          have e19 : gz_ce cs La a q.2 19 = .inl (cs 0, 241, .inl (q.2.1 19)) := rfl
          rw [e19] at hp19
          refine gy_aload_n C dX11_text_47 rfl ?_
          refine gy_getW (j := 0) (v := .ref (a 12)) C dX11_text_48 flX11_41 kd0 rfl ?_
          refine gy_aload_n C dX11_text_51 rfl ?_
          refine gy_getW (j := 0) (v := .int (nI La.1)) C dX11_text_52 flX11_129 kd0 (by show Value.int (q.2.1 0 13) = _; rw [h13]) ?_
          refine gy_aload_n C dX11_text_55 rfl ?_
          refine gy_getW (j := 0) (v := .ref (a 3)) C dX11_text_56 flX11_28 kd0 rfl ?_
          refine gy_callV (h2 := 4) (mc := 2) (ms := 1 + n) (q0 := p3) (ci := 4) (st := [.int (nI La.1), .ref (a 12)]) [] C dX11_text_59 mvX11_132 (Nat.le_of_ble_eq_true rfl) (by decide) hp3 rfl (Nat.le_of_ble_eq_true rfl) (Rk.mo (by omega) (by omega)) (kX4_made hp3 hp19 (by omega) (by omega)) (fun u w' hp => ?_)
          obtain ⟨z1, z2, rfl, rfl⟩ := hp
          refine gy_st (st2 := [.ref z1, .int (nI La.1), .ref (a 12)]) rfl ?_
          refine gy_aastW (La' := gz_Lw La n) (a' := gz_a2 a (100 + 2 * La.1) (101 + 2 * La.1) z1 z2) (g' := gz_wa q.2 (101 + 2 * La.1) (q.2.1 19)) (ix := 3) (ci := 3) (jA := 12) (N := 4) (j1 := 100 + 2 * La.1) (j2 := 101 + 2 * La.1) (f := fun i => (gz_rf La q.2 12 i).map a) C dX11_text_62 (Or.inl ⟨rfl, rfl⟩) hL.1 (by show La.1 + 1 ≤ 4; omega) (by omega) (by rw [gz_mlv]; omega) (by rw [gz_mlv]; omega) (fun j hj => ?_) gz_a21 (gz_a22 (by omega)) (fun j hj => ?_) (gz_mlv.mpr (Or.inl (by omega))) rfl (by rw [n_cl (by omega)]; exact lw_ce12 hk4 hL.2) (fun j hj hj2 => lw_ce hk4 hL.2 hr0 hr1 hj hj2) (lw_ce1 hk4) (lw_ce2 hk4) (n_okP (by omega) (by omega)) ?_
          · rw [gz_mlv] at hj ⊢
            have hj : j < 64 ∨ (100 ≤ j ∧ j < 100 + 2 * (La.1 + 1)) ∨ (110 ≤ j ∧ j < 110 + 2 * La.2.1) := hj
            omega
          · rw [gz_mlv] at hj
            exact gz_a2o (by omega) (by omega)
          have a0 : gz_a2 a (100 + 2 * La.1) (101 + 2 * La.1) z1 z2 0 = a 0 := gz_a2o (by omega) (by omega)
          have f13 : (gz_wa q.2 (101 + 2 * La.1) (q.2.1 19)).1 0 13 = nI La.1 := by rw [wa_ne (by omega)]; exact h13
          refine gy_aload_n C dX11_text_63 rfl ?_
          refine gy_st (st2 := [.ref (gz_a2 a (100 + 2 * La.1) (101 + 2 * La.1) z1 z2 0)]) (by rw [a0]) ?_
          refine gy_getW (j := 0) (v := .int (nI La.1)) C dX11_text_64 flX11_129 kd0 (by show Value.int _ = _; rw [f13]) ?_
          refine gy_istore_n C dX11_text_67 (k := 2) rfl (by decide) rfl ?_
          refine gy_ls (l2 := [some (.ref (a 0)), some (.int x), some (.int (nI La.1))]) rfl ?_
          refine gy_aload_n C dX11_text_68 rfl ?_
          refine gy_st (st2 := [.ref (gz_a2 a (100 + 2 * La.1) (101 + 2 * La.1) z1 z2 0)]) (by rw [a0]) ?_
          refine gy_dup C dX11_text_69 rfl ?_
          refine gy_getW (j := 0) (v := .int (nI La.1)) C dX11_text_70 flX11_129 kd0 (by show Value.int _ = _; rw [f13]) ?_
          refine gy_iconst (v := 1) C dX11_text_73 (by decide) ?_
          refine gy_iadd C dX11_text_74 ?_
          refine gy_putW (j := 0) C dX11_text_75 flX11_129 kd0 fi11_13 ?_
          refine gy_goto 135 C dX11_text_78 (by decide) ?_
          refine t135 _ _ _ (nI La.1) _ _ (by omega) (by omega) (fun j hj => gz_a2o (by omega) (by omega)) (fun hh => ?_) (fun _ => ⟨rfl, by rw [en], ?_⟩)
          · exact absurd (show nI La.1 = -nI 1 from hh) (by rw [m_eq (by omega)]; exact id)
          · rw [show nI La.1 + (1 : Int32) = nI (La.1 + 1) from n_add _ _]
  · rw [if_pos x0] at hf
    have hx1 : ¬ x = 1 := by rw [x0]; decide
    have hx2 : ¬ x = 2 := by rw [x0]; decide
    obtain ⟨q, hq, hf⟩ := gz_bd hf
    refine gy_aload_n C dX11_text_6 rfl ?_
    refine gy_getW (j := 0) (v := .ref (a 2)) C dX11_text_7 flX11_21 kd0 rfl ?_
    refine gy_callKV (j := 2) (ci := 7) (h2 := 5) (st := []) [] C RO dX11_text_10 mvX11_112 (Nat.le_of_ble_eq_true rfl) (by decide) kd2 rfl (Nat.le_of_ble_eq_true rfl) (Rk.mo (by omega) (by omega)) (kX7_readShore hq) rfl (fun u g2 hu => ?_)
    obtain ⟨rfl, rfl⟩ := hu
    refine gy_st (st2 := [.int q.1]) rfl ?_
    refine gy_if_eq 24 C dX11_text_13 (by decide) (fun c1 => ?_) (fun c1 => ?_)
    · rw [if_pos c1] at hf
      cases hf
      refine gy_iload_n C dX11_text_24 rfl ?_
      refine gy_iconst (v := 1) C dX11_text_25 (by decide) ?_
      refine gy_icmp_ne 81 C dX11_text_26 (by decide) (fun c2 => ?_) (fun c2 => absurd c2 hx1)
      exact t81 q.2 0 0 (by omega) (by omega) hx2 ⟨rfl, rfl, rfl⟩
    · rw [if_neg c1] at hf
      obtain ⟨r, hr, hf⟩ := gz_bd hf
      refine gy_aload_n C dX11_text_16 rfl ?_
      refine gy_callKV (j := 0) (ci := 11) (h2 := 3) (st := []) [] C RO dX11_text_17 mvX11_125 (Nat.le_of_ble_eq_true rfl) (by decide) kd0 rfl (Nat.le_of_ble_eq_true rfl) (Rk.mo (by omega) (by omega)) (kX11_takeShore hr) rfl (fun u g2 hu => ?_)
      obtain ⟨rfl, rfl⟩ := hu
      refine gy_st (st2 := [.int r.1]) rfl ?_
      by_cases c2 : r.1 = -1
      · rw [if_pos c2] at hf; cases hf
      · rw [if_neg c2] at hf
        cases hf
        refine gy_istore_n C dX11_text_20 (k := 2) rfl (by decide) rfl ?_
        refine gy_ls (l2 := [some (.ref (a 0)), some (.int x), some (.int r.1)]) rfl ?_
        refine gy_goto 135 C dX11_text_21 (by decide) ?_
        exact t135 La a r.2 r.1 0 0 (by omega) (by omega) ida (fun hh => absurd hh c2) (fun _ => ⟨rfl, rfl, rfl⟩)
