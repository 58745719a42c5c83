/-! calls: tide, stone, sweep, anew, give -/
section ST
variable {La : gz_L} {g : gz_S} {l : List Nat} {Ls : List (List Nat)} {Es : List (List eS)} {cur : Option Nat} {lv : Nat} {V V0 : Nat → Nat} {a : Nat} {K : Nat → Nat → Nat} {Lg : Nat → Nat} {him : Nat} {IV ILg : Nat → Nat} {s : sS} {B : Nat}
theorem c_actK (h : ClW La g l Ls Es cur lv V V0 a K Lg him IV ILg s) : ∃ g0, fX5_keep La 6 g = some g0 ∧ g0.1 22 = fI V ∧ ∀ V', (∀ k, 49 ≤ k → V' k = V k) → FC g (gz_wa g0 22 (fI V')) ∧ ClW La (gz_wa g0 22 (fI V')) l Ls Es cur lv V' V0 (min 40 (a + 1)) (kPush V K) Lg him IV ILg s := by
  obtain ⟨g1, u1, u2, u3⟩ := c_keep (La := La) h.2.1 h.2.2.2.2.2.2.1
  refine ⟨g1, u1, by rw [u2.1 22 (by omega)]; exact h.2.1, fun V' hV => ?_⟩
  have F : Fr (fun j => j = 9 ∨ j = 22 ∨ j = 26) g (gz_wa g1 22 (fI V')) := (u2.mo (fun j hj => by omega)).wa (by omega)
  have cp := (u3.act hV).fr (S := fun j => j = 22) (g' := gz_wa g1 22 (fI V')) (Fr.rf.wa rfl) (fun j hj => by omega)
  exact ⟨FC.of F (fun j hj => by omega), h.acts F (fun j hj => by omega) (wa_at _ _ _) (fun k hk => by rw [hV k (by omega)]; exact h.2.2.2.2.1 k hk) cp⟩
theorem r_actK (h : ReW g l Ls Es cur lv V V0 a K Lg him IV ILg s) (hI : Inv V V0 a K Lg him IV ILg s B) (h0 : ¬ V 60 = 0) : ∃ g0, fX12_remember La g = some g0 ∧ CX g0 53 V Ls cur ∧ RKp g0 V ∧ ∀ g' V', RG 53 g0 g' → CX g' 53 V' Ls cur → V' 49 = V 49 → FR g g' ∧ ReW g' l Ls Es cur lv V' V0 (min 40 (a + 1)) (kPush V K) Lg him IV ILg s := by
  obtain ⟨hcx, hkp⟩ := h.cx hI h0
  obtain ⟨g1, u1, u2, u3⟩ := r_remember (La := La) h.2.2.2.1 h.2.1
  have F1 := u2.y
  refine ⟨g1, u1, hcx.cg F1 (fun j hj => by have := hj; omega) (fun k hk => by have := hk; omega), hkp.fr F1 (by omega), fun g' V' hG hC hV => ?_⟩
  have F : Fy KA SA g g' := (F1.mo (fun k hk => by have := hk; omega) (fun j hj => by have := hj; omega)).tr (hG.1.mo (fun k hk => by have := hk; omega) (fun j hj => by have := hj; omega))
  refine ⟨FR.y F (fun j hj => by have := hj; omega), h.acts F hC.2.2 ?_ (u3.fr hG.1 (by omega) (by omega)) ?_⟩
  · have hA1 : RowA (g1.1 53) V Lg := by rw [F1.1 53 (by omega) (by omega)]; exact h.2.1
    exact hA1.act hV hC.1 hG.2
  · rw [hG.1.2.1 50 (by omega), hG.1.1 63 (by omega) (by omega), F1.2.1 50 (by omega), F1.1 63 (by omega) (by omega)]; exact h.2.2.2.2.1
theorem ReW.isCell (h : ReW g l Ls Es cur lv V V0 a K Lg him IV ILg s) (hI : Inv V V0 a K Lg him IV ILg s B) {x : Int32} : fX12_isCell La x g = some (pI (0 ≤ x.toInt ∧ x.toInt < ((V 58 * V 59 : Nat) : Int)), g) := by
  by_cases h0 : V 60 = 0
  · have h27 := h.n27 hI
    rw [h0] at h27
    have hV := (hI.2.1 h0).1
    have e : V 58 * V 59 = 0 := by rw [show V 58 = 0 from congrFun hV 58, Nat.zero_mul]
    rw [e]
    unfold fX12_isCell fX12_cells
    by_cases c : x.toInt < 0
    · rw [if_pos (by show x < nI 0; rw [x_lt (by omega)]; omega)]; exact p_f (by omega)
    · rw [if_neg (by show ¬ x < nI 0; rw [x_lt (by omega)]; omega), if_pos (by rw [h27]; rfl), Option.bind_some]
      exact (if_pos (by show nI 0 ≤ x; rw [x_ge (by omega)]; omega)).trans (p_f (by omega))
  · exact r_isCell (h.cx hI h0).1 (hI.2.2.1 h0).1
theorem ReW.isGoer (h : ReW g l Ls Es cur lv V V0 a K Lg him IV ILg s) (hI : Inv V V0 a K Lg him IV ILg s B) {x : Int32} : fX12_isGoer La x g = some (pI (0 ≤ x.toInt ∧ x.toInt < (V 60 : Int)), g) := r_isGoer (h.n27 hI) hI.g4
theorem c_hasCellW (h : ClW La g l Ls Es cur lv V V0 a K Lg him IV ILg s) (hI : Inv V V0 a K Lg him IV ILg s B) {x : Int32} : fX6_hasCell La 6 x g = some (pI (0 ≤ x.toInt ∧ x.toInt < ((V 58 * V 59 : Nat) : Int)), g) := c_hasCell (w := 6) h.2.1 hI.c30
theorem c_hasGoerW (h : ClW La g l Ls Es cur lv V V0 a K Lg him IV ILg s) (hI : Inv V V0 a K Lg him IV ILg s B) {x : Int32} : fX6_hasGoer La 6 x g = some (pI (0 ≤ x.toInt ∧ x.toInt < (V 60 : Int)), g) := c_hasGoer (w := 6) h.2.1 hI.b
theorem ReW.at46 (h : ReW g l Ls Es cur lv V V0 a K Lg him IV ILg s) {k : Nat} (hk : 46 ≤ k ∧ k < 50) : g.1 53 k = nI (V k) := by
  have := h.2.1.1 k hk.2
  rw [rp_n hk.1] at this; exact this
theorem w_tide (hw : WR La g B) (x : Int32) : CallOk La (fX11_tide La x) (fX12_tide La x) g B := by
  obtain ⟨l, Ls, Es, cur, lv, V, V0, a, K, Lg, him, IV, ILg, s, hC, hR, hI⟩ := hw
  have hb1 := Int32.toInt_lt x
  have hb2 := Int32.le_toInt x
  have b46 := hI.b 46
  by_cases yes : ¬ V 60 = 0 ∧ 0 ≤ x.toInt ∧ x.toInt ≤ 5 ∧ ¬ x.toInt = (V 46 : Int)
  · obtain ⟨h0, y1, y2, y3⟩ := yes
    obtain ⟨n, n1, rfl, n3⟩ := x_of (x := x) y1
    obtain ⟨hW, h49, _⟩ := hI.2.2.1 h0
    obtain ⟨g0, u1, u2, u3⟩ := c_actK (La := La) hC
    obtain ⟨u4, u5⟩ := u3 (uN V 46 n) (fun k hk => uN_n (by omega))
    have hR1 := (hR.fr u4).f0
    obtain ⟨q0, v1, v2, v2', v3⟩ := r_actK (La := La) hR1.1 hI h0
    obtain ⟨v4, v5⟩ := v3 _ (uN V 46 n) (RG.z0.up (Or.inl rfl) (k := 46) (x := nI n) (by omega)) (v2.up (Or.inl rfl) (k := 46) (j := 46) (x := n) (by omega) (rp_n (by omega))) (uN_n (by omega))
    refine CallOk.of (v := nI (V 46)) ?_ ?_ u5 (hR1.2.tr v4) v5 ?_
    · unfold fX11_tide
      rw [c_mayTurnTide (w := 6) hC.2.1 hI.b, Option.bind_some]
      refine (if_neg (pI1 (by omega))).trans ?_
      have e22 : g.1 22 = fI V := hC.2.1
      show gz_let (g.1 22 46) _ = _
      rw [gz_let_eq, u1, Option.bind_some, gz_let_eq, e22, fI_ap, wi_wa, u2, upd_fI]
    · unfold fX12_tide fX12_canTide
      have h27 := hR1.1.n27 hI
      have hg4 := hI.g4
      rw [gz_let_eq, if_neg (by rw [h27]; show ¬ _ = nI 0; rw [n_eq (by omega) (by omega)]; exact h0), x_l, show (0 : Int64) = Int64.ofInt 0 from rfl, show (5 : Int64) = Int64.ofInt 5 from rfl, r_isInZ (by omega) (by omega) (by omega), Option.bind_some]
      have e46 := hR1.1.at46 (k := 46) (by omega)
      have hin : (if (pI (0 ≤ (nI n).toInt ∧ (nI n).toInt ≤ 5), gz_wi (gz_wa g0 22 (fI (uN V 46 n))) 39 0 0).1 = 0 then some ((0 : Int32), gz_wi (gz_wa g0 22 (fI (uN V 46 n))) 39 0 0) else if nI n = (gz_wi (gz_wa g0 22 (fI (uN V 46 n))) 39 0 0).1 53 46 then some (0, gz_wi (gz_wa g0 22 (fI (uN V 46 n))) 39 0 0) else some (1, gz_wi (gz_wa g0 22 (fI (uN V 46 n))) 39 0 0)) = some (1, gz_wi (gz_wa g0 22 (fI (uN V 46 n))) 39 0 0) := by
        refine (if_neg (pI1 (by omega))).trans (if_neg ?_)
        rw [e46, n_eq (by omega) (by omega)]; omega
      refine Eq.trans (congrArg (fun z => Option.bind z _) hin) ?_
      rw [Option.bind_some]
      refine (if_neg (show ¬ (1 : Int32) = 0 by decide)).trans ?_
      rw [v1, Option.bind_some, gz_let_eq, gz_let_eq, v2.at46 (k := 46) (by omega)]
    · exact hI.act h0 (Nat.le_refl _) (wf_up1 hW (Or.inl ⟨rfl, by omega⟩)) (by rw [uN_n (by omega)]; exact h49) (fun k hk => uN_n (by omega)) hI.2.2.2.1
  · have h27 := hR.f0.1.n27 hI
    have e46 := hR.f0.1.at46 (k := 46) (by omega)
    refine CallOk.no (v := -1) ?_ ?_ hC hR hI
    · unfold fX11_tide
      rw [c_mayTurnTide (w := 6) hC.2.1 hI.b, Option.bind_some]
      exact if_pos (pI0 (by omega))
    · unfold fX12_tide fX12_canTide
      rw [gz_let_eq]
      by_cases h0 : V 60 = 0
      · rw [if_pos (by rw [h27, h0]; rfl)]
      · have hg4 := hI.g4
        rw [if_neg (by rw [h27]; show ¬ _ = nI 0; rw [n_eq (by omega) (by omega)]; exact h0), x_l x, show (0 : Int64) = Int64.ofInt 0 from rfl, show (5 : Int64) = Int64.ofInt 5 from rfl, r_isInZ (by omega) (by omega) (by omega), Option.bind_some]
        by_cases c1 : 0 ≤ x.toInt ∧ x.toInt ≤ 5
        · have hin : (if (pI (0 ≤ x.toInt ∧ x.toInt ≤ 5), gz_wi g 39 0 0).1 = 0 then some ((0 : Int32), gz_wi g 39 0 0) else if x = (gz_wi g 39 0 0).1 53 46 then some (0, gz_wi g 39 0 0) else some (1, gz_wi g 39 0 0)) = some (0, gz_wi g 39 0 0) := by
            refine (if_neg (pI1 c1)).trans (if_pos ?_)
            rw [e46, x_eq (by omega)]; omega
          refine Eq.trans (congrArg (fun z => Option.bind z _) hin) ?_
          rw [Option.bind_some]; rfl
        · have hin : (if (pI (0 ≤ x.toInt ∧ x.toInt ≤ 5), gz_wi g 39 0 0).1 = 0 then some ((0 : Int32), gz_wi g 39 0 0) else if x = (gz_wi g 39 0 0).1 53 46 then some (0, gz_wi g 39 0 0) else some (1, gz_wi g 39 0 0)) = some (0, gz_wi g 39 0 0) := if_pos (pI0 c1)
          refine Eq.trans (congrArg (fun z => Option.bind z _) hin) ?_
          rw [Option.bind_some]; rfl
theorem w_give (hw : WR La g B) (x : Int32) : CallOk La (fX11_give La x) (fX12_give La x) g B := by
  obtain ⟨l, Ls, Es, cur, lv, V, V0, a, K, Lg, him, IV, ILg, s, hC, hR, hI⟩ := hw
  have hb1 := Int32.toInt_lt x
  have hb2 := Int32.le_toInt x
  have b48 : V 48 ≤ 999 := by
    by_cases h0 : V 60 = 0
    · rw [(hI.2.1 h0).1]; exact Nat.zero_le _
    · exact (hI.2.2.1 h0).1.2.2.2.2.2.2.1
  by_cases yes : ¬ V 60 = 0 ∧ 1 ≤ x.toInt ∧ x.toInt ≤ 50 ∧ (V 48 : Int) + x.toInt ≤ 999
  · obtain ⟨h0, y1, y2, y3⟩ := yes
    obtain ⟨n, n1, rfl, n3⟩ := x_of (x := x) (by omega)
    obtain ⟨hW, h49, _⟩ := hI.2.2.1 h0
    obtain ⟨g0, u1, u2, u3⟩ := c_actK (La := La) hC
    obtain ⟨u4, u5⟩ := u3 (uN V 48 (V 48 + n)) (fun k hk => uN_n (by omega))
    have hR1 := (hR.fr u4).f0
    obtain ⟨q0, v1, v2, v2', v3⟩ := r_actK (La := La) hR1.1 hI h0
    have v6 := v2.up (Or.inl rfl) (k := 48) (j := 48) (x := V 48 + n) (by omega) (rp_n (by omega))
    obtain ⟨v4, v5⟩ := v3 _ (uN V 48 (V 48 + n)) (RG.z0.up (Or.inl rfl) (k := 48) (x := nI (V 48 + n)) (by omega)) v6 (uN_n (by omega))
    refine CallOk.of (v := nI (V 48 + n)) ?_ ?_ u5 (hR1.2.tr v4) v5 ?_
    · unfold fX11_give
      rw [c_mayBeGiven (w := 6) hC.2.1 b48 hI.b, Option.bind_some]
      refine (if_neg (pI1 (by omega))).trans ?_
      rw [u1, Option.bind_some, u2, fI_ap, n_add, gz_let_eq, wi_wa, u2, upd_fI, wa_at, fI_ap, uN_s]
    · unfold fX12_give
      have h27 := hR1.1.n27 hI
      have hg4 := hI.g4
      rw [gz_let_eq, if_neg (by rw [h27]; show ¬ _ = nI 0; rw [n_eq (by omega) (by omega)]; exact h0), x_l, show (1 : Int64) = Int64.ofInt 1 from rfl, show (50 : Int64) = Int64.ofInt 50 from rfl, r_isInZ (by omega) (by omega) (by omega), Option.bind_some]
      refine (if_neg (pI1 (by omega))).trans ?_
      have e48 := hR1.1.at46 (k := 48) (by omega)
      refine (if_pos ?_).trans ?_
      · show (gz_wi (gz_wa g0 22 (fI (uN V 48 (V 48 + n)))) 39 0 0).1 53 48 + nI n ≤ nI 999
        rw [e48, n_add, n_le (by omega) (by omega)]; omega
      · rw [v1, Option.bind_some, v2.at46 (k := 48) (by omega), n_add, gz_let_eq, wi_ss]
    · exact hI.act h0 (Nat.le_refl _) (wf_up1 hW (Or.inr (Or.inl ⟨rfl, by omega⟩))) (by rw [uN_n (by omega)]; exact h49) (fun k hk => uN_n (by omega)) hI.2.2.2.1
  · have h27 := hR.f0.1.n27 hI
    have e48 := hR.f0.1.at46 (k := 48) (by omega)
    refine CallOk.no (v := -1) ?_ ?_ hC hR hI
    · unfold fX11_give
      rw [c_mayBeGiven (w := 6) hC.2.1 b48 hI.b, Option.bind_some]
      exact if_pos (pI0 (by omega))
    · unfold fX12_give
      rw [gz_let_eq]
      by_cases h0 : V 60 = 0
      · rw [if_pos (by rw [h27, h0]; rfl)]
      · have hg4 := hI.g4
        rw [if_neg (by rw [h27]; show ¬ _ = nI 0; rw [n_eq (by omega) (by omega)]; exact h0), x_l x, show (1 : Int64) = Int64.ofInt 1 from rfl, show (50 : Int64) = Int64.ofInt 50 from rfl, r_isInZ (by omega) (by omega) (by omega), Option.bind_some]
        by_cases c1 : 1 ≤ x.toInt ∧ x.toInt ≤ 50
        · refine (if_neg (pI1 c1)).trans (if_neg ?_)
          obtain ⟨n, n1, rfl, n3⟩ := x_of (x := x) (by omega)
          show ¬ (gz_wi g 39 0 0).1 53 48 + nI n ≤ nI 999
          rw [e48, n_add, n_le (by omega) (by omega)]; omega
        · exact if_pos (pI0 c1)
theorem c_sweep0 (h : ClW La g l Ls Es cur lv V V0 a K Lg him IV ILg s) (hI : Inv V V0 a K Lg him IV ILg s B) {x : Int32} : fX6_maySweep La 6 x g = some (pI ((0 ≤ x.toInt ∧ x.toInt < ((V 58 * V 59 : Nat) : Int)) ∧ 0 < sCnt V x.toInt.toNat ∧ 1 ≤ V 48), g) := by
  have h30 := hI.c30
  by_cases c : 0 ≤ x.toInt ∧ x.toInt < ((V 58 * V 59 : Nat) : Int)
  · obtain ⟨n, n1, rfl, n3⟩ := x_of (x := x) c.1
    have et : (nI n).toInt.toNat = n := by rw [n_ti n1]; omega
    rw [et]
    by_cases h0 : V 60 = 0
    · have e : V 58 * V 59 = 0 := by rw [show V 58 = 0 from congrFun (hI.2.1 h0).1 58, Nat.zero_mul]
      omega
    · rw [c_maySweep (w := 6) h.2.1 (hI.2.2.1 h0).1 (by omega)]
      exact p_c ⟨fun hh => ⟨c, hh.2⟩, fun hh => ⟨by omega, hh.2⟩⟩
  · unfold fX6_maySweep
    rw [c_hasCellW h hI, Option.bind_some]
    exact (if_pos (pI0 c)).trans (p_f (fun hh => c hh.1))
theorem c_stone0 (h : ClW La g l Ls Es cur lv V V0 a K Lg him IV ILg s) (hI : Inv V V0 a K Lg him IV ILg s B) {x : Int32} : fX6_mayTurnStone La 6 x g = some (pI ((0 ≤ x.toInt ∧ x.toInt < ((V 58 * V 59 : Nat) : Int)) ∧ V x.toInt.toNat ≤ 1 ∧ sCnt V x.toInt.toNat = 0 ∧ 2 ≤ V 48), g) := by
  by_cases h0 : V 60 = 0
  · have e : V 58 * V 59 = 0 := by rw [show V 58 = 0 from congrFun (hI.2.1 h0).1 58, Nat.zero_mul]
    unfold fX6_mayTurnStone
    rw [c_hasCellW h hI, Option.bind_some]
    exact (if_pos (pI0 (by omega))).trans (p_f (fun hh => by omega))
  · rw [c_mayTurnStone (w := 6) h.2.1 (hI.2.2.1 h0).1]
    exact p_c ⟨fun hh => ⟨⟨hh.1, hh.2.1⟩, hh.2.2⟩, fun hh => ⟨hh.1.1, hh.1.2, hh.2⟩⟩
theorem c_begin0 (h : ClW La g l Ls Es cur lv V V0 a K Lg him IV ILg s) (hI : Inv V V0 a K Lg him IV ILg s B) {x y : Int32} : fX6_mayBegin La 6 x y g = some (pI ((0 ≤ x.toInt ∧ x.toInt < (V 60 : Int)) ∧ (0 ≤ y.toInt ∧ y.toInt < 4) ∧ ¬ V (V (54 + x.toInt.toNat)) = 1 ∧ 3 ≤ V 48), g) := by
  by_cases h0 : V 60 = 0
  · unfold fX6_mayBegin
    rw [c_hasGoerW h hI, Option.bind_some]
    exact (if_pos (pI0 (by omega))).trans (p_f (fun hh => by omega))
  · exact c_mayBegin (w := 6) h.2.1 (hI.2.2.1 h0).1
theorem w_sweep (hw : WR La g B) (x : Int32) : CallOk La (fX11_sweep La x) (fX12_sweep La x) g B := by
  obtain ⟨l, Ls, Es, cur, lv, V, V0, a, K, Lg, him, IV, ILg, s, hC, hR, hI⟩ := hw
  have h30 := hI.c30
  by_cases yes : (0 ≤ x.toInt ∧ x.toInt < ((V 58 * V 59 : Nat) : Int)) ∧ 0 < sCnt V x.toInt.toNat ∧ 1 ≤ V 48
  · have h0 : ¬ V 60 = 0 := fun h0 => by
      have e : V 58 * V 59 = 0 := by rw [show V 58 = 0 from congrFun (hI.2.1 h0).1 58, Nat.zero_mul]
      omega
    obtain ⟨n, n1, rfl, n3⟩ := x_of (x := x) yes.1.1
    have et : (nI n).toInt.toNat = n := by rw [n_ti n1]; omega
    obtain ⟨hW, h49, _⟩ := hI.2.2.1 h0
    have hg4 := hI.g4
    obtain ⟨g0, u1, u2, u3⟩ := c_actK (La := La) hC
    obtain ⟨u4, u5⟩ := u3 (sSweep V n) (fun k hk => sSweep_fix hg4 hk)
    have hR1 := (hR.fr u4).f0
    obtain ⟨hcx, _⟩ := hR1.1.cx hI h0
    obtain ⟨q0, v1, v2, v2', v3⟩ := r_actK (La := La) hR1.1 hI h0
    obtain ⟨q1, w1, w2, w3⟩ := r_sweeps (La := La) (Or.inl rfl) v2 hW (c := n) n1 yes.2.2
    obtain ⟨v4, v5⟩ := v3 q1 (sSweep V n) w2 w3 (sSweep_fix hg4 (by omega))
    refine CallOk.of (v := nI (sCnt V n)) ?_ ?_ u5 (hR1.2.tr v4) v5 ?_
    · unfold fX11_sweep
      rw [c_sweep0 hC hI, Option.bind_some]
      refine (if_neg (pI1 yes)).trans ?_
      rw [u1, Option.bind_some, c_sweepOff (w := 6) (Or.inr (Or.inl rfl)) u2 hW (by omega) yes.2.2, Option.bind_some]
    · unfold fX12_sweep
      rw [gz_let_eq, r_canSweep hcx hW, Option.bind_some]
      refine (if_neg (pI1 yes)).trans ?_
      rw [v1, Option.bind_some, w1, Option.bind_some]
    · exact hI.act h0 (Nat.le_refl _) (sSweep_wf hW) (by rw [sSweep_fix hg4 (by omega)]; exact h49) (fun k hk => sSweep_fix hg4 (by omega)) hI.2.2.2.1
  · refine CallOk.no (v := -1) ?_ ?_ hC hR hI
    · unfold fX11_sweep
      rw [c_sweep0 hC hI, Option.bind_some]
      exact if_pos (pI0 yes)
    · unfold fX12_sweep
      rw [gz_let_eq]
      by_cases h0 : V 60 = 0
      · have e : V 58 * V 59 = 0 := by rw [show V 58 = 0 from congrFun (hI.2.1 h0).1 58, Nat.zero_mul]
        have hin : fX12_canSweep La 53 x (gz_wi g 39 0 0) = some (0, gz_wi g 39 0 0) := by
          unfold fX12_canSweep
          rw [hR.f0.1.isCell hI, Option.bind_some]
          exact if_pos (pI0 (by omega))
        rw [hin, Option.bind_some]; rfl
      · rw [r_canSweep (hR.f0.1.cx hI h0).1 (hI.2.2.1 h0).1, Option.bind_some]
        exact if_pos (pI0 yes)
theorem w_stone (hw : WR La g B) (x : Int32) : CallOk La (fX11_stone La x) (fX12_stone La x) g B := by
  obtain ⟨l, Ls, Es, cur, lv, V, V0, a, K, Lg, him, IV, ILg, s, hC, hR, hI⟩ := hw
  have h30 := hI.c30
  by_cases yes : (0 ≤ x.toInt ∧ x.toInt < ((V 58 * V 59 : Nat) : Int)) ∧ V x.toInt.toNat ≤ 1 ∧ sCnt V x.toInt.toNat = 0 ∧ 2 ≤ V 48
  · have h0 : ¬ V 60 = 0 := fun h0 => by
      have e : V 58 * V 59 = 0 := by rw [show V 58 = 0 from congrFun (hI.2.1 h0).1 58, Nat.zero_mul]
      omega
    obtain ⟨n, n1, rfl, n3⟩ := x_of (x := x) yes.1.1
    have et : (nI n).toInt.toNat = n := by rw [n_ti n1]; omega
    obtain ⟨hW, h49, _⟩ := hI.2.2.1 h0
    have hg4 := hI.g4
    have hn30 : n < 30 := by omega
    rw [et] at yes
    have b48 := hW.2.2.2.2.2.2.1
    obtain ⟨g0, u1, u2, u3⟩ := c_actK (La := La) hC
    obtain ⟨u4, u5⟩ := u3 (sStone V n) (fun k hk => sStone_fix hn30 hk)
    have hR1 := (hR.fr u4).f0
    obtain ⟨hcx, _⟩ := hR1.1.cx hI h0
    obtain ⟨q0, v1, v2, v2', v3⟩ := r_actK (La := La) hR1.1 hI h0
    have w1 := v2.up (Or.inl rfl) (k := 48) (j := 48) (x := V 48 - 2) (by omega) (rp_n (by omega))
    have w2 := w1.up (Or.inl rfl) (k := n) (j := n) (x := if V n = 0 then 1 else 0) (by omega) (rp_c hn30)
    obtain ⟨v4, v5⟩ := v3 _ (sStone V n) ((RG.z0.up (Or.inl rfl) (k := 48) (x := nI (V 48 - 2)) (by omega)).up (Or.inl rfl) (k := n) (x := nI (if V n = 0 then 1 else 0)) (by omega)) w2 (sStone_fix hn30 (by omega))
    have hval : sStone V n n = if V n = 0 then 1 else 0 := uN_s _ _ _
    refine CallOk.of (v := nI (if V n = 0 then 1 else 0)) ?_ ?_ u5 (hR1.2.tr v4) v5 ?_
    · unfold fX11_stone
      rw [c_stone0 hC hI, Option.bind_some]
      refine (if_neg (pI1 (by rw [et]; exact yes))).trans ?_
      rw [u1, Option.bind_some, c_turnStone (w := 6) u2 hI.b hn30 yes.2.2.2, Option.bind_some, c_kind (w := 6) (V := sStone V n) (wa_at _ _ _) (by omega), Option.bind_some, hval]
    · unfold fX12_stone
      have en := hR1.1.2.1.1 n (by omega)
      rw [rp_c hn30] at en
      have hgn := gb_16 (V := V) (c := n) hg4
      have e0 : (nI (gb V n (V 60)) = 0) = (sCnt V n = 0) := by
        show (nI _ = nI 0) = _
        rw [n_eq (by omega) (by omega)]; exact gb_0 (V 60)
      have bn := hI.b n
      rw [gz_let_eq, hR1.1.isCell hI, Option.bind_some]
      refine (if_neg (pI1 yes.1)).trans ((if_pos (n_okP (by omega) (by omega))).trans ?_)
      refine (if_neg ?_).trans ?_
      · show ¬ (nI 1 : Int32) < (gz_wi (gz_wa g0 22 (fI (sStone V n))) 39 0 0).1 53 (Int32.toNatClampNeg (nI n))
        rw [n_cl (by omega), en, n_lt (by omega) (by omega)]; omega
      · rw [r_goingOn hcx hW (by omega), Option.bind_some]
        refine (if_pos (show nI (gb V n (V 60)) = 0 by rw [e0]; exact yes.2.2.1)).trans ((if_pos ?_).trans ?_)
        · show (nI 2 : Int32) ≤ (gz_wi (gz_wa g0 22 (fI (sStone V n))) 39 0 0).1 53 48
          rw [hR1.1.at46 (k := 48) (by omega), n_le (by omega) (by omega)]; exact yes.2.2.2
        · rw [v1, Option.bind_some, v2.at46 (k := 48) (by omega), show nI (V 48) - (2 : Int32) = nI (V 48 - 2) from n_sub (a := V 48) (b := 2) yes.2.2.2, gz_let_eq, if_pos (n_okP (by omega) (by omega)), if_pos (n_okP (by omega) (by omega))]
          simp only [n_cl (show n < 2147483648 by omega)]
          have en2 := w1.1 n (by omega)
          rw [rp_c hn30, uN_n (by omega)] at en2
          rw [en2]
          have e1 : (1 : Int32) - nI (V n) = nI (if V n = 0 then 1 else 0) := by
            by_cases cn : V n = 0
            · rw [if_pos cn, cn]; decide
            · rw [if_neg cn, show V n = 1 by omega]; decide
          rw [e1, gz_let_eq, if_pos (n_okP (by omega) (by omega)), wi_ss]
    · exact hI.act h0 (Nat.le_refl _) (sStone_wf hW hn30) (by rw [sStone_fix hn30 (by omega)]; exact h49) (fun k hk => sStone_fix hn30 (by omega)) hI.2.2.2.1
  · refine CallOk.no (v := -1) ?_ ?_ hC hR hI
    · unfold fX11_stone
      rw [c_stone0 hC hI, Option.bind_some]
      exact if_pos (pI0 yes)
    · unfold fX12_stone
      rw [gz_let_eq, hR.f0.1.isCell hI, Option.bind_some]
      by_cases c : 0 ≤ x.toInt ∧ x.toInt < ((V 58 * V 59 : Nat) : Int)
      · have h0 : ¬ V 60 = 0 := fun h0 => by
          have e : V 58 * V 59 = 0 := by rw [show V 58 = 0 from congrFun (hI.2.1 h0).1 58, Nat.zero_mul]
          omega
        obtain ⟨n, n1, rfl, n3⟩ := x_of (x := x) c.1
        have et : (nI n).toInt.toNat = n := by rw [n_ti n1]; omega
        rw [et] at yes
        have hn30 : n < 30 := by omega
        have en := hR.f0.1.2.1.1 n (by omega)
        rw [rp_c hn30] at en
        obtain ⟨hW, h49, _⟩ := hI.2.2.1 h0
        have hg4 := hI.g4
        have b48 := hW.2.2.2.2.2.2.1
        have bn := hI.b n
        have hgn := gb_16 (V := V) (c := n) hg4
        have e0 : (nI (gb V n (V 60)) = 0) = (sCnt V n = 0) := by
          show (nI _ = nI 0) = _
          rw [n_eq (by omega) (by omega)]; exact gb_0 (V 60)
        refine (if_neg (pI1 c)).trans ((if_pos (n_okP (by omega) (by omega))).trans ?_)
        by_cases c1 : 1 < V n
        · refine if_pos ?_
          show (nI 1 : Int32) < (gz_wi g 39 0 0).1 53 (Int32.toNatClampNeg (nI n))
          rw [n_cl (by omega), en, n_lt (by omega) (by omega)]; omega
        · refine (if_neg ?_).trans ?_
          · show ¬ (nI 1 : Int32) < (gz_wi g 39 0 0).1 53 (Int32.toNatClampNeg (nI n))
            rw [n_cl (by omega), en, n_lt (by omega) (by omega)]; omega
          · rw [r_goingOn (hR.f0.1.cx hI h0).1 hW (by omega), Option.bind_some]
            by_cases c2 : sCnt V n = 0
            · refine (if_pos (show nI (gb V n (V 60)) = 0 by rw [e0]; exact c2)).trans (if_neg ?_)
              show ¬ (nI 2 : Int32) ≤ (gz_wi g 39 0 0).1 53 48
              rw [hR.f0.1.at46 (k := 48) (by omega), n_le (by omega) (by omega)]; omega
            · exact if_neg (show ¬ nI (gb V n (V 60)) = 0 by rw [e0]; exact c2)
      · exact if_pos (pI0 c)
theorem w_anew (hw : WR La g B) (x y : Int32) : CallOk La (fX11_anew La x y) (fX12_anew La x y) g B := by
  obtain ⟨l, Ls, Es, cur, lv, V, V0, a, K, Lg, him, IV, ILg, s, hC, hR, hI⟩ := hw
  have hg4 := hI.g4
  have hb1 := Int32.toInt_lt y
  have hb2 := Int32.le_toInt y
  by_cases yes : (0 ≤ x.toInt ∧ x.toInt < (V 60 : Int)) ∧ (0 ≤ y.toInt ∧ y.toInt < 4) ∧ ¬ V (V (54 + x.toInt.toNat)) = 1 ∧ 3 ≤ V 48
  · have h0 : ¬ V 60 = 0 := fun h0 => by omega
    obtain ⟨n, n1, rfl, n3⟩ := x_of (x := x) yes.1.1
    obtain ⟨m, m1, rfl, m3⟩ := x_of (x := y) yes.2.1.1
    have et : (nI n).toInt.toNat = n := by rw [n_ti n1]; omega
    have hn : n < V 60 := by omega
    obtain ⟨hW, h49, _⟩ := hI.2.2.1 h0
    have b48 := hW.2.2.2.2.2.2.1
    have b54 := hW.2.2.2.2.2.2.2.2.2.2 n hn
    obtain ⟨g0, u1, u2, u3⟩ := c_actK (La := La) hC
    obtain ⟨u4, u5⟩ := u3 (sPay V n m) (fun k hk => sPay_fix (by omega) hk)
    have hR1 := (hR.fr u4).f0
    obtain ⟨hcx, _⟩ := hR1.1.cx hI h0
    obtain ⟨q0, v1, v2, v2', v3⟩ := r_actK (La := La) hR1.1 hI h0
    have w1 := v2.up (Or.inl rfl) (k := 48) (j := 48) (x := V 48 - 3) (by omega) (rp_n (by omega))
    have hW1 : Wf B (uN V 48 (V 48 - 3)) := wf_up1 hW (Or.inr (Or.inl ⟨rfl, by omega⟩))
    obtain ⟨q1, w2, w3, w4⟩ := r_begins0 (La := La) (Or.inl rfl) w1 hW1 (i := n) (l := m) (by rw [uN_n (by omega)]; exact hn)
    obtain ⟨v4, v5⟩ := v3 q1 (sPay V n m) ((RG.z0.up (Or.inl rfl) (k := 48) (x := nI (V 48 - 3)) (by omega)).tr w3) w4 (sPay_fix (by omega) (by omega))
    have hWp := sPay_wf hW hn (l := m) (by omega)
    have e54 : sPay V n m (54 + n) = V (54 + n) := sPay_fix (by omega) (by omega)
    have e60 : sPay V n m 60 = V 60 := sPay_fix (by omega) (by omega)
    have w4' : CX q1 53 (sPay V n m) Ls cur := w4
    have w5 := r_startOf (La := La) w4' hWp (i := n) (by rw [e60]; exact hn)
    rw [e54] at w5
    have e30 : sPay V n m (30 + n) = V (54 + n) := by
      unfold sPay sBegin
      rw [uN_n (by omega), uN_n (by omega), uN_n (by omega), uN_s, uN_n (by omega)]
    refine CallOk.of (v := nI (V (54 + n))) ?_ ?_ u5 (hR1.2.tr v4) v5 ?_
    · unfold fX11_anew
      rw [c_begin0 hC hI, Option.bind_some]
      refine (if_neg (pI1 yes)).trans ?_
      rw [u1, Option.bind_some, c_payAndBegin (w := 6) u2 (by omega) yes.2.2.2, Option.bind_some, show (30 : Int32) + nI n = nI (30 + n) from n_add 30 n, if_pos (n_okP (by omega) (by omega)), n_cl (by omega), wa_at, fI_ap, e30]
    · unfold fX12_anew
      rw [gz_let_eq, r_canBegin hcx hW, Option.bind_some]
      refine (if_neg (pI1 ⟨yes.1, yes.2.1, yes.2.2.1⟩)).trans ((if_pos ?_).trans ?_)
      · show (nI 3 : Int32) ≤ (gz_wi (gz_wa g0 22 (fI (sPay V n m))) 39 0 0).1 53 48
        rw [hR1.1.at46 (k := 48) (by omega), n_le (by omega) (by omega)]; exact yes.2.2.2
      · rw [v1, Option.bind_some, v2.at46 (k := 48) (by omega), show nI (V 48) - (3 : Int32) = nI (V 48 - 3) from n_sub (a := V 48) (b := 3) yes.2.2.2, gz_let_eq, w2, Option.bind_some, w5, Option.bind_some]
    · exact hI.act h0 (Nat.le_refl _) hWp (by rw [sPay_fix (by omega) (by omega)]; exact h49) (fun k hk => sPay_fix (by omega) (by omega)) hI.2.2.2.1
  · refine CallOk.no (v := -1) ?_ ?_ hC hR hI
    · unfold fX11_anew
      rw [c_begin0 hC hI, Option.bind_some]
      exact if_pos (pI0 yes)
    · unfold fX12_anew
      rw [gz_let_eq]
      by_cases h0 : V 60 = 0
      · have hin : fX12_canBegin La 53 x y (gz_wi g 39 0 0) = some (0, gz_wi g 39 0 0) := by
          unfold fX12_canBegin
          rw [hR.f0.1.isGoer hI, Option.bind_some]
          exact if_pos (pI0 (by omega))
        rw [hin, Option.bind_some]; rfl
      · obtain ⟨hW, h49, _⟩ := hI.2.2.1 h0
        have b48 := hW.2.2.2.2.2.2.1
        rw [r_canBegin (hR.f0.1.cx hI h0).1 hW, Option.bind_some]
        by_cases c : (0 ≤ x.toInt ∧ x.toInt < (V 60 : Int)) ∧ (0 ≤ y.toInt ∧ y.toInt < 4) ∧ ¬ V (V (54 + x.toInt.toNat)) = 1
        · refine (if_neg (pI1 c)).trans (if_neg ?_)
          show ¬ (nI 3 : Int32) ≤ (gz_wi g 39 0 0).1 53 48
          rw [hR.f0.1.at46 (k := 48) (by omega), n_le (by omega) (by omega)]
          exact fun hh => yes ⟨c.1, c.2.1, c.2.2, hh⟩
        · exact if_pos (pI0 c)
end ST
