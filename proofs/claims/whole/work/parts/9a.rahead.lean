/-! the reference's trial: hours ahead; calls where, meet, ends, again, ahead -/
section RW
variable {g : gz_S} {V W : Nat → Nat} {B : Nat} {La : gz_L} {Ls : List (List Nat)} {cur : Option Nat}
theorem r_copy (h : CX g 53 V Ls cur) (hp : RKp g V) : ∃ g', fX12_copy La g = some g' ∧ Fy KQ SQ g g' ∧ CX g' 54 V Ls cur ∧ RKp g' V := by
  unfold fX12_copy
  refine lp (fun f i g1 => fX12_copy_2 La (fun g => gz_let (gz_wi g 54 50 0) (fun g24 => some g24)) f (nI i) g1) (fun i g1 => Fz (fun _ => False) (fun j => j = 54) g g1 ∧ ∀ j, j < i → g1.1 54 j = g.1 53 j) 50
    (fun q => ∃ g', q = some g' ∧ Fy KQ SQ g g' ∧ CX g' 54 V Ls cur ∧ RKp g' V) ?_ ?_ gz_FU 0 g (by omega) (by unfold gz_FU; omega) ⟨Fz.z0, fun j hj => absurd hj (Nat.not_lt_zero _)⟩
  · intro f i g1 hi ⟨q1, q2⟩
    refine Or.inr ⟨gz_wi g1 54 i (g.1 53 i), ?_, q1.s (by omega) rfl, fun j hj => ?_⟩
    · show fX12_copy_2 La _ (f + 1) (nI i) g1 = _
      rw [fX12_copy_2, if_neg (show ¬ (50 : Int32) ≤ nI i by show ¬ nI 50 ≤ nI i; rw [n_le (by omega) (by omega)]; omega), if_pos (n_okP (by omega) (by omega)), if_pos (n_okP (by omega) (by omega)), gz_let_eq, n_cl (by omega), q1.1 53 (by omega) (by omega), gz_let_eq, show nI i + (1 : Int32) = nI (i + 1) from n_add _ _]
    · by_cases c : j = i
      · rw [c, wi_ss]
      · rw [wi_sn c]; exact q2 j (by omega)
  · intro f g1 ⟨q1, q2⟩
    have F2 : Fz (fun _ => False) (fun j => j = 54) g (gz_wi g1 54 50 0) := q1.s (by omega) rfl
    have Fq : Fy KQ SQ g (gz_wi g1 54 50 0) := F2.y.mo (fun k hk => hk.elim) (fun j hj => by have := hj; omega)
    refine ⟨gz_wi g1 54 50 0, ?_, Fq, ⟨fun k hk => ?_, h.2.1.fr F2.y (by omega) (by omega) id, h.2.2.fr F2.y id id (by omega) (by omega) (by omega) (by omega) (by omega)⟩, hp.fr F2.y (by omega)⟩
    · show fX12_copy_2 La _ (f + 1) (nI 50) g1 = _
      rw [fX12_copy_2, if_pos (show (50 : Int32) ≤ nI 50 by decide), gz_let_eq]
    · have := rp_lt hk
      rw [wi_sn (by omega), q2 _ this]; exact h.1 k hk
theorem sTog_mt {T : sT} (h60 : W 60 ≤ 4) {a b : Nat} (ha : a < 4) (hb : b < 4) : sTog (sHour T W) a b ↔ mt (sAll T W (W 60)) a b := by
  have e : ∀ k, 42 ≤ k ∧ k < 46 ∨ 30 ≤ k ∧ k < 34 → sHour T W k = sAll T W (W 60) k := fun k hk => by
    unfold sHour
    rw [uN_n (by omega), uN_n (by omega), sTurned_n (by omega) h60]
  show (_ ∧ _ ∧ _) ↔ (_ ∧ _ ∧ _)
  rw [e (42 + a) (by omega), e (42 + b) (by omega), e (30 + a) (by omega), e (30 + b) (by omega)]
  exact ⟨fun h => ⟨h.1, h.2.1, h.2.2.symm⟩, fun h => ⟨h.1, h.2.1, h.2.2.symm⟩⟩
theorem r_hr (h : CX g 54 W Ls cur) (hp : RKp g W) (hW : Wf B W) (hB : B < 700000) :
    ∃ g', fX12_passes La 54 g = some (nI (sMet (sTof Ls cur) W), g') ∧ Fy KQ SQ g g' ∧ CX g' 54 (sHour (sTof Ls cur) W) Ls cur ∧ RKp g' (sHour (sTof Ls cur) W) ∧
      ∀ a b, a < W 60 → b < W 60 → a ≠ b → fX12_haveMet La (nI a) (nI b) g' = some (pI (sTog (sHour (sTof Ls cur) W) a b), g') := by
  have h60 := hW.2.2.2.1.2
  obtain ⟨g1, u1, u2, u3, u4, p, u5, u6, u7⟩ := r_passes (La := La) (Or.inr rfl) h hp hW hB
  refine ⟨g1, u1, u2.1.mo (fun k hk => by have := hk; omega) (fun j hj => by have := hj; omega), u3, (hp.fr u2.1 (by omega)).mo (fun k hk => sHour_fix h60 (by omega)) h60, fun a b ha hb hab => ?_⟩
  unfold fX12_haveMet
  rw [c_min (by omega) (by omega), Option.bind_some, c_max (by omega) (by omega), Option.bind_some]
  have e4 : (4 : Int32) * nI (min a b) + nI (max a b) = nI (4 * min a b + max a b) := by rw [show (4 : Int32) * nI (min a b) = nI (4 * min a b) from n_mul 4 _, n_add]
  rw [u5, e4, r_has (by omega) (by omega), Option.bind_some]
  have ht := u7 (min a b) (max a b) (by omega) (by omega)
  have hmt : mt (sAll (sTof Ls cur) W (W 60)) (min a b) (max a b) ↔ sTog (sHour (sTof Ls cur) W) a b := by
    rw [sTog_mt h60 (by omega) (by omega)]
    rcases Nat.lt_or_ge a b with hh | hh
    · rw [show min a b = a by omega, show max a b = b by omega]
    · rw [show min a b = b by omega, show max a b = a by omega]
      exact ⟨fun h => ⟨h.2.1, h.1, h.2.2.symm⟩, fun h => ⟨h.2.1, h.1, h.2.2.symm⟩⟩
  have hb2 : (p.testBit (4 * min a b + max a b) = true) ↔ sTog (sHour (sTof Ls cur) W) a b := by rw [ht, decide_eq_true_eq]; exact hmt
  refine (if_pos (show pI _ = nI 0 ∨ pI _ = nI 1 from ?_)).trans (p_c hb2)
  rw [p_01]; trivial
/-- where the trial stands behind k hours -/
def TQ (g0 g : gz_S) (W : Nat → Nat) (Ls : List (List Nat)) (cur : Option Nat) : Prop := Fy KQ SQ g0 g ∧ CX g 54 W Ls cur ∧ RKp g W
theorem sHrs_60 {T : sT} (h60 : V 60 ≤ 4) : ∀ n k, k < 30 ∨ k = 46 ∨ k = 48 ∨ 50 ≤ k → sHrs T V n k = V k := by
  intro n
  induction n with
  | zero => intro k _; rfl
  | succ n ih =>
    intro k hk
    rw [sHrs_s, sHour_fix (by rw [ih 60 (by omega)]; exact h60) hk]; exact ih k hk
theorem r_meets {a b n : Nat} (h : TQ g g V Ls cur) (hW : Wf B V) (hB : B < 400000) (ha : a < V 60) (hb : b < V 60) (hab : a ≠ b) (hn : n ≤ 99) :
    ∃ g', fX12_meetsWithin La (nI a) (nI b) (nI n) g = some (oI ((sMeet (sTof Ls cur) V a b n).map (· + 1)), g') ∧ Fy KQ SQ g g' ∧ RLw g' Ls cur := by
  have h60 := hW.2.2.2.1.2
  unfold fX12_meetsWithin
  refine lp (fun f k g1 => fX12_meetsWithin_3 La f (nI a) (nI b) (nI n) (nI (k + 1)) g1) (fun k g1 => TQ g g1 (sHrs (sTof Ls cur) V k) Ls cur ∧ ∀ j, j < k → ¬ sTog (sHrs (sTof Ls cur) V (j + 1)) a b) n
    (fun q => ∃ g', q = some (oI ((sMeet (sTof Ls cur) V a b n).map (· + 1)), g') ∧ Fy KQ SQ g g' ∧ RLw g' Ls cur) ?_ ?_ gz_FU 0 g (by omega) (by unfold gz_FU; omega) ⟨h, fun j hj => absurd hj (Nat.not_lt_zero _)⟩
  · intro f k g1 hk ⟨⟨q1, q2, q3⟩, q4⟩
    have hWk := sHrs_wf (sTof_lt (Ls := Ls) (cur := cur)) hW k (by omega)
    have e60 : sHrs (sTof Ls cur) V k 60 = V 60 := sHrs_60 h60 k 60 (by omega)
    obtain ⟨g2, v1, v2, v3, v4, v5⟩ := r_hr (La := La) q2 q3 hWk (by omega)
    have v6 := v5 a b (by rw [e60]; exact ha) (by rw [e60]; exact hb) hab
    rw [← sHrs_s] at v3 v4 v6
    have st : ∀ Q : Option (Int32 × gz_S), (if pI (sTog (sHrs (sTof Ls cur) V (k + 1)) a b) = 0 then fX12_meetsWithin_3 La f (nI a) (nI b) (nI n) (nI (k + 1 + 1)) g2 else some (nI (k + 1), g2)) = Q → fX12_meetsWithin_3 La (f + 1) (nI a) (nI b) (nI n) (nI (k + 1)) g1 = Q := by
      intro Q hQ
      rw [fX12_meetsWithin_3, if_neg (show ¬ nI n < nI (k + 1) by rw [n_lt (by omega) (by omega)]; omega), v1, Option.bind_some, v6, Option.bind_some, show nI (k + 1) + (1 : Int32) = nI (k + 1 + 1) from n_add _ _]
      exact hQ
    by_cases c : sTog (sHrs (sTof Ls cur) V (k + 1)) a b
    · refine Or.inl ⟨g2, st _ ?_, q1.tr v2, v3.2.2⟩
      rw [if_neg (pI1 c)]
      have : sMeet (sTof Ls cur) V a b n = some k := ff_some (fun j hj => by rw [decide_eq_false_iff_not]; exact q4 j hj) (by rw [decide_eq_true_eq]; exact c) hk
      rw [this]; rfl
    · refine Or.inr ⟨g2, st _ (if_pos (pI0 c)), ⟨q1.tr v2, v3, v4⟩, fun j hj => ?_⟩
      by_cases cj : j = k
      · rw [cj]; exact c
      · exact q4 j (by omega)
  · intro f g1 ⟨⟨q1, q2, q3⟩, q4⟩
    refine ⟨g1, ?_, q1, q2.2.2⟩
    show fX12_meetsWithin_3 La (f + 1) (nI a) (nI b) (nI n) (nI (n + 1)) g1 = _
    have : sMeet (sTof Ls cur) V a b n = none := ff_none (fun j hj => by rw [decide_eq_false_iff_not]; exact q4 j hj)
    rw [fX12_meetsWithin_3, if_pos (show nI n < nI (n + 1) by rw [n_lt (by omega) (by omega)]; omega), this]; rfl
end RW
section ST
variable {La : gz_L} {g : gz_S} {l : List Nat} {Ls : List (List Nat)} {Es : List (List eS)} {cur : Option Nat} {lv : Nat} {V V0 : Nat → Nat} {a : Nat} {K : Nat → Nat → Nat} {Lg : Nat → Nat} {him : Nat} {IV ILg : Nat → Nat} {s : sS} {B : Nat}
/-- both play ahead: nothing of what is changes -/
theorem CallOk.q {F1 F2 : gz_S → Option (Int32 × gz_S)} {v : Int32} (hC : ClW La g l Ls Es cur lv V V0 a K Lg him IV ILg s) (hR : ReW g l Ls Es cur lv V V0 a K Lg him IV ILg s) (hI : Inv V V0 a K Lg him IV ILg s B)
    (h1 : ∃ g1, F1 g = some (v, g1) ∧ FS g g1) (h2 : ∀ g1, ReW g1 l Ls Es cur lv V V0 a K Lg him IV ILg s → ∃ g2, F2 g1 = some (v, g2) ∧ Fy KQ SQ g1 g2 ∧ RLw g2 Ls cur) : CallOk La F1 F2 g B := by
  obtain ⟨g1, u1, u2⟩ := h1
  have hR1 := hR.fr u2.fc
  obtain ⟨g2, v1, v2, v3⟩ := h2 g1 hR1
  exact CallOk.of u1 v1 (hC.fs u2) (FR.y v2 (fun j hj => by have := hj; omega)) (hR1.sp v2 v3) hI
theorem ReW.f0q (h : ReW g l Ls Es cur lv V V0 a K Lg him IV ILg s) : Fy KQ SQ g (gz_wi g 39 0 0) := (Fy.z0 (K := KQ) (S := SQ)).w (Or.inl rfl)
theorem w_where (hw : WR La g B) (hB : B < 400000) (x y : Int32) : CallOk La (fX11_where La x y) (fX12_where La x y) g B := by
  obtain ⟨l, Ls, Es, cur, lv, V, V0, a, K, Lg, him, IV, ILg, s, hC, hR, hI⟩ := hw
  have hy1 := Int32.toInt_lt y
  have hy2 := Int32.le_toInt y
  have hg4 := hI.g4
  by_cases yes : (0 ≤ x.toInt ∧ x.toInt < (V 60 : Int)) ∧ 0 ≤ y.toInt ∧ y.toInt ≤ 99
  · have h0 : ¬ V 60 = 0 := fun h0 => by omega
    obtain ⟨i, i1, rfl, i3⟩ := x_of (x := x) yes.1.1
    obtain ⟨n, n1, rfl, n3⟩ := x_of (x := y) yes.2.1
    obtain ⟨hW, h49, _⟩ := hI.2.2.1 h0
    refine CallOk.q (v := nI (sHrs (sTof Ls cur) V n (30 + i))) hC hR hI ?_ (fun g1 hR1 => ?_)
    · obtain ⟨g1, u1, u2⟩ := c_cellBehind (La := La) (hC.cf hW) hB (i := i) (n := n) (by omega) (by omega)
      refine ⟨g1, ?_, u2⟩
      unfold fX11_where
      rw [c_hasGoerW hC hI, Option.bind_some]
      refine (if_neg (pI1 yes.1)).trans ((if_neg (show ¬ nI n < nI 0 by rw [n_lt (by omega) (by omega)]; omega)).trans ((if_pos (show nI n ≤ nI 99 by rw [n_le (by omega) (by omega)]; omega)).trans ?_))
      rw [u1, Option.bind_some]
    · obtain ⟨hcx, hkp⟩ := hR1.f0.1.cx hI h0
      obtain ⟨g2, v1, v2, v3, v4⟩ := r_copy (La := La) hcx hkp
      have hgo := lp (fun f k g3 => fX12_where_40 La (fun (x1 : Int32) g => if gz_ok ((30 : Int32) + ((4 : Int32) * x1)) 231 then some (g.1 54 (Int32.toNatClampNeg ((30 : Int32) + ((4 : Int32) * x1))), g) else none) f (nI i) (nI n) (nI k) g3) (fun k g3 => TQ g2 g3 (sHrs (sTof Ls cur) V k) Ls cur) n
        (fun q => ∃ g', q = some (nI (sHrs (sTof Ls cur) V n (30 + i)), g') ∧ Fy KQ SQ g2 g' ∧ RLw g' Ls cur) ?_ ?_ gz_FU 0 g2 (by omega) (by unfold gz_FU; omega) ⟨Fy.z0, v3, v4⟩
      · obtain ⟨g', w1, w2, w3⟩ := hgo
        refine ⟨g', ?_, (hR1.f0q.tr v2).tr w2, w3⟩
        unfold fX12_where
        rw [gz_let_eq, hR1.f0.1.isGoer hI, Option.bind_some]
        refine (if_neg (pI1 yes.1)).trans ?_
        rw [x_l, show (0 : Int64) = Int64.ofInt 0 from rfl, show (99 : Int64) = Int64.ofInt 99 from rfl, r_isInZ (by omega) (by omega) (by omega), Option.bind_some]
        refine (if_neg (pI1 yes.2)).trans ?_
        rw [v1, Option.bind_some]; exact w1
      · intro f k g3 hk ⟨q1, q2, q3⟩
        have hWk := sHrs_wf (sTof_lt (Ls := Ls) (cur := cur)) hW k (by omega)
        obtain ⟨g4, w1, w2, w3, w4, _⟩ := r_hr (La := La) q2 q3 hWk (by omega)
        refine Or.inr ⟨g4, ?_, q1.tr w2, w3, w4⟩
        show fX12_where_40 La _ (f + 1) (nI i) (nI n) (nI k) g3 = _
        rw [fX12_where_40, if_neg (show ¬ nI n ≤ nI k by rw [n_le (by omega) (by omega)]; omega), w1, Option.bind_some, gz_let_eq, show nI k + (1 : Int32) = nI (k + 1) from n_add _ _]
      · intro f g3 ⟨q1, q2, q3⟩
        refine ⟨g3, ?_, q1, q2.2.2⟩
        show fX12_where_40 La _ (f + 1) (nI i) (nI n) (nI n) g3 = _
        have e0 : g3.1 54 (30 + 4 * i) = nI (sHrs (sTof Ls cur) V n (30 + i)) := (q2.at0 (i := i) (by omega)).1
        rw [fX12_where_40, if_pos (show nI n ≤ nI n by rw [n_le (by omega) (by omega)]; omega), ix_0, if_pos (n_okP (by omega) (by omega)), n_cl (by omega), e0]
  · refine CallOk.no (v := -1) ?_ ?_ hC hR hI
    · unfold fX11_where
      rw [c_hasGoerW hC hI, Option.bind_some]
      by_cases q1 : 0 ≤ x.toInt ∧ x.toInt < (V 60 : Int)
      · refine (if_neg (pI1 q1)).trans ?_
        by_cases q3 : y.toInt < 0
        · exact if_pos (show y < nI 0 by rw [x_lt (by omega)]; omega)
        · exact (if_neg (show ¬ y < nI 0 by rw [x_lt (by omega)]; omega)).trans (if_neg (show ¬ y ≤ nI 99 by rw [x_le (by omega)]; omega))
      · exact if_pos (pI0 q1)
    · unfold fX12_where
      rw [gz_let_eq, hR.f0.1.isGoer hI, Option.bind_some]
      by_cases q1 : 0 ≤ x.toInt ∧ x.toInt < (V 60 : Int)
      · refine (if_neg (pI1 q1)).trans ?_
        rw [x_l, show (0 : Int64) = Int64.ofInt 0 from rfl, show (99 : Int64) = Int64.ofInt 99 from rfl, r_isInZ (by omega) (by omega) (by omega), Option.bind_some]
        exact if_pos (pI0 (fun hh => yes ⟨q1, hh⟩))
      · exact if_pos (pI0 q1)
theorem ReW.areTwo (h : ReW g l Ls Es cur lv V V0 a K Lg him IV ILg s) (hI : Inv V V0 a K Lg him IV ILg s B) {x y : Int32} : fX12_areTwo La x y g = some (pI ((0 ≤ x.toInt ∧ x.toInt < (V 60 : Int)) ∧ (0 ≤ y.toInt ∧ y.toInt < (V 60 : Int)) ∧ (x.toInt < y.toInt ∨ y.toInt < x.toInt)), g) := by
  unfold fX12_areTwo
  rw [h.isGoer hI, Option.bind_some]
  by_cases q1 : 0 ≤ x.toInt ∧ x.toInt < (V 60 : Int)
  · refine (if_neg (pI1 q1)).trans ?_
    rw [h.isGoer hI, Option.bind_some]
    by_cases q2 : 0 ≤ y.toInt ∧ y.toInt < (V 60 : Int)
    · refine (if_neg (pI1 q2)).trans ?_
      by_cases q3 : x = y
      · exact (if_pos q3).trans (p_f (fun hh => by rw [q3] at hh; omega))
      · exact (if_neg q3).trans (p_t ⟨q1, q2, by rw [xx_eq] at q3; omega⟩)
    · exact (if_pos (pI0 q2)).trans (p_f (fun hh => q2 hh.2.1))
  · exact (if_pos (pI0 q1)).trans (p_f (fun hh => q1 hh.1))
theorem w_meet (hw : WR La g B) (hB : B < 400000) (x y : Int32) : CallOk La (fX11_meet La x y) (fX12_meet La x y) g B := by
  obtain ⟨l, Ls, Es, cur, lv, V, V0, a, K, Lg, him, IV, ILg, s, hC, hR, hI⟩ := hw
  have hg4 := hI.g4
  by_cases yes : (0 ≤ x.toInt ∧ x.toInt < (V 60 : Int)) ∧ (0 ≤ y.toInt ∧ y.toInt < (V 60 : Int)) ∧ (x.toInt < y.toInt ∨ y.toInt < x.toInt)
  · have h0 : ¬ V 60 = 0 := fun h0 => by omega
    obtain ⟨i, i1, rfl, i3⟩ := x_of (x := x) yes.1.1
    obtain ⟨n, n1, rfl, n3⟩ := x_of (x := y) yes.2.1.1
    obtain ⟨hW, h49, _⟩ := hI.2.2.1 h0
    refine CallOk.q (v := oI ((sMeet (sTof Ls cur) V i n 99).map (· + 1))) hC hR hI ?_ (fun g1 hR1 => ?_)
    · obtain ⟨g1, u1, u2⟩ := c_firstMeeting (La := La) (hC.cf hW) hB (a := i) (b := n) (by omega) (by omega)
      refine ⟨g1, ?_, u2⟩
      unfold fX11_meet
      rw [c_hasPair (w := 6) hC.2.1 hI.b, Option.bind_some]
      refine (if_neg (pI1 yes)).trans ?_
      rw [u1, Option.bind_some]
    · obtain ⟨hcx, hkp⟩ := hR1.f0.1.cx hI h0
      obtain ⟨g2, v1, v2, v3, v4⟩ := r_copy (La := La) hcx hkp
      obtain ⟨g3, w1, w2, w3⟩ := r_meets (La := La) (n := 99) ⟨Fy.z0, v3, v4⟩ hW hB (a := i) (b := n) (by omega) (by omega) (by omega) (by omega)
      refine ⟨g3, ?_, (hR1.f0q.tr v2).tr w2, w3⟩
      unfold fX12_meet
      rw [gz_let_eq, hR1.f0.1.areTwo hI, Option.bind_some]
      refine (if_neg (pI1 yes)).trans ?_
      rw [v1, Option.bind_some]
      show (fX12_meetsWithin La (nI i) (nI n) (nI 99) g2).bind _ = _
      rw [w1, Option.bind_some]
  · refine CallOk.no (v := -1) ?_ ?_ hC hR hI
    · unfold fX11_meet
      rw [c_hasPair (w := 6) hC.2.1 hI.b, Option.bind_some]
      exact if_pos (pI0 yes)
    · unfold fX12_meet
      rw [gz_let_eq, hR.f0.1.areTwo hI, Option.bind_some]
      exact if_pos (pI0 yes)
theorem w_ends (hw : WR La g B) (hB : B < 400000) (x y : Int32) : CallOk La (fX11_ends La x y) (fX12_ends La x y) g B := by
  obtain ⟨l, Ls, Es, cur, lv, V, V0, a, K, Lg, him, IV, ILg, s, hC, hR, hI⟩ := hw
  have hy1 := Int32.toInt_lt y
  have hy2 := Int32.le_toInt y
  have hg4 := hI.g4
  by_cases yes : (0 ≤ x.toInt ∧ x.toInt < (V 60 : Int)) ∧ 0 ≤ y.toInt ∧ y.toInt ≤ 1
  · have h0 : ¬ V 60 = 0 := fun h0 => by omega
    obtain ⟨i, i1, rfl, i3⟩ := x_of (x := x) yes.1.1
    obtain ⟨n, n1, rfl, n3⟩ := x_of (x := y) yes.2.1
    obtain ⟨hW, h49, _⟩ := hI.2.2.1 h0
    refine CallOk.q (v := match sEnds (sTof Ls cur) V i with | none => -nI 1 | some k => if n = 0 then nI k else nI (sHrs (sTof Ls cur) V k (42 + i))) hC hR hI ?_ (fun g1 hR1 => ?_)
    · obtain ⟨g1, u1, u2⟩ := c_endOf (La := La) (hC.cf hW) hB (i := i) (x := n) (by omega) (by omega)
      refine ⟨g1, ?_, u2⟩
      unfold fX11_ends
      rw [c_hasGoerW hC hI, Option.bind_some]
      refine (if_neg (pI1 yes.1)).trans ((if_neg (show ¬ nI n < nI 0 by rw [n_lt (by omega) (by omega)]; omega)).trans ((if_pos (show nI n ≤ nI 1 by rw [n_le (by omega) (by omega)]; omega)).trans ?_))
      rw [u1, Option.bind_some]
      rfl
    · obtain ⟨hcx, hkp⟩ := hR1.f0.1.cx hI h0
      obtain ⟨g2, v1, v2, v3, v4⟩ := r_copy (La := La) hcx hkp
      have fin : ∀ k g3, k ≤ 99 → TQ g2 g3 (sHrs (sTof Ls cur) V k) Ls cur → (∀ j, j < k → sHrs (sTof Ls cur) V j (42 + i) = 0) → (k < 99 → ¬ sHrs (sTof Ls cur) V k (42 + i) = 0) →
          ∃ g', fX12_ends_71 La (nI i) (nI n) (nI k) g3 = some (match sEnds (sTof Ls cur) V i with | none => -nI 1 | some k => if n = 0 then nI k else nI (sHrs (sTof Ls cur) V k (42 + i)), g') ∧ Fy KQ SQ g2 g' ∧ RLw g' Ls cur := by
        intro k g3 hk ⟨q1, q2, q3⟩ q4 q5
        have hWk := sHrs_wf (sTof_lt (Ls := Ls) (cur := cur)) hW k (by omega)
        refine ⟨g3, ?_, q1, q2.2.2⟩
        unfold fX12_ends_71
        rw [r_does q2.1 hWk.1 (by omega), Option.bind_some]
        by_cases c : sHrs (sTof Ls cur) V k (42 + i) = 0
        · have : sEnds (sTof Ls cur) V i = none := ff_none (fun j hj => by
            rw [decide_eq_false_iff_not]
            by_cases cj : j < k
            · exact fun hh => hh (q4 j cj)
            · have : k = 99 := by
                by_cases ck : k < 99
                · exact absurd c (q5 ck)
                · omega
              rw [show j = k by omega]; exact fun hh => hh c)
          rw [this]
          exact if_neg (pI1 c)
        · have : sEnds (sTof Ls cur) V i = some k := ff_some (fun j hj => by rw [decide_eq_false_iff_not]; exact fun hh => hh (q4 j hj)) (by rw [decide_eq_true_eq]; exact c) (by omega)
          rw [this]
          refine (if_pos (pI0 c)).trans ?_
          show (if nI n = 0 then some (nI k, g3) else if gz_ok (((30 : Int32) + ((4 : Int32) * nI i)) + 3) 231 then some (g3.1 54 (Int32.toNatClampNeg (((30 : Int32) + ((4 : Int32) * nI i)) + 3)), g3) else none) = some (if n = 0 then nI k else nI (sHrs (sTof Ls cur) V k (42 + i)), g3)
          by_cases cn : n = 0
          · rw [if_pos cn, if_pos (show nI n = 0 by rw [cn]; rfl)]
          · have e3 := (q2.at0 (i := i) (by omega)).2.2.2
            rw [if_neg cn, if_neg (show ¬ nI n = 0 by show ¬ _ = nI 0; rw [n_eq (by omega) (by omega)]; exact cn), ix_0, show nI (30 + 4 * i) + (3 : Int32) = nI (30 + 4 * i + 3) from n_add _ 3, if_pos (n_okP (by omega) (by omega)), n_cl (by omega), e3]
      have hgo := lp (fun f k g3 => fX12_ends_38 La (fX12_ends_71 La) f (nI i) (nI n) (nI k) g3) (fun k g3 => TQ g2 g3 (sHrs (sTof Ls cur) V k) Ls cur ∧ ∀ j, j < k → sHrs (sTof Ls cur) V j (42 + i) = 0) 99
        (fun q => ∃ g', q = some (match sEnds (sTof Ls cur) V i with | none => -nI 1 | some k => if n = 0 then nI k else nI (sHrs (sTof Ls cur) V k (42 + i)), g') ∧ Fy KQ SQ g2 g' ∧ RLw g' Ls cur) ?_ ?_ gz_FU 0 g2 (by omega) (by unfold gz_FU; omega) ⟨⟨Fy.z0, v3, v4⟩, fun j hj => absurd hj (Nat.not_lt_zero _)⟩
      · obtain ⟨g', w1, w2, w3⟩ := hgo
        refine ⟨g', ?_, (hR1.f0q.tr v2).tr w2, w3⟩
        unfold fX12_ends
        rw [gz_let_eq, hR1.f0.1.isGoer hI, Option.bind_some]
        refine (if_neg (pI1 yes.1)).trans ?_
        rw [x_l, show (0 : Int64) = Int64.ofInt 0 from rfl, show (1 : Int64) = Int64.ofInt 1 from rfl, r_isInZ (by omega) (by omega) (by omega), Option.bind_some]
        refine (if_neg (pI1 (by omega))).trans ?_
        rw [v1, Option.bind_some]; exact w1
      · intro f k g3 hk ⟨⟨q1, q2, q3⟩, q4⟩
        have hWk := sHrs_wf (sTof_lt (Ls := Ls) (cur := cur)) hW k (by omega)
        have st : ∀ Q : Option (Int32 × gz_S), (if pI (sHrs (sTof Ls cur) V k (42 + i) = 0) = 0 then fX12_ends_71 La (nI i) (nI n) (nI k) g3 else (fX12_passes La 54 g3).bind (fun q60 => fX12_ends_38 La (fX12_ends_71 La) f (nI i) (nI n) (nI (k + 1)) q60.2)) = Q → fX12_ends_38 La (fX12_ends_71 La) (f + 1) (nI i) (nI n) (nI k) g3 = Q := by
          intro Q hQ
          rw [fX12_ends_38, if_neg (show ¬ (99 : Int32) ≤ nI k by show ¬ nI 99 ≤ nI k; rw [n_le (by omega) (by omega)]; omega), r_does q2.1 hWk.1 (by omega), Option.bind_some]
          simp only [gz_let_eq, show nI k + (1 : Int32) = nI (k + 1) from n_add _ _]
          exact hQ
        by_cases c : sHrs (sTof Ls cur) V k (42 + i) = 0
        · obtain ⟨g4, w1, w2, w3, w4, _⟩ := r_hr (La := La) q2 q3 hWk (by omega)
          refine Or.inr ⟨g4, st _ ?_, ⟨q1.tr w2, w3, w4⟩, fun j hj => ?_⟩
          · rw [if_neg (pI1 c), w1, Option.bind_some]
          · by_cases cj : j = k
            · rw [cj]; exact c
            · exact q4 j (by omega)
        · obtain ⟨g', w1, w2⟩ := fin k g3 (by omega) ⟨q1, q2, q3⟩ q4 (fun _ => c)
          exact Or.inl ⟨g', st _ ((if_pos (pI0 c)).trans w1), w2⟩
      · intro f g3 ⟨hq, q4⟩
        obtain ⟨g', w1, w2⟩ := fin 99 g3 (by omega) hq q4 (fun hh => absurd hh (by omega))
        refine ⟨g', ?_, w2⟩
        show fX12_ends_38 La (fX12_ends_71 La) (f + 1) (nI i) (nI n) (nI 99) g3 = _
        rw [fX12_ends_38, if_pos (show (99 : Int32) ≤ nI 99 by decide)]; exact w1
  · refine CallOk.no (v := -1) ?_ ?_ hC hR hI
    · unfold fX11_ends
      rw [c_hasGoerW hC hI, Option.bind_some]
      by_cases q1 : 0 ≤ x.toInt ∧ x.toInt < (V 60 : Int)
      · refine (if_neg (pI1 q1)).trans ?_
        by_cases q3 : y.toInt < 0
        · exact if_pos (show y < nI 0 by rw [x_lt (by omega)]; omega)
        · exact (if_neg (show ¬ y < nI 0 by rw [x_lt (by omega)]; omega)).trans (if_neg (show ¬ y ≤ nI 1 by rw [x_le (by omega)]; omega))
      · exact if_pos (pI0 q1)
    · unfold fX12_ends
      rw [gz_let_eq, hR.f0.1.isGoer hI, Option.bind_some]
      by_cases q1 : 0 ≤ x.toInt ∧ x.toInt < (V 60 : Int)
      · refine (if_neg (pI1 q1)).trans ?_
        rw [x_l, show (0 : Int64) = Int64.ofInt 0 from rfl, show (1 : Int64) = Int64.ofInt 1 from rfl, r_isInZ (by omega) (by omega) (by omega), Option.bind_some]
        exact if_pos (pI0 (fun hh => yes ⟨q1, by omega⟩))
      · exact if_pos (pI0 q1)
end ST
