/-! the reference: goers of an hour -/
section RW
variable {g : gz_S} {w : Nat} {V : Nat → Nat} {B : Nat} {La : gz_L} {Ls : List (List Nat)} {cur : Option Nat}
theorem sPk_0 (T : sT) (i : Nat) (V : Nat → Nat) : sPk T i V 0 = V := rfl
theorem r_goesOn (hw : isW w) (h : CX g w V Ls cur) (hW : Wf B V) (hB : B < 900000) {i : Nat} (hi : i < V 60) : ∃ g', fX12_goesOn La w (nI i) (nI (V (50 + i))) g = some g' ∧ RG w g g' ∧ CX g' w (sGoer (sTof Ls cur) V i) Ls cur := by
  have h60 := hW.2.2.2.1.2
  have h30 := hW.cells
  have hi4 : i < 4 := by omega
  obtain ⟨a0, a1, a2, a3⟩ := h.at0 hi4
  obtain ⟨d1, d2, d3⟩ := hW.2.2.2.2.2.2.2.2.2.2 i hi
  obtain ⟨c1, c2, c3, c4, c5, c6⟩ := hW.2.2.2.2.2.2.2.2.2.1 i hi4
  have hT := sTof_lt (Ls := Ls) (cur := cur)
  unfold fX12_goesOn sGoer
  rw [r_does h.1 hW.1 hi4, Option.bind_some]
  by_cases e0 : V (42 + i) = 0
  · rw [if_pos e0]
    have st : ∀ Q : Option gz_S, (fX12_isUnder La w (nI (V (30 + i))) g).bind (fun q19 => if q19.1 = 0 then fX12_goesOn_40 La w gz_FU (nI i) (nI (V (50 + i))) 0 q19.2 else gz_let (gz_wi q19.2 w (30 + 4 * i + 3) 2) (fun g35 => some g35)) = Q →
        (if (pI (V (42 + i) = 0), g).1 = 0 then some (pI (V (42 + i) = 0), g).2 else if gz_ok ((30 : Int32) + ((4 : Int32) * nI i)) 231 then (fX12_isUnder La w ((pI (V (42 + i) = 0), g).2.1 w (Int32.toNatClampNeg ((30 : Int32) + ((4 : Int32) * nI i)))) (pI (V (42 + i) = 0), g).2).bind (fun q19 => if q19.1 = 0 then fX12_goesOn_40 La w gz_FU (nI i) (nI (V (50 + i))) 0 q19.2 else if gz_ok (((30 : Int32) + ((4 : Int32) * nI i)) + 3) 231 then gz_let (gz_wi q19.2 w (Int32.toNatClampNeg (((30 : Int32) + ((4 : Int32) * nI i)) + 3)) 2) (fun g35 => some g35) else none) else none) = Q := by
      intro Q hQ
      refine (if_neg (pI1 e0)).trans ?_
      rw [ix_0]
      simp (disch := omega) only [l_0, l_1, l_2, l_3, l_4, l_5, l_6, l_7, l_8, l_9, l_10, l_11, l_12, l_13, l_14, l_15, l_16, l_17, l_18, l_19, l_20, l_21, l_22, l_23, l_24, l_25, l_26, l_28, l_29, l_30, l_31, l_32, l_33, l_34, l_36, l_37, l_38, l_39, l_40, l_41, l_42, l_43, l_44, l_45, l_46, l_47, l_48, l_49, l_50, l_53, l_54, l_57, l_58, l_59, l_60, l_61, l_62, l_63, l_91, l_93, l_97, l_98, l_99, l_100, l_103, l_104, l_110, l_112, l_114, l_115, l_116, l_119, l_120, l_121, l_124, l_128, l_231, l_240, l_241, l_255, l_496, l_999, l_1000, l_8191, l_9999, l_10000, l_100000, l_200000, l_1000000, l_1000000000, n_add, n_ok, n_cl, ↓reduceIte]
      have a0' : g.1 w (30 + 4 * i) = nI (V (30 + i)) := a0
      rw [a0']
      exact hQ
    by_cases eu : sUnd V (V (30 + i))
    · rw [if_pos eu]
      have hno : sPace (sTof Ls cur) i (uN V (42 + i) 2) = uN V (42 + i) 2 := by
        unfold sPace
        have := sPk_no (T := sTof Ls cur) (i := i) (V := uN V (42 + i) 2) (k := 0) (by rw [sPk_0, uN_s]; omega) (uN V (42 + i) 2 (50 + i))
        rw [Nat.zero_add, sPk_0] at this; exact this
      rw [hno]
      refine ⟨gz_wi g w (30 + 4 * i + 3) (nI 2), st _ ?_, RG.z0.up hw (by omega), h.up hw (by omega) (rp_3 hi4)⟩
      rw [r_isUnder h.1 h.2.1 hW (by omega), Option.bind_some]
      exact if_neg (pI1 eu)
    · rw [if_neg eu]
      unfold sPace
      have hgo := lp (fun f k g1 => fX12_goesOn_40 La w f (nI i) (nI (V (50 + i))) (nI k) g1)
        (fun k g1 => RG w g g1 ∧ CX g1 w (sPk (sTof Ls cur) i V k) Ls cur) (V (50 + i))
        (fun q => ∃ g', q = some g' ∧ RG w g g' ∧ CX g' w (sPk (sTof Ls cur) i V (V (50 + i))) Ls cur) ?_ ?_ gz_FU 0 g (by omega) (by unfold gz_FU; omega) ⟨RG.z0, h⟩
      · obtain ⟨g', u1, u2, u3⟩ := hgo
        refine ⟨g', st _ ?_, u2, u3⟩
        rw [r_isUnder h.1 h.2.1 hW (by omega), Option.bind_some]
        exact (if_pos (pI0 eu)).trans u1
      · intro f k g1 hk ⟨q1, q2⟩
        have hWk := sPk_wf hT hW hi k (by omega)
        have hfx := sPk_fix (T := sTof Ls cur) (i := i) (V := V) (k := k) hi4
        have e60 : sPk (sTof Ls cur) i V k 60 = V 60 := hfx 60 (by omega)
        have e50 : sPk (sTof Ls cur) i V k (50 + i) = V (50 + i) := hfx (50 + i) (by omega)
        have hsk : ∀ Q : Option gz_S, (fX12_does La w (nI i) g1).bind (fun q48 => if q48.1 = 0 then some q48.2 else (fX12_goStep La w (nI i) (nI (V (50 + i))) q48.2).bind (fun q58 => gz_let (nI k + 1) (fun y61 => fX12_goesOn_40 La w f (nI i) (nI (V (50 + i))) y61 q58))) = Q → fX12_goesOn_40 La w (f + 1) (nI i) (nI (V (50 + i))) (nI k) g1 = Q := by
          intro Q hQ
          rw [fX12_goesOn_40, if_neg (show ¬ nI (V (50 + i)) ≤ nI k by rw [n_le (by omega) (by omega)]; omega)]
          exact hQ
        rw [r_does q2.1 hWk.1 hi4, Option.bind_some] at hsk
        by_cases ek : sPk (sTof Ls cur) i V k (42 + i) = 0
        · obtain ⟨g2, v1, v2, v3⟩ := r_goStep (La := La) hw q2 hWk (by rw [e60]; exact hi)
          rw [e50] at v1
          refine Or.inr ⟨g2, hsk _ ?_, q1.tr v2, ?_⟩
          · refine (if_neg (pI1 ek)).trans ?_
            rw [v1, Option.bind_some, gz_let_eq, show nI k + (1 : Int32) = nI (k + 1) from n_add _ _]
          · rw [sPk_s, if_pos ek]; exact v3
        · refine Or.inl ⟨g1, hsk _ (if_pos (pI0 ek)), q1, ?_⟩
          have := sPk_no (T := sTof Ls cur) (i := i) (V := V) (k := k) ek (V (50 + i) - k)
          rw [show k + (V (50 + i) - k) = V (50 + i) by omega] at this
          rw [this]; exact q2
      · intro f g1 ⟨q1, q2⟩
        refine ⟨g1, ?_, q1, q2⟩
        show fX12_goesOn_40 La w (f + 1) (nI i) (nI (V (50 + i))) (nI (V (50 + i))) g1 = _
        rw [fX12_goesOn_40]
        exact if_pos (by rw [n_le (by omega) (by omega)]; omega)
  · rw [if_neg e0]
    exact ⟨g, if_pos (pI0 e0), RG.z0, h⟩
theorem r_paceOf (hp : RKp g V) {i : Nat} (hi : i < V 60) (h60 : V 60 ≤ 4) : fX12_paceOf La (nI i) g = some (nI (V (50 + i)), g) := by
  unfold fX12_paceOf
  rw [show (4 : Int32) * nI i = nI (4 * i) from n_mul 4 i, show nI (4 * i) + (3 : Int32) = nI (4 * i + 3) from n_add _ 3, if_pos (n_okP (by omega) (by omega)), n_cl (by omega), hp i hi]
/-- the first part of an hour: all go on -/
theorem sEnd_s (T : sT) (V : Nat → Nat) (n : Nat) : sEnd T V (n + 1) = if sAll T V n (42 + n) = 0 ∧ ¬ sAll T V (n + 1) (42 + n) = 0 then sEnd T V n ||| 2 ^ n else sEnd T V n := rfl
theorem r_pass17 (hw : isW w) (h : CX g w V Ls cur) (hp : RKp g V) (hW : Wf B V) (hB : B < 800000) (K : Int32 → Int32 → gz_S → Option (Int32 × gz_S)) (x2 x3 : Int32) (h39 : g.1 39 39 = nI 0) :
    ∃ g', fX12_passes_17 La w K gz_FU x2 x3 0 g = K x2 x3 g' ∧ RGp w g g' ∧ CX g' w (sAll (sTof Ls cur) V (V 60)) Ls cur ∧ g'.1 39 39 = nI (sEnd (sTof Ls cur) V (V 60)) ∧ g'.1 39 38 = g.1 39 38 := by
  have h60 := hW.2.2.2.1.2
  have hT := sTof_lt (Ls := Ls) (cur := cur)
  refine lp (fun f n g1 => fX12_passes_17 La w K f x2 x3 (nI n) g1)
    (fun n g1 => RGp w g g1 ∧ CX g1 w (sAll (sTof Ls cur) V n) Ls cur ∧ g1.1 39 39 = nI (sEnd (sTof Ls cur) V n) ∧ g1.1 39 38 = g.1 39 38) (V 60)
    (fun q => ∃ g', q = K x2 x3 g' ∧ RGp w g g' ∧ CX g' w (sAll (sTof Ls cur) V (V 60)) Ls cur ∧ g'.1 39 39 = nI (sEnd (sTof Ls cur) V (V 60)) ∧ g'.1 39 38 = g.1 39 38) ?_ ?_ gz_FU 0 g (by omega) (by unfold gz_FU; omega) ⟨RGp.z0, h, h39, rfl⟩
  · intro f n g1 hn ⟨q1, q2, q3, q4⟩
    have hWn := sAll_wf hT hW hB n (by omega)
    have hfx := sAll_fix (T := sTof Ls cur) (V := V) (n := n) (by omega)
    have e60 : sAll (sTof Ls cur) V n 60 = V 60 := hfx 60 (by omega)
    have e50 : sAll (sTof Ls cur) V n (50 + n) = V (50 + n) := hfx (50 + n) (by omega)
    have hpn : RKp g1 V := hp.fr q1.1 (by omega)
    have c27 : g1.1 39 27 = nI (V 60) := by rw [q2.2.1.2.2.1, e60]
    obtain ⟨g2, v1, v2, v3⟩ := r_goesOn (La := La) hw q2 hWn (by omega) (i := n) (by rw [e60]; exact hn)
    rw [e50] at v1
    rw [← sAll_s] at v3
    have hW2 := sAll_wf hT hW hB (n + 1) (by omega)
    have w39 : g2.1 39 39 = g1.1 39 39 := v2.1.2.1 39 (by omega)
    have w38 : g2.1 39 38 = g1.1 39 38 := v2.1.2.1 38 (by omega)
    have hb : ∀ Q : Option (Int32 × gz_S), (if pI (sAll (sTof Ls cur) V n (42 + n) = 0) = 0 then fX12_passes_17 La w K f x2 x3 (nI (n + 1)) g2 else if pI (sAll (sTof Ls cur) V (n + 1) (42 + n) = 0) = 0 then fX12_passes_17 La w K f x2 x3 (nI (n + 1)) (gz_wi g2 39 39 ((g2.1 39 39) ||| nI (2 ^ n))) else fX12_passes_17 La w K f x2 x3 (nI (n + 1)) g2) = Q →
        fX12_passes_17 La w K (f + 1) x2 x3 (nI n) g1 = Q := by
      intro Q hQ
      rw [fX12_passes_17, if_neg (show ¬ g1.1 39 27 ≤ nI n by rw [c27, n_le (by omega) (by omega)]; omega), r_does q2.1 hWn.1 (by omega), Option.bind_some]
      show (fX12_paceOf La (nI n) g1).bind _ = _
      rw [r_paceOf hpn hn h60, Option.bind_some]
      show (fX12_goesOn La w (nI n) (nI (V (50 + n))) g1).bind _ = _
      rw [v1, Option.bind_some]
      unfold fX12_passes_74
      rw [gz_let_eq, show nI n + (1 : Int32) = nI (n + 1) from n_add _ _, r_does v3.1 hW2.1 (by omega), Option.bind_some]
      have e1 : (1 : Int32) <<< (nI n &&& 31) = nI (2 ^ n) := n_shl1 (by omega)
      rw [e1]
      exact hQ
    refine Or.inr ?_
    by_cases a1 : sAll (sTof Ls cur) V n (42 + n) = 0
    · by_cases a2 : sAll (sTof Ls cur) V (n + 1) (42 + n) = 0
      · refine ⟨g2, hb _ ?_, q1.tr v2.p, v3, ?_, by rw [w38]; exact q4⟩
        · rw [if_neg (pI1 a1), if_neg (pI1 a2)]
        · rw [w39, q3, sEnd_s, if_neg (fun hh => hh.2 a2)]
      · refine ⟨gz_wi g2 39 39 ((g2.1 39 39) ||| nI (2 ^ n)), hb _ ?_, (q1.tr v2.p).f hw (by omega), v3.f hw (by omega), ?_, ?_⟩
        · rw [if_neg (pI1 a1), if_pos (pI0 a2)]
        · rw [wi_ss, w39, q3, n_or, sEnd_s, if_pos ⟨a1, a2⟩]
        · rw [wi_sn (by omega), w38]; exact q4
    · refine ⟨g2, hb _ ?_, q1.tr v2.p, v3, ?_, by rw [w38]; exact q4⟩
      · rw [if_pos (pI0 a1)]
      · rw [w39, q3, sEnd_s, if_neg (fun hh => a1 hh.1)]
  · intro f g1 ⟨q1, q2, q3, q4⟩
    have hfx := sAll_fix (T := sTof Ls cur) (V := V) (n := V 60) h60
    have e60 : sAll (sTof Ls cur) V (V 60) 60 = V 60 := hfx 60 (by omega)
    refine ⟨g1, ?_, q1, q2, q3, q4⟩
    show fX12_passes_17 La w K (f + 1) x2 x3 (nI (V 60)) g1 = _
    rw [fX12_passes_17]
    exact if_pos (by rw [q2.2.1.2.2.1, e60, n_le (by omega) (by omega)]; omega)
end RW
