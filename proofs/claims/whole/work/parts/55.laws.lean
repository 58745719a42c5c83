/-! the class reads a law: units, clauses, the whole -/
section C4
variable {La : gz_L} {b : Nat → Nat} {len : Nat}
theorem c_readUnit {r : Nat} (hr : r ≤ 6) {FU : Int32 → gz_S → Option (Int32 × gz_S)} (hFU : ∀ r', r = r' + 1 → SubU La b len r' FU) : ∀ g a C, CT g b len a → CC g C → C.length ≤ nx b len a → RdC (fX4_readUnit La FU (nI (6 - r)) g) g b len C (pUnit b len r (nx b len a)) := by
  intro g a C h hC hl
  have h4 := h.2.2.2.1
  have hx := nx_le (b := b) h.2.2.1
  have hn := c_next (La := La) h
  have hnn : nx b len (nx b len a) = nx b len a := nx_nx
  generalize hp : nx b len a = p at *
  have hst : CT (st g p) b len p := h.st hx.2
  have hsgc : ∀ c, sg b len p = some c → c < 2147483648 := fun c hc => by have := h.sg hc; omega
  have e33 : (oI (sg b len p) = nI 33) = (sg b len p = some 33) := oI_eq (by omega) hsgc
  have e40 : (oI (sg b len p) = nI 40) = (sg b len p = some 40) := oI_eq (by omega) hsgc
  have hF0 : Fr FL g (st g p) := st_fr Fr.rf (Or.inl rfl)
  -- what is compared
  have cmp : fX4_readUnit La FU (nI (6 - r)) g = (fX4_readSumT La (nI (6 - r)) (st g p)).bind (fun q22 => if q22.1 = nI 0 then some (nI 0, q22.2) else (fX4_readCompared La (nI (6 - r)) q22.2).bind (fun q30 => if q30.1 = nI 0 then some (nI 0, q30.2) else some (nI 1, q30.2))) → RdC (fX4_readUnit La FU (nI (6 - r)) g) g b len C (pSC b len r p) := by
    intro hcode
    rw [hcode]
    have hsum := c_readSumT (La := La) hr hst hC.st (by rw [hnn]; exact hl)
    rw [hnn] at hsum
    obtain ⟨g2, s1, ⟨a2, s2, s2'⟩, s3, s4⟩ := hsum
    have hlen := pSum_len (b := b) r p hx.2
    have hgood := pSum_good (b := b) r p hx.2
    have hsc : pSC b len r p = match pSum b len r p with | (q, none) => (q, none) | (q, some cv) => pCmp b len r q cv := rfl
    cases hS : pSum b len r p with
    | mk q o =>
      rw [hS] at s2' s3 s4 hlen hgood hsc
      cases o with
      | none =>
        have hsc : pSC b len r p = (q, none) := hsc
        rw [hsc]
        obtain ⟨k1, k2, k3⟩ := s3 rfl
        refine ⟨g2, hF0.tr s1, ⟨a2, s2, fun e => absurd rfl e⟩, fun _ => ⟨?_, k2, k3⟩, fun cv e => by cases e⟩
        rw [k1]; rfl
      | some cv =>
        have hsc : pSC b len r p = pCmp b len r q cv := hsc
        rw [hsc]
        obtain ⟨k1, k2⟩ := s4 cv rfl
        have a2q : nx b len a2 = q := s2' (by simp)
        have hln : cv.1.length + p ≤ q := hlen cv rfl
        have hc := c_readCompared (La := La) hr s2 k2 (by rw [List.length_append, a2q]; omega)
        rw [a2q] at hc
        obtain ⟨g3, u1, u2, u3, u4⟩ := hc
        refine ⟨g3, (hF0.tr s1).tr u1, u2, fun e => ?_, fun cv' e => ?_⟩
        · obtain ⟨v1, v2, v3⟩ := u3 e
          refine ⟨?_, v2, v3⟩
          rw [k1]
          simp (disch := omega) only [l_0, l_1, l_2, l_3, l_4, l_5, l_6, l_7, l_8, l_9, l_10, l_11, l_12, l_13, l_14, l_15, l_16, l_17, l_18, l_19, l_20, l_21, l_22, l_23, l_24, l_25, l_26, l_28, l_29, l_30, l_31, l_32, l_33, l_34, l_36, l_37, l_38, l_39, l_40, l_41, l_42, l_43, l_44, l_45, l_46, l_47, l_48, l_49, l_50, l_53, l_54, l_57, l_58, l_59, l_60, l_61, l_62, l_63, l_91, l_93, l_97, l_98, l_99, l_100, l_103, l_104, l_110, l_112, l_114, l_115, l_116, l_119, l_120, l_121, l_124, l_128, l_231, l_240, l_241, l_255, l_496, l_999, l_1000, l_8191, l_9999, l_10000, l_100000, l_200000, l_1000000, l_1000000000, Option.bind_some, ↓reduceIte, n_add, n_ok, n_cl, n_lt, n_le, n_eq, p_0, p_1, p_01, t_10, v1]
        · obtain ⟨v1, v2⟩ := u4 cv' e
          refine ⟨?_, v2⟩
          rw [k1]
          simp (disch := omega) only [l_0, l_1, l_2, l_3, l_4, l_5, l_6, l_7, l_8, l_9, l_10, l_11, l_12, l_13, l_14, l_15, l_16, l_17, l_18, l_19, l_20, l_21, l_22, l_23, l_24, l_25, l_26, l_28, l_29, l_30, l_31, l_32, l_33, l_34, l_36, l_37, l_38, l_39, l_40, l_41, l_42, l_43, l_44, l_45, l_46, l_47, l_48, l_49, l_50, l_53, l_54, l_57, l_58, l_59, l_60, l_61, l_62, l_63, l_91, l_93, l_97, l_98, l_99, l_100, l_103, l_104, l_110, l_112, l_114, l_115, l_116, l_119, l_120, l_121, l_124, l_128, l_231, l_240, l_241, l_255, l_496, l_999, l_1000, l_8191, l_9999, l_10000, l_100000, l_200000, l_1000000, l_1000000000, Option.bind_some, ↓reduceIte, n_add, n_ok, n_cl, n_lt, n_le, n_eq, p_0, p_1, p_01, t_10, v1]
  -- too deep
  have deep : r = 0 → fX4_readUnit La FU (nI (6 - r)) g = fX4_readUnit_42 La FU (nI (6 - r)) (oI (sg b len p)) (st g p) → (pUnit b len r p = (p, none)) → RdC (fX4_readUnit La FU (nI (6 - r)) g) g b len C (pUnit b len r p) := by
    intro hr0 hcode hpu
    subst hr0
    rw [hcode, hpu]
    refine ⟨gz_wa (st g p) 1 (upd ((st g p).1 1) 3 (nI p)), hF0.wa (Or.inl rfl), ⟨p, hst.wf (by omega), fun e => absurd rfl e⟩, fun _ => ⟨?_, by rw [wa_at]; exact if_pos rfl, hC.ce.st.wf⟩, fun cv e => by cases e⟩
    unfold fX4_readUnit_42
    simp (disch := omega) only [l_0, l_1, l_2, l_3, l_4, l_5, l_6, l_7, l_8, l_9, l_10, l_11, l_12, l_13, l_14, l_15, l_16, l_17, l_18, l_19, l_20, l_21, l_22, l_23, l_24, l_25, l_26, l_28, l_29, l_30, l_31, l_32, l_33, l_34, l_36, l_37, l_38, l_39, l_40, l_41, l_42, l_43, l_44, l_45, l_46, l_47, l_48, l_49, l_50, l_53, l_54, l_57, l_58, l_59, l_60, l_61, l_62, l_63, l_91, l_93, l_97, l_98, l_99, l_100, l_103, l_104, l_110, l_112, l_114, l_115, l_116, l_119, l_120, l_121, l_124, l_128, l_231, l_240, l_241, l_255, l_496, l_999, l_1000, l_8191, l_9999, l_10000, l_100000, l_200000, l_1000000, l_1000000000, ↓reduceIte, n_add, n_ok, n_cl, n_lt, n_le, n_eq, p_0, p_1, p_01, show ¬ 6 - 0 < 6 by omega, st_2, c_refuse, Option.bind_some]
    exact if_pos (Or.inl trivial)
  have hun : fX4_readUnit La FU (nI (6 - r)) g = if sg b len p = some 33 then fX4_readUnit_42 La FU (nI (6 - r)) (oI (sg b len p)) (st g p) else if sg b len p = some 40 then fX4_readUnit_42 La FU (nI (6 - r)) (oI (sg b len p)) (st g p) else (fX4_readSumT La (nI (6 - r)) (st g p)).bind (fun q22 => if q22.1 = nI 0 then some (nI 0, q22.2) else (fX4_readCompared La (nI (6 - r)) q22.2).bind (fun q30 => if q30.1 = nI 0 then some (nI 0, q30.2) else some (nI 1, q30.2))) := by
    unfold fX4_readUnit
    rw [hn]
    simp only [l_0, l_1, l_2, l_3, l_4, l_5, l_6, l_7, l_8, l_9, l_10, l_11, l_12, l_13, l_14, l_15, l_16, l_17, l_18, l_19, l_20, l_21, l_22, l_23, l_24, l_25, l_26, l_28, l_29, l_30, l_31, l_32, l_33, l_34, l_36, l_37, l_38, l_39, l_40, l_41, l_42, l_43, l_44, l_45, l_46, l_47, l_48, l_49, l_50, l_53, l_54, l_57, l_58, l_59, l_60, l_61, l_62, l_63, l_91, l_93, l_97, l_98, l_99, l_100, l_103, l_104, l_110, l_112, l_114, l_115, l_116, l_119, l_120, l_121, l_124, l_128, l_231, l_240, l_241, l_255, l_496, l_999, l_1000, l_8191, l_9999, l_10000, l_100000, l_200000, l_1000000, l_1000000000, Option.bind_some, e33, e40]
    rfl
  by_cases h33 : sg b len p = some 33
  · rw [if_pos h33] at hun
    cases r with
    | zero => exact deep rfl hun (by unfold pUnit; rw [if_pos (Or.inl h33)])
    | succ r' =>
      have hlt := (sg_lt h33).1
      have hx1 := nx_le (b := b) (show p + 1 ≤ len by omega)
      obtain ⟨g2, s1, ⟨a2, s2, s2'⟩, s3, s4⟩ := hFU r' rfl (st g (p + 1)) (p + 1) C (h.st (by omega)) hC.st (by omega)
      have hgood := pUnit_good (b := b) r' _ hx1.2
      have hlen := pUnit_len (b := b) r' _ hx1.2
      have e6 : 6 - (r' + 1) + 1 = 6 - r' := by omega
      have hpu : pUnit b len (r' + 1) p = match pUnit b len r' (nx b len (p + 1)) with | (q, none) => (q, none) | (q, some cv) => (q, some (cv.1 ++ [-20], fun e => 1 - cv.2 e)) := by
        show (if sg b len p = some 33 then _ else _) = _
        rw [if_pos h33]; rfl
      have eo : oI (sg b len p) = nI 33 := by rw [h33]; rfl
      have h42 : fX4_readUnit_42 La FU (nI (6 - (r' + 1))) (oI (sg b len p)) (st g p) = (FU (nI (6 - r')) (st g (p + 1))).bind (fun q115 => (fX4_put La (-nI 20) q115.2).bind (fun q122 => if q115.1 = nI 0 ∨ q115.1 = nI 1 then some (q115.1, q122) else none)) := by
        unfold fX4_readUnit_42
        simp (disch := omega) only [l_0, l_1, l_2, l_3, l_4, l_5, l_6, l_7, l_8, l_9, l_10, l_11, l_12, l_13, l_14, l_15, l_16, l_17, l_18, l_19, l_20, l_21, l_22, l_23, l_24, l_25, l_26, l_28, l_29, l_30, l_31, l_32, l_33, l_34, l_36, l_37, l_38, l_39, l_40, l_41, l_42, l_43, l_44, l_45, l_46, l_47, l_48, l_49, l_50, l_53, l_54, l_57, l_58, l_59, l_60, l_61, l_62, l_63, l_91, l_93, l_97, l_98, l_99, l_100, l_103, l_104, l_110, l_112, l_114, l_115, l_116, l_119, l_120, l_121, l_124, l_128, l_231, l_240, l_241, l_255, l_496, l_999, l_1000, l_8191, l_9999, l_10000, l_100000, l_200000, l_1000000, l_1000000000, ↓reduceIte, n_add, n_ok, n_cl, n_lt, n_le, n_eq, p_0, p_1, p_01, show 6 - (r' + 1) < 6 by omega, st_2, gz_let_eq, wi_st, st_st, eo, e6, show ¬ 33 = 40 by omega]
        rfl
      rw [hun, h42]
      cases hU : pUnit b len r' (nx b len (p + 1)) with
      | mk q o =>
        rw [hU] at s2' s3 s4 hgood hlen hpu
        cases o with
        | none =>
          have hpu : pUnit b len (r' + 1) p = (q, none) := hpu
          rw [hpu]
          obtain ⟨k1, k2, k3⟩ := s3 rfl
          obtain ⟨g3, p1, p2, p3⟩ := c_putE (La := La) (x := -nI 20) k3
          refine ⟨g3, ((st_fr Fr.rf (Or.inl rfl)).tr s1).tr (p2.mo (fun j hj => Or.inr hj)), ⟨a2, s2.fr p2 (by omega) (by omega), fun e => absurd rfl e⟩, fun _ => ⟨?_, by rw [p2.1 1 (by omega)]; exact k2, p3⟩, fun cv e => by cases e⟩
          rw [k1]
          simp only [Option.bind_some, p1]
          exact if_pos (Or.inl trivial)
        | some cv =>
          have hpu : pUnit b len (r' + 1) p = (q, some (cv.1 ++ [-20], fun e => 1 - cv.2 e)) := hpu
          rw [hpu]
          obtain ⟨k1, k2⟩ := s4 cv rfl
          have hql : q ≤ len := hgood.2.1
          have hln : cv.1.length + nx b len (p + 1) ≤ q := hlen cv rfl
          have hll : (C ++ cv.1).length = C.length + cv.1.length := List.length_append
          obtain ⟨g3, p1, p2, p3⟩ := c_putC (La := La) (x := -nI 20) k2 (by omega)
          refine ⟨g3, ((st_fr Fr.rf (Or.inl rfl)).tr s1).tr (p2.mo (fun j hj => Or.inr hj)), ⟨a2, s2.fr p2 (by omega) (by omega), fun _ => s2' (by simp)⟩, (fun e => by cases e), fun cv' e => ?_⟩
          cases e
          refine ⟨?_, ?_⟩
          · rw [k1]
            simp only [Option.bind_some, p1]
            exact if_pos (Or.inr trivial)
          · show CC g3 (C ++ (cv.1 ++ [-20]))
            rw [← List.append_assoc]; exact p3
  · rw [if_neg h33] at hun
    by_cases h40 : sg b len p = some 40
    · rw [if_pos h40] at hun
      cases r with
      | zero => exact deep rfl hun (by unfold pUnit; rw [if_pos (Or.inr h40)])
      | succ r' =>
        have hlt := (sg_lt h40).1
        have hx1 := nx_le (b := b) (show p + 1 ≤ len by omega)
        obtain ⟨g2, s1, ⟨a2, s2, s2'⟩, s3, s4⟩ := c_condition (La := La) (r := r') (by omega) (hFU r' rfl) (h.st (p := p + 1) (by omega)) hC.st (by omega)
        have hgood := pCondL_good (b := b) (U := pUnit b len r') (fun p hp => pUnit_good r' p hp) (len + 1) (nx b len (p + 1)) (pUnit b len r' (nx b len (p + 1))) none (pUnit_good r' _ hx1.2) (by have := (pUnit_good (b := b) r' _ hx1.2).1; omega)
        have e6 : 6 - (r' + 1) + 1 = 6 - r' := by omega
        have hpu : pUnit b len (r' + 1) p = match pCondL b len (pUnit b len r') (len + 1) (pUnit b len r' (nx b len (p + 1))) none with | (q, none) => (q, none) | (q, some cv) => if sg b len q = some 41 then (nx b len (q + 1), some cv) else (q, none) := by
          show (if sg b len p = some 33 then _ else if sg b len p = some 40 then _ else _) = _
          rw [if_neg h33, if_pos h40]; rfl
        have eo : oI (sg b len p) = nI 40 := by rw [h40]; rfl
        have h42 : fX4_readUnit_42 La FU (nI (6 - (r' + 1))) (oI (sg b len p)) (st g p) = (fX4_readCondition La FU (nI (6 - r')) (nI 0) (st g (p + 1))).bind (fun q87 => if q87.1 = nI 0 then some (nI 0, q87.2) else (fX9_expect La (nI 41) q87.2).bind (fun q99 => if q99.1 = nI 0 then some (nI 0, q99.2) else some (nI 1, q99.2))) := by
          unfold fX4_readUnit_42
          simp (disch := omega) only [l_0, l_1, l_2, l_3, l_4, l_5, l_6, l_7, l_8, l_9, l_10, l_11, l_12, l_13, l_14, l_15, l_16, l_17, l_18, l_19, l_20, l_21, l_22, l_23, l_24, l_25, l_26, l_28, l_29, l_30, l_31, l_32, l_33, l_34, l_36, l_37, l_38, l_39, l_40, l_41, l_42, l_43, l_44, l_45, l_46, l_47, l_48, l_49, l_50, l_53, l_54, l_57, l_58, l_59, l_60, l_61, l_62, l_63, l_91, l_93, l_97, l_98, l_99, l_100, l_103, l_104, l_110, l_112, l_114, l_115, l_116, l_119, l_120, l_121, l_124, l_128, l_231, l_240, l_241, l_255, l_496, l_999, l_1000, l_8191, l_9999, l_10000, l_100000, l_200000, l_1000000, l_1000000000, ↓reduceIte, n_add, n_ok, n_cl, n_lt, n_le, n_eq, p_0, p_1, p_01, show 6 - (r' + 1) < 6 by omega, st_2, gz_let_eq, wi_st, st_st, eo, e6]
          rfl
        rw [hun, h42]
        cases hU : pCondL b len (pUnit b len r') (len + 1) (pUnit b len r' (nx b len (p + 1))) none with
        | mk q o =>
          rw [hU] at s2' s3 s4 hgood hpu
          cases o with
          | none =>
            have hpu : pUnit b len (r' + 1) p = (q, none) := hpu
            rw [hpu]
            obtain ⟨k1, k2, k3⟩ := s3 rfl
            refine ⟨g2, (st_fr Fr.rf (Or.inl rfl)).tr s1, ⟨a2, s2, fun e => absurd rfl e⟩, fun _ => ⟨?_, k2, k3⟩, fun cv e => by cases e⟩
            rw [k1]; rfl
          | some cv =>
            have hpu : pUnit b len (r' + 1) p = if sg b len q = some 41 then (nx b len (q + 1), some cv) else (q, none) := hpu
            rw [hpu]
            obtain ⟨k1, k2⟩ := s4 cv rfl
            have hq : nx b len a2 = q := s2' (by simp)
            have hqx := nx_le (b := b) s2.2.2.1
            have hexp := c_expect (La := La) s2 (c := 41) (by omega)
            rw [hq] at hexp hqx
            by_cases h41 : sg b len q = some 41
            · rw [if_pos h41] at hexp ⊢
              have h41' := sg_lt h41
              refine ⟨st g2 (q + 1), (st_fr Fr.rf (Or.inl rfl)).tr (st_fr s1 (Or.inl rfl)), ⟨q + 1, s2.st (by omega), fun _ => rfl⟩, (fun e => by cases e), fun cv' e => ?_⟩
              cases e
              refine ⟨?_, k2.st⟩
              rw [k1]
              simp (disch := omega) only [l_0, l_1, l_2, l_3, l_4, l_5, l_6, l_7, l_8, l_9, l_10, l_11, l_12, l_13, l_14, l_15, l_16, l_17, l_18, l_19, l_20, l_21, l_22, l_23, l_24, l_25, l_26, l_28, l_29, l_30, l_31, l_32, l_33, l_34, l_36, l_37, l_38, l_39, l_40, l_41, l_42, l_43, l_44, l_45, l_46, l_47, l_48, l_49, l_50, l_53, l_54, l_57, l_58, l_59, l_60, l_61, l_62, l_63, l_91, l_93, l_97, l_98, l_99, l_100, l_103, l_104, l_110, l_112, l_114, l_115, l_116, l_119, l_120, l_121, l_124, l_128, l_231, l_240, l_241, l_255, l_496, l_999, l_1000, l_8191, l_9999, l_10000, l_100000, l_200000, l_1000000, l_1000000000, Option.bind_some, ↓reduceIte, n_add, n_ok, n_cl, n_lt, n_le, n_eq, p_0, p_1, p_01, t_10, hexp]
            · rw [if_neg h41] at hexp ⊢
              refine ⟨gz_wa (st g2 q) 1 (upd ((st g2 q).1 1) 3 (nI q)), (st_fr Fr.rf (Or.inl rfl)).tr ((st_fr s1 (Or.inl rfl)).wa (Or.inl rfl)), ⟨q, (s2.st hqx.2).wf (by omega), fun e => absurd rfl e⟩, fun _ => ⟨?_, by rw [wa_at]; exact if_pos rfl, k2.ce.st.wf⟩, fun cv e => by cases e⟩
              rw [k1]
              simp (disch := omega) only [l_0, l_1, l_2, l_3, l_4, l_5, l_6, l_7, l_8, l_9, l_10, l_11, l_12, l_13, l_14, l_15, l_16, l_17, l_18, l_19, l_20, l_21, l_22, l_23, l_24, l_25, l_26, l_28, l_29, l_30, l_31, l_32, l_33, l_34, l_36, l_37, l_38, l_39, l_40, l_41, l_42, l_43, l_44, l_45, l_46, l_47, l_48, l_49, l_50, l_53, l_54, l_57, l_58, l_59, l_60, l_61, l_62, l_63, l_91, l_93, l_97, l_98, l_99, l_100, l_103, l_104, l_110, l_112, l_114, l_115, l_116, l_119, l_120, l_121, l_124, l_128, l_231, l_240, l_241, l_255, l_496, l_999, l_1000, l_8191, l_9999, l_10000, l_100000, l_200000, l_1000000, l_1000000000, Option.bind_some, ↓reduceIte, n_add, n_ok, n_cl, n_lt, n_le, n_eq, p_0, p_1, p_01, t_10, hexp]
    · rw [if_neg h40] at hun
      have hpu : pUnit b len r p = pSC b len r p := by
        cases r with
        | zero => unfold pUnit; rw [if_neg (fun e => e.elim h33 h40)]
        | succ r' => show (if sg b len p = some 33 then _ else if sg b len p = some 40 then _ else _) = _; rw [if_neg h33, if_neg h40]
      rw [hpu]
      exact cmp hun
theorem c_readUnitD : ∀ r D, r ≤ 6 → r < D → SubU La b len r (fX4_readUnitD La D) := by
  intro r
  induction r with
  | zero =>
    intro D hr hD
    obtain ⟨D', rfl⟩ : ∃ D', D = D' + 1 := ⟨D - 1, by omega⟩
    exact c_readUnit (La := La) (FU := fX4_readUnitD La D') hr (fun r' e => by omega)
  | succ r ih =>
    intro D hr hD
    obtain ⟨D', rfl⟩ : ∃ D', D = D' + 1 := ⟨D - 1, by omega⟩
    exact c_readUnit (La := La) (FU := fX4_readUnitD La D') hr (fun r' e => by
      have e : r = r' := by omega
      subst e; exact ih D' (by omega) (by omega))
/-- what a clause leaves -/
def RdK (r : Option (Int32 × gz_S)) (g : gz_S) (b : Nat → Nat) (len : Nat) (C : List Int32) (s : pC) : Prop :=
  ∃ g', Fr FL g g' ∧ (∃ a, CT g' b len a ∧ (s.2 ≠ none → nx b len a = s.1)) ∧ (s.2 = none → r = some (nI 0, g') ∧ g'.1 1 3 = nI s.1 ∧ CE g') ∧ ∀ cv, s.2 = some cv → r = some (nI 1, g') ∧ CC g' (C ++ cv.1)
def pCG (len p : Nat) (s : pC) : Prop := p ≤ s.1 ∧ s.1 ≤ len ∧ ∀ cv, s.2 = some cv → cv.1.length + p ≤ s.1
theorem pThen_good {p : Nat} {s : pR} (hs : pGood len p s) (hl : pL p s) : pCG len p (pThen b len s) := by
  obtain ⟨q, o⟩ := s
  have h1 : p ≤ q := hs.1
  have h2 : q ≤ len := hs.2.1
  cases o with
  | none =>
    have hpt : pThen b len (q, none) = (q, none) := rfl
    rw [hpt]; exact ⟨h1, h2, fun cv h => by cases h⟩
  | some cv =>
    have h3 : cv.1.length + p ≤ q := hl cv rfl
    have hpt : pThen b len (q, some cv) = if sg b len q = some 63 then (match pSum b len 6 (nx b len (q + 1)) with | (q2, none) => (q2, none) | (q2, some cv2) => (q2, some (cv.1 ++ [-21] ++ cv2.1, cv.2, cv2.2))) else (q, none) := rfl
    rw [hpt]
    by_cases h63 : sg b len q = some 63
    · rw [if_pos h63]
      have hlt := (sg_lt h63).1
      have hx := nx_le (b := b) (show q + 1 ≤ len by omega)
      have hg := pSum_good (b := b) 6 _ hx.2
      have hl2 := pSum_len (b := b) 6 _ hx.2
      cases hS : pSum b len 6 (nx b len (q + 1)) with
      | mk q2 o2 =>
        rw [hS] at hg hl2
        have h4 : nx b len (q + 1) ≤ q2 := hg.1
        have h5 : q2 ≤ len := hg.2.1
        cases o2 with
        | none => exact ⟨by show p ≤ q2; omega, h5, fun cv h => by cases h⟩
        | some cv2 =>
          have h6 : cv2.1.length + nx b len (q + 1) ≤ q2 := hl2 cv2 rfl
          refine ⟨by show p ≤ q2; omega, h5, fun cv' h => ?_⟩
          cases h
          show (cv.1 ++ [-21] ++ cv2.1).length + p ≤ q2
          rw [List.length_append, List.length_append]
          show cv.1.length + 1 + cv2.1.length + p ≤ q2
          omega
    · rw [if_neg h63]; exact ⟨h1, h2, fun cv h => by cases h⟩
theorem pCond_good {p : Nat} {s : pR} (hs : pGood len p s) (hl : pL p s) : pGood len p (pCond b len s) ∧ pL p (pCond b len s) := by
  have hn : len - s.1 < len + 1 := by omega
  exact ⟨pCondL_good (fun p hp => pUnit_good 6 p hp) (len + 1) p s none hs hn, fun cv h => pCondL_len (b := b) (fun p hp => ⟨pUnit_good 6 p hp, pUnit_len 6 p hp⟩) (len + 1) p s none hs hl hn cv h⟩
theorem pClause_good {p : Nat} (hp : p ≤ len) : pCG len p (pClause b len p) := by
  have hcl : pClause b len p = if sg b len p = some 33 ∨ sg b len p = some 40 then pThen b len (pCond b len (pUnit b len 6 p)) else match pSum b len 6 p with | (q, none) => (q, none) | (q, some cv) => match opC (sg b len q) with | none => (q, some (cv.1, fun _ => 1, cv.2)) | some _ => pThen b len (pCond b len (pCmp b len 6 q cv)) := rfl
  rw [hcl]
  by_cases h : sg b len p = some 33 ∨ sg b len p = some 40
  · rw [if_pos h]
    obtain ⟨h1, h2⟩ := pCond_good (b := b) (pUnit_good (b := b) 6 p hp) (pUnit_len (b := b) 6 p hp)
    exact pThen_good h1 h2
  · rw [if_neg h]
    have hg := pSum_good (b := b) 6 p hp
    have hl := pSum_len (b := b) 6 p hp
    cases hS : pSum b len 6 p with
    | mk q o =>
      rw [hS] at hg hl
      have h1 : p ≤ q := hg.1
      have h2 : q ≤ len := hg.2.1
      cases o with
      | none => exact ⟨h1, h2, fun cv h => by cases h⟩
      | some cv =>
        have h3 : cv.1.length + p ≤ q := hl cv rfl
        show pCG len p (match opC (sg b len q) with | none => (q, some (cv.1, fun _ => 1, cv.2)) | some _ => pThen b len (pCond b len (pCmp b len 6 q cv)))
        cases ho : opC (sg b len q) with
        | none => exact ⟨h1, h2, fun cv' h => by cases h; exact h3⟩
        | some op =>
          have hcg := pCmp_good (b := b) (r := 6) (cv := cv) h2
          have hcl := pCmp_len (b := b) (r := 6) (cv := cv) h2
          obtain ⟨h4, h5⟩ := pCond_good (b := b) (p := p) (s := pCmp b len 6 q cv) ⟨by have := hcg.1; omega, hcg.2.1, fun cv e => by have := hcg.2.2 cv e; omega⟩ (fun cv3 e => by have := hcl cv3 e; omega)
          exact pThen_good h4 h5
theorem c_then {g0 g1 : gz_S} {x : Int32} {C : List Int32} {p : Nat} {s : pR} (hF : Fr FL g0 g1) (hct : ∃ a, CT g1 b len a ∧ (s.2 ≠ none → nx b len a = s.1)) (hs0 : s.2 = none → x = nI 0 ∧ g1.1 1 3 = nI s.1 ∧ CE g1) (hs1 : ∀ cv, s.2 = some cv → x = nI 1 ∧ CC g1 (C ++ cv.1)) (hs : pGood len p s) (hl : pL p s) (hC : C.length ≤ p) :
    RdK (if x = nI 0 then some (nI 0, g1) else (fX9_expect La (nI 63) g1).bind (fun q75 => if q75.1 = nI 0 then some (nI 0, q75.2) else (fX4_put La (-nI 21) q75.2).bind (fun q86 => (fX4_readSumT La (nI 0) q86).bind (fun q91 => if q91.1 = nI 0 ∨ q91.1 = nI 1 then some (q91.1, q91.2) else none)))) g0 b len C (pThen b len s) := by
  obtain ⟨a1, h, hna⟩ := hct
  have h4 := h.2.2.2.1
  obtain ⟨q, o⟩ := s
  have h1 : p ≤ q := hs.1
  have h2 : q ≤ len := hs.2.1
  cases o with
  | none =>
    obtain ⟨k1, k2, k3⟩ := hs0 rfl
    refine ⟨g1, hF, ⟨a1, h, fun e => absurd rfl e⟩, fun _ => ⟨?_, k2, k3⟩, fun cv e => by cases e⟩
    rw [k1]; exact if_pos rfl
  | some cv =>
    obtain ⟨k1, k2⟩ := hs1 cv rfl
    have hq : nx b len a1 = q := hna (by simp)
    have hln : cv.1.length + p ≤ q := hl cv rfl
    have hexp := c_expect (La := La) h (c := 63) (by omega)
    rw [hq] at hexp
    have hpt : pThen b len (q, some cv) = if sg b len q = some 63 then (match pSum b len 6 (nx b len (q + 1)) with | (q2, none) => (q2, none) | (q2, some cv2) => (q2, some (cv.1 ++ [-21] ++ cv2.1, cv.2, cv2.2))) else (q, none) := rfl
    rw [hpt, k1]
    by_cases h63 : sg b len q = some 63
    · rw [if_pos h63] at hexp ⊢
      have hlt := (sg_lt h63).1
      have hx := nx_le (b := b) (show q + 1 ≤ len by omega)
      have hll : (C ++ cv.1).length = C.length + cv.1.length := List.length_append
      obtain ⟨g3, p1, p2, p3⟩ := c_putC (La := La) (x := -nI 21) (k2.st (p := q + 1)) (by omega)
      have hc3 : CT g3 b len (q + 1) := (h.st (p := q + 1) (by omega)).fr p2 (by omega) (by omega)
      have hsum := c_readSumT (La := La) (r := 6) (by omega) hc3 p3 (by rw [List.length_append, hll]; show _ + 1 ≤ _; omega)
      have hF3 : Fr FL g0 g3 := (st_fr hF (Or.inl rfl)).tr (p2.mo (fun j hj => Or.inr hj))
      have hcode : (if nI 1 = nI 0 then some (nI 0, g1) else (fX9_expect La (nI 63) g1).bind (fun q75 => if q75.1 = nI 0 then some (nI 0, q75.2) else (fX4_put La (-nI 21) q75.2).bind (fun q86 => (fX4_readSumT La (nI 0) q86).bind (fun q91 => if q91.1 = nI 0 ∨ q91.1 = nI 1 then some (q91.1, q91.2) else none)))) = (fX4_readSumT La (nI 0) g3).bind (fun q91 => if q91.1 = nI 0 ∨ q91.1 = nI 1 then some (q91.1, q91.2) else none) := by
        simp (disch := omega) only [↓reduceIte, n_add, n_ok, n_cl, n_lt, n_le, n_eq, p_0, p_1, p_01, t_10, hexp, Option.bind_some, p1]
      rw [hcode]
      obtain ⟨g4, s1, ⟨a4, s2, s2'⟩, s3, s4⟩ := hsum
      have e6 : (6 - 6 : Nat) = 0 := rfl
      rw [e6] at s3 s4
      cases hS : pSum b len 6 (nx b len (q + 1)) with
      | mk q2 o2 =>
        rw [hS] at s2' s3 s4
        cases o2 with
        | none =>
          obtain ⟨v1, v2, v3⟩ := s3 rfl
          refine ⟨g4, hF3.tr s1, ⟨a4, s2, fun e => absurd rfl e⟩, fun _ => ⟨?_, v2, v3⟩, fun cv e => by cases e⟩
          rw [v1, Option.bind_some]; exact if_pos (Or.inl rfl)
        | some cv2 =>
          obtain ⟨v1, v2⟩ := s4 cv2 rfl
          refine ⟨g4, hF3.tr s1, ⟨a4, s2, fun _ => s2' (by simp)⟩, (fun e => by cases e), fun cv' e => ?_⟩
          cases e
          refine ⟨?_, ?_⟩
          · rw [v1, Option.bind_some]; exact if_pos (Or.inr rfl)
          · have e : C ++ (cv.1 ++ [-21] ++ cv2.1) = C ++ cv.1 ++ [-nI 21] ++ cv2.1 := by simp; rfl
            show CC g4 (C ++ (cv.1 ++ [-21] ++ cv2.1))
            rw [e]; exact v2
    · rw [if_neg h63] at hexp ⊢
      refine ⟨gz_wa (st g1 q) 1 (upd ((st g1 q).1 1) 3 (nI q)), (st_fr hF (Or.inl rfl)).wa (Or.inl rfl), ⟨q, (h.st h2).wf (by omega), fun e => absurd rfl e⟩, fun _ => ⟨?_, by rw [wa_at]; exact if_pos rfl, k2.ce.st.wf⟩, fun cv e => by cases e⟩
      simp (disch := omega) only [↓reduceIte, n_add, n_ok, n_cl, n_lt, n_le, n_eq, p_0, p_1, p_01, t_10, hexp, Option.bind_some]
theorem c_readClause {g : gz_S} {a : Nat} {C : List Int32} (h : CT g b len a) (hC : CC g C) (hl : C.length ≤ nx b len a) : RdK (fX4_readClause La g) g b len C (pClause b len (nx b len a)) := by
  have h4 := h.2.2.2.1
  have hx := nx_le (b := b) h.2.2.1
  have hn := c_next (La := La) h
  have hnn : nx b len (nx b len a) = nx b len a := nx_nx
  generalize hp : nx b len a = p at *
  have hst : CT (st g p) b len p := h.st hx.2
  have hsgc : ∀ c, sg b len p = some c → c < 2147483648 := fun c hc => by have := h.sg hc; omega
  have e33 : (oI (sg b len p) = nI 33) = (sg b len p = some 33) := oI_eq (by omega) hsgc
  have e40 : (oI (sg b len p) = nI 40) = (sg b len p = some 40) := oI_eq (by omega) hsgc
  have hF0 : Fr FL g (st g p) := st_fr Fr.rf (Or.inl rfl)
  have e60 : ∀ (x2 : Int32) (g1 : gz_S), fX4_readClause_60 La x2 g1 = (fX4_readCondition La (fX4_readUnitD La 12) (nI 0) x2 g1).bind (fun q63 => if q63.1 = nI 0 then some (nI 0, q63.2) else (fX9_expect La (nI 63) q63.2).bind (fun q75 => if q75.1 = nI 0 then some (nI 0, q75.2) else (fX4_put La (-nI 21) q75.2).bind (fun q86 => (fX4_readSumT La (nI 0) q86).bind (fun q91 => if q91.1 = nI 0 ∨ q91.1 = nI 1 then some (q91.1, q91.2) else none)))) := fun _ _ => rfl
  have e6 : (6 - 6 : Nat) = 0 := rfl
  have hcl : pClause b len p = if sg b len p = some 33 ∨ sg b len p = some 40 then pThen b len (pCond b len (pUnit b len 6 p)) else match pSum b len 6 p with | (q, none) => (q, none) | (q, some cv) => match opC (sg b len q) with | none => (q, some (cv.1, fun _ => 1, cv.2)) | some _ => pThen b len (pCond b len (pCmp b len 6 q cv)) := rfl
  by_cases hc : sg b len p = some 33 ∨ sg b len p = some 40
  · have hcode : fX4_readClause La g = fX4_readClause_60 La (nI 0) (st g p) := by
      unfold fX4_readClause
      rw [hn]
      simp only [l_0, l_1, l_2, l_3, l_4, l_5, l_6, l_7, l_8, l_9, l_10, l_11, l_12, l_13, l_14, l_15, l_16, l_17, l_18, l_19, l_20, l_21, l_22, l_23, l_24, l_25, l_26, l_28, l_29, l_30, l_31, l_32, l_33, l_34, l_36, l_37, l_38, l_39, l_40, l_41, l_42, l_43, l_44, l_45, l_46, l_47, l_48, l_49, l_50, l_53, l_54, l_57, l_58, l_59, l_60, l_61, l_62, l_63, l_91, l_93, l_97, l_98, l_99, l_100, l_103, l_104, l_110, l_112, l_114, l_115, l_116, l_119, l_120, l_121, l_124, l_128, l_231, l_240, l_241, l_255, l_496, l_999, l_1000, l_8191, l_9999, l_10000, l_100000, l_200000, l_1000000, l_1000000000, Option.bind_some, e33, e40, fX4_readClause_24, fX4_readClause_25, fX4_readClause_40, ↓reduceIte]
      rcases hc with h1 | h1
      · rw [if_pos h1]
      · rw [h1]; rfl
    rw [if_pos hc] at hcl
    rw [hcode, hcl, e60]
    have hcond := c_condition (La := La) (r := 6) (by omega) (c_readUnitD 6 12 (by omega) (by omega)) hst hC.st (by rw [hnn]; exact hl)
    rw [hnn, e6] at hcond
    obtain ⟨g2, s1, s2, s3, s4⟩ := hcond
    obtain ⟨hg1, hg2⟩ := pCond_good (b := b) (pUnit_good (b := b) 6 p hx.2) (pUnit_len (b := b) 6 p hx.2)
    have hres : ∃ x6, fX4_readCondition La (fX4_readUnitD La 12) (nI 0) (nI 0) (st g p) = some (x6, g2) := by
      cases hU2 : (pCond b len (pUnit b len 6 p)).2 with
      | none => exact ⟨_, (s3 hU2).1⟩
      | some cv3 => exact ⟨_, (s4 cv3 hU2).1⟩
    obtain ⟨x6, hx6⟩ := hres
    rw [hx6, Option.bind_some]
    refine c_then (hF0.tr s1) s2 (fun e => ?_) (fun cv3 e => ?_) hg1 hg2 hl
    · have := s3 e
      rw [hx6] at this
      exact ⟨congrArg Prod.fst (Option.some.inj this.1), this.2⟩
    · have := s4 cv3 e
      rw [hx6] at this
      exact ⟨congrArg Prod.fst (Option.some.inj this.1), this.2⟩
  · have h33 : ¬ sg b len p = some 33 := fun e => hc (Or.inl e)
    have h40 : ¬ sg b len p = some 40 := fun e => hc (Or.inr e)
    have hcode : fX4_readClause La g = (fX4_readSumT La (nI 0) (st g p)).bind (fun q32 => if q32.1 = nI 0 then some (nI 0, q32.2) else fX4_readClause_40 La (nI 1) q32.2) := by
      unfold fX4_readClause
      rw [hn]
      simp (disch := omega) only [l_0, l_1, l_2, l_3, l_4, l_5, l_6, l_7, l_8, l_9, l_10, l_11, l_12, l_13, l_14, l_15, l_16, l_17, l_18, l_19, l_20, l_21, l_22, l_23, l_24, l_25, l_26, l_28, l_29, l_30, l_31, l_32, l_33, l_34, l_36, l_37, l_38, l_39, l_40, l_41, l_42, l_43, l_44, l_45, l_46, l_47, l_48, l_49, l_50, l_53, l_54, l_57, l_58, l_59, l_60, l_61, l_62, l_63, l_91, l_93, l_97, l_98, l_99, l_100, l_103, l_104, l_110, l_112, l_114, l_115, l_116, l_119, l_120, l_121, l_124, l_128, l_231, l_240, l_241, l_255, l_496, l_999, l_1000, l_8191, l_9999, l_10000, l_100000, l_200000, l_1000000, l_1000000000, Option.bind_some, e33, e40, fX4_readClause_25, ↓reduceIte, n_add, n_ok, n_cl, n_lt, n_le, n_eq, p_0, p_1, p_01, t_10, h33, h40]
      rfl
    rw [if_neg hc] at hcl
    rw [hcode]
    have hsum := c_readSumT (La := La) (r := 6) (by omega) hst hC.st (by rw [hnn]; exact hl)
    rw [hnn, e6] at hsum
    obtain ⟨g2, s1, ⟨a2, s2, s2'⟩, s3, s4⟩ := hsum
    have hg := pSum_good (b := b) 6 p hx.2
    have hl6 := pSum_len (b := b) 6 p hx.2
    cases hS : pSum b len 6 p with
    | mk q o =>
      rw [hS] at s2' s3 s4 hg hl6 hcl
      have h1 : p ≤ q := hg.1
      have h2 : q ≤ len := hg.2.1
      cases o with
      | none =>
        have hcl : pClause b len p = (q, none) := hcl
        rw [hcl]
        obtain ⟨k1, k2, k3⟩ := s3 rfl
        refine ⟨g2, hF0.tr s1, ⟨a2, s2, fun e => absurd rfl e⟩, fun _ => ⟨?_, k2, k3⟩, fun cv e => by cases e⟩
        rw [k1]; rfl
      | some cv =>
        have hcl : pClause b len p = match opC (sg b len q) with | none => (q, some (cv.1, fun _ => 1, cv.2)) | some _ => pThen b len (pCond b len (pCmp b len 6 q cv)) := hcl
        obtain ⟨k1, k2⟩ := s4 cv rfl
        have a2q : nx b len a2 = q := s2' (by simp)
        have hqn : nx b len q = q := by rw [← a2q]; exact nx_nx
        have hln : cv.1.length + p ≤ q := hl6 cv rfl
        have hn2 := c_next (La := La) s2
        rw [a2q] at hn2
        have hcm := c_comparing (La := La) (g := st g2 q) (o := sg b len q) (fun c hc => s2.sg hc)
        rw [k1]
        cases ho : opC (sg b len q) with
        | none =>
          rw [ho] at hcl
          have hcl : pClause b len p = (q, some (cv.1, fun _ => 1, cv.2)) := hcl
          rw [hcl]
          have e : opCI (sg b len q) = -nI 1 := by unfold opCI; rw [ho]
          refine ⟨st g2 q, st_fr (hF0.tr s1) (Or.inl rfl), ⟨q, s2.st h2, fun _ => hqn⟩, (fun e => by cases e), fun cv' e' => ?_⟩
          cases e'
          refine ⟨?_, k2.st⟩
          simp (disch := omega) only [l_0, l_1, l_2, l_3, l_4, l_5, l_6, l_7, l_8, l_9, l_10, l_11, l_12, l_13, l_14, l_15, l_16, l_17, l_18, l_19, l_20, l_21, l_22, l_23, l_24, l_25, l_26, l_28, l_29, l_30, l_31, l_32, l_33, l_34, l_36, l_37, l_38, l_39, l_40, l_41, l_42, l_43, l_44, l_45, l_46, l_47, l_48, l_49, l_50, l_53, l_54, l_57, l_58, l_59, l_60, l_61, l_62, l_63, l_91, l_93, l_97, l_98, l_99, l_100, l_103, l_104, l_110, l_112, l_114, l_115, l_116, l_119, l_120, l_121, l_124, l_128, l_231, l_240, l_241, l_255, l_496, l_999, l_1000, l_8191, l_9999, l_10000, l_100000, l_200000, l_1000000, l_1000000000, Option.bind_some, ↓reduceIte, n_add, n_ok, n_cl, n_lt, n_le, n_eq, p_0, p_1, p_01, t_10, fX4_readClause_40, hn2, hcm, e]
        | some op =>
          rw [ho] at hcl
          have hcl : pClause b len p = pThen b len (pCond b len (pCmp b len 6 q cv)) := hcl
          rw [hcl]
          obtain ⟨e1, e2⟩ := opCI_some ho
          have hne : ¬ op = -nI 1 := by rcases e2 with e | e | e <;> rw [e] <;> decide
          have hcode2 : (Option.bind (some (nI 1, g2)) fun q32 => if q32.1 = nI 0 then some (nI 0, q32.2) else fX4_readClause_40 La (nI 1) q32.2) = fX4_readClause_60 La (nI 1) (st g2 q) := by
            simp (disch := omega) only [l_0, l_1, l_2, l_3, l_4, l_5, l_6, l_7, l_8, l_9, l_10, l_11, l_12, l_13, l_14, l_15, l_16, l_17, l_18, l_19, l_20, l_21, l_22, l_23, l_24, l_25, l_26, l_28, l_29, l_30, l_31, l_32, l_33, l_34, l_36, l_37, l_38, l_39, l_40, l_41, l_42, l_43, l_44, l_45, l_46, l_47, l_48, l_49, l_50, l_53, l_54, l_57, l_58, l_59, l_60, l_61, l_62, l_63, l_91, l_93, l_97, l_98, l_99, l_100, l_103, l_104, l_110, l_112, l_114, l_115, l_116, l_119, l_120, l_121, l_124, l_128, l_231, l_240, l_241, l_255, l_496, l_999, l_1000, l_8191, l_9999, l_10000, l_100000, l_200000, l_1000000, l_1000000000, Option.bind_some, ↓reduceIte, n_add, n_ok, n_cl, n_lt, n_le, n_eq, p_0, p_1, p_01, t_10, fX4_readClause_40, hn2, hcm, e1, hne]
          rw [hcode2, e60]
          have hcond := c_conditionB (La := La) (r := 6) (by omega) (c_readUnitD 6 12 (by omega) (by omega)) (s2.st h2) (k2.st (p := q)) hl (by rw [hqn]; omega)
          rw [hqn, e6] at hcond
          obtain ⟨g3, u1, u2, u3, u4⟩ := hcond
          have hcg := pCmp_good (b := b) (r := 6) (cv := cv) h2
          have hcll := pCmp_len (b := b) (r := 6) (cv := cv) h2
          obtain ⟨hg1, hg2⟩ := pCond_good (b := b) (p := p) (s := pCmp b len 6 q cv) ⟨by have := hcg.1; omega, hcg.2.1, fun cv e => by have := hcg.2.2 cv e; omega⟩ (fun cv3 e => by have := hcll cv3 e; omega)
          have hres : ∃ x6, fX4_readCondition La (fX4_readUnitD La 12) (nI 0) (nI 1) (st g2 q) = some (x6, g3) := by
            cases hU2 : (pCond b len (pCmp b len 6 q cv)).2 with
            | none => exact ⟨_, (u3 hU2).1⟩
            | some cv3 => exact ⟨_, (u4 cv3 hU2).1⟩
          obtain ⟨x6, hx6⟩ := hres
          rw [hx6, Option.bind_some]
          refine c_then ((st_fr (hF0.tr s1) (Or.inl rfl)).tr u1) u2 (fun e => ?_) (fun cv3 e => ?_) hg1 hg2 hl
          · have := u3 e
            rw [hx6] at this
            exact ⟨congrArg Prod.fst (Option.some.inj this.1), this.2⟩
          · have := u4 cv3 e
            rw [hx6] at this
            exact ⟨congrArg Prod.fst (Option.some.inj this.1), this.2⟩
/-- a law: the fault, or its code -/
theorem c_readLaw {g : gz_S} {a : Nat} (h : CT g b len a) : ∃ g', Fr FL g g' ∧ (∃ a', CT g' b len a') ∧ ((pLawT b len).2 = none → fX4_readLaw La g = some (nI 0, g') ∧ g'.1 1 3 = nI (pLawT b len).1) ∧ ∀ cv, (pLawT b len).2 = some cv → fX4_readLaw La g = some (nI 1, g') ∧ CC g' cv.1 := by
  have h4 := h.2.2.2.1
  -- begun
  have hb : ∃ g0, fX9_rewind La g = some g0 ∧ Fr FL g g0 ∧ CT g0 b len 0 := by
    refine ⟨gz_wa g 1 (upd (upd (g.1 1) 2 (nI 0)) 3 (-nI 1)), ?_, Fr.rf.wa (Or.inl rfl), ?_⟩
    · unfold fX9_rewind
      simp only [l_0, l_1, l_2, l_3, l_4, l_5, l_6, l_7, l_8, l_9, l_10, l_11, l_12, l_13, l_14, l_15, l_16, l_17, l_18, l_19, l_20, l_21, l_22, l_23, l_24, l_25, l_26, l_28, l_29, l_30, l_31, l_32, l_33, l_34, l_36, l_37, l_38, l_39, l_40, l_41, l_42, l_43, l_44, l_45, l_46, l_47, l_48, l_49, l_50, l_53, l_54, l_57, l_58, l_59, l_60, l_61, l_62, l_63, l_91, l_93, l_97, l_98, l_99, l_100, l_103, l_104, l_110, l_112, l_114, l_115, l_116, l_119, l_120, l_121, l_124, l_128, l_231, l_240, l_241, l_255, l_496, l_999, l_1000, l_8191, l_9999, l_10000, l_100000, l_200000, l_1000000, l_1000000000, gz_let_eq, Option.bind_some, ↓reduceIte, wi_wa, wa_at, wa_wa, upd_fI, fI_ap, wa_2, n_add, n_ok, n_cl, n_lt, n_le, n_eq, p_0, p_1, p_01, em_t, nb_0, t_10, n_modd, n_modm, Bool.false_eq_true, not_false_eq_true, not_true]
    · exact ⟨by rw [wa_at]; exact h.1, by rw [wa_at]; rfl, Nat.zero_le _, h4, by rw [wa_ne (by omega)]; exact h.2.2.2.2⟩
  obtain ⟨g0, b1, b2, b3⟩ := hb
  have hC0 : CC (gz_wi g0 3 2 (nI 0)) [] := by
    rw [wi_wa]
    exact ⟨by rw [wa_at]; rfl, Nat.zero_le _, fun i hi => absurd hi (Nat.not_lt_zero _)⟩
  have hF0 : Fr FL g (gz_wi g0 3 2 (nI 0)) := b2.wi (Or.inr (Or.inl rfl))
  have hT0 : CT (gz_wi g0 3 2 (nI 0)) b len 0 := by
    unfold CT
    rw [wi_wa, wa_ne (by omega), wa_ne (by omega)]; exact b3
  have key : ∀ n p i f g1 a1 acc (K : gz_S → Option (Int32 × gz_S)), Fr FL g g1 → CT g1 b len a1 → nx b len a1 = p → CC g1 acc.1 → acc.1.length ≤ p → i ≤ p → len - p < n → 241 - i < f →
      ∃ g', Fr FL g g' ∧ (∃ a', CT g' b len a') ∧ ((pLaw b len n p acc).2 = none → fX4_readLaw_14 La K f (nI i) g1 = some (nI 0, g') ∧ g'.1 1 3 = nI (pLaw b len n p acc).1) ∧ ∀ cv, (pLaw b len n p acc).2 = some cv → fX4_readLaw_14 La K f (nI i) g1 = some (nI 1, g') ∧ CC g' cv.1 := by
    intro n
    induction n with
    | zero => intro p i f g1 a1 acc K _ _ _ _ _ _ h; omega
    | succ n ih =>
      intro p i f g1 a1 acc K hF hT hp hC hl hi hn hf
      obtain ⟨f', rfl⟩ : ∃ f', f = f' + 1 := ⟨f - 1, by omega⟩
      have hx := nx_le (b := b) hT.2.2.1
      rw [hp] at hx
      have hn240 : ¬ 240 < i := by omega
      have hpl : pLaw b len (n + 1) p acc = if sg b len p = some 121 then (if sg b len (nx b len (p + 1)) = some 58 then (match pClause b len (nx b len (nx b len (p + 1) + 1)) with | (q, none) => (q, none) | (q, some (c, i, v)) => if sg b len q = none then (q, some (acc.1 ++ c ++ [-22], fun e => match acc.2 e with | some x => some x | none => if i e = 1 then some (v e) else none)) else if sg b len q = some 59 then pLaw b len n (nx b len (q + 1)) (acc.1 ++ c ++ [-22], fun e => match acc.2 e with | some x => some x | none => if i e = 1 then some (v e) else none) else (q, none)) else (nx b len (p + 1), none)) else (p, none) := rfl
      have hy := c_expect (La := La) hT (c := 121) (by omega)
      rw [hp] at hy
      have hcode : fX4_readLaw_14 La K (f' + 1) (nI i) g1 = (fX9_expect La (nI 121) g1).bind (fun q27 => if q27.1 = nI 0 then some (nI 0, q27.2) else (fX9_expect La (nI 58) q27.2).bind (fun q39 => if q39.1 = nI 0 then some (nI 0, q39.2) else (fX4_readClause La q39.2).bind (fun q46 => if q46.1 = nI 0 then some (nI 0, q46.2) else (fX4_put La (-nI 22) q46.2).bind (fun q57 => (fX9_next La q57).bind (fun q64 => if q64.1 = -nI 1 then some (nI 1, q64.2) else (fX9_expect La (nI 59) q64.2).bind (fun q79 => if q79.1 = nI 0 then some (nI 0, q79.2) else fX4_readLaw_14 La K f' (nI (i + 1)) q79.2)))))) := by
        rw [fX4_readLaw_14]
        simp (disch := omega) only [l_0, l_1, l_2, l_3, l_4, l_5, l_6, l_7, l_8, l_9, l_10, l_11, l_12, l_13, l_14, l_15, l_16, l_17, l_18, l_19, l_20, l_21, l_22, l_23, l_24, l_25, l_26, l_28, l_29, l_30, l_31, l_32, l_33, l_34, l_36, l_37, l_38, l_39, l_40, l_41, l_42, l_43, l_44, l_45, l_46, l_47, l_48, l_49, l_50, l_53, l_54, l_57, l_58, l_59, l_60, l_61, l_62, l_63, l_91, l_93, l_97, l_98, l_99, l_100, l_103, l_104, l_110, l_112, l_114, l_115, l_116, l_119, l_120, l_121, l_124, l_128, l_231, l_240, l_241, l_255, l_496, l_999, l_1000, l_8191, l_9999, l_10000, l_100000, l_200000, l_1000000, l_1000000000, ↓reduceIte, n_add, n_ok, n_cl, n_lt, n_le, n_eq, p_0, p_1, p_01, hn240, gz_let_eq]
      rw [hcode]
      by_cases h121 : sg b len p = some 121
      · rw [if_pos h121] at hy hpl
        have hlt := (sg_lt h121).1
        have hx1 := nx_le (b := b) (show p + 1 ≤ len by omega)
        have hT1 : CT (st g1 (p + 1)) b len (p + 1) := hT.st (by omega)
        have hco := c_expect (La := La) hT1 (c := 58) (by omega)
        by_cases h58 : sg b len (nx b len (p + 1)) = some 58
        · rw [if_pos h58] at hco hpl
          have hlt2 := (sg_lt h58).1
          have hx2 := nx_le (b := b) (show nx b len (p + 1) + 1 ≤ len by omega)
          rw [st_st] at hco
          have hT2 : CT (st g1 (nx b len (p + 1) + 1)) b len (nx b len (p + 1) + 1) := hT.st (by omega)
          have hF2 : Fr FL g (st g1 (nx b len (p + 1) + 1)) := st_fr hF (Or.inl rfl)
          obtain ⟨g3, s1, ⟨a3, s2, s2'⟩, s3, s4⟩ := c_readClause (La := La) hT2 hC.st (by omega)
          obtain ⟨c1, c2, c3⟩ := pClause_good (b := b) (len := len) hx2.2
          cases hcl : pClause b len (nx b len (nx b len (p + 1) + 1)) with
          | mk q o =>
            rw [hcl] at s2' s3 s4 c1 c2 c3 hpl
            have c1 : nx b len (nx b len (p + 1) + 1) ≤ q := c1
            have c2 : q ≤ len := c2
            cases o with
            | none =>
              have hpl : pLaw b len (n + 1) p acc = (q, none) := hpl
              rw [hpl]
              obtain ⟨k1, k2, k3⟩ := s3 rfl
              refine ⟨g3, hF2.tr s1, ⟨a3, s2⟩, fun _ => ⟨?_, k2⟩, fun cv e => by cases e⟩
              simp (disch := omega) only [hy, hco, Option.bind_some, ↓reduceIte, n_add, n_ok, n_cl, n_lt, n_le, n_eq, p_0, p_1, p_01, t_10, k1]
            | some civ =>
              obtain ⟨c, i', v⟩ := civ
              have c3 : c.length + nx b len (nx b len (p + 1) + 1) ≤ q := c3 (c, i', v) rfl
              have hpl : pLaw b len (n + 1) p acc = if sg b len q = none then (q, some (acc.1 ++ c ++ [-22], fun e => match acc.2 e with | some x => some x | none => if i' e = 1 then some (v e) else none)) else if sg b len q = some 59 then pLaw b len n (nx b len (q + 1)) (acc.1 ++ c ++ [-22], fun e => match acc.2 e with | some x => some x | none => if i' e = 1 then some (v e) else none) else (q, none) := hpl
              obtain ⟨k1, k2⟩ := s4 (c, i', v) rfl
              have k2 : CC g3 (acc.1 ++ c) := k2
              have a3q : nx b len a3 = q := s2' (by simp)
              have hqn : nx b len q = q := by rw [← a3q]; exact nx_nx
              have hll : (acc.1 ++ c).length = acc.1.length + c.length := List.length_append
              obtain ⟨g4, p1, p2, p3⟩ := c_putC (La := La) (x := -nI 22) k2 (by omega)
              have hT4 : CT g4 b len a3 := s2.fr p2 (by omega) (by omega)
              have hF4 : Fr FL g g4 := (hF2.tr s1).tr (p2.mo (fun j hj => Or.inr hj))
              have hn4 := c_next (La := La) hT4
              rw [a3q] at hn4
              have hT5 : CT (st g4 q) b len q := hT4.st c2
              have he5 := c_expect (La := La) hT5 (c := 59) (by omega)
              rw [hqn, st_st, st_st] at he5
              have hm : (oI (sg b len q) = -nI 1) = (sg b len q = none) := oI_m (fun d hd => by have := hT4.sg hd; omega)
              have p3 : CC g4 (acc.1 ++ c ++ [-22]) := p3
              have hcode2 : (fX9_expect La (nI 121) g1).bind (fun q27 => if q27.1 = nI 0 then some (nI 0, q27.2) else (fX9_expect La (nI 58) q27.2).bind (fun q39 => if q39.1 = nI 0 then some (nI 0, q39.2) else (fX4_readClause La q39.2).bind (fun q46 => if q46.1 = nI 0 then some (nI 0, q46.2) else (fX4_put La (-nI 22) q46.2).bind (fun q57 => (fX9_next La q57).bind (fun q64 => if q64.1 = -nI 1 then some (nI 1, q64.2) else (fX9_expect La (nI 59) q64.2).bind (fun q79 => if q79.1 = nI 0 then some (nI 0, q79.2) else fX4_readLaw_14 La K f' (nI (i + 1)) q79.2)))))) = if sg b len q = none then some (nI 1, st g4 q) else if sg b len q = some 59 then fX4_readLaw_14 La K f' (nI (i + 1)) (st g4 (q + 1)) else some (nI 0, gz_wa (st g4 q) 1 (upd ((st g4 q).1 1) 3 (nI q))) := by
                simp (disch := omega) only [hy, hco, Option.bind_some, ↓reduceIte, n_add, n_ok, n_cl, n_lt, n_le, n_eq, p_0, p_1, p_01, t_10, k1, p1, hn4, hm, he5]
                by_cases hz : sg b len q = none
                · rw [if_pos hz, if_pos hz]
                · rw [if_neg hz, if_neg hz]
                  by_cases hz2 : sg b len q = some 59
                  · rw [if_pos hz2, if_pos hz2]
                    simp (disch := omega) only [↓reduceIte, n_add, n_ok, n_cl, n_lt, n_le, n_eq, p_0, p_1, p_01, t_10]
                  · rw [if_neg hz2, if_neg hz2]
                    simp (disch := omega) only [↓reduceIte, n_add, n_ok, n_cl, n_lt, n_le, n_eq, p_0, p_1, p_01]
              rw [hcode2, hpl]
              by_cases hz : sg b len q = none
              · rw [if_pos hz, if_pos hz]
                refine ⟨st g4 q, st_fr hF4 (Or.inl rfl), ⟨q, hT5⟩, (fun e => by cases e), fun cv e => ?_⟩
                cases e
                exact ⟨rfl, p3.st⟩
              · rw [if_neg hz, if_neg hz]
                by_cases hz2 : sg b len q = some 59
                · rw [if_pos hz2, if_pos hz2]
                  have hlt5 := (sg_lt hz2).1
                  have hx5 := nx_le (b := b) (show q + 1 ≤ len by omega)
                  exact ih (nx b len (q + 1)) (i + 1) f' (st g4 (q + 1)) (q + 1) _ K (st_fr hF4 (Or.inl rfl)) (hT4.st (by omega)) rfl p3.st (by rw [List.length_append, hll]; show _ + 1 ≤ _; omega) (by omega) (by omega) (by omega)
                · rw [if_neg hz2, if_neg hz2]
                  exact ⟨_, (st_fr hF4 (Or.inl rfl)).wa (Or.inl rfl), ⟨q, hT5.wf (by omega)⟩, fun _ => ⟨rfl, by rw [wa_at]; exact if_pos rfl⟩, fun cv e => by cases e⟩
        · rw [if_neg h58] at hco hpl
          rw [hpl]
          refine ⟨gz_wa (st (st g1 (p + 1)) (nx b len (p + 1))) 1 (upd ((st (st g1 (p + 1)) (nx b len (p + 1))).1 1) 3 (nI (nx b len (p + 1)))), (st_fr (st_fr hF (Or.inl rfl)) (Or.inl rfl)).wa (Or.inl rfl), ⟨_, (hT1.st hx1.2).wf (by omega)⟩, fun _ => ⟨?_, by rw [wa_at]; exact if_pos rfl⟩, fun cv e => by cases e⟩
          simp (disch := omega) only [hy, hco, Option.bind_some, ↓reduceIte, n_add, n_ok, n_cl, n_lt, n_le, n_eq, p_0, p_1, p_01, t_10]
      · rw [if_neg h121] at hy hpl
        rw [hpl]
        refine ⟨gz_wa (st g1 p) 1 (upd ((st g1 p).1 1) 3 (nI p)), (st_fr hF (Or.inl rfl)).wa (Or.inl rfl), ⟨p, (hT.st hx.2).wf (by omega)⟩, fun _ => ⟨?_, by rw [wa_at]; exact if_pos rfl⟩, fun cv e => by cases e⟩
        simp (disch := omega) only [hy, Option.bind_some, ↓reduceIte, n_add, n_ok, n_cl, n_lt, n_le, n_eq, p_0, p_1, p_01]
  have hgo := key (len + 1) (nx b len 0) 0 gz_FU (gz_wi g0 3 2 (nI 0)) 0 ([], fun _ => none) (fun g => (fX9_refuse La (g.1 1 2) g).bind (fun q104 => if q104.1 = 0 ∨ q104.1 = 1 then some (q104.1, q104.2) else none)) hF0 hT0 rfl hC0 (Nat.zero_le _) (Nat.zero_le _) (by omega) (by unfold gz_FU; omega)
  have hcode : fX4_readLaw La g = fX4_readLaw_14 La (fun g => (fX9_refuse La (g.1 1 2) g).bind (fun q104 => if q104.1 = 0 ∨ q104.1 = 1 then some (q104.1, q104.2) else none)) gz_FU (nI 0) (gz_wi g0 3 2 (nI 0)) := by
    unfold fX4_readLaw
    rw [b1]; rfl
  rw [hcode]
  exact hgo
end C4
