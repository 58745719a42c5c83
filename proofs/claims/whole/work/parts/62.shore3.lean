/-! clauses of shores, whole shores, class ShoreReader -/
abbrev sAgr (s : SH) : Prop := 1 ≤ s.gn ∧ s.rn ≤ s.ru 1 ∧ (∀ i, i < s.rn → s.rl i ≤ s.ru 0) ∧ ∀ i, i < s.gn → s.go (i * 4) < s.ru 0 ∧ s.go (i * 4 + 1) < s.ru 1
def pSh (b : Nat → Nat) (len : Nat) : Nat → SH → Nat → Nat × Option SH
  | 0, _, p => (p, none)
  | n + 1, s, p => match (pCl b len s p).2 with
    | none => ((pCl b len s p).1, none)
    | some S => if sg b len (nx b len (pCl b len s p).1) = none then (nx b len (pCl b len s p).1, if sAgr S then some S else none) else
      if sg b len (nx b len (pCl b len s p).1) = some 59 then pSh b len n S (nx b len (pCl b len s p).1 + 1) else (nx b len (pCl b len s p).1, none)
def sh0 : SH := (false, fun i => tS (i * 4 + 3), 0, fun _ => 0, fun _ => 0, 0, fun _ => 0)
section C7
variable {La : gz_L} {g : gz_S} {b : Nat → Nat} {len a : Nat} {s : SH}
theorem RdI.ck {r : Option (Int32 × gz_S)} {w o : Nat} {S : Nat × Option (Nat → Nat)} (h : RdI r g b len w o S) : r.bind (fun q => if q.1 = nI 0 ∨ q.1 = nI 1 then some (q.1, q.2) else none) = r := by
  obtain ⟨g', F, T, n, y⟩ := h
  cases hs : S.2 with
  | none => rw [(n hs).1, Option.bind_some]; exact if_pos (Or.inl rfl)
  | some e => rw [(y e hs).1, Option.bind_some]; exact if_pos (Or.inr rfl)
theorem c_rf7 {q : Nat} (h : CT g b len q) : (fX9_refuse La (g.1 1 2) g).bind (fun q39 => if q39.1 = nI 0 ∨ q39.1 = nI 1 then some (q39.1, q39.2) else none) = some (nI 0, gz_wa g 1 (upd (g.1 1) 3 (nI q))) := by
  rw [h.2.1, c_refuse, Option.bind_some]
  exact if_pos (Or.inl rfl)
theorem RdH.no {r : Option (Int32 × gz_S)} {p : Nat} {S : Nat × Option SH} (h : CT g b len a) (hp : p ≤ len) (hr : r = some (nI 0, gz_wa (st g p) 1 (upd ((st g p).1 1) 3 (nI p)))) (hS : S = (p, none)) : RdH r g b len S := by
  subst hS
  exact ⟨gz_wa (st g p) 1 (upd ((st g p).1 1) 3 (nI p)), (st_fr Fr.rf (Or.inl rfl)).wa (Or.inl rfl), ⟨p, (h.st hp).wf (by omega), fun hh => absurd rfl hh⟩, fun _ => ⟨hr, by rw [wa_at]; rfl⟩, fun S hh => (by cases hh)⟩
theorem c_clause7 (h : CT g b len a) (hS : CS7 g s) : RdH (fX7_readClause La g) g b len (pCl b len s a) := by
  have h4 := h.2.2.2.1
  have hx := nx_le (b := b) h.2.2.1
  have hn3 := c_next (La := La) h
  have hnn : nx b len (nx b len a) = nx b len a := nx_nx
  unfold pCl fX7_readClause
  rw [hn3, Option.bind_some]
  generalize nx b len a = p at *
  have hst : CT (st g p) b len p := h.st hx.2
  have hsgc : ∀ c, sg b len p = some c → c < 2147483648 := fun c hc => by have := h.sg hc; omega
  have e115 : (oI (sg b len p) = nI 115) = (sg b len p = some 115) := oI_eq (by omega) hsgc
  have e114 : (oI (sg b len p) = nI 114) = (sg b len p = some 114) := oI_eq (by omega) hsgc
  have e103 : (oI (sg b len p) = nI 103) = (sg b len p = some 103) := oI_eq (by omega) hsgc
  obtain ⟨z5, ⟨z6, z6'⟩, ⟨z7, z7'⟩, zr, zl, zl0, zk, zg⟩ := hS
  have k157 : fX7_readClause_157 La (st g p) = some (nI 0, gz_wa (st g p) 1 (upd ((st g p).1 1) 3 (nI p))) := by
    unfold fX7_readClause_157
    exact c_rf7 hst
  -- a goer
  have kg : ¬ (sg b len p = some 115 ∧ s.hr = false) → ¬ (sg b len p = some 114 ∧ s.rn < 5) → RdH (fX7_readClause_100 La (oI (sg b len p)) (st g p)) g b len (if sg b len p = some 103 ∧ s.gn < 4 then ((pIt b len tG 4 0 (p + 1) (fun i => tG (i * 4 + 3))).1, (pIt b len tG 4 0 (p + 1) (fun i => tG (i * 4 + 3))).2.map (fun v => ((s.hr, s.ru, s.rn, s.rl, s.rk, s.gn + 1, fun j => if j / 4 = s.gn then v (j % 4) else s.go j) : SH))) else (p, none)) := by
    intro n1 n2
    unfold fX7_readClause_100
    by_cases c1 : sg b len p = some 103
    · have hlp := (sg_lt c1).1
      have c1' : oI (sg b len p) = 103 := by rw [c1]; rfl
      rw [if_pos c1', st_n (by omega), z7]
      by_cases c2 : s.gn < 4
      · rw [if_pos (show sg b len p = some 103 ∧ s.gn < 4 from ⟨c1, c2⟩)]
        have x4 : ¬ (4 : Int32) ≤ nI s.gn := by simp (disch := omega) only [l_0, l_1, l_2, l_3, l_4, l_5, l_6, l_7, l_8, l_9, l_10, l_11, l_12, l_13, l_14, l_15, l_16, l_17, l_18, l_19, l_20, l_21, l_22, l_23, l_24, l_25, l_26, l_28, l_29, l_30, l_31, l_32, l_33, l_34, l_36, l_37, l_38, l_39, l_40, l_41, l_42, l_43, l_44, l_45, l_46, l_47, l_48, l_49, l_50, l_53, l_54, l_57, l_58, l_59, l_60, l_61, l_62, l_63, l_91, l_93, l_97, l_98, l_99, l_100, l_103, l_104, l_110, l_112, l_114, l_115, l_116, l_119, l_120, l_121, l_124, l_128, l_231, l_240, l_241, l_255, l_496, l_999, l_1000, l_8191, l_9999, l_10000, l_100000, l_200000, l_1000000, l_1000000000, n_add, n_ok, n_cl, n_lt, n_le, n_eq, p_0, p_1, p_01]; omega
        rw [if_neg x4]
        have T1 : CT (gz_wa (st g (p + 1)) 2 (upd ((st g (p + 1)).1 2) 7 (nI (s.gn + 1)))) b len (p + 1) := CT.fr (S := fun j => j = 2) (h.st (by omega)) (Fr.rf.wa rfl) (by omega) (by omega)
        have k1 := c_readItems (La := La) (w1 := 201) (w2 := 16) (o := s.gn * 4) (t := tG) T1 tt_g (by decide) (Or.inr rfl) (show s.gn * 4 + 4 ≤ 16 by omega)
        have F1 : Fr F7 g (gz_wa (st g (p + 1)) 2 (upd ((st g (p + 1)).1 2) 7 (nI (s.gn + 1)))) := (st_fr Fr.rf (Or.inl rfl)).wa (Or.inr (Or.inl rfl))
        have k2 := k1.ck
        obtain ⟨g', G1, G2, G3, G4⟩ := k1
        have e : gz_let (gz_wi (st g p) 1 2 (((st g p).1 1 2) + 1)) (fun g124 => gz_let (gz_wi g124 2 7 ((g124.1 2 7) + 1)) (fun g134 => (fX7_readItems La  201 16 (((g134.1 2 7) - 1) * 4) g134).bind (fun q153 => if q153.1 = 0 ∨ q153.1 = 1 then some (q153.1, q153.2) else none)))
            = fX7_readItems La 201 16 (nI (s.gn * 4)) (gz_wa (st g (p + 1)) 2 (upd ((st g (p + 1)).1 2) 7 (nI (s.gn + 1)))) := by
          rw [← k2]
          have ew : gz_wi (st g (p + 1)) 2 7 (nI (s.gn + 1)) = gz_wa (st g (p + 1)) 2 (upd ((st g (p + 1)).1 2) 7 (nI (s.gn + 1))) := wi_wa _ _ _ _
          have ew2 : (gz_wa (st g (p + 1)) 2 (upd ((st g (p + 1)).1 2) 7 (nI (s.gn + 1)))).1 2 7 = nI (s.gn + 1) := by rw [wa_at]; rfl
          have ew3 : (st g (p + 1)).1 2 7 = nI s.gn := by rw [st_n (by omega)]; exact z7
          have ew4 : nI (s.gn + 1) - nI 1 = nI s.gn := by rw [n_sub (by omega)]; rfl
          simp (disch := omega) only [l_0, l_1, l_2, l_3, l_4, l_5, l_6, l_7, l_8, l_9, l_10, l_11, l_12, l_13, l_14, l_15, l_16, l_17, l_18, l_19, l_20, l_21, l_22, l_23, l_24, l_25, l_26, l_28, l_29, l_30, l_31, l_32, l_33, l_34, l_36, l_37, l_38, l_39, l_40, l_41, l_42, l_43, l_44, l_45, l_46, l_47, l_48, l_49, l_50, l_53, l_54, l_57, l_58, l_59, l_60, l_61, l_62, l_63, l_91, l_93, l_97, l_98, l_99, l_100, l_103, l_104, l_110, l_112, l_114, l_115, l_116, l_119, l_120, l_121, l_124, l_128, l_231, l_240, l_241, l_255, l_496, l_999, l_1000, l_8191, l_9999, l_10000, l_100000, l_200000, l_1000000, l_1000000000, gz_let_eq, st_2, n_add, wi_st, st_st, ew3, ew, ew2, ew4, n_mul]
          rfl
        rw [e]
        refine ⟨g', F1.tr (G1.mo (fun j hj => by omega)), ?_, fun hh => ?_, fun S hh => ?_⟩
        · obtain ⟨a', A1, A2⟩ := G2
          refine ⟨a', A1, fun hh => A2 (fun hn => hh ?_)⟩
          show Option.map _ _ = none
          rw [hn]; rfl
        · have hv : (pIt b len tG 4 0 (p + 1) (fun i => tG (i * 4 + 3))).2 = none := by
            cases hv : (pIt b len tG 4 0 (p + 1) (fun i => tG (i * 4 + 3))).2 with
            | none => rfl
            | some v => rw [hv] at hh; cases hh
          exact G3 hv
        · cases hv : (pIt b len tG 4 0 (p + 1) (fun i => tG (i * 4 + 3))).2 with
          | none => rw [hv] at hh; cases hh
          | some v =>
            rw [hv] at hh
            cases hh
            obtain ⟨G5, G6, G7⟩ := G4 v hv
            have q2 : g'.1 2 = upd (g.1 2) 7 (nI (s.gn + 1)) := by rw [G1.1 2 (by omega), wa_at, st_n (by omega)]
            have q15 : g'.1 15 = g.1 15 := by rw [G1.1 15 (by omega), wa_ne (by omega), st_n (by omega)]
            have q17 : g'.1 17 = g.1 17 := by rw [G1.1 17 (by omega), wa_ne (by omega), st_n (by omega)]
            have q18 : g'.1 18 = g.1 18 := by rw [G1.1 18 (by omega), wa_ne (by omega), st_n (by omega)]
            refine ⟨G5, ?_⟩
            unfold CS7
            rw [q2, q15, q17, q18]
            refine ⟨z5, ⟨z6, z6'⟩, ⟨rfl, by show s.gn + 1 ≤ 4; omega⟩, zr, zl, zl0, zk, fun j hj => ?_⟩
            show _ = nI (if j / 4 = s.gn then v (j % 4) else s.go j) ∧ (if j / 4 = s.gn then v (j % 4) else s.go j) ≤ 99
            have hj : j < 4 * (s.gn + 1) := hj
            by_cases hh : j / 4 = s.gn
            · rw [if_pos hh]
              have := G6 (j % 4) (by omega)
              rw [show s.gn * 4 + j % 4 = j by omega] at this
              exact this
            · rw [if_neg hh, G7 j (by omega), wa_ne (by omega), st_n (by omega)]
              exact zg j (by omega)
      · rw [if_neg (show ¬ (sg b len p = some 103 ∧ s.gn < 4) from fun hh => c2 hh.2)]
        have x4 : (4 : Int32) ≤ nI s.gn := by simp (disch := omega) only [l_0, l_1, l_2, l_3, l_4, l_5, l_6, l_7, l_8, l_9, l_10, l_11, l_12, l_13, l_14, l_15, l_16, l_17, l_18, l_19, l_20, l_21, l_22, l_23, l_24, l_25, l_26, l_28, l_29, l_30, l_31, l_32, l_33, l_34, l_36, l_37, l_38, l_39, l_40, l_41, l_42, l_43, l_44, l_45, l_46, l_47, l_48, l_49, l_50, l_53, l_54, l_57, l_58, l_59, l_60, l_61, l_62, l_63, l_91, l_93, l_97, l_98, l_99, l_100, l_103, l_104, l_110, l_112, l_114, l_115, l_116, l_119, l_120, l_121, l_124, l_128, l_231, l_240, l_241, l_255, l_496, l_999, l_1000, l_8191, l_9999, l_10000, l_100000, l_200000, l_1000000, l_1000000000, n_add, n_ok, n_cl, n_lt, n_le, n_eq, p_0, p_1, p_01]; omega
        rw [if_pos x4]
        exact RdH.no h hx.2 k157 rfl
    · rw [if_neg (show ¬ (sg b len p = some 103 ∧ s.gn < 4) from fun hh => c1 hh.1)]
      have c1' : ¬ oI (sg b len p) = 103 := by rw [show (103 : Int32) = nI 103 from rfl, e103]; exact c1
      rw [if_neg c1']
      exact RdH.no h hx.2 k157 rfl
  -- a row
  have kr : ¬ (sg b len p = some 115 ∧ s.hr = false) → RdH (fX7_readClause_52 La (oI (sg b len p)) (st g p)) g b len (if sg b len p = some 114 ∧ s.rn < 5 then ((pRow b len (s.rn * 6) 6 0 (p + 1) s.rk).1, (pRow b len (s.rn * 6) 6 0 (p + 1) s.rk).2.map (fun r => ((s.hr, s.ru, s.rn + 1, uN s.rl s.rn r.1, r.2, s.gn, s.go) : SH)))
      else if sg b len p = some 103 ∧ s.gn < 4 then ((pIt b len tG 4 0 (p + 1) (fun i => tG (i * 4 + 3))).1, (pIt b len tG 4 0 (p + 1) (fun i => tG (i * 4 + 3))).2.map (fun v => ((s.hr, s.ru, s.rn, s.rl, s.rk, s.gn + 1, fun j => if j / 4 = s.gn then v (j % 4) else s.go j) : SH))) else (p, none)) := by
    intro n1
    by_cases c0 : sg b len p = some 114 ∧ s.rn < 5
    · obtain ⟨c1, c2⟩ := c0
      have hlp := (sg_lt c1).1
      have c1' : oI (sg b len p) = 114 := by rw [c1]; rfl
      have x5 : ¬ (5 : Int32) ≤ nI s.rn := by simp (disch := omega) only [l_0, l_1, l_2, l_3, l_4, l_5, l_6, l_7, l_8, l_9, l_10, l_11, l_12, l_13, l_14, l_15, l_16, l_17, l_18, l_19, l_20, l_21, l_22, l_23, l_24, l_25, l_26, l_28, l_29, l_30, l_31, l_32, l_33, l_34, l_36, l_37, l_38, l_39, l_40, l_41, l_42, l_43, l_44, l_45, l_46, l_47, l_48, l_49, l_50, l_53, l_54, l_57, l_58, l_59, l_60, l_61, l_62, l_63, l_91, l_93, l_97, l_98, l_99, l_100, l_103, l_104, l_110, l_112, l_114, l_115, l_116, l_119, l_120, l_121, l_124, l_128, l_231, l_240, l_241, l_255, l_496, l_999, l_1000, l_8191, l_9999, l_10000, l_100000, l_200000, l_1000000, l_1000000000, n_add, n_ok, n_cl, n_lt, n_le, n_eq, p_0, p_1, p_01]; omega
      rw [if_pos (show sg b len p = some 114 ∧ s.rn < 5 from ⟨c1, c2⟩)]
      unfold fX7_readClause_52
      rw [if_pos c1', st_n (by omega), z6, if_neg x5]
      have T1 : CT (gz_wa (st g (p + 1)) 2 (upd ((st g (p + 1)).1 2) 6 (nI (s.rn + 1)))) b len (p + 1) := CT.fr (S := fun j => j = 2) (h.st (by omega)) (Fr.rf.wa rfl) (by omega) (by omega)
      have F1 : Fr F7 g (gz_wa (st g (p + 1)) 2 (upd ((st g (p + 1)).1 2) 6 (nI (s.rn + 1)))) := (st_fr Fr.rf (Or.inl rfl)).wa (Or.inr (Or.inl rfl))
      obtain ⟨g', G1, G2, G3, G4⟩ := c_row (La := La) (b := b) (len := len) (r := s.rn) (K0 := fun g => (fX9_refuse La (g.1 1 2) g).bind (fun q39 => if q39.1 = 0 ∨ q39.1 = 1 then some (q39.1, q39.2) else none)) (fun g p hp => c_rf7 hp) c2 6 0 (p + 1) s.rk (gz_wa (st g (p + 1)) 2 (upd ((st g (p + 1)).1 2) 6 (nI (s.rn + 1)))) gz_FU rfl T1 (fun c hc => by rw [wa_ne (by omega), st_n (by omega)]; exact zk c hc) (by rw [wa_ne (by omega), st_n (by omega)]; exact zl0 s.rn (Nat.le_refl _) c2) (by unfold gz_FU; omega)
      have e : gz_let (gz_wi (st g p) 1 2 (((st g p).1 1 2) + 1)) (fun g76 => gz_let (gz_wi g76 2 6 ((g76.1 2 6) + 1)) (fun g86 => (fX7_readRow La  ((g86.1 2 6) - 1) g86).bind (fun q96 => if q96.1 = 0 ∨ q96.1 = 1 then some (q96.1, q96.2) else none)))
          = (fX7_readRow La (nI s.rn) (gz_wa (st g (p + 1)) 2 (upd ((st g (p + 1)).1 2) 6 (nI (s.rn + 1))))).bind (fun q96 => if q96.1 = nI 0 ∨ q96.1 = nI 1 then some (q96.1, q96.2) else none) := by
        have ew : gz_wi (st g (p + 1)) 2 6 (nI (s.rn + 1)) = gz_wa (st g (p + 1)) 2 (upd ((st g (p + 1)).1 2) 6 (nI (s.rn + 1))) := wi_wa _ _ _ _
        have ew2 : (gz_wa (st g (p + 1)) 2 (upd ((st g (p + 1)).1 2) 6 (nI (s.rn + 1)))).1 2 6 = nI (s.rn + 1) := by rw [wa_at]; rfl
        have ew3 : (st g (p + 1)).1 2 6 = nI s.rn := by rw [st_n (by omega)]; exact z6
        have ew4 : nI (s.rn + 1) - nI 1 = nI s.rn := by rw [n_sub (by omega)]; rfl
        simp (disch := omega) only [l_0, l_1, l_2, l_3, l_4, l_5, l_6, l_7, l_8, l_9, l_10, l_11, l_12, l_13, l_14, l_15, l_16, l_17, l_18, l_19, l_20, l_21, l_22, l_23, l_24, l_25, l_26, l_28, l_29, l_30, l_31, l_32, l_33, l_34, l_36, l_37, l_38, l_39, l_40, l_41, l_42, l_43, l_44, l_45, l_46, l_47, l_48, l_49, l_50, l_53, l_54, l_57, l_58, l_59, l_60, l_61, l_62, l_63, l_91, l_93, l_97, l_98, l_99, l_100, l_103, l_104, l_110, l_112, l_114, l_115, l_116, l_119, l_120, l_121, l_124, l_128, l_231, l_240, l_241, l_255, l_496, l_999, l_1000, l_8191, l_9999, l_10000, l_100000, l_200000, l_1000000, l_1000000000, gz_let_eq, st_2, n_add, wi_st, st_st, ew3, ew, ew2, ew4]
        rfl
      rw [e]
      have er : fX7_readRow La (nI s.rn) (gz_wa (st g (p + 1)) 2 (upd ((st g (p + 1)).1 2) 6 (nI (s.rn + 1)))) = fX7_readRow_2 La (fun g => (fX9_refuse La (g.1 1 2) g).bind (fun q39 => if q39.1 = 0 ∨ q39.1 = 1 then some (q39.1, q39.2) else none)) gz_FU (nI s.rn) (nI 0) (gz_wa (st g (p + 1)) 2 (upd ((st g (p + 1)).1 2) 6 (nI (s.rn + 1)))) := rfl
      rw [er]
      refine ⟨g', F1.tr (G1.mo (fun j hj => by omega)), ?_, fun hh => ?_, fun S hh => ?_⟩
      · obtain ⟨a', A1, A2⟩ := G2
        refine ⟨a', A1, fun hh => A2 (fun hn => hh ?_)⟩
        show Option.map _ _ = none
        rw [hn]; rfl
      · have hv : (pRow b len (s.rn * 6) 6 0 (p + 1) s.rk).2 = none := by
          cases hv : (pRow b len (s.rn * 6) 6 0 (p + 1) s.rk).2 with
          | none => rfl
          | some v => rw [hv] at hh; cases hh
        rw [(G3 hv).1, Option.bind_some]
        exact ⟨if_pos (Or.inl rfl), (G3 hv).2⟩
      · cases hv : (pRow b len (s.rn * 6) 6 0 (p + 1) s.rk).2 with
        | none => rw [hv] at hh; cases hh
        | some R =>
          rw [hv] at hh
          cases hh
          obtain ⟨G5, G6, G7, G8, G9⟩ := G4 R hv
          rw [G5, Option.bind_some]
          have q2 : g'.1 2 = upd (g.1 2) 6 (nI (s.rn + 1)) := by rw [G1.1 2 (by omega), wa_at, st_n (by omega)]
          have q15 : g'.1 15 = g.1 15 := by rw [G1.1 15 (by omega), wa_ne (by omega), st_n (by omega)]
          have q16 : g'.1 16 = g.1 16 := by rw [G1.1 16 (by omega), wa_ne (by omega), st_n (by omega)]
          have q18 : ∀ i, i ≠ s.rn → g'.1 18 i = g.1 18 i := fun i hi => by rw [G9 i hi, wa_ne (by omega), st_n (by omega)]
          refine ⟨if_pos (Or.inr rfl), ?_⟩
          unfold CS7
          rw [q2, q15, q16]
          refine ⟨z5, ⟨rfl, by show s.rn + 1 ≤ 5; omega⟩, ⟨z7, z7'⟩, zr, fun i hi => ?_, fun i hi1 hi2 => ?_, G6, zg⟩
          · show _ = nI (uN s.rl s.rn R.1 i) ∧ uN s.rl s.rn R.1 i ≤ 6
            have hi : i < s.rn + 1 := hi
            unfold uN
            by_cases hh : i = s.rn
            · rw [if_pos hh, hh]; exact ⟨G7, G8⟩
            · rw [if_neg hh, q18 i hh]; exact zl i (by omega)
          · have hi1 : s.rn + 1 ≤ i := hi1
            rw [q18 i (by omega)]; exact zl0 i (by omega) hi2
    · rw [if_neg (show ¬ (sg b len p = some 114 ∧ s.rn < 5) from c0)]
      have k1 := kg n1 c0
      have e : fX7_readClause_52 La (oI (sg b len p)) (st g p) = fX7_readClause_100 La (oI (sg b len p)) (st g p) := by
        unfold fX7_readClause_52
        by_cases c1 : sg b len p = some 114
        · have x5 : (5 : Int32) ≤ nI s.rn := by simp (disch := omega) only [l_0, l_1, l_2, l_3, l_4, l_5, l_6, l_7, l_8, l_9, l_10, l_11, l_12, l_13, l_14, l_15, l_16, l_17, l_18, l_19, l_20, l_21, l_22, l_23, l_24, l_25, l_26, l_28, l_29, l_30, l_31, l_32, l_33, l_34, l_36, l_37, l_38, l_39, l_40, l_41, l_42, l_43, l_44, l_45, l_46, l_47, l_48, l_49, l_50, l_53, l_54, l_57, l_58, l_59, l_60, l_61, l_62, l_63, l_91, l_93, l_97, l_98, l_99, l_100, l_103, l_104, l_110, l_112, l_114, l_115, l_116, l_119, l_120, l_121, l_124, l_128, l_231, l_240, l_241, l_255, l_496, l_999, l_1000, l_8191, l_9999, l_10000, l_100000, l_200000, l_1000000, l_1000000000, n_add, n_ok, n_cl, n_lt, n_le, n_eq, p_0, p_1, p_01]; have : ¬ s.rn < 5 := fun hh => c0 ⟨c1, hh⟩; omega
          have c1' : oI (sg b len p) = 114 := by rw [c1]; rfl
          rw [if_pos c1', st_n (by omega), z6, if_pos x5]
        · have c1' : ¬ oI (sg b len p) = 114 := by rw [show (114 : Int32) = nI 114 from rfl, e114]; exact c1
          rw [if_neg c1']
      rw [e]
      exact k1
  -- rules
  by_cases c0 : sg b len p = some 115 ∧ s.hr = false
  · obtain ⟨c1, c2⟩ := c0
    have hlp := (sg_lt c1).1
    have c1' : oI (sg b len p) = 115 := by rw [c1]; rfl
    rw [if_pos (show sg b len p = some 115 ∧ s.hr = false from ⟨c1, c2⟩), if_pos c1']
    rw [c2] at z5
    have z5 : g.1 2 5 = nI 0 := z5
    have z5' : (st g p).1 2 5 = 0 := by rw [st_n (by omega)]; exact z5
    rw [if_pos z5']
    have T1 : CT (gz_wa (st g (p + 1)) 2 (upd ((st g (p + 1)).1 2) 5 (nI 1))) b len (p + 1) := CT.fr (S := fun j => j = 2) (h.st (by omega)) (Fr.rf.wa rfl) (by omega) (by omega)
    have k1 := c_readItems (La := La) (w1 := 200) (w2 := 15) (o := 0) (t := tS) T1 tt_s (by decide) (Or.inl rfl) (show 0 + 4 ≤ 4 by omega)
    have F1 : Fr F7 g (gz_wa (st g (p + 1)) 2 (upd ((st g (p + 1)).1 2) 5 (nI 1))) := (st_fr Fr.rf (Or.inl rfl)).wa (Or.inr (Or.inl rfl))
    have k2 := k1.ck
    obtain ⟨g', G1, G2, G3, G4⟩ := k1
    have e : gz_let (gz_wi (st g p) 1 2 (((st g p).1 1 2) + 1)) (fun g31 => gz_let (gz_wi g31 2 5 1) (fun g36 => (fX7_readItems La  200 15 0 g36).bind (fun q48 => if q48.1 = 0 ∨ q48.1 = 1 then some (q48.1, q48.2) else none)))
        = fX7_readItems La 200 15 (nI 0) (gz_wa (st g (p + 1)) 2 (upd ((st g (p + 1)).1 2) 5 (nI 1))) := by
      rw [← k2]
      have ew : gz_wi (st g (p + 1)) 2 5 (nI 1) = gz_wa (st g (p + 1)) 2 (upd ((st g (p + 1)).1 2) 5 (nI 1)) := wi_wa _ _ _ _
      simp (disch := omega) only [l_0, l_1, l_2, l_3, l_4, l_5, l_6, l_7, l_8, l_9, l_10, l_11, l_12, l_13, l_14, l_15, l_16, l_17, l_18, l_19, l_20, l_21, l_22, l_23, l_24, l_25, l_26, l_28, l_29, l_30, l_31, l_32, l_33, l_34, l_36, l_37, l_38, l_39, l_40, l_41, l_42, l_43, l_44, l_45, l_46, l_47, l_48, l_49, l_50, l_53, l_54, l_57, l_58, l_59, l_60, l_61, l_62, l_63, l_91, l_93, l_97, l_98, l_99, l_100, l_103, l_104, l_110, l_112, l_114, l_115, l_116, l_119, l_120, l_121, l_124, l_128, l_231, l_240, l_241, l_255, l_496, l_999, l_1000, l_8191, l_9999, l_10000, l_100000, l_200000, l_1000000, l_1000000000, gz_let_eq, st_2, n_add, wi_st, st_st, ew]
      rfl
    rw [e]
    refine ⟨g', F1.tr (G1.mo (fun j hj => by omega)), ?_, fun hh => ?_, fun S hh => ?_⟩
    · obtain ⟨a', A1, A2⟩ := G2
      refine ⟨a', A1, fun hh => A2 (fun hn => hh ?_)⟩
      show Option.map _ _ = none
      rw [hn]; rfl
    · have hv : (pIt b len tS 4 0 (p + 1) (fun i => tS (i * 4 + 3))).2 = none := by
        cases hv : (pIt b len tS 4 0 (p + 1) (fun i => tS (i * 4 + 3))).2 with
        | none => rfl
        | some v => rw [hv] at hh; cases hh
      exact G3 hv
    · cases hv : (pIt b len tS 4 0 (p + 1) (fun i => tS (i * 4 + 3))).2 with
      | none => rw [hv] at hh; cases hh
      | some v =>
        rw [hv] at hh
        cases hh
        obtain ⟨G5, G6, G7⟩ := G4 v hv
        have q2 : g'.1 2 = upd (g.1 2) 5 (nI 1) := by rw [G1.1 2 (by omega), wa_at, st_n (by omega)]
        have q16 : g'.1 16 = g.1 16 := by rw [G1.1 16 (by omega), wa_ne (by omega), st_n (by omega)]
        have q17 : g'.1 17 = g.1 17 := by rw [G1.1 17 (by omega), wa_ne (by omega), st_n (by omega)]
        have q18 : g'.1 18 = g.1 18 := by rw [G1.1 18 (by omega), wa_ne (by omega), st_n (by omega)]
        refine ⟨G5, ?_⟩
        unfold CS7
        rw [q2, q16, q17, q18]
        refine ⟨rfl, ⟨z6, z6'⟩, ⟨z7, z7'⟩, fun i hi => ?_, zl, zl0, zk, zg⟩
        have := G6 i hi
        rw [Nat.zero_add] at this
        exact this
  · rw [if_neg (show ¬ (sg b len p = some 115 ∧ s.hr = false) from c0)]
    have k1 := kr c0
    have e : (if (oI (sg b len p), st g p).1 = 115 then if ((oI (sg b len p), st g p).2.1 2 5) = 0 then gz_let (gz_wi (oI (sg b len p), st g p).2 1 2 (((oI (sg b len p), st g p).2.1 1 2) + 1)) (fun g31 => gz_let (gz_wi g31 2 5 1) (fun g36 => (fX7_readItems La  200 15 0 g36).bind (fun q48 => if q48.1 = 0 ∨ q48.1 = 1 then some (q48.1, q48.2) else none))) else fX7_readClause_52 La     (oI (sg b len p), st g p).1 (oI (sg b len p), st g p).2 else fX7_readClause_52 La     (oI (sg b len p), st g p).1 (oI (sg b len p), st g p).2)
        = fX7_readClause_52 La (oI (sg b len p)) (st g p) := by
      by_cases c1 : sg b len p = some 115
      · have c1' : oI (sg b len p) = 115 := by rw [c1]; rfl
        have hr : s.hr = true := by cases hr : s.hr with
          | true => rfl
          | false => exact absurd ⟨c1, hr⟩ c0
        have z5' : ¬ (st g p).1 2 5 = 0 := by rw [st_n (by omega), z5, hr]; decide
        exact (if_pos c1').trans (if_neg z5')
      · have c1' : ¬ oI (sg b len p) = 115 := by rw [show (115 : Int32) = nI 115 from rfl, e115]; exact c1
        exact if_neg c1'
    rw [e]
    exact k1
theorem c_agrees7 (hS : CS7 g s) : fX7_agrees La g = some (pI (sAgr s), g) := by
  obtain ⟨z5, ⟨z6, z6'⟩, ⟨z7, z7'⟩, zr, zl, zl0, zk, zg⟩ := hS
  have r0 := zr 0 (by omega)
  have r1 := zr 1 (by omega)
  unfold fX7_agrees
  by_cases c1 : s.gn < 1
  · have k1 : (g.1 2 7) < 1 := by rw [z7]; simp (disch := omega) only [l_0, l_1, l_2, l_3, l_4, l_5, l_6, l_7, l_8, l_9, l_10, l_11, l_12, l_13, l_14, l_15, l_16, l_17, l_18, l_19, l_20, l_21, l_22, l_23, l_24, l_25, l_26, l_28, l_29, l_30, l_31, l_32, l_33, l_34, l_36, l_37, l_38, l_39, l_40, l_41, l_42, l_43, l_44, l_45, l_46, l_47, l_48, l_49, l_50, l_53, l_54, l_57, l_58, l_59, l_60, l_61, l_62, l_63, l_91, l_93, l_97, l_98, l_99, l_100, l_103, l_104, l_110, l_112, l_114, l_115, l_116, l_119, l_120, l_121, l_124, l_128, l_231, l_240, l_241, l_255, l_496, l_999, l_1000, l_8191, l_9999, l_10000, l_100000, l_200000, l_1000000, l_1000000000, n_add, n_ok, n_cl, n_lt, n_le, n_eq, p_0, p_1, p_01]; omega
    rw [if_pos k1]
    exact p_f (fun hh => by have := hh.1; omega)
  have k1 : ¬ (g.1 2 7) < 1 := by rw [z7]; simp (disch := omega) only [l_0, l_1, l_2, l_3, l_4, l_5, l_6, l_7, l_8, l_9, l_10, l_11, l_12, l_13, l_14, l_15, l_16, l_17, l_18, l_19, l_20, l_21, l_22, l_23, l_24, l_25, l_26, l_28, l_29, l_30, l_31, l_32, l_33, l_34, l_36, l_37, l_38, l_39, l_40, l_41, l_42, l_43, l_44, l_45, l_46, l_47, l_48, l_49, l_50, l_53, l_54, l_57, l_58, l_59, l_60, l_61, l_62, l_63, l_91, l_93, l_97, l_98, l_99, l_100, l_103, l_104, l_110, l_112, l_114, l_115, l_116, l_119, l_120, l_121, l_124, l_128, l_231, l_240, l_241, l_255, l_496, l_999, l_1000, l_8191, l_9999, l_10000, l_100000, l_200000, l_1000000, l_1000000000, n_add, n_ok, n_cl, n_lt, n_le, n_eq, p_0, p_1, p_01]; omega
  rw [if_neg k1]
  by_cases c2 : s.rn ≤ s.ru 1
  · have k2 : (g.1 2 6) ≤ g.1 15 1 := by rw [z6, r1.1]; simp (disch := omega) only [l_0, l_1, l_2, l_3, l_4, l_5, l_6, l_7, l_8, l_9, l_10, l_11, l_12, l_13, l_14, l_15, l_16, l_17, l_18, l_19, l_20, l_21, l_22, l_23, l_24, l_25, l_26, l_28, l_29, l_30, l_31, l_32, l_33, l_34, l_36, l_37, l_38, l_39, l_40, l_41, l_42, l_43, l_44, l_45, l_46, l_47, l_48, l_49, l_50, l_53, l_54, l_57, l_58, l_59, l_60, l_61, l_62, l_63, l_91, l_93, l_97, l_98, l_99, l_100, l_103, l_104, l_110, l_112, l_114, l_115, l_116, l_119, l_120, l_121, l_124, l_128, l_231, l_240, l_241, l_255, l_496, l_999, l_1000, l_8191, l_9999, l_10000, l_100000, l_200000, l_1000000, l_1000000000, n_add, n_ok, n_cl, n_lt, n_le, n_eq, p_0, p_1, p_01]; omega
    rw [if_pos k2]
    refine lp (fun f i g1 => fX7_agrees_25 La (fun g => fX7_agrees_58 La gz_FU 0 g) f (nI i) g1) (fun i g1 => g1 = g ∧ ∀ i', i' < i → s.rl i' ≤ s.ru 0) s.rn
      (fun r => r = some (pI (sAgr s), g)) ?_ ?_ gz_FU 0 g (by omega) (by unfold gz_FU; omega) ⟨rfl, fun i' hi' => absurd hi' (Nat.not_lt_zero _)⟩
    · rintro f i g1 hi ⟨rfl, h1⟩
      have l1 := zl i hi
      have hn : ¬ s.rn ≤ i := by omega
      show (fX7_agrees_25 La (fun g => fX7_agrees_58 La gz_FU 0 g) (f + 1) (nI i) g1 = _) ∨ ∃ g', fX7_agrees_25 La (fun g => fX7_agrees_58 La gz_FU 0 g) (f + 1) (nI i) g1 = _ ∧ _
      rw [fX7_agrees_25]
      by_cases cl : s.rl i ≤ s.ru 0
      · refine Or.inr ⟨g1, ?_, rfl, fun i' hi' => ?_⟩
        · simp (disch := omega) only [l_0, l_1, l_2, l_3, l_4, l_5, l_6, l_7, l_8, l_9, l_10, l_11, l_12, l_13, l_14, l_15, l_16, l_17, l_18, l_19, l_20, l_21, l_22, l_23, l_24, l_25, l_26, l_28, l_29, l_30, l_31, l_32, l_33, l_34, l_36, l_37, l_38, l_39, l_40, l_41, l_42, l_43, l_44, l_45, l_46, l_47, l_48, l_49, l_50, l_53, l_54, l_57, l_58, l_59, l_60, l_61, l_62, l_63, l_91, l_93, l_97, l_98, l_99, l_100, l_103, l_104, l_110, l_112, l_114, l_115, l_116, l_119, l_120, l_121, l_124, l_128, l_231, l_240, l_241, l_255, l_496, l_999, l_1000, l_8191, l_9999, l_10000, l_100000, l_200000, l_1000000, l_1000000000, gz_let_eq, z6, n_add, n_ok, n_cl, n_le, ↓reduceIte, hn, l1.1, r0.1, cl]
        · by_cases hh : i' = i
          · rw [hh]; exact cl
          · exact h1 i' (by omega)
      · refine Or.inl ?_
        simp (disch := omega) only [l_0, l_1, l_2, l_3, l_4, l_5, l_6, l_7, l_8, l_9, l_10, l_11, l_12, l_13, l_14, l_15, l_16, l_17, l_18, l_19, l_20, l_21, l_22, l_23, l_24, l_25, l_26, l_28, l_29, l_30, l_31, l_32, l_33, l_34, l_36, l_37, l_38, l_39, l_40, l_41, l_42, l_43, l_44, l_45, l_46, l_47, l_48, l_49, l_50, l_53, l_54, l_57, l_58, l_59, l_60, l_61, l_62, l_63, l_91, l_93, l_97, l_98, l_99, l_100, l_103, l_104, l_110, l_112, l_114, l_115, l_116, l_119, l_120, l_121, l_124, l_128, l_231, l_240, l_241, l_255, l_496, l_999, l_1000, l_8191, l_9999, l_10000, l_100000, l_200000, l_1000000, l_1000000000, gz_let_eq, z6, n_add, n_ok, n_cl, n_le, ↓reduceIte, hn, l1.1, r0.1, cl]
        exact p_f (fun hh => cl (hh.2.2.1 i hi))
    · rintro f g1 ⟨rfl, h1⟩
      show fX7_agrees_25 La (fun g => fX7_agrees_58 La gz_FU 0 g) (f + 1) (nI s.rn) g1 = _
      rw [fX7_agrees_25]
      have k3 : (g1.1 2 6) ≤ nI s.rn := by rw [z6]; simp (disch := omega) only [l_0, l_1, l_2, l_3, l_4, l_5, l_6, l_7, l_8, l_9, l_10, l_11, l_12, l_13, l_14, l_15, l_16, l_17, l_18, l_19, l_20, l_21, l_22, l_23, l_24, l_25, l_26, l_28, l_29, l_30, l_31, l_32, l_33, l_34, l_36, l_37, l_38, l_39, l_40, l_41, l_42, l_43, l_44, l_45, l_46, l_47, l_48, l_49, l_50, l_53, l_54, l_57, l_58, l_59, l_60, l_61, l_62, l_63, l_91, l_93, l_97, l_98, l_99, l_100, l_103, l_104, l_110, l_112, l_114, l_115, l_116, l_119, l_120, l_121, l_124, l_128, l_231, l_240, l_241, l_255, l_496, l_999, l_1000, l_8191, l_9999, l_10000, l_100000, l_200000, l_1000000, l_1000000000, n_add, n_ok, n_cl, n_lt, n_le, n_eq, p_0, p_1, p_01]; omega
      rw [if_pos k3]
      refine lp (fun f i g2 => fX7_agrees_58 La f (nI i) g2) (fun i g2 => g2 = g1 ∧ ∀ i', i' < i → s.go (i' * 4) < s.ru 0 ∧ s.go (i' * 4 + 1) < s.ru 1) s.gn
        (fun r => r = some (pI (sAgr s), g1)) ?_ ?_ gz_FU 0 g1 (by omega) (by unfold gz_FU; omega) ⟨rfl, fun i' hi' => absurd hi' (Nat.not_lt_zero _)⟩
      · rintro f i g2 hi ⟨rfl, h2⟩
        have l1 := zg (i * 4) (by omega)
        have l2 := zg (i * 4 + 1) (by omega)
        have hn : ¬ s.gn ≤ i := by omega
        show (fX7_agrees_58 La (f + 1) (nI i) g2 = _) ∨ ∃ g', fX7_agrees_58 La (f + 1) (nI i) g2 = _ ∧ _
        rw [fX7_agrees_58]
        by_cases ca : s.go (i * 4) < s.ru 0
        · have na : ¬ s.ru 0 ≤ s.go (i * 4) := by omega
          by_cases cb : s.go (i * 4 + 1) < s.ru 1
          · refine Or.inr ⟨g2, ?_, rfl, fun i' hi' => ?_⟩
            · simp (disch := omega) only [l_0, l_1, l_2, l_3, l_4, l_5, l_6, l_7, l_8, l_9, l_10, l_11, l_12, l_13, l_14, l_15, l_16, l_17, l_18, l_19, l_20, l_21, l_22, l_23, l_24, l_25, l_26, l_28, l_29, l_30, l_31, l_32, l_33, l_34, l_36, l_37, l_38, l_39, l_40, l_41, l_42, l_43, l_44, l_45, l_46, l_47, l_48, l_49, l_50, l_53, l_54, l_57, l_58, l_59, l_60, l_61, l_62, l_63, l_91, l_93, l_97, l_98, l_99, l_100, l_103, l_104, l_110, l_112, l_114, l_115, l_116, l_119, l_120, l_121, l_124, l_128, l_231, l_240, l_241, l_255, l_496, l_999, l_1000, l_8191, l_9999, l_10000, l_100000, l_200000, l_1000000, l_1000000000, gz_let_eq, z7, n_mul, n_add, n_ok, n_cl, n_le, n_lt, ↓reduceIte, hn, l1.1, l2.1, r0.1, r1.1, na, cb]
            · by_cases hh : i' = i
              · rw [hh]; exact ⟨ca, cb⟩
              · exact h2 i' (by omega)
          · refine Or.inl ?_
            simp (disch := omega) only [l_0, l_1, l_2, l_3, l_4, l_5, l_6, l_7, l_8, l_9, l_10, l_11, l_12, l_13, l_14, l_15, l_16, l_17, l_18, l_19, l_20, l_21, l_22, l_23, l_24, l_25, l_26, l_28, l_29, l_30, l_31, l_32, l_33, l_34, l_36, l_37, l_38, l_39, l_40, l_41, l_42, l_43, l_44, l_45, l_46, l_47, l_48, l_49, l_50, l_53, l_54, l_57, l_58, l_59, l_60, l_61, l_62, l_63, l_91, l_93, l_97, l_98, l_99, l_100, l_103, l_104, l_110, l_112, l_114, l_115, l_116, l_119, l_120, l_121, l_124, l_128, l_231, l_240, l_241, l_255, l_496, l_999, l_1000, l_8191, l_9999, l_10000, l_100000, l_200000, l_1000000, l_1000000000, gz_let_eq, z7, n_mul, n_add, n_ok, n_cl, n_le, n_lt, ↓reduceIte, hn, l1.1, l2.1, r0.1, r1.1, na, cb]
            exact p_f (fun hh => cb (hh.2.2.2 i hi).2)
        · have na : s.ru 0 ≤ s.go (i * 4) := by omega
          refine Or.inl ?_
          simp (disch := omega) only [l_0, l_1, l_2, l_3, l_4, l_5, l_6, l_7, l_8, l_9, l_10, l_11, l_12, l_13, l_14, l_15, l_16, l_17, l_18, l_19, l_20, l_21, l_22, l_23, l_24, l_25, l_26, l_28, l_29, l_30, l_31, l_32, l_33, l_34, l_36, l_37, l_38, l_39, l_40, l_41, l_42, l_43, l_44, l_45, l_46, l_47, l_48, l_49, l_50, l_53, l_54, l_57, l_58, l_59, l_60, l_61, l_62, l_63, l_91, l_93, l_97, l_98, l_99, l_100, l_103, l_104, l_110, l_112, l_114, l_115, l_116, l_119, l_120, l_121, l_124, l_128, l_231, l_240, l_241, l_255, l_496, l_999, l_1000, l_8191, l_9999, l_10000, l_100000, l_200000, l_1000000, l_1000000000, gz_let_eq, z7, n_mul, n_add, n_ok, n_cl, n_le, n_lt, ↓reduceIte, hn, l1.1, l2.1, r0.1, r1.1, na]
          exact p_f (fun hh => ca (hh.2.2.2 i hi).1)
      · rintro f g2 ⟨rfl, h2⟩
        show fX7_agrees_58 La (f + 1) (nI s.gn) g2 = _
        rw [fX7_agrees_58]
        have k3 : (g2.1 2 7) ≤ nI s.gn := by rw [z7]; simp (disch := omega) only [l_0, l_1, l_2, l_3, l_4, l_5, l_6, l_7, l_8, l_9, l_10, l_11, l_12, l_13, l_14, l_15, l_16, l_17, l_18, l_19, l_20, l_21, l_22, l_23, l_24, l_25, l_26, l_28, l_29, l_30, l_31, l_32, l_33, l_34, l_36, l_37, l_38, l_39, l_40, l_41, l_42, l_43, l_44, l_45, l_46, l_47, l_48, l_49, l_50, l_53, l_54, l_57, l_58, l_59, l_60, l_61, l_62, l_63, l_91, l_93, l_97, l_98, l_99, l_100, l_103, l_104, l_110, l_112, l_114, l_115, l_116, l_119, l_120, l_121, l_124, l_128, l_231, l_240, l_241, l_255, l_496, l_999, l_1000, l_8191, l_9999, l_10000, l_100000, l_200000, l_1000000, l_1000000000, n_add, n_ok, n_cl, n_lt, n_le, n_eq, p_0, p_1, p_01]; omega
        rw [if_pos k3]
        exact p_t ⟨by omega, c2, h1, h2⟩
  · have k2 : ¬ (g.1 2 6) ≤ g.1 15 1 := by rw [z6, r1.1]; simp (disch := omega) only [l_0, l_1, l_2, l_3, l_4, l_5, l_6, l_7, l_8, l_9, l_10, l_11, l_12, l_13, l_14, l_15, l_16, l_17, l_18, l_19, l_20, l_21, l_22, l_23, l_24, l_25, l_26, l_28, l_29, l_30, l_31, l_32, l_33, l_34, l_36, l_37, l_38, l_39, l_40, l_41, l_42, l_43, l_44, l_45, l_46, l_47, l_48, l_49, l_50, l_53, l_54, l_57, l_58, l_59, l_60, l_61, l_62, l_63, l_91, l_93, l_97, l_98, l_99, l_100, l_103, l_104, l_110, l_112, l_114, l_115, l_116, l_119, l_120, l_121, l_124, l_128, l_231, l_240, l_241, l_255, l_496, l_999, l_1000, l_8191, l_9999, l_10000, l_100000, l_200000, l_1000000, l_1000000000, n_add, n_ok, n_cl, n_lt, n_le, n_eq, p_0, p_1, p_01]; omega
    rw [if_neg k2]
    exact p_f (fun hh => c2 hh.2.1)
end C7
