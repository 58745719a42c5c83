/-! rows and clauses of shores, class ShoreReader -/
def pRow (b : Nat → Nat) (len o : Nat) : Nat → Nat → Nat → (Nat → Nat) → Nat × Option (Nat × (Nat → Nat))
  | 0, j, p, K => (p, some (j, K))
  | n + 1, j, p, K => if dg b len (nx b len p) then (if b (nx b len p) - 48 ≤ 3 then pRow b len o n (j + 1) (nx b len p + 1) (uN K (o + j) (b (nx b len p) - 48)) else (nx b len p, none)) else (nx b len p, some (j, K))
abbrev SH : Type := Bool × (Nat → Nat) × Nat × (Nat → Nat) × (Nat → Nat) × Nat × (Nat → Nat)
abbrev SH.hr (s : SH) : Bool := s.1
abbrev SH.ru (s : SH) : Nat → Nat := s.2.1
abbrev SH.rn (s : SH) : Nat := s.2.2.1
abbrev SH.rl (s : SH) : Nat → Nat := s.2.2.2.1
abbrev SH.rk (s : SH) : Nat → Nat := s.2.2.2.2.1
abbrev SH.gn (s : SH) : Nat := s.2.2.2.2.2.1
abbrev SH.go (s : SH) : Nat → Nat := s.2.2.2.2.2.2
def pCl (b : Nat → Nat) (len : Nat) (s : SH) (p : Nat) : Nat × Option SH :=
  if sg b len (nx b len p) = some 115 ∧ s.hr = false then ((pIt b len tS 4 0 (nx b len p + 1) (fun i => tS (i * 4 + 3))).1, (pIt b len tS 4 0 (nx b len p + 1) (fun i => tS (i * 4 + 3))).2.map (fun v => (true, v, s.2.2)))
  else if sg b len (nx b len p) = some 114 ∧ s.rn < 5 then ((pRow b len (s.rn * 6) 6 0 (nx b len p + 1) s.rk).1, (pRow b len (s.rn * 6) 6 0 (nx b len p + 1) s.rk).2.map (fun r => (s.hr, s.ru, s.rn + 1, uN s.rl s.rn r.1, r.2, s.gn, s.go)))
  else if sg b len (nx b len p) = some 103 ∧ s.gn < 4 then ((pIt b len tG 4 0 (nx b len p + 1) (fun i => tG (i * 4 + 3))).1, (pIt b len tG 4 0 (nx b len p + 1) (fun i => tG (i * 4 + 3))).2.map (fun v => (s.hr, s.ru, s.rn, s.rl, s.rk, s.gn + 1, fun j => if j / 4 = s.gn then v (j % 4) else s.go j)))
  else (nx b len p, none)
abbrev F7 (j : Nat) : Prop := j = 1 ∨ j = 2 ∨ j = 15 ∨ j = 16 ∨ j = 17 ∨ j = 18
def CS7 (g : gz_S) (s : SH) : Prop := g.1 2 5 = nI (if s.hr then 1 else 0) ∧ (g.1 2 6 = nI s.rn ∧ s.rn ≤ 5) ∧ (g.1 2 7 = nI s.gn ∧ s.gn ≤ 4) ∧ (∀ i, i < 4 → g.1 15 i = nI (s.ru i) ∧ s.ru i ≤ 99) ∧
  (∀ i, i < s.rn → g.1 18 i = nI (s.rl i) ∧ s.rl i ≤ 6) ∧ (∀ i, s.rn ≤ i → i < 5 → g.1 18 i = nI 0) ∧ (∀ j, j < 30 → g.1 17 j = nI (s.rk j) ∧ s.rk j ≤ 3) ∧ ∀ j, j < 4 * s.gn → g.1 16 j = nI (s.go j) ∧ s.go j ≤ 99
theorem CS7.fr {g g' : gz_S} {s : SH} {S : Nat → Prop} (h : CS7 g s) (hF : Fr S g g') (h2 : ¬ S 2) (h15 : ¬ S 15) (h16 : ¬ S 16) (h17 : ¬ S 17) (h18 : ¬ S 18) : CS7 g' s := by
  unfold CS7; rw [hF.1 2 h2, hF.1 15 h15, hF.1 16 h16, hF.1 17 h17, hF.1 18 h18]; exact h
def RdH (r : Option (Int32 × gz_S)) (g : gz_S) (b : Nat → Nat) (len : Nat) (s : Nat × Option SH) : Prop :=
  ∃ g', Fr F7 g g' ∧ (∃ a, CT g' b len a ∧ (s.2 ≠ none → nx b len a = nx b len s.1)) ∧ (s.2 = none → r = some (nI 0, g') ∧ g'.1 1 3 = nI s.1) ∧ ∀ S, s.2 = some S → r = some (nI 1, g') ∧ CS7 g' S
section C7
variable {La : gz_L} {g : gz_S} {b : Nat → Nat} {len a : Nat}
theorem c_nextDigit (h : CT g b len a) : fX9_nextDigit La g = some (if dg b len (nx b len a) then nI (b (nx b len a) - 48) else -nI 1, st g (nx b len a)) := by
  have hx := nx_le (b := b) h.2.2.1
  unfold fX9_nextDigit
  rw [c_next h, Option.bind_some, c_digitHere (h.st hx.2), Option.bind_some]
theorem c_readItems {w1 w2 o : Nat} {t : Nat → Nat} (h : CT g b len a) (ht : TtW w1 t) (hd : ∀ i, i < 4 → t (i * 4 + 3) ≤ 99) (hw : w2 = 15 ∨ w2 = 16) (ho : o + 4 ≤ gz_ln w2) :
    RdI (fX7_readItems La w1 w2 (nI o) g) g b len w2 o (pIt b len t 4 0 a (fun i => t (i * 4 + 3))) := by
  have hl16 : gz_ln w2 ≤ 16 := by rcases hw with rfl | rfl <;> decide
  unfold fX7_readItems
  refine lp (fun f i g1 => fX7_readItems_3 La w1 w2 (fun (x3 : Int32) g => fX7_readItems_35 La  w1 w2 (fX7_readItems_70 La  w1 w2  ) (fX7_readItems_146 La  w1 w2  ) gz_FU x3 0 0 g) f (nI o) (nI i) g1)
    (fun i g1 => Fr (fun j => j = w2) g g1 ∧ (∀ i', i' < i → g1.1 w2 (o + i') = nI (t (i' * 4 + 3))) ∧ ∀ j, ¬ (o ≤ j ∧ j < o + 4) → g1.1 w2 j = g.1 w2 j) 4
    (fun r => RdI r g b len w2 o (pIt b len t 4 0 a (fun i => t (i * 4 + 3)))) ?_ ?_ gz_FU 0 g (by omega) (by unfold gz_FU; omega) ⟨Fr.rf, fun i' hi' => absurd hi' (Nat.not_lt_zero _), fun _ _ => rfl⟩
  · intro f i g1 hi h1
    refine Or.inr ⟨gz_wa g1 w2 (upd (g1.1 w2) (o + i) (nI (t (i * 4 + 3)))), ?_, h1.1.wa rfl, fun i' hi' => ?_, fun j hj => ?_⟩
    · have t1 := (ht (i * 4 + 3) (by omega)).1
      show fX7_readItems_3 La w1 w2 _ (f + 1) (nI o) (nI i) g1 = _
      rw [fX7_readItems_3]
      simp (disch := omega) only [l_0, l_1, l_2, l_3, l_4, l_5, l_6, l_7, l_8, l_9, l_10, l_11, l_12, l_13, l_14, l_15, l_16, l_17, l_18, l_19, l_20, l_21, l_22, l_23, l_24, l_25, l_26, l_28, l_29, l_30, l_31, l_32, l_33, l_34, l_36, l_37, l_38, l_39, l_40, l_41, l_42, l_43, l_44, l_45, l_46, l_47, l_48, l_49, l_50, l_53, l_54, l_57, l_58, l_59, l_60, l_61, l_62, l_63, l_91, l_93, l_97, l_98, l_99, l_100, l_103, l_104, l_110, l_112, l_114, l_115, l_116, l_119, l_120, l_121, l_124, l_128, l_231, l_240, l_241, l_255, l_496, l_999, l_1000, l_8191, l_9999, l_10000, l_100000, l_200000, l_1000000, l_1000000000, gz_let_eq, n_mul, n_add, n_ok, n_cl, n_le, t1, wi_wa, ↓reduceIte, show ¬ 4 ≤ i by omega]
    · rw [wa_at]; unfold upd
      by_cases hh : i' = i
      · rw [if_pos (by omega), hh]
      · rw [if_neg (by omega)]; exact h1.2.1 i' (by omega)
    · rw [wa_at]; unfold upd
      rw [if_neg (by omega)]; exact h1.2.2 j hj
  · intro f g1 h1
    have T1 : CT g1 b len a := h.fr h1.1 (by omega) (by omega)
    obtain ⟨g', G1, G2, G3, G4⟩ := c_items (La := La) ht hw ho 4 0 a (fun i => t (i * 4 + 3)) g1 gz_FU (by omega) (by omega) T1 (fun i hi => ⟨h1.2.1 i hi, hd i hi⟩) (by unfold gz_FU; omega)
    have e : fX7_readItems_3 La w1 w2 (fun (x3 : Int32) g => fX7_readItems_35 La  w1 w2 (fX7_readItems_70 La  w1 w2  ) (fX7_readItems_146 La  w1 w2  ) gz_FU x3 0 0 g) (f + 1) (nI o) (nI 4) g1 = fX7_readItems_35 La  w1 w2 (fX7_readItems_70 La  w1 w2  ) (fX7_readItems_146 La  w1 w2  ) gz_FU (nI o) (nI 0) (nI (4 - 4)) g1 := by
      rw [fX7_readItems_3]
      exact if_pos (by decide)
    refine ⟨g', (h1.1.mo (fun j hj => Or.inr hj)).tr G1, G2, fun hh => ?_, fun v hv => ?_⟩
    · rw [e]; exact G3 hh
    · rw [e]
      obtain ⟨G5, G6, G7⟩ := G4 v hv
      exact ⟨G5, G6, fun j hj => by rw [G7 j hj]; exact h1.2.2 j hj⟩
/-- digits of a row -/
theorem c_row {r : Nat} {K0 : gz_S → Option (Int32 × gz_S)} (hK : ∀ g p, CT g b len p → K0 g = some (nI 0, gz_wa g 1 (upd (g.1 1) 3 (nI p)))) (hr : r < 5) : ∀ n j a K g f, n + j = 6 → CT g b len a → (∀ c, c < 30 → g.1 17 c = nI (K c) ∧ K c ≤ 3) → g.1 18 r = nI j → n < f →
    ∃ g', Fr (fun j => j = 1 ∨ j = 17 ∨ j = 18) g g' ∧ (∃ a', CT g' b len a' ∧ ((pRow b len (r * 6) n j a K).2 ≠ none → nx b len a' = nx b len (pRow b len (r * 6) n j a K).1)) ∧
      ((pRow b len (r * 6) n j a K).2 = none → fX7_readRow_2 La K0 f (nI r) (nI j) g = some (nI 0, g') ∧ g'.1 1 3 = nI (pRow b len (r * 6) n j a K).1) ∧
      ∀ R, (pRow b len (r * 6) n j a K).2 = some R → fX7_readRow_2 La K0 f (nI r) (nI j) g = some (nI 1, g') ∧ (∀ c, c < 30 → g'.1 17 c = nI (R.2 c) ∧ R.2 c ≤ 3) ∧ g'.1 18 r = nI R.1 ∧ R.1 ≤ 6 ∧ ∀ i, i ≠ r → g'.1 18 i = g.1 18 i := by
  intro n
  induction n with
  | zero =>
    intro j a K g f hn h hK1 h18 hf
    obtain ⟨f', rfl⟩ : ∃ f', f = f' + 1 := ⟨f - 1, by omega⟩
    have hj : j = 6 := by omega
    subst hj
    refine ⟨g, Fr.rf, ⟨a, h, fun _ => rfl⟩, fun hh => (by cases hh), fun R hR => ?_⟩
    cases hR
    refine ⟨?_, hK1, h18, Nat.le_refl _, fun _ _ => rfl⟩
    rw [fX7_readRow_2]
    exact if_pos (by decide)
  | succ n ih =>
    intro j a K g f hn h hK1 h18 hf
    obtain ⟨f', rfl⟩ : ∃ f', f = f' + 1 := ⟨f - 1, by omega⟩
    have h4 := h.2.2.2.1
    have hx := nx_le (b := b) h.2.2.1
    have hnd := c_nextDigit (La := La) h
    have e : pRow b len (r * 6) (n + 1) j a K = if dg b len (nx b len a) then (if b (nx b len a) - 48 ≤ 3 then pRow b len (r * 6) n (j + 1) (nx b len a + 1) (uN K (r * 6 + j) (b (nx b len a) - 48)) else (nx b len a, none)) else (nx b len a, some (j, K)) := rfl
    have hnn : nx b len (nx b len a) = nx b len a := nx_nx
    rw [e, fX7_readRow_2]
    generalize nx b len a = p at *
    have hst : CT (st g p) b len p := h.st hx.2
    have F0 : Fr (fun j => j = 1 ∨ j = 17 ∨ j = 18) g (st g p) := st_fr Fr.rf (Or.inl rfl)
    have k6 : ¬ 6 ≤ j := by omega
    by_cases hd : dg b len p
    · have hb := (h.2.2.2.2 p hd.1).2
      rw [if_pos hd] at hnd ⊢
      by_cases c3 : b p - 48 ≤ 3
      · rw [if_pos c3]
        have hb1 : ∀ c, c < 30 → (uN K (r * 6 + j) (b p - 48)) c ≤ 3 := fun c hc => by unfold uN; split <;> first | omega | exact (hK1 c hc).2
        have T3 : CT (gz_wa (gz_wa (st g (p + 1)) 17 (upd ((st g (p + 1)).1 17) (r * 6 + j) (nI (b p - 48)))) 18 (upd ((gz_wa (st g (p + 1)) 17 (upd ((st g (p + 1)).1 17) (r * 6 + j) (nI (b p - 48)))).1 18) r (nI (j + 1)))) b len (p + 1) :=
          CT.fr (S := fun j => j = 17 ∨ j = 18) (h.st (by omega)) ((Fr.rf.wa (Or.inl rfl)).wa (Or.inr rfl)) (by omega) (by omega)
        obtain ⟨g', G1, G2, G3, G4⟩ := ih (j + 1) (p + 1) (uN K (r * 6 + j) (b p - 48)) _ f' (by omega) T3 (fun c hc => ⟨by
          rw [wa_ne (by omega), wa_at, st_n (by omega)]
          unfold upd uN
          by_cases hh : c = r * 6 + j
          · rw [if_pos hh, if_pos hh]
          · rw [if_neg hh, if_neg hh]; exact (hK1 c hc).1, hb1 c hc⟩) (by rw [wa_at]; exact if_pos rfl) (by omega)
        have ex : ∀ q, q = fX7_readRow_2 La K0 f' (nI r) (nI (j + 1)) (gz_wa (gz_wa (st g (p + 1)) 17 (upd ((st g (p + 1)).1 17) (r * 6 + j) (nI (b p - 48)))) 18 (upd ((gz_wa (st g (p + 1)) 17 (upd ((st g (p + 1)).1 17) (r * 6 + j) (nI (b p - 48)))).1 18) r (nI (j + 1)))) →
          (if (6 : Int32) ≤ nI j then some (1, g) else (fX9_nextDigit La g).bind (fun q12 => if q12.1 = (-1) then some (1, q12.2) else if q12.1 ≤ 3 then gz_let (gz_wi q12.2 1 2 ((q12.2.1 1 2) + 1)) (fun g53 => if gz_ok ((nI r * 6) + nI j) 30 then gz_let (gz_wi g53 17 (Int32.toNatClampNeg ((nI r * 6) + nI j)) q12.1) (fun g67 => if gz_ok (nI r) 5 then gz_let (gz_wi g67 18 (Int32.toNatClampNeg (nI r)) (nI j + 1)) (fun g76 => gz_let (nI j + 1) (fun y77 => fX7_readRow_2 La K0 f' (nI r) y77 g76)) else none) else none) else K0 q12.2)) = q := by
          rintro q rfl
          rw [hnd]
          simp (disch := omega) only [l_0, l_1, l_2, l_3, l_4, l_5, l_6, l_7, l_8, l_9, l_10, l_11, l_12, l_13, l_14, l_15, l_16, l_17, l_18, l_19, l_20, l_21, l_22, l_23, l_24, l_25, l_26, l_28, l_29, l_30, l_31, l_32, l_33, l_34, l_36, l_37, l_38, l_39, l_40, l_41, l_42, l_43, l_44, l_45, l_46, l_47, l_48, l_49, l_50, l_53, l_54, l_57, l_58, l_59, l_60, l_61, l_62, l_63, l_91, l_93, l_97, l_98, l_99, l_100, l_103, l_104, l_110, l_112, l_114, l_115, l_116, l_119, l_120, l_121, l_124, l_128, l_231, l_240, l_241, l_255, l_496, l_999, l_1000, l_8191, l_9999, l_10000, l_100000, l_200000, l_1000000, l_1000000000, ↓reduceIte, gz_let_eq, Option.bind_some, st_2, n_mul, n_add, n_ok, n_cl, n_le, m_eq, wi_st, st_st, k6, c3]
          simp only [wi_wa]
        rw [ex _ rfl]
        refine ⟨g', ((st_fr (g := g) (g' := g) (p := p + 1) Fr.rf (Or.inl rfl)).wa (Or.inr (Or.inl rfl)) |>.wa (Or.inr (Or.inr rfl))).tr G1, G2, G3, fun R hR => ?_⟩
        obtain ⟨G5, G6, G7, G8, G9⟩ := G4 R hR
        refine ⟨G5, G6, G7, G8, fun i hi => ?_⟩
        rw [G9 i hi, wa_at]
        unfold upd
        rw [if_neg hi, wa_ne (by omega), st_n (by omega)]
      · rw [if_neg c3]
        refine ⟨gz_wa (st g p) 1 (upd ((st g p).1 1) 3 (nI p)), F0.wa (Or.inl rfl), ⟨p, hst.wf (by omega), fun hh => absurd rfl hh⟩, fun _ => ⟨?_, by rw [wa_at]; rfl⟩, fun R hR => (by cases hR)⟩
        rw [hnd]
        simp (disch := omega) only [l_0, l_1, l_2, l_3, l_4, l_5, l_6, l_7, l_8, l_9, l_10, l_11, l_12, l_13, l_14, l_15, l_16, l_17, l_18, l_19, l_20, l_21, l_22, l_23, l_24, l_25, l_26, l_28, l_29, l_30, l_31, l_32, l_33, l_34, l_36, l_37, l_38, l_39, l_40, l_41, l_42, l_43, l_44, l_45, l_46, l_47, l_48, l_49, l_50, l_53, l_54, l_57, l_58, l_59, l_60, l_61, l_62, l_63, l_91, l_93, l_97, l_98, l_99, l_100, l_103, l_104, l_110, l_112, l_114, l_115, l_116, l_119, l_120, l_121, l_124, l_128, l_231, l_240, l_241, l_255, l_496, l_999, l_1000, l_8191, l_9999, l_10000, l_100000, l_200000, l_1000000, l_1000000000, ↓reduceIte, Option.bind_some, n_le, m_eq, k6, c3, hK _ _ hst]
    · rw [if_neg hd] at hnd ⊢
      refine ⟨st g p, F0, ⟨p, hst, fun _ => rfl⟩, fun hh => (by cases hh), fun R hR => ?_⟩
      cases hR
      refine ⟨?_, fun c hc => by rw [st_n (by omega)]; exact hK1 c hc, by rw [st_n (by omega)]; exact h18, by show j ≤ 6; omega, fun i _ => by rw [st_n (by omega)]⟩
      rw [hnd]
      simp (disch := omega) only [l_0, l_1, l_2, l_3, l_4, l_5, l_6, l_7, l_8, l_9, l_10, l_11, l_12, l_13, l_14, l_15, l_16, l_17, l_18, l_19, l_20, l_21, l_22, l_23, l_24, l_25, l_26, l_28, l_29, l_30, l_31, l_32, l_33, l_34, l_36, l_37, l_38, l_39, l_40, l_41, l_42, l_43, l_44, l_45, l_46, l_47, l_48, l_49, l_50, l_53, l_54, l_57, l_58, l_59, l_60, l_61, l_62, l_63, l_91, l_93, l_97, l_98, l_99, l_100, l_103, l_104, l_110, l_112, l_114, l_115, l_116, l_119, l_120, l_121, l_124, l_128, l_231, l_240, l_241, l_255, l_496, l_999, l_1000, l_8191, l_9999, l_10000, l_100000, l_200000, l_1000000, l_1000000000, ↓reduceIte, Option.bind_some, n_le, k6]
end C7
