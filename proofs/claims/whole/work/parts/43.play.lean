/-! the class's foresight: games, rests, odds -/
def sPl (V : Nat → Nat) (a b x y : Nat) : Nat → Nat := uN (uN V (34 + a) x) (34 + b) y
def sTrail (T : sT) (U : Nat → Nat) (i n : Nat) : Nat := it (fun k s => s ||| 2 ^ sHrs T U (k + 1) (30 + i)) n 0
def sLess (T : sT) (U : Nat → Nat) (a b n : Nat) : Nat := it (fun k s => if sTog (sHrs T U (k + 1)) a b then 3 else s) n 0
def sGain (T : sT) (V : Nat → Nat) (a b x y i : Nat) : Int32 :=
  nI (pc 32 (sTrail T (sPl V a b x y) i 6 ^^^ (sTrail T (sPl V a b x y) i 6 &&& 2 ^ V (30 + i)))) - nI (sLess T (sPl V a b x y) a b 6)
abbrev sRestP (G1 G2 : Nat → Int32) (x y : Nat) : Prop := ∀ k, k < 4 → ¬ G1 (x * 4 + y) < G1 (k * 4 + y) ∧ ¬ G2 (x * 4 + y) < G2 (x * 4 + k)
def sRests (G1 G2 : Nat → Int32) (n : Nat) : Nat := it (fun i s => if sRestP G1 G2 (i / 4) (i % 4) then s ||| 2 ^ i else s) n 0
def sNth (x : Nat) (n : Int32) : Option Nat := if n.toInt < 0 then none else ff (fun p => x.testBit p && decide ((pc p x : Int) = n.toInt)) 16
def sPart (T : sT) (i ch turns k : Nat) (s : (Nat → Nat) × Nat) : (Nat → Nat) × Nat :=
  if s.2 = 0 then s else
  if turns.testBit k then (sHour T (uN s.1 (34 + i) ((s.1 (34 + i) + 1) % 4)), if s.1 (42 + i) = 0 then s.2 * ch / 100 else 0)
  else (sHour T s.1, s.2 - (if s.1 (42 + i) = 0 then s.2 * ch / 100 else 0))
def sParted (T : sT) (V : Nat → Nat) (i ch turns n : Nat) : (Nat → Nat) × Nat := it (fun k s => sPart T i ch turns k s) n (V, 1000000000)
def sOdds (T : sT) (V : Nat → Nat) (i c n ch m : Nat) : Nat := it (fun t s => if (sParted T V i ch t n).1 (30 + i) = c then s + (sParted T V i ch t n).2 else s) m 0
theorem sTrail_lt {B : Nat} {U : Nat → Nat} {T : sT} (hT : TLt T) (h : Wf B U) {i : Nat} (hi : i < 4) : ∀ n, B + 20 * n < 800000 → sTrail T U i n < 1073741824 := by
  intro n
  induction n with
  | zero => intro _; show 0 < _; omega
  | succ n ih =>
    intro hn
    have hw := sHrs_wf hT h (n + 1) (by omega)
    exact b_or (ih (by omega)) (b_pow (hw.2.2.2.2.2.2.2.2.2.1 i hi).1)
theorem sPl_wf {B : Nat} {V : Nat → Nat} (h : Wf B V) {a b x y : Nat} (ha : a < 4) (hb : b < 4) (hx : x < 4) (hy : y < 4) : Wf B (sPl V a b x y) := by
  have w1 : Wf B (uN V (34 + a) x) := h.up (by omega) (by omega) (by omega) (by omega) (by omega) (by omega) (by omega) (by omega) (by omega) (by omega) (by omega) (by omega) (by omega)
  exact w1.up (by omega) (by omega) (by omega) (by omega) (by omega) (by omega) (by omega) (by omega) (by omega) (by omega) (by omega) (by omega) (by omega)
theorem sPl_n {V : Nat → Nat} {a b x y k : Nat} (ha : a < 4) (hb : b < 4) (hk : k < 34 ∨ 38 ≤ k) : sPl V a b x y k = V k := by
  unfold sPl; rw [uN_n (by omega), uN_n (by omega)]
theorem n_perc {p c : Nat} (hp : p ≤ 1000000000) (hc : c ≤ 100) : Int64.toInt32 (((nI p).toInt64 * (nI c).toInt64) / 100) = nI (p * c / 100) := by
  have h1 : (nI p).toInt64 = Int64.ofNat p := Int32.toInt64_ofNat' (by have : Int32.maxValue.toInt = 2147483647 := rfl; omega)
  have h2 : (nI c).toInt64 = Int64.ofNat c := Int32.toInt64_ofNat' (by have : Int32.maxValue.toInt = 2147483647 := rfl; omega)
  have hm : p * c ≤ 1000000000 * 100 := Nat.mul_le_mul hp hc
  have h3 : (100 : Int64) = Int64.ofNat 100 := rfl
  rw [h1, h2, ← Int64.ofNat_mul, h3, ← Int64.ofNat_div (by omega) (by omega)]
  exact lN_i _
theorem t_10 : ((1 : Nat) = 0) = False := eq_false (by decide)
theorem n_modm {a b : Nat} : nI a - nI (a / b * b) = nI (a % b) := by
  rw [n_sub (Nat.div_mul_le_self a b)]
  congr 1
  have h1 := Nat.div_add_mod a b
  have h2 : a / b * b = b * (a / b) := Nat.mul_comm _ _
  omega
theorem n_modd {a b : Nat} : nI a - nI (a / b) * nI b = nI (a % b) := by rw [n_mul, n_modm]
section C2
variable {La : gz_L} {g : gz_S} {V : Nat → Nat} {B : Nat} {T : sT}
theorem c_play (h : CF La g V T B) (hB : B < 400000) {a b x y : Nat} (ha : a < 4) (hb : b < 4) (hx : x < 4) (hy : y < 4) :
    ∃ g', fX2_play La (nI a) (nI b) (nI x) (nI y) g = some g' ∧ FT g g' ∧ g'.1 10 0 = sGain T V a b x y a ∧ g'.1 10 1 = sGain T V a b x y b ∧ g'.1 31 = g.1 31 ∧ g'.1 32 = g.1 32 := by
  obtain ⟨hv, hW, hz, hL, hs⟩ := h
  have hU := sPl_wf hW ha hb hx hy
  have hzU : Z61 (sPl V a b x y) := fun k hk => by rw [sPl_n ha hb (by omega)]; exact hz k hk
  have h60 := hU.2.2.2.1.2
  have b1 := (hW.2.2.2.2.2.2.2.2.2.1 a ha).1
  have b2 := (hW.2.2.2.2.2.2.2.2.2.1 b hb).1
  have e0 : uN (uN V (34 + a) x) (34 + b) y = sPl V a b x y := rfl
  unfold fX2_play
  rw [c_spare (Or.inr rfl) hv hz hs]
  simp (disch := omega) only [l_0, l_1, l_2, l_3, l_4, l_5, l_6, l_7, l_8, l_9, l_10, l_11, l_12, l_13, l_14, l_15, l_16, l_17, l_18, l_19, l_20, l_21, l_22, l_23, l_24, l_25, l_26, l_28, l_29, l_30, l_31, l_32, l_33, l_34, l_36, l_37, l_38, l_39, l_40, l_41, l_42, l_43, l_44, l_45, l_46, l_47, l_48, l_49, l_50, l_53, l_54, l_57, l_58, l_59, l_60, l_61, l_62, l_63, l_91, l_93, l_97, l_98, l_99, l_100, l_103, l_104, l_110, l_112, l_114, l_115, l_116, l_119, l_120, l_121, l_124, l_128, l_231, l_240, l_241, l_255, l_496, l_999, l_1000, l_8191, l_9999, l_10000, l_100000, l_200000, l_1000000, l_1000000000, gz_let_eq, Option.bind_some, ↓reduceIte, wi_wa, wa_at, wa_wa, upd_fI, fI_ap, wa_2, n_add, n_ok, n_cl, n_lt, n_le, n_eq, p_0, p_1, p_01, em_t, nb_0, t_10, n_modd, n_modm, Bool.false_eq_true, not_false_eq_true, not_true, e0]
  generalize hU' : sPl V a b x y = U at *
  refine lp (fun f k g1 => fX2_play_50 La _ f (nI a) (nI b) (nI (sTrail T U a k)) (nI (sTrail T U b k)) (nI (sLess T U a b k)) (nI k) g1)
    (fun k g1 => Fr (WF 7) g g1 ∧ g1.1 23 = fI (sHrs T U k)) 6
    (fun r => ∃ g', r = some g' ∧ FT g g' ∧ g'.1 10 0 = sGain T V a b x y a ∧ g'.1 10 1 = sGain T V a b x y b ∧ g'.1 31 = g.1 31 ∧ g'.1 32 = g.1 32) ?_ ?_ gz_FU 0 _ (by omega) (by unfold gz_FU; omega)
    ⟨(FS.sp hzU).1, wa_at _ _ _⟩
  · intro f k g1 hk h1
    have hWk := sHrs_wf hL.lt hU (k + 1) (by omega)
    obtain ⟨g2, a1, a2, a3, -⟩ := c_hr (La := La) hL h1.1 h1.2 (sHrs_wf hL.lt hU k (by omega)) (by omega)
    have hn : ¬ 6 ≤ k := by omega
    have a3 : g2.1 (7 + 16) = fI (sHrs T U (k + 1)) := a3
    have a4 : g2.1 23 = fI (sHrs T U (k + 1)) := a3
    have c1 := (hWk.2.2.2.2.2.2.2.2.2.1 a ha).1
    have c2 := (hWk.2.2.2.2.2.2.2.2.2.1 b hb).1
    refine Or.inr ⟨g2, ?_, a2, a3⟩
    have hl : sLess T U a b (k + 1) = if sTog (sHrs T U (k + 1)) a b then 3 else sLess T U a b k := rfl
    show fX2_play_50 La _ (f + 1) (nI a) (nI b) (nI (sTrail T U a k)) (nI (sTrail T U b k)) (nI (sLess T U a b k)) (nI k) g1 = fX2_play_50 La _ f (nI a) (nI b) (nI (sTrail T U a k ||| 2 ^ sHrs T U (k + 1) (30 + a))) (nI (sTrail T U b k ||| 2 ^ sHrs T U (k + 1) (30 + b))) (nI (sLess T U a b (k + 1))) (nI (k + 1)) g2
    rw [fX2_play_50, hl]
    simp (disch := omega) only [l_0, l_1, l_2, l_3, l_4, l_5, l_6, l_7, l_8, l_9, l_10, l_11, l_12, l_13, l_14, l_15, l_16, l_17, l_18, l_19, l_20, l_21, l_22, l_23, l_24, l_25, l_26, l_28, l_29, l_30, l_31, l_32, l_33, l_34, l_36, l_37, l_38, l_39, l_40, l_41, l_42, l_43, l_44, l_45, l_46, l_47, l_48, l_49, l_50, l_53, l_54, l_57, l_58, l_59, l_60, l_61, l_62, l_63, l_91, l_93, l_97, l_98, l_99, l_100, l_103, l_104, l_110, l_112, l_114, l_115, l_116, l_119, l_120, l_121, l_124, l_128, l_231, l_240, l_241, l_255, l_496, l_999, l_1000, l_8191, l_9999, l_10000, l_100000, l_200000, l_1000000, l_1000000000, gz_let_eq, Option.bind_some, ↓reduceIte, wi_wa, wa_at, wa_wa, upd_fI, fI_ap, wa_2, n_add, n_ok, n_cl, n_lt, n_le, n_eq, p_0, p_1, p_01, em_t, nb_0, t_10, n_modd, n_modm, Bool.false_eq_true, not_false_eq_true, not_true, hn, a1, a4, n_shl1, n_or, c_together a3 hWk.1, fX2_play_122]
    by_cases ht : sTog (sHrs T U (k + 1)) a b
    · rw [if_neg (not_not_intro ht), if_pos ht]
    · rw [if_pos ht, if_neg ht]
  · intro f g1 h1
    have t1 := sTrail_lt hL.lt hU ha 6 (by omega)
    have t2 := sTrail_lt hL.lt hU hb 6 (by omega)
    have a5 : g1.1 22 = fI V := by rw [h1.1.1 22 (by omega)]; exact hv
    have t3 : sTrail T U a 6 ^^^ (sTrail T U a 6 &&& 2 ^ V (30 + a)) < 1073741824 := b_xor t1 (b_and t1)
    have t4 : sTrail T U b 6 ^^^ (sTrail T U b 6 &&& 2 ^ V (30 + b)) < 1073741824 := b_xor t2 (b_and t2)
    refine ⟨gz_wa g1 10 (upd (upd (g1.1 10) 0 (sGain T V a b x y a)) 1 (sGain T V a b x y b)), ?_, (FS.ft ⟨h1.1, _, h1.2, sHrs_z h60 hzU _⟩).wa (Or.inl rfl), ?_, ?_, ?_, ?_⟩
    · show fX2_play_50 La _ (f + 1) (nI a) (nI b) (nI (sTrail T U a 6)) (nI (sTrail T U b 6)) (nI (sLess T U a b 6)) (nI 6) g1 = _
      rw [fX2_play_50]
      unfold sGain
      rw [hU']
      simp (disch := omega) only [l_0, l_1, l_2, l_3, l_4, l_5, l_6, l_7, l_8, l_9, l_10, l_11, l_12, l_13, l_14, l_15, l_16, l_17, l_18, l_19, l_20, l_21, l_22, l_23, l_24, l_25, l_26, l_28, l_29, l_30, l_31, l_32, l_33, l_34, l_36, l_37, l_38, l_39, l_40, l_41, l_42, l_43, l_44, l_45, l_46, l_47, l_48, l_49, l_50, l_53, l_54, l_57, l_58, l_59, l_60, l_61, l_62, l_63, l_91, l_93, l_97, l_98, l_99, l_100, l_103, l_104, l_110, l_112, l_114, l_115, l_116, l_119, l_120, l_121, l_124, l_128, l_231, l_240, l_241, l_255, l_496, l_999, l_1000, l_8191, l_9999, l_10000, l_100000, l_200000, l_1000000, l_1000000000, gz_let_eq, Option.bind_some, ↓reduceIte, wi_wa, wa_at, wa_wa, upd_fI, fI_ap, wa_2, n_add, n_ok, n_cl, n_lt, n_le, n_eq, p_0, p_1, p_01, em_t, nb_0, t_10, n_modd, n_modm, Bool.false_eq_true, not_false_eq_true, not_true, Nat.le_refl, a5, n_shl1, n_clr, c_bitCount, wa_ne]
    · rw [wa_at]; rfl
    · rw [wa_at]; rfl
    · rw [wa_ne (by omega)]; exact h1.1.1 31 (by omega)
    · rw [wa_ne (by omega)]; exact h1.1.1 32 (by omega)
theorem c_isRest {G1 G2 : Nat → Int32} (h1 : ∀ k, k < 16 → g.1 31 k = G1 k) (h2 : ∀ k, k < 16 → g.1 32 k = G2 k) {x y : Nat} (hx : x < 4) (hy : y < 4) : fX2_isRest La (nI x) (nI y) g = some (pI (sRestP G1 G2 x y), g) := by
  unfold fX2_isRest
  rw [l_0]
  refine lp (fun f k (_ : Unit) => fX2_isRest_2 La f (nI x) (nI y) (nI k) g)
    (fun k _ => ∀ j, j < k → ¬ G1 (x * 4 + y) < G1 (j * 4 + y) ∧ ¬ G2 (x * 4 + y) < G2 (x * 4 + j)) 4
    (fun r => r = some (pI (sRestP G1 G2 x y), g)) ?_ ?_ gz_FU 0 () (by omega) (by unfold gz_FU; omega) (fun j hj => absurd hj (Nat.not_lt_zero _))
  · intro f k _ hk hI
    have hn : ¬ 4 ≤ k := by omega
    have q1 := h1 (k * 4 + y) (by omega)
    have q2 := h1 (x * 4 + y) (by omega)
    have q3 := h2 (x * 4 + k) (by omega)
    have q4 := h2 (x * 4 + y) (by omega)
    have hst : fX2_isRest_2 La (f + 1) (nI x) (nI y) (nI k) g = if G1 (x * 4 + y) < G1 (k * 4 + y) then some (nI 0, g) else if G2 (x * 4 + k) ≤ G2 (x * 4 + y) then fX2_isRest_2 La f (nI x) (nI y) (nI (k + 1)) g else some (nI 0, g) := by
      rw [fX2_isRest_2]
      simp (disch := omega) only [l_0, l_1, l_2, l_3, l_4, l_5, l_6, l_7, l_8, l_9, l_10, l_11, l_12, l_13, l_14, l_15, l_16, l_17, l_18, l_19, l_20, l_21, l_22, l_23, l_24, l_25, l_26, l_28, l_29, l_30, l_31, l_32, l_33, l_34, l_36, l_37, l_38, l_39, l_40, l_41, l_42, l_43, l_44, l_45, l_46, l_47, l_48, l_49, l_50, l_53, l_54, l_57, l_58, l_59, l_60, l_61, l_62, l_63, l_91, l_93, l_97, l_98, l_99, l_100, l_103, l_104, l_110, l_112, l_114, l_115, l_116, l_119, l_120, l_121, l_124, l_128, l_231, l_240, l_241, l_255, l_496, l_999, l_1000, l_8191, l_9999, l_10000, l_100000, l_200000, l_1000000, l_1000000000, gz_let_eq, Option.bind_some, ↓reduceIte, wi_wa, wa_at, wa_wa, upd_fI, fI_ap, wa_2, n_add, n_ok, n_cl, n_lt, n_le, n_eq, p_0, p_1, p_01, em_t, nb_0, t_10, n_modd, n_modm, Bool.false_eq_true, not_false_eq_true, not_true, hn, n_mul, q1, q2, q3, q4]
    by_cases c1 : G1 (x * 4 + y) < G1 (k * 4 + y)
    · refine Or.inl ?_
      rw [if_pos c1] at hst
      exact hst.trans (p_f (fun e => (e k hk).1 c1))
    · rw [if_neg c1] at hst
      by_cases c2 : G2 (x * 4 + k) ≤ G2 (x * 4 + y)
      · rw [if_pos c2] at hst
        refine Or.inr ⟨(), hst, fun j hj => ?_⟩
        by_cases hjk : j = k
        · subst hjk
          exact ⟨c1, by rw [Int32.lt_iff_toInt_lt]; rw [Int32.le_iff_toInt_le] at c2; omega⟩
        · exact hI j (by omega)
      · rw [if_neg c2] at hst
        refine Or.inl (hst.trans (p_f (fun e => (e k hk).2 ?_)))
        rw [Int32.lt_iff_toInt_lt]; rw [Int32.le_iff_toInt_le] at c2; omega
  · intro f _ hI
    show fX2_isRest_2 La (f + 1) (nI x) (nI y) (nI 4) g = _
    rw [fX2_isRest_2]
    simp (disch := omega) only [l_0, l_1, l_2, l_3, l_4, l_5, l_6, l_7, l_8, l_9, l_10, l_11, l_12, l_13, l_14, l_15, l_16, l_17, l_18, l_19, l_20, l_21, l_22, l_23, l_24, l_25, l_26, l_28, l_29, l_30, l_31, l_32, l_33, l_34, l_36, l_37, l_38, l_39, l_40, l_41, l_42, l_43, l_44, l_45, l_46, l_47, l_48, l_49, l_50, l_53, l_54, l_57, l_58, l_59, l_60, l_61, l_62, l_63, l_91, l_93, l_97, l_98, l_99, l_100, l_103, l_104, l_110, l_112, l_114, l_115, l_116, l_119, l_120, l_121, l_124, l_128, l_231, l_240, l_241, l_255, l_496, l_999, l_1000, l_8191, l_9999, l_10000, l_100000, l_200000, l_1000000, l_1000000000, gz_let_eq, Option.bind_some, ↓reduceIte, wi_wa, wa_at, wa_wa, upd_fI, fI_ap, wa_2, n_add, n_ok, n_cl, n_lt, n_le, n_eq, p_0, p_1, p_01, em_t, nb_0, t_10, n_modd, n_modm, Bool.false_eq_true, not_false_eq_true, not_true, Nat.le_refl]
    exact p_t hI
theorem c_restsOf (h : CF La g V T B) (hB : B < 400000) {a b : Nat} (ha : a < 4) (hb : b < 4) :
    ∃ g', fX2_restsOf La (nI a) (nI b) g = some (nI (sRests (fun i => sGain T V a b (i / 4) (i % 4) a) (fun i => sGain T V a b (i / 4) (i % 4) b) 16), g') ∧ FT g g' := by
  unfold fX2_restsOf
  refine lp (fun f k g1 => fX2_restsOf_2 La (fun g => fX2_restsOf_51 La gz_FU 0 0 g) f (nI a) (nI b) (nI k) g1)
    (fun k g1 => FT g g1 ∧ (∀ j, j < k → g1.1 31 j = sGain T V a b (j / 4) (j % 4) a) ∧ (∀ j, j < k → g1.1 32 j = sGain T V a b (j / 4) (j % 4) b)) 16
    (fun r => ∃ g', r = some (nI (sRests (fun i => sGain T V a b (i / 4) (i % 4) a) (fun i => sGain T V a b (i / 4) (i % 4) b) 16), g') ∧ FT g g') ?_ ?_ gz_FU 0 g (by omega) (by unfold gz_FU; omega)
    ⟨⟨Fr.rf, h.2.2.2.2⟩, fun j hj => absurd hj (Nat.not_lt_zero _), fun j hj => absurd hj (Nat.not_lt_zero _)⟩
  · intro f k g1 hk h1
    have hn : ¬ 16 ≤ k := by omega
    obtain ⟨g2, k1, k2, k3, k4, k5, k6⟩ := c_play (La := La) (h.ft h1.1) hB ha hb (x := k / 4) (y := k % 4) (by omega) (by omega)
    refine Or.inr ⟨gz_wa (gz_wa g2 31 (upd (g2.1 31) k (sGain T V a b (k / 4) (k % 4) a))) 32 (upd (g2.1 32) k (sGain T V a b (k / 4) (k % 4) b)), ?_, ((h1.1.tr k2).wa (by omega)).wa (by omega), ?_, ?_⟩
    · show fX2_restsOf_2 La _ (f + 1) (nI a) (nI b) (nI k) g1 = fX2_restsOf_2 La _ f (nI a) (nI b) (nI (k + 1)) _
      rw [fX2_restsOf_2]
      simp (disch := omega) only [l_0, l_1, l_2, l_3, l_4, l_5, l_6, l_7, l_8, l_9, l_10, l_11, l_12, l_13, l_14, l_15, l_16, l_17, l_18, l_19, l_20, l_21, l_22, l_23, l_24, l_25, l_26, l_28, l_29, l_30, l_31, l_32, l_33, l_34, l_36, l_37, l_38, l_39, l_40, l_41, l_42, l_43, l_44, l_45, l_46, l_47, l_48, l_49, l_50, l_53, l_54, l_57, l_58, l_59, l_60, l_61, l_62, l_63, l_91, l_93, l_97, l_98, l_99, l_100, l_103, l_104, l_110, l_112, l_114, l_115, l_116, l_119, l_120, l_121, l_124, l_128, l_231, l_240, l_241, l_255, l_496, l_999, l_1000, l_8191, l_9999, l_10000, l_100000, l_200000, l_1000000, l_1000000000, gz_let_eq, Option.bind_some, ↓reduceIte, wi_wa, wa_at, wa_wa, upd_fI, fI_ap, wa_2, n_add, n_ok, n_cl, n_lt, n_le, n_eq, p_0, p_1, p_01, em_t, nb_0, t_10, n_modd, n_modm, Bool.false_eq_true, not_false_eq_true, not_true, hn, n_div,  k1, wa_ne, k3, k4]
    · intro j hj
      rw [wa_ne (by omega), wa_at]; unfold upd
      by_cases hjk : j = k
      · rw [if_pos hjk, hjk]
      · rw [if_neg hjk, k5]; exact h1.2.1 j (by omega)
    · intro j hj
      rw [wa_at]; unfold upd
      by_cases hjk : j = k
      · rw [if_pos hjk, hjk]
      · rw [if_neg hjk, k6]; exact h1.2.2 j (by omega)
  · intro f g1 h1
    refine ⟨g1, ?_, h1.1⟩
    show fX2_restsOf_2 La _ (f + 1) (nI a) (nI b) (nI 16) g1 = _
    rw [fX2_restsOf_2]
    simp (disch := omega) only [l_0, l_1, l_2, l_3, l_4, l_5, l_6, l_7, l_8, l_9, l_10, l_11, l_12, l_13, l_14, l_15, l_16, l_17, l_18, l_19, l_20, l_21, l_22, l_23, l_24, l_25, l_26, l_28, l_29, l_30, l_31, l_32, l_33, l_34, l_36, l_37, l_38, l_39, l_40, l_41, l_42, l_43, l_44, l_45, l_46, l_47, l_48, l_49, l_50, l_53, l_54, l_57, l_58, l_59, l_60, l_61, l_62, l_63, l_91, l_93, l_97, l_98, l_99, l_100, l_103, l_104, l_110, l_112, l_114, l_115, l_116, l_119, l_120, l_121, l_124, l_128, l_231, l_240, l_241, l_255, l_496, l_999, l_1000, l_8191, l_9999, l_10000, l_100000, l_200000, l_1000000, l_1000000000, gz_let_eq, Option.bind_some, ↓reduceIte, wi_wa, wa_at, wa_wa, upd_fI, fI_ap, wa_2, n_add, n_ok, n_cl, n_lt, n_le, n_eq, p_0, p_1, p_01, em_t, nb_0, t_10, n_modd, n_modm, Bool.false_eq_true, not_false_eq_true, not_true, Nat.le_refl]
    generalize hG1 : (fun i => sGain T V a b (i / 4) (i % 4) a) = G1
    generalize hG2 : (fun i => sGain T V a b (i / 4) (i % 4) b) = G2
    have q1 : ∀ k, k < 16 → g1.1 31 k = G1 k := by intro k hk; rw [← hG1]; exact h1.2.1 k hk
    have q2 : ∀ k, k < 16 → g1.1 32 k = G2 k := by intro k hk; rw [← hG2]; exact h1.2.2 k hk
    refine lp (fun f k (_ : Unit) => fX2_restsOf_51 La f (nI (sRests G1 G2 k)) (nI k) g1) (fun _ _ => True) 16 (fun r => r = some (nI (sRests G1 G2 16), g1)) ?_ ?_ gz_FU 0 () (by omega) (by unfold gz_FU; omega) trivial
    · intro f k _ hk _
      refine Or.inr ⟨(), ?_, trivial⟩
      have hn : ¬ 16 ≤ k := by omega
      have hs : sRests G1 G2 (k + 1) = if sRestP G1 G2 (k / 4) (k % 4) then sRests G1 G2 k ||| 2 ^ k else sRests G1 G2 k := rfl
      show fX2_restsOf_51 La (f + 1) (nI (sRests G1 G2 k)) (nI k) g1 = fX2_restsOf_51 La f (nI (sRests G1 G2 (k + 1))) (nI (k + 1)) g1
      rw [fX2_restsOf_51, hs]
      simp (disch := omega) only [l_0, l_1, l_2, l_3, l_4, l_5, l_6, l_7, l_8, l_9, l_10, l_11, l_12, l_13, l_14, l_15, l_16, l_17, l_18, l_19, l_20, l_21, l_22, l_23, l_24, l_25, l_26, l_28, l_29, l_30, l_31, l_32, l_33, l_34, l_36, l_37, l_38, l_39, l_40, l_41, l_42, l_43, l_44, l_45, l_46, l_47, l_48, l_49, l_50, l_53, l_54, l_57, l_58, l_59, l_60, l_61, l_62, l_63, l_91, l_93, l_97, l_98, l_99, l_100, l_103, l_104, l_110, l_112, l_114, l_115, l_116, l_119, l_120, l_121, l_124, l_128, l_231, l_240, l_241, l_255, l_496, l_999, l_1000, l_8191, l_9999, l_10000, l_100000, l_200000, l_1000000, l_1000000000, gz_let_eq, Option.bind_some, ↓reduceIte, wi_wa, wa_at, wa_wa, upd_fI, fI_ap, wa_2, n_add, n_ok, n_cl, n_lt, n_le, n_eq, p_0, p_1, p_01, em_t, nb_0, t_10, n_modd, n_modm, Bool.false_eq_true, not_false_eq_true, not_true, hn, n_div,  c_isRest q1 q2, n_shl1, n_or, fX2_restsOf_80]
      by_cases hp : sRestP G1 G2 (k / 4) (k % 4)
      · rw [if_neg (not_not_intro hp), if_pos hp]
      · rw [if_pos hp, if_neg hp]
    · intro f _ _
      show fX2_restsOf_51 La (f + 1) (nI (sRests G1 G2 16)) (nI 16) g1 = _
      rw [fX2_restsOf_51]
      simp (disch := omega) only [l_0, l_1, l_2, l_3, l_4, l_5, l_6, l_7, l_8, l_9, l_10, l_11, l_12, l_13, l_14, l_15, l_16, l_17, l_18, l_19, l_20, l_21, l_22, l_23, l_24, l_25, l_26, l_28, l_29, l_30, l_31, l_32, l_33, l_34, l_36, l_37, l_38, l_39, l_40, l_41, l_42, l_43, l_44, l_45, l_46, l_47, l_48, l_49, l_50, l_53, l_54, l_57, l_58, l_59, l_60, l_61, l_62, l_63, l_91, l_93, l_97, l_98, l_99, l_100, l_103, l_104, l_110, l_112, l_114, l_115, l_116, l_119, l_120, l_121, l_124, l_128, l_231, l_240, l_241, l_255, l_496, l_999, l_1000, l_8191, l_9999, l_10000, l_100000, l_200000, l_1000000, l_1000000000, gz_let_eq, Option.bind_some, ↓reduceIte, wi_wa, wa_at, wa_wa, upd_fI, fI_ap, wa_2, n_add, n_ok, n_cl, n_lt, n_le, n_eq, p_0, p_1, p_01, em_t, nb_0, t_10, n_modd, n_modm, Bool.false_eq_true, not_false_eq_true, not_true, Nat.le_refl]
theorem c_nthBit {x : Nat} (hx : x < 1073741824) {n : Int32} : fX2_nthBit La (nI x) n g = some (oI (sNth x n), g) := by
  unfold fX2_nthBit sNth
  by_cases h0 : n.toInt < 0
  · rw [if_pos h0]
    unfold gz_FU
    rw [fX2_nthBit_4]
    simp (disch := omega) only [l_0, l_1, l_2, l_3, l_4, l_5, l_6, l_7, l_8, l_9, l_10, l_11, l_12, l_13, l_14, l_15, l_16, l_17, l_18, l_19, l_20, l_21, l_22, l_23, l_24, l_25, l_26, l_28, l_29, l_30, l_31, l_32, l_33, l_34, l_36, l_37, l_38, l_39, l_40, l_41, l_42, l_43, l_44, l_45, l_46, l_47, l_48, l_49, l_50, l_53, l_54, l_57, l_58, l_59, l_60, l_61, l_62, l_63, l_91, l_93, l_97, l_98, l_99, l_100, l_103, l_104, l_110, l_112, l_114, l_115, l_116, l_119, l_120, l_121, l_124, l_128, l_231, l_240, l_241, l_255, l_496, l_999, l_1000, l_8191, l_9999, l_10000, l_100000, l_200000, l_1000000, l_1000000000, gz_let_eq, Option.bind_some, ↓reduceIte, wi_wa, wa_at, wa_wa, upd_fI, fI_ap, wa_2, n_add, n_ok, n_cl, n_lt, n_le, n_eq, p_0, p_1, p_01, em_t, nb_0, t_10, n_modd, n_modm, Bool.false_eq_true, not_false_eq_true, not_true, show ¬ 16 ≤ 0 by omega, x_lt (x := n), show n.toInt < ((0 : Nat) : Int) from h0]
    rfl
  · rw [if_neg h0]
    obtain ⟨m, hm, rfl, hm2⟩ := x_of (by omega : 0 ≤ n.toInt)
    rw [← hm2]
    refine lp (fun f p (_ : Unit) => fX2_nthBit_4 La f (nI x) (nI (m - pc p x)) (nI p) g) (fun p _ => pc p x ≤ m ∧ ∀ q, q < p → ¬ (x.testBit q && decide ((pc q x : Int) = (m : Int))) = true) 16
      (fun r => r = some (oI (ff (fun p => x.testBit p && decide ((pc p x : Int) = (m : Int))) 16), g)) ?_ ?_ gz_FU 0 () (by omega) (by unfold gz_FU; omega) ⟨Nat.zero_le _, fun q hq => absurd hq (Nat.not_lt_zero _)⟩
    · intro f p _ hp hI
      have hn : ¬ 16 ≤ p := by omega
      have hm3 : m - pc p x < 2147483648 := by omega
      by_cases hb : x.testBit p = true
      · by_cases he : m - pc p x = 0
        · refine Or.inl ?_
          show fX2_nthBit_4 La (f + 1) (nI x) (nI (m - pc p x)) (nI p) g = _
          rw [ff_some (p := fun p => x.testBit p && decide ((pc p x : Int) = (m : Int))) (ff_f hI.2 (fun j => Iff.rfl)) (by show (x.testBit p && decide ((pc p x : Int) = (m : Int))) = true; rw [hb, decide_eq_true (by omega)]; rfl) hp]
          rw [fX2_nthBit_4]
          simp (disch := omega) only [l_0, l_1, l_2, l_3, l_4, l_5, l_6, l_7, l_8, l_9, l_10, l_11, l_12, l_13, l_14, l_15, l_16, l_17, l_18, l_19, l_20, l_21, l_22, l_23, l_24, l_25, l_26, l_28, l_29, l_30, l_31, l_32, l_33, l_34, l_36, l_37, l_38, l_39, l_40, l_41, l_42, l_43, l_44, l_45, l_46, l_47, l_48, l_49, l_50, l_53, l_54, l_57, l_58, l_59, l_60, l_61, l_62, l_63, l_91, l_93, l_97, l_98, l_99, l_100, l_103, l_104, l_110, l_112, l_114, l_115, l_116, l_119, l_120, l_121, l_124, l_128, l_231, l_240, l_241, l_255, l_496, l_999, l_1000, l_8191, l_9999, l_10000, l_100000, l_200000, l_1000000, l_1000000000, gz_let_eq, Option.bind_some, ↓reduceIte, wi_wa, wa_at, wa_wa, upd_fI, fI_ap, wa_2, n_add, n_ok, n_cl, n_lt, n_le, n_eq, p_0, p_1, p_01, em_t, nb_0, t_10, n_modd, n_modm, Bool.false_eq_true, not_false_eq_true, not_true, hn, n_bit, hb, not_true, he, show ¬ 0 < 0 by omega]
          rfl
        · refine Or.inr ⟨(), ?_, ?_, fun q hq => ?_⟩
          · show fX2_nthBit_4 La (f + 1) (nI x) (nI (m - pc p x)) (nI p) g = fX2_nthBit_4 La f (nI x) (nI (m - pc (p + 1) x)) (nI (p + 1)) g
            have e1 : nI (m - pc p x) + -nI 1 = nI (m - pc (p + 1) x) := by
              have : nI (m - pc p x) = nI (m - pc (p + 1) x) + nI 1 := by
                rw [n_add, pc_s, if_pos hb]; congr 1; omega
              rw [this]
              show _ + _ + -_ = _
              rw [Int32.add_assoc, show nI 1 + -nI 1 = 0 from rfl, Int32.add_zero]
            rw [fX2_nthBit_4]
            simp (disch := omega) only [l_0, l_1, l_2, l_3, l_4, l_5, l_6, l_7, l_8, l_9, l_10, l_11, l_12, l_13, l_14, l_15, l_16, l_17, l_18, l_19, l_20, l_21, l_22, l_23, l_24, l_25, l_26, l_28, l_29, l_30, l_31, l_32, l_33, l_34, l_36, l_37, l_38, l_39, l_40, l_41, l_42, l_43, l_44, l_45, l_46, l_47, l_48, l_49, l_50, l_53, l_54, l_57, l_58, l_59, l_60, l_61, l_62, l_63, l_91, l_93, l_97, l_98, l_99, l_100, l_103, l_104, l_110, l_112, l_114, l_115, l_116, l_119, l_120, l_121, l_124, l_128, l_231, l_240, l_241, l_255, l_496, l_999, l_1000, l_8191, l_9999, l_10000, l_100000, l_200000, l_1000000, l_1000000000, gz_let_eq, Option.bind_some, ↓reduceIte, wi_wa, wa_at, wa_wa, upd_fI, fI_ap, wa_2, n_add, n_ok, n_cl, n_lt, n_le, n_eq, p_0, p_1, p_01, em_t, nb_0, t_10, n_modd, n_modm, Bool.false_eq_true, not_false_eq_true, not_true, hn, n_bit, hb, not_true, he, Nat.not_lt_zero, e1, fX2_nthBit_31]
          · rw [pc_s, if_pos hb]; omega
          · by_cases hqp : q = p
            · rw [hqp, hb, decide_eq_false (by omega)]; simp
            · exact hI.2 q (by omega)
      · refine Or.inr ⟨(), ?_, ?_, fun q hq => ?_⟩
        · show fX2_nthBit_4 La (f + 1) (nI x) (nI (m - pc p x)) (nI p) g = fX2_nthBit_4 La f (nI x) (nI (m - pc (p + 1) x)) (nI (p + 1)) g
          rw [fX2_nthBit_4, pc_s, if_neg hb]
          simp (disch := omega) only [l_0, l_1, l_2, l_3, l_4, l_5, l_6, l_7, l_8, l_9, l_10, l_11, l_12, l_13, l_14, l_15, l_16, l_17, l_18, l_19, l_20, l_21, l_22, l_23, l_24, l_25, l_26, l_28, l_29, l_30, l_31, l_32, l_33, l_34, l_36, l_37, l_38, l_39, l_40, l_41, l_42, l_43, l_44, l_45, l_46, l_47, l_48, l_49, l_50, l_53, l_54, l_57, l_58, l_59, l_60, l_61, l_62, l_63, l_91, l_93, l_97, l_98, l_99, l_100, l_103, l_104, l_110, l_112, l_114, l_115, l_116, l_119, l_120, l_121, l_124, l_128, l_231, l_240, l_241, l_255, l_496, l_999, l_1000, l_8191, l_9999, l_10000, l_100000, l_200000, l_1000000, l_1000000000, gz_let_eq, Option.bind_some, ↓reduceIte, wi_wa, wa_at, wa_wa, upd_fI, fI_ap, wa_2, n_add, n_ok, n_cl, n_lt, n_le, n_eq, p_0, p_1, p_01, em_t, nb_0, t_10, n_modd, n_modm, Bool.false_eq_true, not_false_eq_true, not_true, hn, n_bit, hb, not_false_eq_true, Nat.not_lt_zero, fX2_nthBit_31]
        · rw [pc_s, if_neg hb]; exact hI.1
        · by_cases hqp : q = p
          · rw [hqp, show x.testBit p = false by simpa using hb]; simp
          · exact hI.2 q (by omega)
    · intro f _ hI
      show fX2_nthBit_4 La (f + 1) (nI x) (nI (m - pc 16 x)) (nI 16) g = _
      rw [fX2_nthBit_4, ff_none (p := fun p => x.testBit p && decide ((pc p x : Int) = (m : Int))) (ff_f hI.2 (fun j => Iff.rfl))]
      simp (disch := omega) only [l_0, l_1, l_2, l_3, l_4, l_5, l_6, l_7, l_8, l_9, l_10, l_11, l_12, l_13, l_14, l_15, l_16, l_17, l_18, l_19, l_20, l_21, l_22, l_23, l_24, l_25, l_26, l_28, l_29, l_30, l_31, l_32, l_33, l_34, l_36, l_37, l_38, l_39, l_40, l_41, l_42, l_43, l_44, l_45, l_46, l_47, l_48, l_49, l_50, l_53, l_54, l_57, l_58, l_59, l_60, l_61, l_62, l_63, l_91, l_93, l_97, l_98, l_99, l_100, l_103, l_104, l_110, l_112, l_114, l_115, l_116, l_119, l_120, l_121, l_124, l_128, l_231, l_240, l_241, l_255, l_496, l_999, l_1000, l_8191, l_9999, l_10000, l_100000, l_200000, l_1000000, l_1000000000, gz_let_eq, Option.bind_some, ↓reduceIte, wi_wa, wa_at, wa_wa, upd_fI, fI_ap, wa_2, n_add, n_ok, n_cl, n_lt, n_le, n_eq, p_0, p_1, p_01, em_t, nb_0, t_10, n_modd, n_modm, Bool.false_eq_true, not_false_eq_true, not_true, Nat.le_refl]
      rfl
theorem sNth_lt {x : Nat} {n : Int32} {p : Nat} (h : sNth x n = some p) : p < 16 := by
  unfold sNth at h
  split at h
  · cases h
  · exact (ff_lt h).1
theorem c_rest {x : Nat} (hx : x < 1073741824) {n : Int32} : fX2_rest La (nI x) n g = some (oI ((sNth x n).map (fun p => p / 4 * 10 + p % 4)), g) := by
  unfold fX2_rest
  rw [c_nthBit hx]
  cases hs : sNth x n with
  | none => rfl
  | some p =>
    have := sNth_lt hs
    have e : oI (some p) = nI p := rfl
    simp (disch := omega) only [l_0, l_1, l_2, l_3, l_4, l_5, l_6, l_7, l_8, l_9, l_10, l_11, l_12, l_13, l_14, l_15, l_16, l_17, l_18, l_19, l_20, l_21, l_22, l_23, l_24, l_25, l_26, l_28, l_29, l_30, l_31, l_32, l_33, l_34, l_36, l_37, l_38, l_39, l_40, l_41, l_42, l_43, l_44, l_45, l_46, l_47, l_48, l_49, l_50, l_53, l_54, l_57, l_58, l_59, l_60, l_61, l_62, l_63, l_91, l_93, l_97, l_98, l_99, l_100, l_103, l_104, l_110, l_112, l_114, l_115, l_116, l_119, l_120, l_121, l_124, l_128, l_231, l_240, l_241, l_255, l_496, l_999, l_1000, l_8191, l_9999, l_10000, l_100000, l_200000, l_1000000, l_1000000000, gz_let_eq, Option.bind_some, ↓reduceIte, wi_wa, wa_at, wa_wa, upd_fI, fI_ap, wa_2, n_add, n_ok, n_cl, n_lt, n_le, n_eq, p_0, p_1, p_01, em_t, nb_0, t_10, n_modd, n_modm, Bool.false_eq_true, not_false_eq_true, not_true, e, m_eq, n_div,  n_mul]
    rfl
theorem c_partsOf (h : CF La g V T B) (hB : B < 400000) {i n ch turns : Nat} (hi : i < 4) (hn : n ≤ 6) (hc : ch ≤ 100) (ht : turns < 64) :
    ∃ g', fX2_partsOf La (nI turns) (nI i) (nI n) (nI ch) g = some (nI (sParted T V i ch turns n).2, g') ∧ FS g g' ∧ g'.1 23 = fI (sParted T V i ch turns n).1 ∧ (sParted T V i ch turns n).1 (30 + i) < 30 := by
  obtain ⟨hv, hW, hz, hL, hs⟩ := h
  have h60 := hW.2.2.2.1.2
  have inv : ∀ k, k ≤ 6 → Wf (B + 20 * k) (sParted T V i ch turns k).1 ∧ Z61 (sParted T V i ch turns k).1 ∧ (sParted T V i ch turns k).2 ≤ 1000000000 := by
    intro k
    induction k with
    | zero => intro _; exact ⟨hW, hz, Nat.le_refl _⟩
    | succ k ih =>
      intro hk
      obtain ⟨i1, i2, i3⟩ := ih (by omega)
      have hs : sParted T V i ch turns (k + 1) = sPart T i ch turns k (sParted T V i ch turns k) := rfl
      rw [hs]
      generalize sParted T V i ch turns k = s at i1 i2 i3
      have hp : s.2 * ch ≤ 1000000000 * 100 := Nat.mul_le_mul i3 hc
      have hq : s.2 * ch / 100 ≤ s.2 := Nat.div_le_of_le_mul (by rw [Nat.mul_comm 100]; exact Nat.mul_le_mul_left s.2 hc)
      have hl := i1.2.2.2.2.2.2.2.2.2.1 i hi
      have w1 : Wf (B + 20 * k) (uN s.1 (34 + i) ((s.1 (34 + i) + 1) % 4)) := i1.up (by omega) (by omega) (by omega) (by omega) (by omega) (by omega) (by omega) (by omega) (by omega) (by omega) (by omega) (by omega) (by omega)
      have w2 := sHour_wf hL.lt w1 (by omega)
      have w3 := sHour_wf hL.lt i1 (by omega)
      unfold sPart
      split
      · exact ⟨i1.mo (by omega), i2, i3⟩
      · split
        · refine ⟨w2.mo (by omega), fun j hj => ?_, ?_⟩
          · show sHour T _ j = 0
            rw [sHour_fix (w1.2.2.2.1.2) (by omega), uN_n (by omega)]; exact i2 j hj
          · show (if s.1 (42 + i) = 0 then s.2 * ch / 100 else 0) ≤ 1000000000
            split <;> omega
        · refine ⟨w3.mo (by omega), fun j hj => ?_, ?_⟩
          · show sHour T _ j = 0
            rw [sHour_fix (i1.2.2.2.1.2) (by omega)]; exact i2 j hj
          · show s.2 - _ ≤ _
            omega
  have stay : ∀ (k d : Nat), (sParted T V i ch turns k).2 = 0 → sParted T V i ch turns (k + d) = sParted T V i ch turns k := by
    intro k d h0
    induction d with
    | zero => rfl
    | succ d ih =>
      show sPart T i ch turns (k + d) (sParted T V i ch turns (k + d)) = _
      rw [ih]; unfold sPart; rw [if_pos h0]
  unfold fX2_partsOf
  rw [c_spare (Or.inr rfl) hv hz hs, Option.bind_some]
  refine lp (fun f k g1 => fX2_partsOf_18 La f (nI turns) (nI i) (nI n) (nI ch) (nI (sParted T V i ch turns k).2) (nI k) g1)
    (fun k g1 => Fr (WF 7) g g1 ∧ g1.1 23 = fI (sParted T V i ch turns k).1) n
    (fun r => ∃ g', r = some (nI (sParted T V i ch turns n).2, g') ∧ FS g g' ∧ g'.1 23 = fI (sParted T V i ch turns n).1 ∧ (sParted T V i ch turns n).1 (30 + i) < 30) ?_ ?_ gz_FU 0 _ (by omega) (by unfold gz_FU; omega)
    ⟨(FS.sp hz).1, wa_at _ _ _⟩
  · intro f k g1 hk h1
    obtain ⟨i1, i2, i3⟩ := inv k (by omega)
    have hx : ¬ n ≤ k := by omega
    have hsp : sParted T V i ch turns (k + 1) = sPart T i ch turns k (sParted T V i ch turns k) := rfl
    have hst := stay k (n - k)
    rw [show k + (n - k) = n by omega] at hst
    have gen : ∀ s, sParted T V i ch turns k = s → (∃ g', fX2_partsOf_18 La (f + 1) (nI turns) (nI i) (nI n) (nI ch) (nI s.2) (nI k) g1 = some (nI (sParted T V i ch turns n).2, g') ∧ FS g g' ∧ g'.1 23 = fI (sParted T V i ch turns n).1 ∧ (sParted T V i ch turns n).1 (30 + i) < 30) ∨ ∃ g', fX2_partsOf_18 La (f + 1) (nI turns) (nI i) (nI n) (nI ch) (nI s.2) (nI k) g1 = fX2_partsOf_18 La f (nI turns) (nI i) (nI n) (nI ch) (nI (sPart T i ch turns k s).2) (nI (k + 1)) g' ∧ Fr (WF 7) g g' ∧ g'.1 23 = fI (sPart T i ch turns k s).1 := by
      intro s hs
      rw [hs] at i1 i2 i3 h1 hst
      have e7 : g1.1 (7 + 16) = fI s.1 := h1.2
      have hl := i1.2.2.2.2.2.2.2.2.2.1 i hi
      have hp : s.2 * ch ≤ 1000000000 * 100 := Nat.mul_le_mul i3 hc
      have hq : s.2 * ch / 100 ≤ s.2 := Nat.div_le_of_le_mul (by rw [Nat.mul_comm 100]; exact Nat.mul_le_mul_left s.2 hc)
      by_cases h0 : s.2 = 0
      · refine Or.inl ⟨g1, ?_, ⟨h1.1, _, ?_, i2⟩, ?_, ?_⟩
        · rw [fX2_partsOf_18, hst h0, h0]
          simp (disch := omega) only [l_0, l_1, l_2, l_3, l_4, l_5, l_6, l_7, l_8, l_9, l_10, l_11, l_12, l_13, l_14, l_15, l_16, l_17, l_18, l_19, l_20, l_21, l_22, l_23, l_24, l_25, l_26, l_28, l_29, l_30, l_31, l_32, l_33, l_34, l_36, l_37, l_38, l_39, l_40, l_41, l_42, l_43, l_44, l_45, l_46, l_47, l_48, l_49, l_50, l_53, l_54, l_57, l_58, l_59, l_60, l_61, l_62, l_63, l_91, l_93, l_97, l_98, l_99, l_100, l_103, l_104, l_110, l_112, l_114, l_115, l_116, l_119, l_120, l_121, l_124, l_128, l_231, l_240, l_241, l_255, l_496, l_999, l_1000, l_8191, l_9999, l_10000, l_100000, l_200000, l_1000000, l_1000000000, gz_let_eq, Option.bind_some, ↓reduceIte, wi_wa, wa_at, wa_wa, upd_fI, fI_ap, wa_2, n_add, n_ok, n_cl, n_lt, n_le, n_eq, p_0, p_1, p_01, em_t, nb_0, t_10, n_modd, n_modm, Bool.false_eq_true, not_false_eq_true, not_true, hx, Nat.le_refl]
        · exact h1.2
        · rw [hst h0]; exact h1.2
        · rw [hst h0]; exact (i1.2.2.2.2.2.2.2.2.2.1 i hi).1
      · refine Or.inr ?_
        unfold sPart
        rw [if_neg h0]
        have hle : ¬ s.2 ≤ 0 := by omega
        by_cases hb : turns.testBit k = true
        · have w1 : Wf (B + 20 * k) (uN s.1 (34 + i) ((s.1 (34 + i) + 1) % 4)) := i1.up (by omega) (by omega) (by omega) (by omega) (by omega) (by omega) (by omega) (by omega) (by omega) (by omega) (by omega) (by omega) (by omega)
          have hF : Fr (WF 7) g (gz_wa g1 23 (fI (uN s.1 (34 + i) ((s.1 (34 + i) + 1) % 4)))) := h1.1.wa (Or.inr (Or.inr (Or.inr rfl)))
          obtain ⟨g2, a1, a2, a3, -⟩ := c_hr (La := La) hL hF (wa_at _ _ _) w1 (by omega)
          refine ⟨g2, ?_, a2, ?_⟩
          · rw [fX2_partsOf_18, if_pos hb]
            simp (disch := omega) only [l_0, l_1, l_2, l_3, l_4, l_5, l_6, l_7, l_8, l_9, l_10, l_11, l_12, l_13, l_14, l_15, l_16, l_17, l_18, l_19, l_20, l_21, l_22, l_23, l_24, l_25, l_26, l_28, l_29, l_30, l_31, l_32, l_33, l_34, l_36, l_37, l_38, l_39, l_40, l_41, l_42, l_43, l_44, l_45, l_46, l_47, l_48, l_49, l_50, l_53, l_54, l_57, l_58, l_59, l_60, l_61, l_62, l_63, l_91, l_93, l_97, l_98, l_99, l_100, l_103, l_104, l_110, l_112, l_114, l_115, l_116, l_119, l_120, l_121, l_124, l_128, l_231, l_240, l_241, l_255, l_496, l_999, l_1000, l_8191, l_9999, l_10000, l_100000, l_200000, l_1000000, l_1000000000, gz_let_eq, Option.bind_some, ↓reduceIte, wi_wa, wa_at, wa_wa, upd_fI, fI_ap, wa_2, n_add, n_ok, n_cl, n_lt, n_le, n_eq, p_0, p_1, p_01, em_t, nb_0, t_10, n_modd, n_modm, Bool.false_eq_true, not_false_eq_true, not_true, hx, hle, c_goes e7 i1.1, fX2_partsOf_56, fX2_partsOf_109, n_bit, hb, not_true, e7, n_and3, a1, n_perc]
            by_cases hg : s.1 (42 + i) = 0
            · simp (disch := omega) only [l_0, l_1, l_2, l_3, l_4, l_5, l_6, l_7, l_8, l_9, l_10, l_11, l_12, l_13, l_14, l_15, l_16, l_17, l_18, l_19, l_20, l_21, l_22, l_23, l_24, l_25, l_26, l_28, l_29, l_30, l_31, l_32, l_33, l_34, l_36, l_37, l_38, l_39, l_40, l_41, l_42, l_43, l_44, l_45, l_46, l_47, l_48, l_49, l_50, l_53, l_54, l_57, l_58, l_59, l_60, l_61, l_62, l_63, l_91, l_93, l_97, l_98, l_99, l_100, l_103, l_104, l_110, l_112, l_114, l_115, l_116, l_119, l_120, l_121, l_124, l_128, l_231, l_240, l_241, l_255, l_496, l_999, l_1000, l_8191, l_9999, l_10000, l_100000, l_200000, l_1000000, l_1000000000, gz_let_eq, Option.bind_some, ↓reduceIte, wi_wa, wa_at, wa_wa, upd_fI, fI_ap, wa_2, n_add, n_ok, n_cl, n_lt, n_le, n_eq, p_0, p_1, p_01, em_t, nb_0, t_10, n_modd, n_modm, Bool.false_eq_true, not_false_eq_true, not_true, hg, not_true, h1.2, n_and3, a1, n_perc]
            · simp (disch := omega) only [l_0, l_1, l_2, l_3, l_4, l_5, l_6, l_7, l_8, l_9, l_10, l_11, l_12, l_13, l_14, l_15, l_16, l_17, l_18, l_19, l_20, l_21, l_22, l_23, l_24, l_25, l_26, l_28, l_29, l_30, l_31, l_32, l_33, l_34, l_36, l_37, l_38, l_39, l_40, l_41, l_42, l_43, l_44, l_45, l_46, l_47, l_48, l_49, l_50, l_53, l_54, l_57, l_58, l_59, l_60, l_61, l_62, l_63, l_91, l_93, l_97, l_98, l_99, l_100, l_103, l_104, l_110, l_112, l_114, l_115, l_116, l_119, l_120, l_121, l_124, l_128, l_231, l_240, l_241, l_255, l_496, l_999, l_1000, l_8191, l_9999, l_10000, l_100000, l_200000, l_1000000, l_1000000000, gz_let_eq, Option.bind_some, ↓reduceIte, wi_wa, wa_at, wa_wa, upd_fI, fI_ap, wa_2, n_add, n_ok, n_cl, n_lt, n_le, n_eq, p_0, p_1, p_01, em_t, nb_0, t_10, n_modd, n_modm, Bool.false_eq_true, not_false_eq_true, not_true, hg, not_false_eq_true, h1.2, n_and3, a1]
          · rw [if_pos hb]; exact a3
        · obtain ⟨g2, a1, a2, a3, -⟩ := c_hr (La := La) hL h1.1 h1.2 i1 (by omega)
          refine ⟨g2, ?_, a2, ?_⟩
          · rw [fX2_partsOf_18, if_neg hb]
            by_cases hg : s.1 (42 + i) = 0
            · simp (disch := omega) only [l_0, l_1, l_2, l_3, l_4, l_5, l_6, l_7, l_8, l_9, l_10, l_11, l_12, l_13, l_14, l_15, l_16, l_17, l_18, l_19, l_20, l_21, l_22, l_23, l_24, l_25, l_26, l_28, l_29, l_30, l_31, l_32, l_33, l_34, l_36, l_37, l_38, l_39, l_40, l_41, l_42, l_43, l_44, l_45, l_46, l_47, l_48, l_49, l_50, l_53, l_54, l_57, l_58, l_59, l_60, l_61, l_62, l_63, l_91, l_93, l_97, l_98, l_99, l_100, l_103, l_104, l_110, l_112, l_114, l_115, l_116, l_119, l_120, l_121, l_124, l_128, l_231, l_240, l_241, l_255, l_496, l_999, l_1000, l_8191, l_9999, l_10000, l_100000, l_200000, l_1000000, l_1000000000, gz_let_eq, Option.bind_some, ↓reduceIte, wi_wa, wa_at, wa_wa, upd_fI, fI_ap, wa_2, n_add, n_ok, n_cl, n_lt, n_le, n_eq, p_0, p_1, p_01, em_t, nb_0, t_10, n_modd, n_modm, Bool.false_eq_true, not_false_eq_true, not_true, hx, hle, c_goes e7 i1.1, fX2_partsOf_56, fX2_partsOf_109, n_bit, hb, not_false_eq_true, hg, not_true, a1, n_perc, n_sub]
            · simp (disch := omega) only [l_0, l_1, l_2, l_3, l_4, l_5, l_6, l_7, l_8, l_9, l_10, l_11, l_12, l_13, l_14, l_15, l_16, l_17, l_18, l_19, l_20, l_21, l_22, l_23, l_24, l_25, l_26, l_28, l_29, l_30, l_31, l_32, l_33, l_34, l_36, l_37, l_38, l_39, l_40, l_41, l_42, l_43, l_44, l_45, l_46, l_47, l_48, l_49, l_50, l_53, l_54, l_57, l_58, l_59, l_60, l_61, l_62, l_63, l_91, l_93, l_97, l_98, l_99, l_100, l_103, l_104, l_110, l_112, l_114, l_115, l_116, l_119, l_120, l_121, l_124, l_128, l_231, l_240, l_241, l_255, l_496, l_999, l_1000, l_8191, l_9999, l_10000, l_100000, l_200000, l_1000000, l_1000000000, gz_let_eq, Option.bind_some, ↓reduceIte, wi_wa, wa_at, wa_wa, upd_fI, fI_ap, wa_2, n_add, n_ok, n_cl, n_lt, n_le, n_eq, p_0, p_1, p_01, em_t, nb_0, t_10, n_modd, n_modm, Bool.false_eq_true, not_false_eq_true, not_true, hx, hle, c_goes e7 i1.1, fX2_partsOf_56, fX2_partsOf_109, n_bit, hb, not_false_eq_true, hg, a1, n_sub]
          · rw [if_neg hb]; exact a3
    show (∃ g', fX2_partsOf_18 La (f + 1) (nI turns) (nI i) (nI n) (nI ch) (nI (sParted T V i ch turns k).2) (nI k) g1 = _ ∧ _) ∨ ∃ g', fX2_partsOf_18 La (f + 1) (nI turns) (nI i) (nI n) (nI ch) (nI (sParted T V i ch turns k).2) (nI k) g1 = fX2_partsOf_18 La f (nI turns) (nI i) (nI n) (nI ch) (nI (sParted T V i ch turns (k + 1)).2) (nI (k + 1)) g' ∧ Fr (WF 7) g g' ∧ g'.1 23 = fI (sParted T V i ch turns (k + 1)).1
    rw [hsp]
    exact gen _ rfl
  · intro f g1 h1
    obtain ⟨i1, i2, i3⟩ := inv n hn
    refine ⟨g1, ?_, ⟨h1.1, _, h1.2, i2⟩, h1.2, (i1.2.2.2.2.2.2.2.2.2.1 i hi).1⟩
    show fX2_partsOf_18 La (f + 1) (nI turns) (nI i) (nI n) (nI ch) (nI (sParted T V i ch turns n).2) (nI n) g1 = _
    rw [fX2_partsOf_18]
    simp (disch := omega) only [l_0, l_1, l_2, l_3, l_4, l_5, l_6, l_7, l_8, l_9, l_10, l_11, l_12, l_13, l_14, l_15, l_16, l_17, l_18, l_19, l_20, l_21, l_22, l_23, l_24, l_25, l_26, l_28, l_29, l_30, l_31, l_32, l_33, l_34, l_36, l_37, l_38, l_39, l_40, l_41, l_42, l_43, l_44, l_45, l_46, l_47, l_48, l_49, l_50, l_53, l_54, l_57, l_58, l_59, l_60, l_61, l_62, l_63, l_91, l_93, l_97, l_98, l_99, l_100, l_103, l_104, l_110, l_112, l_114, l_115, l_116, l_119, l_120, l_121, l_124, l_128, l_231, l_240, l_241, l_255, l_496, l_999, l_1000, l_8191, l_9999, l_10000, l_100000, l_200000, l_1000000, l_1000000000, gz_let_eq, Option.bind_some, ↓reduceIte, wi_wa, wa_at, wa_wa, upd_fI, fI_ap, wa_2, n_add, n_ok, n_cl, n_lt, n_le, n_eq, p_0, p_1, p_01, em_t, nb_0, t_10, n_modd, n_modm, Bool.false_eq_true, not_false_eq_true, not_true, Nat.le_refl]
theorem c_partsOn (h : CF La g V T B) (hB : B < 400000) {i n ch c : Nat} (hi : i < 4) (hn : n ≤ 6) (hc : ch ≤ 100) (hcell : c < 30) :
    ∃ g', fX2_partsOn La (nI i) (nI c) (nI n) (nI ch) g = some (nI (sOdds T V i c n ch (2 ^ n)), g') ∧ FS g g' := by
  have h2n : 2 ^ n ≤ 64 := Nat.pow_le_pow_right (n := 2) (by decide) hn
  unfold fX2_partsOn
  rw [l_0]
  refine lp (fun f t g1 => fX2_partsOn_6 La f (nI i) (nI c) (nI n) (nI ch) (nI (sOdds T V i c n ch t)) (nI t) g1)
    (fun _ g1 => FS g g1) (2 ^ n) (fun r => ∃ g', r = some (nI (sOdds T V i c n ch (2 ^ n)), g') ∧ FS g g') ?_ ?_ gz_FU 0 g (Nat.zero_le _) (by unfold gz_FU; omega) ⟨Fr.rf, h.2.2.2.2⟩
  · intro f t g1 ht h1
    obtain ⟨g2, k1, k2, k3, k4⟩ := c_partsOf (La := La) (h.fs h1) hB hi hn hc (turns := t) (by omega)
    have hx : ¬ 2 ^ n ≤ t := by omega
    have hso : sOdds T V i c n ch (t + 1) = if (sParted T V i ch t n).1 (30 + i) = c then sOdds T V i c n ch t + (sParted T V i ch t n).2 else sOdds T V i c n ch t := rfl
    refine Or.inr ⟨g2, ?_, h1.tr k2⟩
    show fX2_partsOn_6 La (f + 1) (nI i) (nI c) (nI n) (nI ch) (nI (sOdds T V i c n ch t)) (nI t) g1 = fX2_partsOn_6 La f (nI i) (nI c) (nI n) (nI ch) (nI (sOdds T V i c n ch (t + 1))) (nI (t + 1)) g2
    rw [fX2_partsOn_6, hso]
    simp (disch := omega) only [l_0, l_1, l_2, l_3, l_4, l_5, l_6, l_7, l_8, l_9, l_10, l_11, l_12, l_13, l_14, l_15, l_16, l_17, l_18, l_19, l_20, l_21, l_22, l_23, l_24, l_25, l_26, l_28, l_29, l_30, l_31, l_32, l_33, l_34, l_36, l_37, l_38, l_39, l_40, l_41, l_42, l_43, l_44, l_45, l_46, l_47, l_48, l_49, l_50, l_53, l_54, l_57, l_58, l_59, l_60, l_61, l_62, l_63, l_91, l_93, l_97, l_98, l_99, l_100, l_103, l_104, l_110, l_112, l_114, l_115, l_116, l_119, l_120, l_121, l_124, l_128, l_231, l_240, l_241, l_255, l_496, l_999, l_1000, l_8191, l_9999, l_10000, l_100000, l_200000, l_1000000, l_1000000000, gz_let_eq, Option.bind_some, ↓reduceIte, wi_wa, wa_at, wa_wa, upd_fI, fI_ap, wa_2, n_add, n_ok, n_cl, n_lt, n_le, n_eq, p_0, p_1, p_01, em_t, nb_0, t_10, n_modd, n_modm, Bool.false_eq_true, not_false_eq_true, not_true, n_shl1, hx, k1, k3, fX2_partsOn_49]
    by_cases he : (sParted T V i ch t n).1 (30 + i) = c
    · rw [if_pos he, if_pos he]
    · rw [if_neg he, if_neg he]
  · intro f g1 h1
    refine ⟨g1, ?_, h1⟩
    show fX2_partsOn_6 La (f + 1) (nI i) (nI c) (nI n) (nI ch) (nI (sOdds T V i c n ch (2 ^ n))) (nI (2 ^ n)) g1 = _
    rw [fX2_partsOn_6]
    simp (disch := omega) only [l_0, l_1, l_2, l_3, l_4, l_5, l_6, l_7, l_8, l_9, l_10, l_11, l_12, l_13, l_14, l_15, l_16, l_17, l_18, l_19, l_20, l_21, l_22, l_23, l_24, l_25, l_26, l_28, l_29, l_30, l_31, l_32, l_33, l_34, l_36, l_37, l_38, l_39, l_40, l_41, l_42, l_43, l_44, l_45, l_46, l_47, l_48, l_49, l_50, l_53, l_54, l_57, l_58, l_59, l_60, l_61, l_62, l_63, l_91, l_93, l_97, l_98, l_99, l_100, l_103, l_104, l_110, l_112, l_114, l_115, l_116, l_119, l_120, l_121, l_124, l_128, l_231, l_240, l_241, l_255, l_496, l_999, l_1000, l_8191, l_9999, l_10000, l_100000, l_200000, l_1000000, l_1000000000, gz_let_eq, Option.bind_some, ↓reduceIte, wi_wa, wa_at, wa_wa, upd_fI, fI_ap, wa_2, n_add, n_ok, n_cl, n_lt, n_le, n_eq, p_0, p_1, p_01, em_t, nb_0, t_10, n_modd, n_modm, Bool.false_eq_true, not_false_eq_true, not_true, n_shl1, Nat.le_refl]
end C2
