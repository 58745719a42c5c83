/-! the class's walker: an hour, whole -/
theorem sAll_s (T : sT) (V : Nat → Nat) (n : Nat) : sAll T V (n + 1) = sGoer T (sAll T V n) n := rfl
theorem sGoer_fix {T : sT} {V : Nat → Nat} {i : Nat} (hi : i < 4) : sFix V (sGoer T V i) := by
  unfold sGoer
  by_cases h : V (42 + i) = 0
  · rw [if_pos h]
    unfold sPace
    by_cases hu : sUnd V (V (30 + i))
    · rw [if_pos hu]; exact (sFix.rf.up (by omega)).tr (sPk_fix hi)
    · rw [if_neg hu]; exact sPk_fix hi
  · rw [if_neg h]; exact sFix.rf
theorem sAll_fix {T : sT} {V : Nat → Nat} {n : Nat} (hn : n ≤ 4) : sFix V (sAll T V n) := by
  induction n with
  | zero => exact sFix.rf
  | succ n ih => rw [sAll_s]; exact (ih (by omega)).tr (sGoer_fix (by omega))
theorem sGoer_wf {B : Nat} {V : Nat → Nat} {T : sT} (hT : TLt T) (h : Wf B V) (hB : B < 900000) {i : Nat} (hi : i < V 60) : Wf (B + 4) (sGoer T V i) := by
  have h60 := h.2.2.2.1.2
  have b1 := h.2.2.2.2.2.2.2.2.2.1 i (by omega)
  unfold sGoer
  by_cases hg : V (42 + i) = 0
  · rw [if_pos hg]
    unfold sPace
    by_cases hu : sUnd V (V (30 + i))
    · rw [if_pos hu]
      have e50 : uN V (42 + i) 2 (50 + i) = V (50 + i) := uN_n (by omega)
      have w1 : Wf B (uN V (42 + i) 2) := h.up (by omega) (by omega) (by omega) (by omega) (by omega) (by omega) (by omega) (by omega) (by omega) (by omega) (by omega) (by omega) (by omega)
      rw [e50]
      exact (sPk_wf hT w1 (by rw [uN_n (by omega)]; exact hi) (V (50 + i)) (by omega)).mo (by omega)
    · rw [if_neg hu]; exact (sPk_wf hT h hi (V (50 + i)) (by omega)).mo (by omega)
  · rw [if_neg hg]; exact h.mo (by omega)
theorem sAll_wf {B : Nat} {V : Nat → Nat} {T : sT} (hT : TLt T) (h : Wf B V) (hB : B < 800000) : ∀ n, n ≤ V 60 → Wf (B + 4 * n) (sAll T V n) := by
  intro n
  have h60 := h.2.2.2.1.2
  induction n with
  | zero => intro _; exact h
  | succ n ih =>
    intro hn
    rw [sAll_s]
    exact (sGoer_wf hT (ih (by omega)) (by omega) (by rw [sAll_fix (by omega) 60 (by omega)]; omega)).mo (by omega)
def lkGoer (T : sT) (V : Nat → Nat) (i : Nat) : Nat :=
  if V (42 + i) = 0 then lkPk T i (if sUnd V (V (30 + i)) then uN V (42 + i) 2 else V) (V (50 + i)) else 0
def lkAll (T : sT) (V : Nat → Nat) (n : Nat) : Nat := it (fun i b => b ||| lkGoer T (sAll T V i) i) n 0
def WE (w : Nat) (g0 g : gz_S) (V : Nat → Nat) (lk e : Nat) : Prop := g.1 (w + 16) = fI V ∧ g.1 8 2 = g0.1 8 2 ||| nI lk ∧ g.1 8 1 = nI e ∧ Fr (WF w) g0 g
theorem WE.tr {w a b e : Nat} {g g1 g2 : gz_S} {V V' : Nat → Nat} (h : WE w g g1 V a e) (h' : WS w g1 g2 V' b) : WE w g g2 V' (a ||| b) e :=
  ⟨h'.1, by rw [h'.2.1, h.2.1, Int32.or_assoc, n_or], h'.2.2.1.trans h.2.2.1, h.2.2.2.tr h'.2.2.2⟩
theorem WE.wa {w : Nat} {g g1 : gz_S} {V V' : Nat → Nat} {b e : Nat} (hw : gz_sc w) (h : WE w g g1 V b e) : WE w g (gz_wa g1 (w + 16) (fI V')) V' b e :=
  ⟨wa_at _ _ _, by rw [wa_ne (by rcases hw with rfl | rfl | rfl <;> decide)]; exact h.2.1, by rw [wa_ne (by rcases hw with rfl | rfl | rfl <;> decide)]; exact h.2.2.1, h.2.2.2.wa (Or.inr (Or.inr (Or.inr rfl)))⟩
theorem WE.en {w : Nat} {g g1 : gz_S} {V : Nat → Nat} {b e e' : Nat} (hw : gz_sc w) (h : WE w g g1 V b e) : WE w g (gz_wa g1 8 (upd (g1.1 8) 1 (nI e'))) V b e' :=
  ⟨by rw [wa_ne (by rcases hw with rfl | rfl | rfl <;> decide)]; exact h.1, by rw [wa_at]; exact h.2.1, by rw [wa_at]; rfl, h.2.2.2.wa (Or.inl rfl)⟩
theorem WF_lt {w : Nat} (hw : gz_sc w) : ∀ j, WF w j → j < 64 := by intro j hj; rcases hw with rfl | rfl | rfl <;> omega
/-! who is on a cell -/
theorem it_congr {S : Type} {b b' : Nat → S → S} {s : S} : ∀ n, (∀ i s, i < n → b i s = b' i s) → it b n s = it b' n s := by
  intro n
  induction n with
  | zero => intro _; rfl
  | succ n ih =>
    intro h
    show b n (it b n s) = b' n (it b' n s)
    rw [ih (fun i s hi => h i s (by omega)), h n _ (by omega)]
theorem sCnt_congr {V V' : Nat → Nat} {c : Nat} (h60 : V' 60 = V 60) (h : ∀ i, i < V 60 → V' (42 + i) = V (42 + i) ∧ V' (30 + i) = V (30 + i)) : sCnt V' c = sCnt V c := by
  unfold sCnt
  rw [h60]
  refine it_congr _ (fun i s hi => ?_)
  obtain ⟨h1, h2⟩ := h i hi
  simp only [sOn, h1, h2]
theorem sCnt_mono {V : Nat → Nat} {c n m : Nat} (h : n ≤ m) : it (fun i a => if sOn V c i then a + 1 else a) n 0 ≤ it (fun i a => if sOn V c i then a + 1 else a) m 0 := by
  induction m with
  | zero => rw [show n = 0 by omega]; exact Nat.le_refl _
  | succ m ih =>
    by_cases hm : n = m + 1
    · rw [hm]; exact Nat.le_refl _
    · refine Nat.le_trans (ih (by omega)) ?_
      show it (fun i a => if sOn V c i then a + 1 else a) m 0 ≤ (if sOn V c m then it (fun i a => if sOn V c i then a + 1 else a) m 0 + 1 else it (fun i a => if sOn V c i then a + 1 else a) m 0)
      split <;> omega
theorem sCnt_pos {V : Nat → Nat} {c i : Nat} (hi : i < V 60) (h : sOn V c i) : 1 ≤ sCnt V c := by
  have h1 : it (fun i a => if sOn V c i then a + 1 else a) (i + 1) 0 ≤ sCnt V c := sCnt_mono (by omega)
  have h2 : it (fun i a => if sOn V c i then a + 1 else a) (i + 1) 0 = it (fun i a => if sOn V c i then a + 1 else a) i 0 + 1 := by
    show (if sOn V c i then it (fun i a => if sOn V c i then a + 1 else a) i 0 + 1 else it (fun i a => if sOn V c i then a + 1 else a) i 0) = _
    rw [if_pos h]
  omega
theorem sPairs_s (V : Nat → Nat) (n : Nat) : sPairs V (n + 1) = if V (42 + n) = 0 then sPairs V n + (sCnt V (V (30 + n)) - 1) else sPairs V n := rfl
theorem sPairs_le {V : Nat → Nat} (h : V 60 ≤ 4) : ∀ n, sPairs V n ≤ 4 * n := by
  intro n
  induction n with
  | zero => exact Nat.le_refl _
  | succ n ih =>
    have h1 : sCnt V (V (30 + n)) ≤ V 60 := sCnt_le
    rw [sPairs_s]
    split <;> omega
theorem sTurned_n {V : Nat → Nat} {n k : Nat} (h : k < 34 ∨ 38 ≤ k) (hn : n ≤ 4) : sTurned V n k = V k := by
  unfold sTurned; rw [if_neg (by omega)]
theorem sTurned_wf {B : Nat} {V : Nat → Nat} (h : Wf B V) {n : Nat} (hn : n ≤ 4) : Wf B (sTurned V n) := by
  obtain ⟨a1, a2, a3, a4, a5, a6, a7, a8, a9, a10, a11⟩ := h
  have e : ∀ j, j < 34 ∨ 38 ≤ j → sTurned V n j = V j := fun j hj => sTurned_n hj hn
  refine ⟨fun j => ?_, ?_, ?_, ?_, ?_, ?_, ?_, ?_, fun c hc => ?_, fun i hi => ?_, fun i hi => ?_⟩
  · have := a1 j
    unfold sTurned; split <;> omega
  · rw [e 58 (by omega)]; exact a2
  · rw [e 59 (by omega)]; exact a3
  · rw [e 60 (by omega)]; exact a4
  · rw [e 46 (by omega)]; exact a5
  · rw [e 47 (by omega)]; exact a6
  · rw [e 48 (by omega)]; exact a7
  · rw [e 49 (by omega)]; exact a8
  · rw [e c (by omega)]; exact a9 c hc
  · have b := a10 i hi
    rw [e (30 + i) (by omega), e (38 + i) (by omega), e (42 + i) (by omega), e (50 + i) (by omega), e (54 + i) (by omega)]
    refine ⟨b.1, ?_, b.2.2⟩
    unfold sTurned; split <;> omega
  · rw [e 60 (by omega)] at hi
    rw [e (30 + i) (by omega), e (50 + i) (by omega), e (54 + i) (by omega), e 58 (by omega), e 59 (by omega)]
    exact a11 i hi
theorem sMet_le {V : Nat → Nat} {T : sT} (h : V 60 ≤ 4) : sMet T V ≤ 8 := by
  unfold sMet
  have := sPairs_le (V := sAll T V (V 60)) (by rw [sAll_fix h 60 (by omega)]; exact h) (V 60)
  omega
theorem sHour_wf {B : Nat} {V : Nat → Nat} {T : sT} (hT : TLt T) (h : Wf B V) (hB : B < 800000) : Wf (B + 20) (sHour T V) := by
  have h60 := h.2.2.2.1.2
  have h49 := h.2.2.2.2.2.2.2.1
  have w1 := (sTurned_wf (sAll_wf hT h hB (V 60) (Nat.le_refl _)) h60).mo (show B + 4 * V 60 ≤ B + 20 by omega)
  unfold sHour
  have w2 : Wf (B + 20) (uN (sTurned (sAll T V (V 60)) (V 60)) 47 (min 9999 (V 47 + sMet T V))) := w1.up (by omega) (by omega) (by omega) (by omega) (by omega) (by omega) (by omega) (by omega) (by omega) (by omega) (by omega) (by omega) (by omega)
  exact w2.up (by omega) (by omega) (by omega) (by omega) (by omega) (by omega) (by omega) (by omega) (by omega) (by omega) (by omega) (by omega) (by omega)
/-- what an hour leaves as it was -/
theorem sHour_fix {V : Nat → Nat} {T : sT} (h : V 60 ≤ 4) {k : Nat} (hk : k < 30 ∨ k = 46 ∨ k = 48 ∨ 50 ≤ k) : sHour T V k = V k := by
  unfold sHour
  rw [uN_n (by omega), uN_n (by omega), sTurned_n (by omega) h, sAll_fix h k (by omega)]
theorem c_min {La : gz_L} {g : gz_S} {a b : Nat} (ha : a < 2147483648) (hb : b < 2147483648) : fJ9_min_7cf53 La (nI a) (nI b) g = some (nI (min a b), g) := by
  unfold fJ9_min_7cf53
  simp only [n_lt hb ha]
  by_cases h : b < a
  · rw [if_pos h, show min a b = b by omega]
  · rw [if_neg h, show min a b = a by omega]
theorem c_max {La : gz_L} {g : gz_S} {a b : Nat} (ha : a < 2147483648) (hb : b < 2147483648) : fJ9_max_7cf53 La (nI a) (nI b) g = some (nI (max a b), g) := by
  unfold fJ9_max_7cf53
  simp only [n_lt ha hb]
  by_cases h : a < b
  · rw [if_pos h, show max a b = b by omega]
  · rw [if_neg h, show max a b = a by omega]
section C10
variable {La : gz_L} {w : Nat} {g : gz_S} {V : Nat → Nat} {B : Nat} {T : sT}
theorem c_pass7 (hw : gz_sc w) (hv : g.1 (w + 16) = fI V) (h8 : g.1 8 1 = nI 0) (hW : Wf B V) (hB : B < 800000) (hL : LW La g T) (K : gz_S → Option (Int32 × gz_S)) :
    ∃ g', fX10_passHour_7 La w K gz_FU (nI 0) g = K g' ∧ WE w g g' (sAll T V (V 60)) (lkAll T V (V 60)) (sEnd T V (V 60)) := by
  have h60 := hW.2.2.2.1.2
  refine lp (fun f i g1 => fX10_passHour_7 La w K f (nI i) g1) (fun i g1 => WE w g g1 (sAll T V i) (lkAll T V i) (sEnd T V i)) (V 60) (fun r => ∃ g', r = K g' ∧ WE w g g' (sAll T V (V 60)) (lkAll T V (V 60)) (sEnd T V (V 60))) ?_ ?_ gz_FU 0 g (by omega) (by unfold gz_FU; omega) ⟨hv, (n_or0 _).symm, h8, Fr.rf⟩
  · intro f i g1 hi h1
    refine Or.inr ?_
    show ∃ g', fX10_passHour_7 La w K (f + 1) (nI i) g1 = fX10_passHour_7 La w K f (nI (i + 1)) g' ∧ _
    have hi4 : i < 4 := by omega
    have hT := hL.lt
    have hW1 : Wf (B + 4 * i) (sAll T V i) := sAll_wf hT hW hB i (by omega)
    have e60 : sAll T V i 60 = V 60 := sAll_fix (by omega) 60 (by omega)
    have hn : ¬ V 60 ≤ i := by omega
    have b1 := hW1.2.2.2.2.2.2.2.2.2.1 i hi4
    have hL1 := hL.fr h1.2.2.2 (WF_lt hw)
    have es : sEnd T V (i + 1) = if sAll T V i (42 + i) = 0 ∧ ¬ sAll T V (i + 1) (42 + i) = 0 then sEnd T V i ||| 2 ^ i else sEnd T V i := rfl
    have ek : lkAll T V (i + 1) = lkAll T V i ||| lkGoer T (sAll T V i) i := rfl
    have hg : ∀ W, sAll T V i = W → sGoer T W i = if W (42 + i) = 0 then sPace T i (if sUnd W (W (30 + i)) then uN W (42 + i) 2 else W) else W := fun _ _ => rfl
    by_cases h0 : sAll T V i (42 + i) = 0
    · -- it goes
      have key : ∀ (g2 : gz_S) (W : Nat → Nat), WE w g g2 W (lkAll T V i) (sEnd T V i) → Wf (B + 4 * i) W → W 60 = V 60 → W (50 + i) = sAll T V i (50 + i) → sAll T V (i + 1) = sPace T i W → lkGoer T (sAll T V i) i = lkPk T i W (W (50 + i)) →
          ∃ g', fX10_passHour_55 La w (fX10_passHour_7 La w K f) (nI i) g2 = fX10_passHour_7 La w K f (nI (i + 1)) g' ∧ WE w g g' (sAll T V (i + 1)) (lkAll T V (i + 1)) (sEnd T V (i + 1)) := by
        intro g2 W h2 w2 w60 w50 eA eL
        obtain ⟨g3, h3, h4⟩ := c_pass57 (La := La) hw h2.1 w2 (by omega) (hL.fr h2.2.2.2 (WF_lt hw)) (i := i) (by omega) (fX10_passHour_90 La w (fX10_passHour_7 La w K f))
        have h5 := h2.tr h4
        rw [← eA, ← eL, ← ek] at h5
        have hW3 : Wf (B + 4 * (i + 1)) (sAll T V (i + 1)) := sAll_wf hT hW hB (i + 1) (by omega)
        unfold fX10_passHour_55
        rw [l_0, h3]
        by_cases h6 : sAll T V (i + 1) (42 + i) = 0
        · refine ⟨g3, ?_, ?_⟩
          · simp (disch := omega) only [l_0, l_1, l_2, l_3, l_4, l_5, l_6, l_7, l_8, l_9, l_10, l_11, l_12, l_13, l_14, l_15, l_16, l_17, l_18, l_19, l_20, l_21, l_22, l_23, l_24, l_25, l_26, l_28, l_29, l_30, l_31, l_32, l_33, l_34, l_36, l_37, l_38, l_39, l_40, l_41, l_42, l_43, l_44, l_45, l_46, l_47, l_48, l_49, l_50, l_53, l_54, l_57, l_58, l_59, l_60, l_61, l_62, l_63, l_91, l_93, l_97, l_98, l_99, l_100, l_103, l_104, l_110, l_112, l_114, l_115, l_116, l_119, l_120, l_121, l_124, l_128, l_231, l_240, l_241, l_255, l_496, l_999, l_1000, l_8191, l_9999, l_10000, l_100000, l_200000, l_1000000, l_1000000000, gz_let_eq, Option.bind_some, ↓reduceIte, wi_wa, wa_at, wa_wa, upd_fI, fI_ap, wa_2, n_add, n_ok, n_cl, n_lt, n_le, n_eq, p_0, p_1, p_01, fX10_passHour_90, fX10_passHour_110, c_goes h5.1 hW3.1, h6, not_true]
          · rw [es, if_neg (fun e => e.2 h6)]; exact h5
        · refine ⟨gz_wa g3 8 (upd (g3.1 8) 1 (nI (sEnd T V i ||| 2 ^ i))), ?_, ?_⟩
          · simp (disch := omega) only [l_0, l_1, l_2, l_3, l_4, l_5, l_6, l_7, l_8, l_9, l_10, l_11, l_12, l_13, l_14, l_15, l_16, l_17, l_18, l_19, l_20, l_21, l_22, l_23, l_24, l_25, l_26, l_28, l_29, l_30, l_31, l_32, l_33, l_34, l_36, l_37, l_38, l_39, l_40, l_41, l_42, l_43, l_44, l_45, l_46, l_47, l_48, l_49, l_50, l_53, l_54, l_57, l_58, l_59, l_60, l_61, l_62, l_63, l_91, l_93, l_97, l_98, l_99, l_100, l_103, l_104, l_110, l_112, l_114, l_115, l_116, l_119, l_120, l_121, l_124, l_128, l_231, l_240, l_241, l_255, l_496, l_999, l_1000, l_8191, l_9999, l_10000, l_100000, l_200000, l_1000000, l_1000000000, gz_let_eq, Option.bind_some, ↓reduceIte, wi_wa, wa_at, wa_wa, upd_fI, fI_ap, wa_2, n_add, n_ok, n_cl, n_lt, n_le, n_eq, p_0, p_1, p_01, fX10_passHour_90, fX10_passHour_110, c_goes h5.1 hW3.1, h6, not_false_eq_true, h5.2.2.1, n_shl1, n_or]
          · rw [es, if_pos ⟨h0, h6⟩]; exact h5.en hw
      by_cases hu : sUnd (sAll T V i) (sAll T V i (30 + i))
      · have w2 : Wf (B + 4 * i) (uN (sAll T V i) (42 + i) 2) := hW1.up (by omega) (by omega) (by omega) (by omega) (by omega) (by omega) (by omega) (by omega) (by omega) (by omega) (by omega) (by omega) (by omega)
        have e50 : uN (sAll T V i) (42 + i) 2 (50 + i) = sAll T V i (50 + i) := uN_n (by omega)
        obtain ⟨g', k1, k2⟩ := key (gz_wa g1 (w + 16) (fI (uN (sAll T V i) (42 + i) 2))) _ (h1.wa hw) w2 (by rw [uN_n (by omega)]; exact e60) e50
          (by rw [sAll_s, hg _ rfl, if_pos h0, if_pos hu]) (by unfold lkGoer; rw [if_pos h0, if_pos hu, e50])
        refine ⟨g', ?_, k2⟩
        rw [← k1, fX10_passHour_7]
        simp (disch := omega) only [l_0, l_1, l_2, l_3, l_4, l_5, l_6, l_7, l_8, l_9, l_10, l_11, l_12, l_13, l_14, l_15, l_16, l_17, l_18, l_19, l_20, l_21, l_22, l_23, l_24, l_25, l_26, l_28, l_29, l_30, l_31, l_32, l_33, l_34, l_36, l_37, l_38, l_39, l_40, l_41, l_42, l_43, l_44, l_45, l_46, l_47, l_48, l_49, l_50, l_53, l_54, l_57, l_58, l_59, l_60, l_61, l_62, l_63, l_91, l_93, l_97, l_98, l_99, l_100, l_103, l_104, l_110, l_112, l_114, l_115, l_116, l_119, l_120, l_121, l_124, l_128, l_231, l_240, l_241, l_255, l_496, l_999, l_1000, l_8191, l_9999, l_10000, l_100000, l_200000, l_1000000, l_1000000000, gz_let_eq, Option.bind_some, ↓reduceIte, wi_wa, wa_at, wa_wa, upd_fI, fI_ap, wa_2, n_add, n_ok, n_cl, n_lt, n_le, n_eq, p_0, p_1, p_01, h1.1, e60, hn, c_goes h1.1 hW1.1, h0, not_true, c_under h1.1 hW1]
        rw [if_neg (not_not_intro hu)]
      · obtain ⟨g', k1, k2⟩ := key g1 _ h1 hW1 e60 rfl (by rw [sAll_s, hg _ rfl, if_pos h0, if_neg hu]) (by unfold lkGoer; rw [if_pos h0, if_neg hu])
        refine ⟨g', ?_, k2⟩
        rw [← k1, fX10_passHour_7]
        simp (disch := omega) only [l_0, l_1, l_2, l_3, l_4, l_5, l_6, l_7, l_8, l_9, l_10, l_11, l_12, l_13, l_14, l_15, l_16, l_17, l_18, l_19, l_20, l_21, l_22, l_23, l_24, l_25, l_26, l_28, l_29, l_30, l_31, l_32, l_33, l_34, l_36, l_37, l_38, l_39, l_40, l_41, l_42, l_43, l_44, l_45, l_46, l_47, l_48, l_49, l_50, l_53, l_54, l_57, l_58, l_59, l_60, l_61, l_62, l_63, l_91, l_93, l_97, l_98, l_99, l_100, l_103, l_104, l_110, l_112, l_114, l_115, l_116, l_119, l_120, l_121, l_124, l_128, l_231, l_240, l_241, l_255, l_496, l_999, l_1000, l_8191, l_9999, l_10000, l_100000, l_200000, l_1000000, l_1000000000, gz_let_eq, Option.bind_some, ↓reduceIte, wi_wa, wa_at, wa_wa, upd_fI, fI_ap, wa_2, n_add, n_ok, n_cl, n_lt, n_le, n_eq, p_0, p_1, p_01, h1.1, e60, hn, c_goes h1.1 hW1.1, h0, not_true, c_under h1.1 hW1]
        rw [if_pos hu]
    · refine ⟨g1, ?_, ?_⟩
      · rw [fX10_passHour_7]
        simp (disch := omega) only [l_0, l_1, l_2, l_3, l_4, l_5, l_6, l_7, l_8, l_9, l_10, l_11, l_12, l_13, l_14, l_15, l_16, l_17, l_18, l_19, l_20, l_21, l_22, l_23, l_24, l_25, l_26, l_28, l_29, l_30, l_31, l_32, l_33, l_34, l_36, l_37, l_38, l_39, l_40, l_41, l_42, l_43, l_44, l_45, l_46, l_47, l_48, l_49, l_50, l_53, l_54, l_57, l_58, l_59, l_60, l_61, l_62, l_63, l_91, l_93, l_97, l_98, l_99, l_100, l_103, l_104, l_110, l_112, l_114, l_115, l_116, l_119, l_120, l_121, l_124, l_128, l_231, l_240, l_241, l_255, l_496, l_999, l_1000, l_8191, l_9999, l_10000, l_100000, l_200000, l_1000000, l_1000000000, gz_let_eq, Option.bind_some, ↓reduceIte, wi_wa, wa_at, wa_wa, upd_fI, fI_ap, wa_2, n_add, n_ok, n_cl, n_lt, n_le, n_eq, p_0, p_1, p_01, h1.1, e60, hn, c_goes h1.1 hW1.1, h0, not_false_eq_true, fX10_passHour_110]
      · have eA : sAll T V (i + 1) = sAll T V i := by rw [sAll_s, hg _ rfl, if_neg h0]
        have eL : lkGoer T (sAll T V i) i = 0 := by unfold lkGoer; rw [if_neg h0]
        rw [es, if_neg (fun e => h0 e.1), ek, eL, eA, Nat.or_zero]; exact h1
  · intro f g1 h1
    have e60 : sAll T V (V 60) 60 = V 60 := sAll_fix h60 60 (by omega)
    refine ⟨g1, ?_, h1⟩
    show fX10_passHour_7 La w K (f + 1) (nI (V 60)) g1 = K g1
    rw [fX10_passHour_7]
    simp (disch := omega) only [l_0, l_1, l_2, l_3, l_4, l_5, l_6, l_7, l_8, l_9, l_10, l_11, l_12, l_13, l_14, l_15, l_16, l_17, l_18, l_19, l_20, l_21, l_22, l_23, l_24, l_25, l_26, l_28, l_29, l_30, l_31, l_32, l_33, l_34, l_36, l_37, l_38, l_39, l_40, l_41, l_42, l_43, l_44, l_45, l_46, l_47, l_48, l_49, l_50, l_53, l_54, l_57, l_58, l_59, l_60, l_61, l_62, l_63, l_91, l_93, l_97, l_98, l_99, l_100, l_103, l_104, l_110, l_112, l_114, l_115, l_116, l_119, l_120, l_121, l_124, l_128, l_231, l_240, l_241, l_255, l_496, l_999, l_1000, l_8191, l_9999, l_10000, l_100000, l_200000, l_1000000, l_1000000000, gz_let_eq, Option.bind_some, ↓reduceIte, wi_wa, wa_at, wa_wa, upd_fI, fI_ap, wa_2, n_add, n_ok, n_cl, n_lt, n_le, n_eq, p_0, p_1, p_01, h1.1, e60, Nat.le_refl]
theorem c_turnThoseMet (hv : g.1 (w + 16) = fI V) (hW : Wf B V) : fX10_turnThoseMet La w g = some (nI (sPairs V (V 60) / 2), gz_wa g (w + 16) (fI (sTurned V (V 60)))) := by
  have h60 := hW.2.2.2.1.2
  have e0 : gz_wa g (w + 16) (fI (sTurned V 0)) = g := by
    have : sTurned V 0 = V := by funext k; unfold sTurned; rw [if_neg (by omega)]
    rw [this, ← hv]
    unfold gz_wa
    refine Prod.ext ?_ rfl
    funext j
    by_cases hj : j = w + 16
    · subst hj; exact if_pos rfl
    · exact if_neg hj
  unfold fX10_turnThoseMet
  rw [l_0]
  refine lp (fun f i (g1 : gz_S) => fX10_turnThoseMet_4 La w (fun (x2 : Int32) g => some (x2 / 2, g)) f (nI (sPairs V i)) (nI i) g1) (fun i g1 => g1 = gz_wa g (w + 16) (fI (sTurned V i))) (V 60) (fun r => r = some (nI (sPairs V (V 60) / 2), gz_wa g (w + 16) (fI (sTurned V (V 60))))) ?_ ?_ gz_FU 0 g (by omega) (by unfold gz_FU; omega) e0.symm
  · intro f i g1 hi h1
    subst h1
    refine Or.inr ⟨_, ?_, rfl⟩
    show fX10_turnThoseMet_4 La w _ (f + 1) (nI (sPairs V i)) (nI i) (gz_wa g (w + 16) (fI (sTurned V i))) = fX10_turnThoseMet_4 La w _ f (nI (sPairs V (i + 1))) (nI (i + 1)) (gz_wa g (w + 16) (fI (sTurned V (i + 1))))
    have hv1 : (gz_wa g (w + 16) (fI (sTurned V i))).1 (w + 16) = fI (sTurned V i) := wa_at _ _ _
    have hi4 : i < 4 := by omega
    have hW1 := sTurned_wf hW (n := i) (by omega)
    have e60 : sTurned V i 60 = V 60 := sTurned_n (by omega) (by omega)
    have e42 : sTurned V i (42 + i) = V (42 + i) := sTurned_n (by omega) (by omega)
    have e30 : sTurned V i (30 + i) = V (30 + i) := sTurned_n (by omega) (by omega)
    have e34 : sTurned V i (34 + i) = V (34 + i) := by unfold sTurned; rw [if_neg (by omega)]
    have hn : ¬ V 60 ≤ i := by omega
    have b1 := hW.2.2.2.2.2.2.2.2.2.1 i hi4
    have ec : sCnt (sTurned V i) (V (30 + i)) = sCnt V (V (30 + i)) := sCnt_congr e60 (fun j hj => ⟨sTurned_n (by omega) (by omega), sTurned_n (by omega) (by omega)⟩)
    have hc4 : sCnt V (V (30 + i)) ≤ V 60 := sCnt_le
    have hp := sPairs_le h60 i
    rw [fX10_turnThoseMet_4]
    simp (disch := omega) only [l_0, l_1, l_2, l_3, l_4, l_5, l_6, l_7, l_8, l_9, l_10, l_11, l_12, l_13, l_14, l_15, l_16, l_17, l_18, l_19, l_20, l_21, l_22, l_23, l_24, l_25, l_26, l_28, l_29, l_30, l_31, l_32, l_33, l_34, l_36, l_37, l_38, l_39, l_40, l_41, l_42, l_43, l_44, l_45, l_46, l_47, l_48, l_49, l_50, l_53, l_54, l_57, l_58, l_59, l_60, l_61, l_62, l_63, l_91, l_93, l_97, l_98, l_99, l_100, l_103, l_104, l_110, l_112, l_114, l_115, l_116, l_119, l_120, l_121, l_124, l_128, l_231, l_240, l_241, l_255, l_496, l_999, l_1000, l_8191, l_9999, l_10000, l_100000, l_200000, l_1000000, l_1000000000, gz_let_eq, Option.bind_some, ↓reduceIte, wi_wa, wa_at, wa_wa, upd_fI, fI_ap, wa_2, n_add, n_ok, n_cl, n_lt, n_le, n_eq, p_0, p_1, p_01, e60, hn, c_goes hv1 hW1.1, e42]
    by_cases h0 : V (42 + i) = 0
    · have hc1 : 1 ≤ sCnt V (V (30 + i)) := sCnt_pos hi ⟨h0, rfl⟩
      simp (disch := omega) only [l_0, l_1, l_2, l_3, l_4, l_5, l_6, l_7, l_8, l_9, l_10, l_11, l_12, l_13, l_14, l_15, l_16, l_17, l_18, l_19, l_20, l_21, l_22, l_23, l_24, l_25, l_26, l_28, l_29, l_30, l_31, l_32, l_33, l_34, l_36, l_37, l_38, l_39, l_40, l_41, l_42, l_43, l_44, l_45, l_46, l_47, l_48, l_49, l_50, l_53, l_54, l_57, l_58, l_59, l_60, l_61, l_62, l_63, l_91, l_93, l_97, l_98, l_99, l_100, l_103, l_104, l_110, l_112, l_114, l_115, l_116, l_119, l_120, l_121, l_124, l_128, l_231, l_240, l_241, l_255, l_496, l_999, l_1000, l_8191, l_9999, l_10000, l_100000, l_200000, l_1000000, l_1000000000, gz_let_eq, Option.bind_some, ↓reduceIte, wi_wa, wa_at, wa_wa, upd_fI, fI_ap, wa_2, n_add, n_ok, n_cl, n_lt, n_le, n_eq, p_0, p_1, p_01, h0, not_true, e30, c_goingOn hv1 hW1.1 (show sTurned V i 60 ≤ 4 by omega), ec, n_sub, e34, fX10_turnThoseMet_72, fX10_turnThoseMet_76, n_and3, sPairs_s]
      by_cases h2 : sCnt V (V (30 + i)) - 1 ≤ 0
      · rw [if_pos h2]
        congr 4
        funext k
        unfold uN sTurned
        by_cases hk : k = 34 + i
        · rw [if_pos hk, if_neg (by rw [hk]; have : 34 + i - 34 = i := by omega
                                    rw [this]; omega), hk]; omega
        · rw [if_neg hk]
          by_cases hk2 : 34 ≤ k ∧ k < 34 + i ∧ V (42 + (k - 34)) = 0 ∧ 1 < sCnt V (V (30 + (k - 34)))
          · rw [if_pos hk2, if_pos (by omega)]
          · rw [if_neg hk2, if_neg (by omega)]
      · rw [if_neg h2]
        congr 4
        funext k
        unfold uN sTurned
        by_cases hk : k = 34 + i
        · have hx : 34 + i - 34 = i := by omega
          rw [if_pos hk, if_pos (by rw [hk, hx]; omega), hk]
        · rw [if_neg hk]
          by_cases hk2 : 34 ≤ k ∧ k < 34 + i ∧ V (42 + (k - 34)) = 0 ∧ 1 < sCnt V (V (30 + (k - 34)))
          · rw [if_pos hk2, if_pos (by omega)]
          · rw [if_neg hk2, if_neg (by omega)]
    · simp (disch := omega) only [l_0, l_1, l_2, l_3, l_4, l_5, l_6, l_7, l_8, l_9, l_10, l_11, l_12, l_13, l_14, l_15, l_16, l_17, l_18, l_19, l_20, l_21, l_22, l_23, l_24, l_25, l_26, l_28, l_29, l_30, l_31, l_32, l_33, l_34, l_36, l_37, l_38, l_39, l_40, l_41, l_42, l_43, l_44, l_45, l_46, l_47, l_48, l_49, l_50, l_53, l_54, l_57, l_58, l_59, l_60, l_61, l_62, l_63, l_91, l_93, l_97, l_98, l_99, l_100, l_103, l_104, l_110, l_112, l_114, l_115, l_116, l_119, l_120, l_121, l_124, l_128, l_231, l_240, l_241, l_255, l_496, l_999, l_1000, l_8191, l_9999, l_10000, l_100000, l_200000, l_1000000, l_1000000000, gz_let_eq, Option.bind_some, ↓reduceIte, wi_wa, wa_at, wa_wa, upd_fI, fI_ap, wa_2, n_add, n_ok, n_cl, n_lt, n_le, n_eq, p_0, p_1, p_01, h0, not_false_eq_true, fX10_turnThoseMet_76, sPairs_s]
      congr 3
      funext k
      unfold sTurned
      by_cases hk : k = 34 + i
      · have hx : 34 + i - 34 = i := by omega
        rw [if_neg (by omega), if_neg (by rw [hk, hx]; omega)]
      · by_cases hk2 : 34 ≤ k ∧ k < 34 + i ∧ V (42 + (k - 34)) = 0 ∧ 1 < sCnt V (V (30 + (k - 34)))
        · rw [if_pos hk2, if_pos (by omega)]
        · rw [if_neg hk2, if_neg (by omega)]
  · intro f g1 h1
    subst h1
    have e60 : sTurned V (V 60) 60 = V 60 := sTurned_n (by omega) h60
    have hp := sPairs_le h60 (V 60)
    show fX10_turnThoseMet_4 La w _ (f + 1) (nI (sPairs V (V 60))) (nI (V 60)) (gz_wa g (w + 16) (fI (sTurned V (V 60)))) = _
    rw [fX10_turnThoseMet_4]
    simp (disch := omega) only [l_0, l_1, l_2, l_3, l_4, l_5, l_6, l_7, l_8, l_9, l_10, l_11, l_12, l_13, l_14, l_15, l_16, l_17, l_18, l_19, l_20, l_21, l_22, l_23, l_24, l_25, l_26, l_28, l_29, l_30, l_31, l_32, l_33, l_34, l_36, l_37, l_38, l_39, l_40, l_41, l_42, l_43, l_44, l_45, l_46, l_47, l_48, l_49, l_50, l_53, l_54, l_57, l_58, l_59, l_60, l_61, l_62, l_63, l_91, l_93, l_97, l_98, l_99, l_100, l_103, l_104, l_110, l_112, l_114, l_115, l_116, l_119, l_120, l_121, l_124, l_128, l_231, l_240, l_241, l_255, l_496, l_999, l_1000, l_8191, l_9999, l_10000, l_100000, l_200000, l_1000000, l_1000000000, gz_let_eq, Option.bind_some, ↓reduceIte, wi_wa, wa_at, wa_wa, upd_fI, fI_ap, wa_2, n_add, n_ok, n_cl, n_lt, n_le, n_eq, p_0, p_1, p_01, e60, Nat.le_refl, n_div]
/-- an hour -/
theorem c_passHour (hw : gz_sc w) (hv : g.1 (w + 16) = fI V) (hW : Wf B V) (hB : B < 800000) (hL : LW La g T) :
    ∃ g', fX10_passHour La w g = some (nI (sMet T V), g') ∧ WE w g g' (sHour T V) (lkAll T V (V 60)) (sEnd T V (V 60)) := by
  have h60 := hW.2.2.2.1.2
  have hv0 : (gz_wa g 8 (upd (g.1 8) 1 (nI 0))).1 (w + 16) = fI V := by rw [wa_ne (by rcases hw with rfl | rfl | rfl <;> decide)]; exact hv
  have hF0 : Fr (WF w) g (gz_wa g 8 (upd (g.1 8) 1 (nI 0))) := Fr.rf.wa (Or.inl rfl)
  obtain ⟨g1, h1, h2⟩ := c_pass7 (La := La) (B := B) hw hv0 (by rw [wa_at]; rfl) hW hB (hL.fr hF0 (WF_lt hw)) (fun g => (fX10_turnThoseMet La w g).bind (fun q118 => (fJ9_min_7cf53 La 9999 ((q118.2.1 (w + 16) 47) + q118.1) q118.2).bind (fun q140 => gz_let (gz_wi q140.2 (w + 16) 47 q140.1) (fun g143 => gz_let (gz_wi g143 (w + 16) 49 ((g143.1 (w + 16) 49) + 1)) (fun g154 => some (q118.1, g154))))))
  have hW1 : Wf (B + 4 * V 60) (sAll T V (V 60)) := sAll_wf hL.lt hW hB (V 60) (Nat.le_refl _)
  have e60 : sAll T V (V 60) 60 = V 60 := sAll_fix h60 60 (by omega)
  have e47 : sTurned (sAll T V (V 60)) (V 60) 47 = V 47 := by rw [sTurned_n (by omega) h60]; exact sAll_fix h60 47 (by omega)
  have e49 : sTurned (sAll T V (V 60)) (V 60) 49 = V 49 := by rw [sTurned_n (by omega) h60]; exact sAll_fix h60 49 (by omega)
  have hm := sMet_le (T := T) h60
  have hb := hW.1 47
  have ht := c_turnThoseMet (La := La) h2.1 hW1
  have em : sPairs (sAll T V (V 60)) (V 60) / 2 = sMet T V := rfl
  rw [e60, em] at ht
  have e3 : uN (sTurned (sAll T V (V 60)) (V 60)) 47 (min 9999 (V 47 + sMet T V)) 49 = V 49 := by rw [uN_n (by omega)]; exact e49
  have h20 : WE w g g1 (sAll T V (V 60)) (lkAll T V (V 60)) (sEnd T V (V 60)) :=
    ⟨h2.1, by rw [h2.2.1, wa_at]; rfl, h2.2.2.1, hF0.tr h2.2.2.2⟩
  unfold fX10_passHour
  rw [l_0, gz_let_eq, wi_wa, h1]
  simp (disch := omega) only [l_0, l_1, l_2, l_3, l_4, l_5, l_6, l_7, l_8, l_9, l_10, l_11, l_12, l_13, l_14, l_15, l_16, l_17, l_18, l_19, l_20, l_21, l_22, l_23, l_24, l_25, l_26, l_28, l_29, l_30, l_31, l_32, l_33, l_34, l_36, l_37, l_38, l_39, l_40, l_41, l_42, l_43, l_44, l_45, l_46, l_47, l_48, l_49, l_50, l_53, l_54, l_57, l_58, l_59, l_60, l_61, l_62, l_63, l_91, l_93, l_97, l_98, l_99, l_100, l_103, l_104, l_110, l_112, l_114, l_115, l_116, l_119, l_120, l_121, l_124, l_128, l_231, l_240, l_241, l_255, l_496, l_999, l_1000, l_8191, l_9999, l_10000, l_100000, l_200000, l_1000000, l_1000000000, gz_let_eq, Option.bind_some, ↓reduceIte, wi_wa, wa_at, wa_wa, upd_fI, fI_ap, wa_2, n_add, n_ok, n_cl, n_lt, n_le, n_eq, p_0, p_1, p_01, ht, e47, c_min, e3]
  exact ⟨_, rfl, h20.wa hw⟩
end C10
