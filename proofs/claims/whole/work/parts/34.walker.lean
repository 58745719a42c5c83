/-! the class's walker: a step, an hour -/
theorem sBes_uN {V : Nat → Nat} {k x c d : Nat} (h8 : k ≠ 58) (h9 : k ≠ 59) : sBes (uN V k x) c d = sBes V c d := by
  unfold sBes
  rw [uN_n (Ne.symm h8), uN_n (Ne.symm h9)]
theorem sLie_uN {V : Nat → Nat} {k x : Nat} {o : Option Nat} (h8 : k ≠ 58) (h9 : k ≠ 59) (h6 : k ≠ 46) (ho : ∀ c, o = some c → c ≠ k) : sLie (uN V k x) o = sLie V o := by
  cases o with
  | none => rfl
  | some c =>
    show (if uN V k x c = 1 then 1 else if uN V k x c = 2 ∨ (uN V k x 59 - uN V k x 46) * uN V k x 58 ≤ c then 2 else if uN V k x c = 3 then 3 else 0) = _
    rw [uN_n (ho c rfl), uN_n (Ne.symm h8), uN_n (Ne.symm h9), uN_n (Ne.symm h6)]
    rfl
theorem sAhd_uN {B : Nat} {V : Nat → Nat} (hW : Wf B V) {k x i d : Nat} (hi : i < 4) (hc : V (30 + i) < V 58 * V 59) (h3 : 34 ≤ k) (h8 : k ≠ 58) (h9 : k ≠ 59) (h6 : k ≠ 46) : sAhd (uN V k x) i d = sAhd V i d := by
  have h30 := hW.cells
  unfold sAhd
  rw [uN_n (by omega), sBes_uN h8 h9, sLie_uN h8 h9 h6]
  intro c he
  have := sBes_lt hW.2.1 hc he
  omega
/-- the cells that are looked at: bits -/
def sLk (V : Nat → Nat) (i d : Nat) : Nat := match sBes V (V (30 + i)) d with
  | none => 0
  | some c => 2 ^ c
def sLkS (T : sT) (V : Nat → Nat) (i : Nat) : Nat := match T with
  | none => sLk V i (V (34 + i)) ||| sLk V i (sTurn none V i)
  | some t => (sLk V i (V (34 + i)) ||| sLk V i ((V (34 + i) + 1) % 4)) ||| sLk V i (sTurn (some t) V i)
def lkS (g : gz_S) (b : Nat) : gz_S := gz_wa g 8 (upd (g.1 8) 2 (g.1 8 2 ||| nI b))
theorem lkS_2 (g : gz_S) (b : Nat) : (lkS g b).2 = g.2 := rfl
theorem lkS_n {g : gz_S} {b j : Nat} (h : j ≠ 8) : (lkS g b).1 j = g.1 j := wa_ne h
theorem lkS_0 (g : gz_S) : lkS g 0 = g := by
  unfold lkS gz_wa
  refine Prod.ext ?_ rfl
  funext i
  by_cases h : i = 8
  · subst h
    show (if 8 = 8 then upd (g.1 8) 2 (g.1 8 2 ||| nI 0) else g.1 8) = g.1 8
    rw [if_pos rfl]
    funext k
    unfold upd
    by_cases hk : k = 2
    · rw [if_pos hk, hk]; exact Int32.or_zero
    · rw [if_neg hk]
  · show (if i = 8 then _ else g.1 i) = g.1 i
    rw [if_neg h]
theorem lkS_8 (g : gz_S) (b : Nat) : (lkS g b).1 8 2 = g.1 8 2 ||| nI b := by
  unfold lkS; rw [wa_at]; exact if_pos rfl
theorem lkS_81 (g : gz_S) (b : Nat) : (lkS g b).1 8 1 = g.1 8 1 := by
  unfold lkS; rw [wa_at]; exact if_neg (by decide)
abbrev WF (w : Nat) (j : Nat) : Prop := j = 8 ∨ j = 24 ∨ j = 25 ∨ j = w + 16
def WS (w : Nat) (g0 g : gz_S) (V : Nat → Nat) (lk : Nat) : Prop := g.1 (w + 16) = fI V ∧ g.1 8 2 = g0.1 8 2 ||| nI lk ∧ g.1 8 1 = g0.1 8 1 ∧ Fr (WF w) g0 g
theorem n_or0 (x : Int32) : x ||| nI 0 = x := Int32.or_zero
theorem WS.rf {w : Nat} {g : gz_S} {V : Nat → Nat} (hv : g.1 (w + 16) = fI V) : WS w g g V 0 := ⟨hv, (n_or0 _).symm, rfl, Fr.rf⟩
theorem WS.tr {w a b : Nat} {g g1 g2 : gz_S} {V V' : Nat → Nat} (h : WS w g g1 V a) (h' : WS w g1 g2 V' b) : WS w g g2 V' (a ||| b) :=
  ⟨h'.1, by rw [h'.2.1, h.2.1, Int32.or_assoc, n_or], h'.2.2.1.trans h.2.2.1, h.2.2.2.tr h'.2.2.2⟩
theorem WS.lk {w : Nat} {g : gz_S} {V : Nat → Nat} {b : Nat} (hw : gz_sc w) (hv : g.1 (w + 16) = fI V) : WS w g (lkS g b) V b :=
  ⟨by rw [lkS_n (by rcases hw with rfl | rfl | rfl <;> decide)]; exact hv, lkS_8 g b, lkS_81 g b, Fr.rf.wa (Or.inl rfl)⟩
theorem WS.wa {w : Nat} {g g1 : gz_S} {V V' : Nat → Nat} {b : Nat} (hw : gz_sc w) (h : WS w g g1 V b) : WS w g (gz_wa g1 (w + 16) (fI V')) V' b :=
  ⟨wa_at _ _ _, by rw [wa_ne (by rcases hw with rfl | rfl | rfl <;> decide)]; exact h.2.1, by rw [wa_ne (by rcases hw with rfl | rfl | rfl <;> decide)]; exact h.2.2.1, h.2.2.2.wa (Or.inr (Or.inr (Or.inr rfl)))⟩
/-- what the class's law answers -/
def LW (La : gz_L) (g : gz_S) (T : sT) : Prop := match T with
  | none => g.2.2 0 = none
  | some t => (∀ b a r p n h, t b a r p n h < 4) ∧ ∃ e, g.2.2 0 = some e ∧ gz_lw La e ∧ ∀ g1 : gz_S, g1.1 (e + 1) = g.1 (e + 1) → ∀ b a r p n h : Nat, b < 4 → a < 4 → r < 4 → p < 5 → n < 100 → h < 24 →
      g1.1 24 0 = nI b → g1.1 24 1 = nI a → g1.1 24 2 = nI r → g1.1 24 3 = nI p → g1.1 24 4 = nI n → g1.1 24 5 = nI h →
      ∃ v st, fX3_worth La e g1 = some (v, gz_wa g1 25 st) ∧ ∀ g2, fJ9_floorMod_7cf53 La v (nI 4) g2 = some (nI (t b a r p n h), g2)
theorem LW.fr {La : gz_L} {g g' : gz_S} {T : sT} {S : Nat → Prop} (h : LW La g T) (hF : Fr S g g') (hS : ∀ j, S j → j < 64) : LW La g' T := by
  cases T with
  | none => show g'.2.2 0 = none; rw [hF.2]; exact h
  | some t =>
    obtain ⟨ht, e, he, hl, hx⟩ := h
    refine ⟨ht, e, by rw [hF.2]; exact he, hl, fun g1 h1 => hx g1 (h1.trans (hF.1 _ (fun hs => ?_)))⟩
    have h1 := hS _ hs
    have h2 := hl.1
    omega
theorem sTurn_lt {T : sT} {V : Nat → Nat} {i : Nat} (hT : ∀ t, T = some t → ∀ b a r p n h, t b a r p n h < 4) (h : V (34 + i) ≤ 3) : sTurn T V i < 4 := by
  cases T with
  | none =>
    show (if sAhd V i (V (34 + i)) = 1 then (V (34 + i) + 1) % 4 else V (34 + i)) < 4
    split <;> omega
  | some t => exact hT t rfl _ _ _ _ _ _
theorem LW.lt {La : gz_L} {g : gz_S} {T : sT} (h : LW La g T) : ∀ t, T = some t → ∀ b a r p n h, t b a r p n h < 4 := by
  intro t e; subst e; exact h.1
section C10
variable {La : gz_L} {w : Nat} {g : gz_S} {V : Nat → Nat} {B : Nat}
theorem c_liesAhead (hw : gz_sc w) (hv : g.1 (w + 16) = fI V) (hW : Wf B V) {i d : Nat} (hi : i < 4) (hd : d < 4) (hc : V (30 + i) < V 58 * V 59) : fX10_liesAhead La w (nI i) (nI d) g = some (nI (sAhd V i d), lkS g (sLk V i d)) := by
  have h30 := hW.cells
  have hne : w + 16 ≠ 8 := by rcases hw with rfl | rfl | rfl <;> decide
  unfold fX10_liesAhead
  simp (disch := omega) only [l_0, l_1, l_2, l_3, l_4, l_5, l_6, l_7, l_8, l_9, l_10, l_11, l_12, l_13, l_14, l_15, l_16, l_17, l_18, l_19, l_20, l_21, l_22, l_23, l_24, l_25, l_26, l_28, l_29, l_30, l_31, l_32, l_33, l_34, l_36, l_37, l_38, l_39, l_40, l_41, l_42, l_43, l_44, l_45, l_46, l_47, l_48, l_49, l_50, l_53, l_54, l_57, l_58, l_59, l_60, l_61, l_62, l_63, l_91, l_93, l_97, l_98, l_99, l_100, l_103, l_104, l_110, l_112, l_114, l_115, l_116, l_119, l_120, l_121, l_124, l_128, l_231, l_240, l_241, l_255, l_496, l_999, l_1000, l_8191, l_9999, l_10000, l_100000, l_200000, l_1000000, l_1000000000, gz_let_eq, Option.bind_some, ↓reduceIte, wi_wa, wa_at, wa_wa, upd_fI, fI_ap, wa_2, n_add, n_ok, n_cl, n_lt, n_le, n_eq, p_0, p_1, p_01, hv, c_beside hv hW]
  unfold sAhd sLk
  cases ho : sBes V (V (30 + i)) d with
  | none =>
    have e : oI none = -nI 1 := rfl
    simp only [e, ↓reduceIte]
    rw [lkS_0]; rfl
  | some c =>
    have hlt := sBes_lt hW.2.1 hc ho
    have e : oI (some c) = nI c := rfl
    have hv2 : (lkS g (2 ^ c)).1 (w + 16) = fI V := by rw [lkS_n hne]; exact hv
    have e2 : gz_wa g 8 (upd (g.1 8) 2 (g.1 8 2 ||| nI (2 ^ c))) = lkS g (2 ^ c) := rfl
    have hl := c_lies (La := La) hv2 hW (o := some c) (fun c' h => by cases h; omega)
    rw [e] at hl
    simp (disch := omega) only [gz_let_eq, Option.bind_some, ↓reduceIte, wi_wa, wa_at, wa_wa, upd_fI, fI_ap, wa_2, e, m_eq, l_1, l_31, n_shl1, e2, hl]
theorem c_step62 (hw : gz_sc w) (hv : g.1 (w + 16) = fI V) (hW : Wf B V) {i l : Nat} (hi : i < 4) (hc : V (30 + i) < V 58 * V 59) (hl : l < 4) :
    ∃ g', fX10_takeStep_62 La w (nI i) (nI l) g = some g' ∧ WS w g g' (sGo V i l) (sLk V i l) := by
  have h30 := hW.cells
  have hv1 : (gz_wa g (w + 16) (fI (uN V (34 + i) l))).1 (w + 16) = fI (uN V (34 + i) l) := wa_at _ _ _
  have b1 := hW.2.2.2.2.2.2.2.2.2.1 i hi
  have hW1 : Wf B (uN V (34 + i) l) := hW.up (by omega) (by omega) (by omega) (by omega) (by omega) (by omega) (by omega) (by omega) (by omega) (by omega) (by omega) (by omega) (by omega)
  have ec : uN V (34 + i) l (30 + i) = V (30 + i) := uN_n (by omega)
  have e58 : uN V (34 + i) l 58 = V 58 := uN_n (by omega)
  have e59 : uN V (34 + i) l 59 = V 59 := uN_n (by omega)
  have e38 : uN V (34 + i) l (38 + i) = V (38 + i) := uN_n (by omega)
  have ea : sAhd (uN V (34 + i) l) i l = sAhd V i l := sAhd_uN hW hi hc (by omega) (by omega) (by omega) (by omega)
  have eb : sBes (uN V (34 + i) l) (V (30 + i)) l = sBes V (V (30 + i)) l := sBes_uN (by omega) (by omega)
  have ek : sLk (uN V (34 + i) l) i l = sLk V i l := by unfold sLk; rw [ec, eb]
  have hla := c_liesAhead (La := La) hw hv1 hW1 hi hl (by rw [ec, e58, e59]; exact hc)
  rw [ea, ek] at hla
  have hws : WS w g (lkS (gz_wa g (w + 16) (fI (uN V (34 + i) l))) (sLk V i l)) (uN V (34 + i) l) (sLk V i l) := by
    have h1 : WS w g (gz_wa g (w + 16) (fI (uN V (34 + i) l))) (uN V (34 + i) l) 0 := (WS.rf hv).wa hw
    have h2 := h1.tr (WS.lk (b := sLk V i l) hw hv1)
    rw [Nat.zero_or] at h2
    exact h2
  have hv2 := hws.1
  have hle : sAhd V i l ≤ 3 := sLie_le
  have hbe := c_beside (La := La) hv2 hW1 (c := V (30 + i)) (d := l) (by omega) hl
  rw [eb] at hbe
  unfold fX10_takeStep_62
  simp (disch := omega) only [l_0, l_1, l_2, l_3, l_4, l_5, l_6, l_7, l_8, l_9, l_10, l_11, l_12, l_13, l_14, l_15, l_16, l_17, l_18, l_19, l_20, l_21, l_22, l_23, l_24, l_25, l_26, l_28, l_29, l_30, l_31, l_32, l_33, l_34, l_36, l_37, l_38, l_39, l_40, l_41, l_42, l_43, l_44, l_45, l_46, l_47, l_48, l_49, l_50, l_53, l_54, l_57, l_58, l_59, l_60, l_61, l_62, l_63, l_91, l_93, l_97, l_98, l_99, l_100, l_103, l_104, l_110, l_112, l_114, l_115, l_116, l_119, l_120, l_121, l_124, l_128, l_231, l_240, l_241, l_255, l_496, l_999, l_1000, l_8191, l_9999, l_10000, l_100000, l_200000, l_1000000, l_1000000000, gz_let_eq, Option.bind_some, ↓reduceIte, wi_wa, wa_at, wa_wa, upd_fI, fI_ap, wa_2, n_add, n_ok, n_cl, n_lt, n_le, n_eq, p_0, p_1, p_01, hv, hla, hv2, ec]
  unfold sGo
  by_cases h1 : sAhd V i l = 1
  · simp only [h1, ↓reduceIte]
    exact ⟨_, rfl, hws⟩
  · simp only [h1, ↓reduceIte]
    cases ho : sBes V (V (30 + i)) l with
    | none =>
      exfalso; apply h1; unfold sAhd; rw [ho]; rfl
    | some c =>
      rw [ho] at hbe
      have e : oI (some c) = nI c := rfl
      have e3 : uN (uN V (34 + i) l) (30 + i) c (38 + i) = V (38 + i) := by rw [uN_n (by omega)]; exact e38
      simp (disch := omega) only [l_0, l_1, l_2, l_3, l_4, l_5, l_6, l_7, l_8, l_9, l_10, l_11, l_12, l_13, l_14, l_15, l_16, l_17, l_18, l_19, l_20, l_21, l_22, l_23, l_24, l_25, l_26, l_28, l_29, l_30, l_31, l_32, l_33, l_34, l_36, l_37, l_38, l_39, l_40, l_41, l_42, l_43, l_44, l_45, l_46, l_47, l_48, l_49, l_50, l_53, l_54, l_57, l_58, l_59, l_60, l_61, l_62, l_63, l_91, l_93, l_97, l_98, l_99, l_100, l_103, l_104, l_110, l_112, l_114, l_115, l_116, l_119, l_120, l_121, l_124, l_128, l_231, l_240, l_241, l_255, l_496, l_999, l_1000, l_8191, l_9999, l_10000, l_100000, l_200000, l_1000000, l_1000000000, gz_let_eq, Option.bind_some, ↓reduceIte, wi_wa, wa_at, wa_wa, upd_fI, fI_ap, wa_2, n_add, n_ok, n_cl, n_lt, n_le, n_eq, p_0, p_1, p_01, hbe, hv2, e, e3, Option.getD_some]
      have hf : WS w g (gz_wa (lkS (gz_wa g (w + 16) (fI (uN V (34 + i) l))) (sLk V i l)) (w + 16) (fI (uN (uN (uN V (34 + i) l) (30 + i) c) (38 + i) (V (38 + i) + 1)))) (uN (uN (uN V (34 + i) l) (30 + i) c) (38 + i) (V (38 + i) + 1)) (sLk V i l) := hws.wa hw
      by_cases h2 : sAhd V i l = 2
      · simp only [h2, ↓reduceIte]
        exact ⟨_, rfl, hws.wa hw⟩
      · by_cases h3 : sAhd V i l = 3
        · simp only [h2, h3, ↓reduceIte]
          exact ⟨_, rfl, hws.wa hw⟩
        · simp only [h2, h3, ↓reduceIte]
          exact ⟨_, rfl, hf⟩
end C10
