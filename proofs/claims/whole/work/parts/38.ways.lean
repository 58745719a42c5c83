/-! the class's scene: who faces whom, dry cells, ways -/
theorem sFaced1_le {V : Nat → Nat} {a s : Nat} : ∀ n, sFaced1 V a n s ≤ s + n := by
  intro n
  induction n with
  | zero => exact Nat.le_refl _
  | succ n ih =>
    show (if a < n ∧ sFace V a n then sFaced1 V a n s + 1 else sFaced1 V a n s) ≤ _
    split <;> omega
theorem sFaced1_0 {V : Nat → Nat} {a s : Nat} : ∀ n, n ≤ a + 1 → sFaced1 V a n s = s := by
  intro n
  induction n with
  | zero => intro _; rfl
  | succ n ih =>
    intro hn
    show (if a < n ∧ sFace V a n then sFaced1 V a n s + 1 else sFaced1 V a n s) = s
    rw [if_neg (by omega)]; exact ih (by omega)
theorem sFaced_le {V : Nat → Nat} (h : V 60 ≤ 4) : ∀ n, sFaced V n ≤ 4 * n := by
  intro n
  induction n with
  | zero => exact Nat.le_refl _
  | succ n ih =>
    have := sFaced1_le (V := V) (a := n) (s := sFaced V n) (V 60)
    show sFaced1 V n (V 60) (sFaced V n) ≤ _
    omega
theorem oI_eq {o : Option Nat} {n : Nat} (hn : n < 2147483648) (ho : ∀ c, o = some c → c < 2147483648) : (oI o = nI n) = (o = some n) := by
  cases o with
  | none =>
    refine propext ⟨fun h => ?_, fun h => by cases h⟩
    have h2 : nI n = -nI 1 := h.symm
    rw [m_eq hn] at h2; exact h2.elim
  | some c =>
    have := ho c rfl
    show (nI c = nI n) = _
    rw [n_eq this hn]
    exact propext ⟨fun h => by rw [h], fun h => by cases h; rfl⟩
theorem oI_m {o : Option Nat} (ho : ∀ c, o = some c → c < 2147483648) : (oI o = -nI 1) = (o = none) := by
  cases o with
  | none => exact propext ⟨fun _ => rfl, fun _ => rfl⟩
  | some c =>
    have := ho c rfl
    show (nI c = -nI 1) = _
    rw [m_eq this]
    exact propext ⟨fun h => h.elim, fun h => by cases h⟩
theorem sDryP_lt {V : Nat → Nat} {B c : Nat} (hW : Wf B V) (hc : c < 30) : V c < 2147483648 := by have := hW.1 c; omega
section C6
variable {La : gz_L} {w : Nat} {g : gz_S} {V : Nat → Nat} {B : Nat}
theorem c_looksAt (hv : g.1 (w + 16) = fI V) (hW : Wf B V) {a b : Nat} (ha : a < V 60) (hb : b < V 60) : fX6_looksAt La w (nI a) (nI b) g = some (pI (sSees V a b), g) := by
  have h60 := hW.2.2.2.1.2
  have b1 := hW.2.2.2.2.2.2.2.2.2.1 a (by omega)
  have b2 := hW.2.2.2.2.2.2.2.2.2.1 b (by omega)
  have b3 := (hW.2.2.2.2.2.2.2.2.2.2 a ha).1
  have c30 := hW.cells
  unfold fX6_looksAt
  simp (disch := omega) only [l_0, l_1, l_2, l_3, l_4, l_5, l_6, l_7, l_8, l_9, l_10, l_11, l_12, l_13, l_14, l_15, l_16, l_17, l_18, l_19, l_20, l_21, l_22, l_23, l_24, l_25, l_26, l_28, l_29, l_30, l_31, l_32, l_33, l_34, l_36, l_37, l_38, l_39, l_40, l_41, l_42, l_43, l_44, l_45, l_46, l_47, l_48, l_49, l_50, l_53, l_54, l_57, l_58, l_59, l_60, l_61, l_62, l_63, l_91, l_93, l_97, l_98, l_99, l_100, l_103, l_104, l_110, l_112, l_114, l_115, l_116, l_119, l_120, l_121, l_124, l_128, l_231, l_240, l_241, l_255, l_496, l_999, l_1000, l_8191, l_9999, l_10000, l_100000, l_200000, l_1000000, l_1000000000, gz_let_eq, Option.bind_some, ↓reduceIte, wi_wa, wa_at, wa_wa, upd_fI, fI_ap, wa_2, n_add, n_ok, n_cl, n_lt, n_le, n_eq, p_0, p_1, p_01, hv, c_beside hv hW]
  have e := oI_eq (o := sBes V (V (30 + a)) (V (34 + a))) (n := V (30 + b)) (by omega) (fun c h => by have := sBes_lt hW.2.1 b3 h; omega)
  simp only [e]
  split
  · rename_i h; exact p_t h
  · rename_i h; exact p_f h
theorem c_faced (hv : g.1 (w + 16) = fI V) (hW : Wf B V) : fX6_faced La w g = some (nI (sFaced V (V 60)), g) := by
  have hB := hW.1
  have h60 := hW.2.2.2.1.2
  unfold fX6_faced
  rw [l_0]
  refine lp (fun f i (_ : Unit) => fX6_faced_4 La w f (nI (sFaced V i)) (nI i) g) (fun _ _ => True) (V 60) (fun x => x = some (nI (sFaced V (V 60)), g)) ?_ ?_ gz_FU 0 () (by omega) (by unfold gz_FU; omega) trivial
  · intro f i _ hi _
    refine Or.inr ⟨(), ?_, trivial⟩
    have hn : ¬ V 60 ≤ i := by omega
    have hfl := sFaced_le h60 i
    show fX6_faced_4 La w (f + 1) (nI (sFaced V i)) (nI i) g = fX6_faced_4 La w f (nI (sFaced1 V i (V 60) (sFaced V i))) (nI (i + 1)) g
    rw [fX6_faced_4]
    simp (disch := omega) only [l_0, l_1, l_2, l_3, l_4, l_5, l_6, l_7, l_8, l_9, l_10, l_11, l_12, l_13, l_14, l_15, l_16, l_17, l_18, l_19, l_20, l_21, l_22, l_23, l_24, l_25, l_26, l_28, l_29, l_30, l_31, l_32, l_33, l_34, l_36, l_37, l_38, l_39, l_40, l_41, l_42, l_43, l_44, l_45, l_46, l_47, l_48, l_49, l_50, l_53, l_54, l_57, l_58, l_59, l_60, l_61, l_62, l_63, l_91, l_93, l_97, l_98, l_99, l_100, l_103, l_104, l_110, l_112, l_114, l_115, l_116, l_119, l_120, l_121, l_124, l_128, l_231, l_240, l_241, l_255, l_496, l_999, l_1000, l_8191, l_9999, l_10000, l_100000, l_200000, l_1000000, l_1000000000, gz_let_eq, Option.bind_some, ↓reduceIte, wi_wa, wa_at, wa_wa, upd_fI, fI_ap, wa_2, n_add, n_ok, n_cl, n_lt, n_le, n_eq, p_0, p_1, p_01, hv, hn]
    have key : fX6_faced_19 La w (fun (x1 : Int32) (x2 : Int32) g => gz_let (x2 + 1) (fun y73 => fX6_faced_4 La w f x1 y73 g)) gz_FU (nI (sFaced1 V i (i + 1) (sFaced V i))) (nI i) (nI (i + 1)) g = fX6_faced_4 La w f (nI (sFaced1 V i (V 60) (sFaced V i))) (nI (i + 1)) g := by
      refine lp (fun f' j (_ : Unit) => fX6_faced_19 La w (fun (x1 : Int32) (x2 : Int32) g => gz_let (x2 + 1) (fun y73 => fX6_faced_4 La w f x1 y73 g)) f' (nI (sFaced1 V i j (sFaced V i))) (nI i) (nI j) g) (fun j _ => i < j) (V 60) (fun x => x = fX6_faced_4 La w f (nI (sFaced1 V i (V 60) (sFaced V i))) (nI (i + 1)) g) ?_ ?_ gz_FU (i + 1) () (by omega) (by unfold gz_FU; omega) (by omega)
      · intro f' j _ hj hij
        refine Or.inr ⟨(), ?_, by omega⟩
        have hn2 : ¬ V 60 ≤ j := by omega
        have hfl2 := sFaced1_le (V := V) (a := i) (s := sFaced V i) j
        have hst : sFaced1 V i (j + 1) (sFaced V i) = if i < j ∧ sFace V i j then sFaced1 V i j (sFaced V i) + 1 else sFaced1 V i j (sFaced V i) := rfl
        show fX6_faced_19 La w _ (f' + 1) (nI (sFaced1 V i j (sFaced V i))) (nI i) (nI j) g = fX6_faced_19 La w _ f' (nI (sFaced1 V i (j + 1) (sFaced V i))) (nI i) (nI (j + 1)) g
        rw [fX6_faced_19, hst]
        simp (disch := omega) only [l_0, l_1, l_2, l_3, l_4, l_5, l_6, l_7, l_8, l_9, l_10, l_11, l_12, l_13, l_14, l_15, l_16, l_17, l_18, l_19, l_20, l_21, l_22, l_23, l_24, l_25, l_26, l_28, l_29, l_30, l_31, l_32, l_33, l_34, l_36, l_37, l_38, l_39, l_40, l_41, l_42, l_43, l_44, l_45, l_46, l_47, l_48, l_49, l_50, l_53, l_54, l_57, l_58, l_59, l_60, l_61, l_62, l_63, l_91, l_93, l_97, l_98, l_99, l_100, l_103, l_104, l_110, l_112, l_114, l_115, l_116, l_119, l_120, l_121, l_124, l_128, l_231, l_240, l_241, l_255, l_496, l_999, l_1000, l_8191, l_9999, l_10000, l_100000, l_200000, l_1000000, l_1000000000, gz_let_eq, Option.bind_some, ↓reduceIte, wi_wa, wa_at, wa_wa, upd_fI, fI_ap, wa_2, n_add, n_ok, n_cl, n_lt, n_le, n_eq, p_0, p_1, p_01, hv, hn2, c_goes hv hB, c_looksAt hv hW, fX6_faced_67]
        by_cases a1 : V (42 + i) = 0
        · by_cases a2 : V (42 + j) = 0
          · by_cases a3 : sSees V i j
            · by_cases a4 : sSees V j i
              · rw [if_neg (not_not_intro a1), if_neg (not_not_intro a2), if_neg (not_not_intro a3), if_neg (not_not_intro a4), if_pos ⟨hij, a1, a2, a3, a4⟩]
              · rw [if_neg (not_not_intro a1), if_neg (not_not_intro a2), if_neg (not_not_intro a3), if_pos a4, if_neg (fun e => a4 e.2.2.2.2)]
            · rw [if_neg (not_not_intro a1), if_neg (not_not_intro a2), if_pos a3, if_neg (fun e => a3 e.2.2.2.1)]
          · rw [if_neg (not_not_intro a1), if_pos a2, if_neg (fun e => a2 e.2.2.1)]
        · rw [if_pos a1, if_neg (fun e => a1 e.2.1)]
      · intro f' _ _
        show fX6_faced_19 La w _ (f' + 1) (nI (sFaced1 V i (V 60) (sFaced V i))) (nI i) (nI (V 60)) g = _
        rw [fX6_faced_19]
        simp (disch := omega) only [l_0, l_1, l_2, l_3, l_4, l_5, l_6, l_7, l_8, l_9, l_10, l_11, l_12, l_13, l_14, l_15, l_16, l_17, l_18, l_19, l_20, l_21, l_22, l_23, l_24, l_25, l_26, l_28, l_29, l_30, l_31, l_32, l_33, l_34, l_36, l_37, l_38, l_39, l_40, l_41, l_42, l_43, l_44, l_45, l_46, l_47, l_48, l_49, l_50, l_53, l_54, l_57, l_58, l_59, l_60, l_61, l_62, l_63, l_91, l_93, l_97, l_98, l_99, l_100, l_103, l_104, l_110, l_112, l_114, l_115, l_116, l_119, l_120, l_121, l_124, l_128, l_231, l_240, l_241, l_255, l_496, l_999, l_1000, l_8191, l_9999, l_10000, l_100000, l_200000, l_1000000, l_1000000000, gz_let_eq, Option.bind_some, ↓reduceIte, wi_wa, wa_at, wa_wa, upd_fI, fI_ap, wa_2, n_add, n_ok, n_cl, n_lt, n_le, n_eq, p_0, p_1, p_01, hv, Nat.le_refl]
    rw [sFaced1_0 (i + 1) (by omega)] at key
    rw [l_1] at key
    exact key
  · intro f _ _
    show fX6_faced_4 La w (f + 1) (nI (sFaced V (V 60))) (nI (V 60)) g = _
    rw [fX6_faced_4]
    simp (disch := omega) only [l_0, l_1, l_2, l_3, l_4, l_5, l_6, l_7, l_8, l_9, l_10, l_11, l_12, l_13, l_14, l_15, l_16, l_17, l_18, l_19, l_20, l_21, l_22, l_23, l_24, l_25, l_26, l_28, l_29, l_30, l_31, l_32, l_33, l_34, l_36, l_37, l_38, l_39, l_40, l_41, l_42, l_43, l_44, l_45, l_46, l_47, l_48, l_49, l_50, l_53, l_54, l_57, l_58, l_59, l_60, l_61, l_62, l_63, l_91, l_93, l_97, l_98, l_99, l_100, l_103, l_104, l_110, l_112, l_114, l_115, l_116, l_119, l_120, l_121, l_124, l_128, l_231, l_240, l_241, l_255, l_496, l_999, l_1000, l_8191, l_9999, l_10000, l_100000, l_200000, l_1000000, l_1000000000, gz_let_eq, Option.bind_some, ↓reduceIte, wi_wa, wa_at, wa_wa, upd_fI, fI_ap, wa_2, n_add, n_ok, n_cl, n_lt, n_le, n_eq, p_0, p_1, p_01, hv, Nat.le_refl]
theorem c_dryCells (hv : g.1 (w + 16) = fI V) (hW : Wf B V) : fX6_dryCells La w g = some (nI (sDry V (V 58 * V 59)), g) := by
  have hB := hW.1
  have c30 := hW.cells
  unfold fX6_dryCells
  rw [l_0]
  refine lp (fun f i (_ : Unit) => fX6_dryCells_4 La w f (nI (sDry V i)) (nI i) g) (fun _ _ => True) (V 58 * V 59) (fun x => x = some (nI (sDry V (V 58 * V 59)), g)) ?_ ?_ gz_FU 0 () (by omega) (by unfold gz_FU; omega) trivial
  · intro f i _ hi _
    refine Or.inr ⟨(), ?_, trivial⟩
    have hn : ¬ V 58 * V 59 ≤ i := by omega
    have b0 := hB i
    have hst : sDry V (i + 1) = if sDryP V i then sDry V i ||| 2 ^ i else sDry V i := rfl
    show fX6_dryCells_4 La w (f + 1) (nI (sDry V i)) (nI i) g = fX6_dryCells_4 La w f (nI (sDry V (i + 1))) (nI (i + 1)) g
    rw [fX6_dryCells_4, hst]
    simp (disch := omega) only [l_0, l_1, l_2, l_3, l_4, l_5, l_6, l_7, l_8, l_9, l_10, l_11, l_12, l_13, l_14, l_15, l_16, l_17, l_18, l_19, l_20, l_21, l_22, l_23, l_24, l_25, l_26, l_28, l_29, l_30, l_31, l_32, l_33, l_34, l_36, l_37, l_38, l_39, l_40, l_41, l_42, l_43, l_44, l_45, l_46, l_47, l_48, l_49, l_50, l_53, l_54, l_57, l_58, l_59, l_60, l_61, l_62, l_63, l_91, l_93, l_97, l_98, l_99, l_100, l_103, l_104, l_110, l_112, l_114, l_115, l_116, l_119, l_120, l_121, l_124, l_128, l_231, l_240, l_241, l_255, l_496, l_999, l_1000, l_8191, l_9999, l_10000, l_100000, l_200000, l_1000000, l_1000000000, gz_let_eq, Option.bind_some, ↓reduceIte, wi_wa, wa_at, wa_wa, upd_fI, fI_ap, wa_2, n_add, n_ok, n_cl, n_lt, n_le, n_eq, p_0, p_1, p_01, hv, hn, fX6_dryCells_35, n_shl1, n_or, c_cells hv, c_kind hv, c_under hv hW]
    by_cases h1 : V i = 1
    · rw [if_pos h1, if_neg (fun e => e.1 h1)]
    · by_cases h2 : sUnd V i
      · rw [if_neg h1, if_neg (not_not_intro h2), if_neg (fun e => e.2 h2)]
      · rw [if_neg h1, if_pos h2, if_pos ⟨h1, h2⟩]
  · intro f _ _
    show fX6_dryCells_4 La w (f + 1) (nI (sDry V (V 58 * V 59))) (nI (V 58 * V 59)) g = _
    rw [fX6_dryCells_4]
    simp (disch := omega) only [l_0, l_1, l_2, l_3, l_4, l_5, l_6, l_7, l_8, l_9, l_10, l_11, l_12, l_13, l_14, l_15, l_16, l_17, l_18, l_19, l_20, l_21, l_22, l_23, l_24, l_25, l_26, l_28, l_29, l_30, l_31, l_32, l_33, l_34, l_36, l_37, l_38, l_39, l_40, l_41, l_42, l_43, l_44, l_45, l_46, l_47, l_48, l_49, l_50, l_53, l_54, l_57, l_58, l_59, l_60, l_61, l_62, l_63, l_91, l_93, l_97, l_98, l_99, l_100, l_103, l_104, l_110, l_112, l_114, l_115, l_116, l_119, l_120, l_121, l_124, l_128, l_231, l_240, l_241, l_255, l_496, l_999, l_1000, l_8191, l_9999, l_10000, l_100000, l_200000, l_1000000, l_1000000000, gz_let_eq, Option.bind_some, ↓reduceIte, wi_wa, wa_at, wa_wa, upd_fI, fI_ap, wa_2, n_add, n_ok, n_cl, n_lt, n_le, n_eq, p_0, p_1, p_01, hv, Nat.le_refl, c_cells hv]
theorem tb_0 {b : Bool} : ((if b = true then 1 else 0) = 0) = ¬ b = true := by cases b <;> simp
theorem c_widened (hv : g.1 (w + 16) = fI V) (hW : Wf B V) {bits dry : Nat} (hb : bits < 1073741824) (hd : dry < 1073741824) : fX6_widened La w (nI bits) (nI dry) g = some (nI (sWid V bits dry (V 58 * V 59)), g) := by
  have c30 := hW.cells
  unfold fX6_widened
  rw [l_0]
  refine lp (fun f i (_ : Unit) => fX6_widened_5 La w f (nI bits) (nI dry) (nI (sWid V bits dry i)) (nI i) g) (fun _ _ => True) (V 58 * V 59) (fun x => x = some (nI (sWid V bits dry (V 58 * V 59)), g)) ?_ ?_ gz_FU 0 () (by omega) (by unfold gz_FU; omega) trivial
  · intro f i _ hi _
    refine Or.inr ⟨(), ?_, trivial⟩
    have hn : ¬ V 58 * V 59 ≤ i := by omega
    have hst : sWid V bits dry (i + 1) = if bits.testBit i then sWid1 V dry i 4 (sWid V bits dry i) else sWid V bits dry i := rfl
    have hwl := sWid_lt (V := V) hd hb (n := i)
    show fX6_widened_5 La w (f + 1) (nI bits) (nI dry) (nI (sWid V bits dry i)) (nI i) g = fX6_widened_5 La w f (nI bits) (nI dry) (nI (sWid V bits dry (i + 1))) (nI (i + 1)) g
    have key : fX6_widened_17 La w (fX6_widened_63 La w (fX6_widened_5 La w f)) gz_FU (nI bits) (nI dry) (nI (sWid1 V dry i 0 (sWid V bits dry i))) (nI i) (nI 0) g = fX6_widened_5 La w f (nI bits) (nI dry) (nI (sWid V bits dry (i + 1))) (nI (i + 1)) g := by
      refine lp (fun f' j (_ : Unit) => fX6_widened_17 La w (fX6_widened_63 La w (fX6_widened_5 La w f)) f' (nI bits) (nI dry) (nI (sWid1 V dry i j (sWid V bits dry i))) (nI i) (nI j) g) (fun j _ => j = 0 ∨ bits.testBit i = true) 4 (fun x => x = fX6_widened_5 La w f (nI bits) (nI dry) (nI (sWid V bits dry (i + 1))) (nI (i + 1)) g) ?_ ?_ gz_FU 0 () (by omega) (by unfold gz_FU; omega) (Or.inl rfl)
      · intro f' j _ hj hij
        have hn2 : ¬ 4 ≤ j := by omega
        by_cases hbit : bits.testBit i = true
        · refine Or.inr ⟨(), ?_, Or.inr hbit⟩
          show fX6_widened_17 La w _ (f' + 1) (nI bits) (nI dry) (nI (sWid1 V dry i j (sWid V bits dry i))) (nI i) (nI j) g = fX6_widened_17 La w _ f' (nI bits) (nI dry) (nI (match sBes V i j with | none => sWid1 V dry i j (sWid V bits dry i) | some e => sWid1 V dry i j (sWid V bits dry i) ||| (2 ^ e &&& dry))) (nI i) (nI (j + 1)) g
          rw [fX6_widened_17]
          simp (disch := omega) only [l_0, l_1, l_2, l_3, l_4, l_5, l_6, l_7, l_8, l_9, l_10, l_11, l_12, l_13, l_14, l_15, l_16, l_17, l_18, l_19, l_20, l_21, l_22, l_23, l_24, l_25, l_26, l_28, l_29, l_30, l_31, l_32, l_33, l_34, l_36, l_37, l_38, l_39, l_40, l_41, l_42, l_43, l_44, l_45, l_46, l_47, l_48, l_49, l_50, l_53, l_54, l_57, l_58, l_59, l_60, l_61, l_62, l_63, l_91, l_93, l_97, l_98, l_99, l_100, l_103, l_104, l_110, l_112, l_114, l_115, l_116, l_119, l_120, l_121, l_124, l_128, l_231, l_240, l_241, l_255, l_496, l_999, l_1000, l_8191, l_9999, l_10000, l_100000, l_200000, l_1000000, l_1000000000, gz_let_eq, Option.bind_some, ↓reduceIte, wi_wa, wa_at, wa_wa, upd_fI, fI_ap, wa_2, n_add, n_ok, n_cl, n_lt, n_le, n_eq, p_0, p_1, p_01, hn2, n_bit, hbit, c_beside hv hW, fX6_widened_57]
          cases ho : sBes V i j with
          | none =>
            have e : oI none = -nI 1 := rfl
            simp (disch := omega) only [l_0, l_1, l_2, l_3, l_4, l_5, l_6, l_7, l_8, l_9, l_10, l_11, l_12, l_13, l_14, l_15, l_16, l_17, l_18, l_19, l_20, l_21, l_22, l_23, l_24, l_25, l_26, l_28, l_29, l_30, l_31, l_32, l_33, l_34, l_36, l_37, l_38, l_39, l_40, l_41, l_42, l_43, l_44, l_45, l_46, l_47, l_48, l_49, l_50, l_53, l_54, l_57, l_58, l_59, l_60, l_61, l_62, l_63, l_91, l_93, l_97, l_98, l_99, l_100, l_103, l_104, l_110, l_112, l_114, l_115, l_116, l_119, l_120, l_121, l_124, l_128, l_231, l_240, l_241, l_255, l_496, l_999, l_1000, l_8191, l_9999, l_10000, l_100000, l_200000, l_1000000, l_1000000000, gz_let_eq, Option.bind_some, ↓reduceIte, wi_wa, wa_at, wa_wa, upd_fI, fI_ap, wa_2, n_add, n_ok, n_cl, n_lt, n_le, n_eq, p_0, p_1, p_01, e, show ¬ (1 = 0) by omega]
          | some c =>
            have hlt := sBes_lt hW.2.1 hi ho
            have e : oI (some c) = nI c := rfl
            simp (disch := omega) only [l_0, l_1, l_2, l_3, l_4, l_5, l_6, l_7, l_8, l_9, l_10, l_11, l_12, l_13, l_14, l_15, l_16, l_17, l_18, l_19, l_20, l_21, l_22, l_23, l_24, l_25, l_26, l_28, l_29, l_30, l_31, l_32, l_33, l_34, l_36, l_37, l_38, l_39, l_40, l_41, l_42, l_43, l_44, l_45, l_46, l_47, l_48, l_49, l_50, l_53, l_54, l_57, l_58, l_59, l_60, l_61, l_62, l_63, l_91, l_93, l_97, l_98, l_99, l_100, l_103, l_104, l_110, l_112, l_114, l_115, l_116, l_119, l_120, l_121, l_124, l_128, l_231, l_240, l_241, l_255, l_496, l_999, l_1000, l_8191, l_9999, l_10000, l_100000, l_200000, l_1000000, l_1000000000, gz_let_eq, Option.bind_some, ↓reduceIte, wi_wa, wa_at, wa_wa, upd_fI, fI_ap, wa_2, n_add, n_ok, n_cl, n_lt, n_le, n_eq, p_0, p_1, p_01, e, m_eq, n_shl1, show ¬ (1 = 0) by omega]
            rw [n_and, n_or]
        · refine Or.inl ?_
          have hj0 : j = 0 := by rcases hij with h | h; exact h; exact absurd h hbit
          subst hj0
          show fX6_widened_17 La w _ (f' + 1) (nI bits) (nI dry) (nI (sWid V bits dry i)) (nI i) (nI 0) g = _
          rw [fX6_widened_17, hst, if_neg hbit]
          simp (disch := omega) only [l_0, l_1, l_2, l_3, l_4, l_5, l_6, l_7, l_8, l_9, l_10, l_11, l_12, l_13, l_14, l_15, l_16, l_17, l_18, l_19, l_20, l_21, l_22, l_23, l_24, l_25, l_26, l_28, l_29, l_30, l_31, l_32, l_33, l_34, l_36, l_37, l_38, l_39, l_40, l_41, l_42, l_43, l_44, l_45, l_46, l_47, l_48, l_49, l_50, l_53, l_54, l_57, l_58, l_59, l_60, l_61, l_62, l_63, l_91, l_93, l_97, l_98, l_99, l_100, l_103, l_104, l_110, l_112, l_114, l_115, l_116, l_119, l_120, l_121, l_124, l_128, l_231, l_240, l_241, l_255, l_496, l_999, l_1000, l_8191, l_9999, l_10000, l_100000, l_200000, l_1000000, l_1000000000, gz_let_eq, Option.bind_some, ↓reduceIte, wi_wa, wa_at, wa_wa, upd_fI, fI_ap, wa_2, n_add, n_ok, n_cl, n_lt, n_le, n_eq, p_0, p_1, p_01, hn2, n_bit, hbit, fX6_widened_63, Bool.false_eq_true]
      · intro f' _ hij
        have hbit : bits.testBit i = true := by rcases hij with h | h; omega; exact h
        show fX6_widened_17 La w _ (f' + 1) (nI bits) (nI dry) (nI (sWid1 V dry i 4 (sWid V bits dry i))) (nI i) (nI 4) g = _
        rw [fX6_widened_17, hst, if_pos hbit]
        simp (disch := omega) only [l_0, l_1, l_2, l_3, l_4, l_5, l_6, l_7, l_8, l_9, l_10, l_11, l_12, l_13, l_14, l_15, l_16, l_17, l_18, l_19, l_20, l_21, l_22, l_23, l_24, l_25, l_26, l_28, l_29, l_30, l_31, l_32, l_33, l_34, l_36, l_37, l_38, l_39, l_40, l_41, l_42, l_43, l_44, l_45, l_46, l_47, l_48, l_49, l_50, l_53, l_54, l_57, l_58, l_59, l_60, l_61, l_62, l_63, l_91, l_93, l_97, l_98, l_99, l_100, l_103, l_104, l_110, l_112, l_114, l_115, l_116, l_119, l_120, l_121, l_124, l_128, l_231, l_240, l_241, l_255, l_496, l_999, l_1000, l_8191, l_9999, l_10000, l_100000, l_200000, l_1000000, l_1000000000, gz_let_eq, Option.bind_some, ↓reduceIte, wi_wa, wa_at, wa_wa, upd_fI, fI_ap, wa_2, n_add, n_ok, n_cl, n_lt, n_le, n_eq, p_0, p_1, p_01, Nat.le_refl, fX6_widened_63]
    rw [fX6_widened_5]
    simp (disch := omega) only [l_0, l_1, l_2, l_3, l_4, l_5, l_6, l_7, l_8, l_9, l_10, l_11, l_12, l_13, l_14, l_15, l_16, l_17, l_18, l_19, l_20, l_21, l_22, l_23, l_24, l_25, l_26, l_28, l_29, l_30, l_31, l_32, l_33, l_34, l_36, l_37, l_38, l_39, l_40, l_41, l_42, l_43, l_44, l_45, l_46, l_47, l_48, l_49, l_50, l_53, l_54, l_57, l_58, l_59, l_60, l_61, l_62, l_63, l_91, l_93, l_97, l_98, l_99, l_100, l_103, l_104, l_110, l_112, l_114, l_115, l_116, l_119, l_120, l_121, l_124, l_128, l_231, l_240, l_241, l_255, l_496, l_999, l_1000, l_8191, l_9999, l_10000, l_100000, l_200000, l_1000000, l_1000000000, gz_let_eq, Option.bind_some, ↓reduceIte, wi_wa, wa_at, wa_wa, upd_fI, fI_ap, wa_2, n_add, n_ok, n_cl, n_lt, n_le, n_eq, p_0, p_1, p_01, hn, c_cells hv]
    exact key
  · intro f _ _
    show fX6_widened_5 La w (f + 1) (nI bits) (nI dry) (nI (sWid V bits dry (V 58 * V 59))) (nI (V 58 * V 59)) g = _
    rw [fX6_widened_5]
    simp (disch := omega) only [l_0, l_1, l_2, l_3, l_4, l_5, l_6, l_7, l_8, l_9, l_10, l_11, l_12, l_13, l_14, l_15, l_16, l_17, l_18, l_19, l_20, l_21, l_22, l_23, l_24, l_25, l_26, l_28, l_29, l_30, l_31, l_32, l_33, l_34, l_36, l_37, l_38, l_39, l_40, l_41, l_42, l_43, l_44, l_45, l_46, l_47, l_48, l_49, l_50, l_53, l_54, l_57, l_58, l_59, l_60, l_61, l_62, l_63, l_91, l_93, l_97, l_98, l_99, l_100, l_103, l_104, l_110, l_112, l_114, l_115, l_116, l_119, l_120, l_121, l_124, l_128, l_231, l_240, l_241, l_255, l_496, l_999, l_1000, l_8191, l_9999, l_10000, l_100000, l_200000, l_1000000, l_1000000000, gz_let_eq, Option.bind_some, ↓reduceIte, wi_wa, wa_at, wa_wa, upd_fI, fI_ap, wa_2, n_add, n_ok, n_cl, n_lt, n_le, n_eq, p_0, p_1, p_01, Nat.le_refl, c_cells hv]
theorem c_reached (hv : g.1 (w + 16) = fI V) (hW : Wf B V) {bits dry : Nat} (hb : bits < 1073741824) (hd : dry < 1073741824) : fX6_reached La w (nI bits) (nI dry) g = some (nI (sRch V dry 30 bits), g) := by
  unfold fX6_reached
  rw [l_0]
  refine lp (fun f i (_ : Unit) => fX6_reached_5 La w f (nI dry) (nI (sRch V dry i bits)) (nI i) g) (fun _ _ => True) 30 (fun x => x = some (nI (sRch V dry 30 bits), g)) ?_ ?_ gz_FU 0 () (by omega) (by unfold gz_FU; omega) trivial
  · intro f i _ hi _
    refine Or.inr ⟨(), ?_, trivial⟩
    have hn : ¬ 30 ≤ i := by omega
    have hr := sRch_lt (V := V) hd hb (n := i)
    show fX6_reached_5 La w (f + 1) (nI dry) (nI (sRch V dry i bits)) (nI i) g = fX6_reached_5 La w f (nI dry) (nI (sWid V (sRch V dry i bits) dry (V 58 * V 59))) (nI (i + 1)) g
    rw [fX6_reached_5]
    simp (disch := omega) only [l_0, l_1, l_2, l_3, l_4, l_5, l_6, l_7, l_8, l_9, l_10, l_11, l_12, l_13, l_14, l_15, l_16, l_17, l_18, l_19, l_20, l_21, l_22, l_23, l_24, l_25, l_26, l_28, l_29, l_30, l_31, l_32, l_33, l_34, l_36, l_37, l_38, l_39, l_40, l_41, l_42, l_43, l_44, l_45, l_46, l_47, l_48, l_49, l_50, l_53, l_54, l_57, l_58, l_59, l_60, l_61, l_62, l_63, l_91, l_93, l_97, l_98, l_99, l_100, l_103, l_104, l_110, l_112, l_114, l_115, l_116, l_119, l_120, l_121, l_124, l_128, l_231, l_240, l_241, l_255, l_496, l_999, l_1000, l_8191, l_9999, l_10000, l_100000, l_200000, l_1000000, l_1000000000, gz_let_eq, Option.bind_some, ↓reduceIte, wi_wa, wa_at, wa_wa, upd_fI, fI_ap, wa_2, n_add, n_ok, n_cl, n_lt, n_le, n_eq, p_0, p_1, p_01, hn, c_widened hv hW]
  · intro f _ _
    show fX6_reached_5 La w (f + 1) (nI dry) (nI (sRch V dry 30 bits)) (nI 30) g = _
    rw [fX6_reached_5]
    simp (disch := omega) only [l_0, l_1, l_2, l_3, l_4, l_5, l_6, l_7, l_8, l_9, l_10, l_11, l_12, l_13, l_14, l_15, l_16, l_17, l_18, l_19, l_20, l_21, l_22, l_23, l_24, l_25, l_26, l_28, l_29, l_30, l_31, l_32, l_33, l_34, l_36, l_37, l_38, l_39, l_40, l_41, l_42, l_43, l_44, l_45, l_46, l_47, l_48, l_49, l_50, l_53, l_54, l_57, l_58, l_59, l_60, l_61, l_62, l_63, l_91, l_93, l_97, l_98, l_99, l_100, l_103, l_104, l_110, l_112, l_114, l_115, l_116, l_119, l_120, l_121, l_124, l_128, l_231, l_240, l_241, l_255, l_496, l_999, l_1000, l_8191, l_9999, l_10000, l_100000, l_200000, l_1000000, l_1000000000, gz_let_eq, Option.bind_some, ↓reduceIte, wi_wa, wa_at, wa_wa, upd_fI, fI_ap, wa_2, n_add, n_ok, n_cl, n_lt, n_le, n_eq, p_0, p_1, p_01, Nat.le_refl]
theorem sParts_s (V : Nat → Nat) (n : Nat) : sParts V (n + 1) = if (sParts V n).1.testBit n then ((sParts V n).1 ^^^ ((sParts V n).1 &&& sRch V (sParts V n).1 30 (2 ^ n)), (sParts V n).2 + 1) else sParts V n := rfl
theorem b_xor {a b : Nat} (ha : a < 1073741824) (hb : b < 1073741824) : a ^^^ b < 1073741824 := Nat.xor_lt_two_pow (n := 30) ha hb
theorem sParts_lt {V : Nat → Nat} {B : Nat} (hW : Wf B V) : ∀ n, (sParts V n).1 < 1073741824 ∧ (sParts V n).2 ≤ n := by
  intro n
  induction n with
  | zero => exact ⟨sDry_lt hW.cells, Nat.le_refl _⟩
  | succ n ih =>
    rw [sParts_s]
    split
    · exact ⟨b_xor ih.1 (b_and ih.1), by show (sParts V n).2 + 1 ≤ n + 1; omega⟩
    · exact ⟨ih.1, by omega⟩
theorem c_dryParts (hv : g.1 (w + 16) = fI V) (hW : Wf B V) : fX6_dryParts La w g = some (nI (sParts V (V 58 * V 59)).2, g) := by
  have c30 := hW.cells
  unfold fX6_dryParts
  rw [c_dryCells hv hW, Option.bind_some, l_0]
  refine lp (fun f i (_ : Unit) => fX6_dryParts_9 La w f (nI (sParts V i).1) (nI (sParts V i).2) (nI i) g) (fun _ _ => True) (V 58 * V 59) (fun x => x = some (nI (sParts V (V 58 * V 59)).2, g)) ?_ ?_ gz_FU 0 () (by omega) (by unfold gz_FU; omega) trivial
  · intro f i _ hi _
    refine Or.inr ⟨(), ?_, trivial⟩
    have hn : ¬ V 58 * V 59 ≤ i := by omega
    have hp := sParts_lt hW i
    have h2 := b_pow (c := i) (by omega)
    show fX6_dryParts_9 La w (f + 1) (nI (sParts V i).1) (nI (sParts V i).2) (nI i) g = fX6_dryParts_9 La w f (nI (sParts V (i + 1)).1) (nI (sParts V (i + 1)).2) (nI (i + 1)) g
    rw [fX6_dryParts_9, sParts_s]
    simp (disch := omega) only [l_0, l_1, l_2, l_3, l_4, l_5, l_6, l_7, l_8, l_9, l_10, l_11, l_12, l_13, l_14, l_15, l_16, l_17, l_18, l_19, l_20, l_21, l_22, l_23, l_24, l_25, l_26, l_28, l_29, l_30, l_31, l_32, l_33, l_34, l_36, l_37, l_38, l_39, l_40, l_41, l_42, l_43, l_44, l_45, l_46, l_47, l_48, l_49, l_50, l_53, l_54, l_57, l_58, l_59, l_60, l_61, l_62, l_63, l_91, l_93, l_97, l_98, l_99, l_100, l_103, l_104, l_110, l_112, l_114, l_115, l_116, l_119, l_120, l_121, l_124, l_128, l_231, l_240, l_241, l_255, l_496, l_999, l_1000, l_8191, l_9999, l_10000, l_100000, l_200000, l_1000000, l_1000000000, gz_let_eq, Option.bind_some, ↓reduceIte, wi_wa, wa_at, wa_wa, upd_fI, fI_ap, wa_2, n_add, n_ok, n_cl, n_lt, n_le, n_eq, p_0, p_1, p_01, hn, c_cells hv, n_bit]
    by_cases hb : (sParts V i).1.testBit i = true
    · simp (disch := omega) only [l_0, l_1, l_2, l_3, l_4, l_5, l_6, l_7, l_8, l_9, l_10, l_11, l_12, l_13, l_14, l_15, l_16, l_17, l_18, l_19, l_20, l_21, l_22, l_23, l_24, l_25, l_26, l_28, l_29, l_30, l_31, l_32, l_33, l_34, l_36, l_37, l_38, l_39, l_40, l_41, l_42, l_43, l_44, l_45, l_46, l_47, l_48, l_49, l_50, l_53, l_54, l_57, l_58, l_59, l_60, l_61, l_62, l_63, l_91, l_93, l_97, l_98, l_99, l_100, l_103, l_104, l_110, l_112, l_114, l_115, l_116, l_119, l_120, l_121, l_124, l_128, l_231, l_240, l_241, l_255, l_496, l_999, l_1000, l_8191, l_9999, l_10000, l_100000, l_200000, l_1000000, l_1000000000, gz_let_eq, Option.bind_some, ↓reduceIte, wi_wa, wa_at, wa_wa, upd_fI, fI_ap, wa_2, n_add, n_ok, n_cl, n_lt, n_le, n_eq, p_0, p_1, p_01, hb, n_shl1, c_reached hv hW, n_clr, fX6_dryParts_41, show ¬ (1 = 0) by omega]
    · simp (disch := omega) only [l_0, l_1, l_2, l_3, l_4, l_5, l_6, l_7, l_8, l_9, l_10, l_11, l_12, l_13, l_14, l_15, l_16, l_17, l_18, l_19, l_20, l_21, l_22, l_23, l_24, l_25, l_26, l_28, l_29, l_30, l_31, l_32, l_33, l_34, l_36, l_37, l_38, l_39, l_40, l_41, l_42, l_43, l_44, l_45, l_46, l_47, l_48, l_49, l_50, l_53, l_54, l_57, l_58, l_59, l_60, l_61, l_62, l_63, l_91, l_93, l_97, l_98, l_99, l_100, l_103, l_104, l_110, l_112, l_114, l_115, l_116, l_119, l_120, l_121, l_124, l_128, l_231, l_240, l_241, l_255, l_496, l_999, l_1000, l_8191, l_9999, l_10000, l_100000, l_200000, l_1000000, l_1000000000, gz_let_eq, Option.bind_some, ↓reduceIte, wi_wa, wa_at, wa_wa, upd_fI, fI_ap, wa_2, n_add, n_ok, n_cl, n_lt, n_le, n_eq, p_0, p_1, p_01, hb, fX6_dryParts_41, Bool.false_eq_true]
  · intro f _ _
    show fX6_dryParts_9 La w (f + 1) (nI (sParts V (V 58 * V 59)).1) (nI (sParts V (V 58 * V 59)).2) (nI (V 58 * V 59)) g = _
    rw [fX6_dryParts_9]
    simp (disch := omega) only [l_0, l_1, l_2, l_3, l_4, l_5, l_6, l_7, l_8, l_9, l_10, l_11, l_12, l_13, l_14, l_15, l_16, l_17, l_18, l_19, l_20, l_21, l_22, l_23, l_24, l_25, l_26, l_28, l_29, l_30, l_31, l_32, l_33, l_34, l_36, l_37, l_38, l_39, l_40, l_41, l_42, l_43, l_44, l_45, l_46, l_47, l_48, l_49, l_50, l_53, l_54, l_57, l_58, l_59, l_60, l_61, l_62, l_63, l_91, l_93, l_97, l_98, l_99, l_100, l_103, l_104, l_110, l_112, l_114, l_115, l_116, l_119, l_120, l_121, l_124, l_128, l_231, l_240, l_241, l_255, l_496, l_999, l_1000, l_8191, l_9999, l_10000, l_100000, l_200000, l_1000000, l_1000000000, gz_let_eq, Option.bind_some, ↓reduceIte, wi_wa, wa_at, wa_wa, upd_fI, fI_ap, wa_2, n_add, n_ok, n_cl, n_lt, n_le, n_eq, p_0, p_1, p_01, Nat.le_refl, c_cells hv]
theorem c_fewestSteps (hv : g.1 (w + 16) = fI V) (hW : Wf B V) {a b : Nat} (ha : a < 30) (hb : b < 30) : fX6_fewestSteps La w (nI a) (nI b) g = some (oI (sFew V a b), g) := by
  have c30 := hW.cells
  have hd := sDry_lt (V := V) c30
  have h2 := b_pow ha
  unfold fX6_fewestSteps sFew
  rw [c_dryCells hv hW]
  simp (disch := omega) only [l_0, l_1, l_2, l_3, l_4, l_5, l_6, l_7, l_8, l_9, l_10, l_11, l_12, l_13, l_14, l_15, l_16, l_17, l_18, l_19, l_20, l_21, l_22, l_23, l_24, l_25, l_26, l_28, l_29, l_30, l_31, l_32, l_33, l_34, l_36, l_37, l_38, l_39, l_40, l_41, l_42, l_43, l_44, l_45, l_46, l_47, l_48, l_49, l_50, l_53, l_54, l_57, l_58, l_59, l_60, l_61, l_62, l_63, l_91, l_93, l_97, l_98, l_99, l_100, l_103, l_104, l_110, l_112, l_114, l_115, l_116, l_119, l_120, l_121, l_124, l_128, l_231, l_240, l_241, l_255, l_496, l_999, l_1000, l_8191, l_9999, l_10000, l_100000, l_200000, l_1000000, l_1000000000, gz_let_eq, Option.bind_some, ↓reduceIte, wi_wa, wa_at, wa_wa, upd_fI, fI_ap, wa_2, n_add, n_ok, n_cl, n_lt, n_le, n_eq, p_0, p_1, p_01, n_bit, n_shl1]
  by_cases h0 : (sDry V (V 58 * V 59)).testBit a = true
  · simp (disch := omega) only [l_0, l_1, l_2, l_3, l_4, l_5, l_6, l_7, l_8, l_9, l_10, l_11, l_12, l_13, l_14, l_15, l_16, l_17, l_18, l_19, l_20, l_21, l_22, l_23, l_24, l_25, l_26, l_28, l_29, l_30, l_31, l_32, l_33, l_34, l_36, l_37, l_38, l_39, l_40, l_41, l_42, l_43, l_44, l_45, l_46, l_47, l_48, l_49, l_50, l_53, l_54, l_57, l_58, l_59, l_60, l_61, l_62, l_63, l_91, l_93, l_97, l_98, l_99, l_100, l_103, l_104, l_110, l_112, l_114, l_115, l_116, l_119, l_120, l_121, l_124, l_128, l_231, l_240, l_241, l_255, l_496, l_999, l_1000, l_8191, l_9999, l_10000, l_100000, l_200000, l_1000000, l_1000000000, gz_let_eq, Option.bind_some, ↓reduceIte, wi_wa, wa_at, wa_wa, upd_fI, fI_ap, wa_2, n_add, n_ok, n_cl, n_lt, n_le, n_eq, p_0, p_1, p_01, h0, show ¬ (1 = 0) by omega]
    refine lp (fun f i (_ : Unit) => fX6_fewestSteps_23 La w f (nI b) (nI (sDry V (V 58 * V 59))) (nI (sRch V (sDry V (V 58 * V 59)) i (2 ^ a))) (nI i) g) (fun i _ => ∀ j, j < i → (sRch V (sDry V (V 58 * V 59)) j (2 ^ a)).testBit b = false) 30 (fun x => x = some (oI (ff (fun n => (sRch V (sDry V (V 58 * V 59)) n (2 ^ a)).testBit b) 30), g)) ?_ ?_ gz_FU 0 () (by omega) (by unfold gz_FU; omega) (fun j hj => absurd hj (Nat.not_lt_zero _))
    · intro f i _ hi hI
      have hn : ¬ 30 ≤ i := by omega
      have hr := sRch_lt (V := V) hd h2 (n := i)
      by_cases hbit : (sRch V (sDry V (V 58 * V 59)) i (2 ^ a)).testBit b = true
      · refine Or.inl ?_
        show fX6_fewestSteps_23 La w (f + 1) (nI b) (nI (sDry V (V 58 * V 59))) (nI (sRch V (sDry V (V 58 * V 59)) i (2 ^ a))) (nI i) g = _
        rw [fX6_fewestSteps_23, ff_some (p := fun n => (sRch V (sDry V (V 58 * V 59)) n (2 ^ a)).testBit b) hI hbit hi]
        simp (disch := omega) only [l_0, l_1, l_2, l_3, l_4, l_5, l_6, l_7, l_8, l_9, l_10, l_11, l_12, l_13, l_14, l_15, l_16, l_17, l_18, l_19, l_20, l_21, l_22, l_23, l_24, l_25, l_26, l_28, l_29, l_30, l_31, l_32, l_33, l_34, l_36, l_37, l_38, l_39, l_40, l_41, l_42, l_43, l_44, l_45, l_46, l_47, l_48, l_49, l_50, l_53, l_54, l_57, l_58, l_59, l_60, l_61, l_62, l_63, l_91, l_93, l_97, l_98, l_99, l_100, l_103, l_104, l_110, l_112, l_114, l_115, l_116, l_119, l_120, l_121, l_124, l_128, l_231, l_240, l_241, l_255, l_496, l_999, l_1000, l_8191, l_9999, l_10000, l_100000, l_200000, l_1000000, l_1000000000, gz_let_eq, Option.bind_some, ↓reduceIte, wi_wa, wa_at, wa_wa, upd_fI, fI_ap, wa_2, n_add, n_ok, n_cl, n_lt, n_le, n_eq, p_0, p_1, p_01, hn, n_bit, hbit, show ¬ (1 = 0) by omega]
        rfl
      · refine Or.inr ⟨(), ?_, fun j hj => ?_⟩
        · show fX6_fewestSteps_23 La w (f + 1) (nI b) (nI (sDry V (V 58 * V 59))) (nI (sRch V (sDry V (V 58 * V 59)) i (2 ^ a))) (nI i) g = fX6_fewestSteps_23 La w f (nI b) (nI (sDry V (V 58 * V 59))) (nI (sWid V (sRch V (sDry V (V 58 * V 59)) i (2 ^ a)) (sDry V (V 58 * V 59)) (V 58 * V 59))) (nI (i + 1)) g
          rw [fX6_fewestSteps_23]
          simp (disch := omega) only [l_0, l_1, l_2, l_3, l_4, l_5, l_6, l_7, l_8, l_9, l_10, l_11, l_12, l_13, l_14, l_15, l_16, l_17, l_18, l_19, l_20, l_21, l_22, l_23, l_24, l_25, l_26, l_28, l_29, l_30, l_31, l_32, l_33, l_34, l_36, l_37, l_38, l_39, l_40, l_41, l_42, l_43, l_44, l_45, l_46, l_47, l_48, l_49, l_50, l_53, l_54, l_57, l_58, l_59, l_60, l_61, l_62, l_63, l_91, l_93, l_97, l_98, l_99, l_100, l_103, l_104, l_110, l_112, l_114, l_115, l_116, l_119, l_120, l_121, l_124, l_128, l_231, l_240, l_241, l_255, l_496, l_999, l_1000, l_8191, l_9999, l_10000, l_100000, l_200000, l_1000000, l_1000000000, gz_let_eq, Option.bind_some, ↓reduceIte, wi_wa, wa_at, wa_wa, upd_fI, fI_ap, wa_2, n_add, n_ok, n_cl, n_lt, n_le, n_eq, p_0, p_1, p_01, hn, n_bit, hbit, c_widened hv hW, Bool.false_eq_true]
        · by_cases hji : j = i
          · subst hji; simpa using hbit
          · exact hI j (by omega)
    · intro f _ hI
      show fX6_fewestSteps_23 La w (f + 1) (nI b) (nI (sDry V (V 58 * V 59))) (nI (sRch V (sDry V (V 58 * V 59)) 30 (2 ^ a))) (nI 30) g = _
      rw [fX6_fewestSteps_23, ff_none (p := fun n => (sRch V (sDry V (V 58 * V 59)) n (2 ^ a)).testBit b) hI]
      simp (disch := omega) only [l_0, l_1, l_2, l_3, l_4, l_5, l_6, l_7, l_8, l_9, l_10, l_11, l_12, l_13, l_14, l_15, l_16, l_17, l_18, l_19, l_20, l_21, l_22, l_23, l_24, l_25, l_26, l_28, l_29, l_30, l_31, l_32, l_33, l_34, l_36, l_37, l_38, l_39, l_40, l_41, l_42, l_43, l_44, l_45, l_46, l_47, l_48, l_49, l_50, l_53, l_54, l_57, l_58, l_59, l_60, l_61, l_62, l_63, l_91, l_93, l_97, l_98, l_99, l_100, l_103, l_104, l_110, l_112, l_114, l_115, l_116, l_119, l_120, l_121, l_124, l_128, l_231, l_240, l_241, l_255, l_496, l_999, l_1000, l_8191, l_9999, l_10000, l_100000, l_200000, l_1000000, l_1000000000, gz_let_eq, Option.bind_some, ↓reduceIte, wi_wa, wa_at, wa_wa, upd_fI, fI_ap, wa_2, n_add, n_ok, n_cl, n_lt, n_le, n_eq, p_0, p_1, p_01, Nat.le_refl]
      rfl
  · simp (disch := omega) only [l_0, l_1, l_2, l_3, l_4, l_5, l_6, l_7, l_8, l_9, l_10, l_11, l_12, l_13, l_14, l_15, l_16, l_17, l_18, l_19, l_20, l_21, l_22, l_23, l_24, l_25, l_26, l_28, l_29, l_30, l_31, l_32, l_33, l_34, l_36, l_37, l_38, l_39, l_40, l_41, l_42, l_43, l_44, l_45, l_46, l_47, l_48, l_49, l_50, l_53, l_54, l_57, l_58, l_59, l_60, l_61, l_62, l_63, l_91, l_93, l_97, l_98, l_99, l_100, l_103, l_104, l_110, l_112, l_114, l_115, l_116, l_119, l_120, l_121, l_124, l_128, l_231, l_240, l_241, l_255, l_496, l_999, l_1000, l_8191, l_9999, l_10000, l_100000, l_200000, l_1000000, l_1000000000, gz_let_eq, Option.bind_some, ↓reduceIte, wi_wa, wa_at, wa_wa, upd_fI, fI_ap, wa_2, n_add, n_ok, n_cl, n_lt, n_le, n_eq, p_0, p_1, p_01, h0, Bool.false_eq_true]
    rfl
end C6
