/-! the class's scene: counts, sets, ways -/
def sWent (V : Nat → Nat) (n : Nat) : Nat := it (fun i a => a + V (38 + i)) n 0
def sMost (f : Nat → Nat) (n : Nat) : Nat := it (fun i b => if f b < f i then i else b) n 0
def sWith (V : Nat → Nat) (h n : Nat) : Nat := it (fun i b => if V (42 + i) = h then b ||| 2 ^ i else b) n 0
def sBusy (V : Nat → Nat) (n : Nat) : Nat := it (fun i b => if V (42 + i) = 0 then b ||| 2 ^ V (30 + i) else b) n 0
def sCrowd (V : Nat → Nat) (n : Nat) : Nat := it (fun i m => if V (42 + i) = 0 then max m (sCnt V (V (30 + i))) else m) n 0
abbrev sSees (V : Nat → Nat) (a b : Nat) : Prop := sBes V (V (30 + a)) (V (34 + a)) = some (V (30 + b))
abbrev sFace (V : Nat → Nat) (a b : Nat) : Prop := V (42 + a) = 0 ∧ V (42 + b) = 0 ∧ sSees V a b ∧ sSees V b a
def sFaced1 (V : Nat → Nat) (a : Nat) (n : Nat) (s : Nat) : Nat := it (fun b s => if a < b ∧ sFace V a b then s + 1 else s) n s
def sFaced (V : Nat → Nat) (n : Nat) : Nat := it (fun a s => sFaced1 V a (V 60) s) n 0
abbrev sDryP (V : Nat → Nat) (c : Nat) : Prop := ¬ V c = 1 ∧ ¬ sUnd V c
def sDry (V : Nat → Nat) (n : Nat) : Nat := it (fun c b => if sDryP V c then b ||| 2 ^ c else b) n 0
def sWid1 (V : Nat → Nat) (dry c : Nat) (n wd : Nat) : Nat := it (fun d wd => match sBes V c d with
  | none => wd
  | some e => wd ||| (2 ^ e &&& dry)) n wd
def sWid (V : Nat → Nat) (bits dry : Nat) (n : Nat) : Nat := it (fun c wd => if bits.testBit c then sWid1 V dry c 4 wd else wd) n bits
def sRch (V : Nat → Nat) (dry : Nat) (n bits : Nat) : Nat := it (fun _ b => sWid V b dry (V 58 * V 59)) n bits
def sParts (V : Nat → Nat) (n : Nat) : Nat × Nat := it (fun c s => if s.1.testBit c then (s.1 ^^^ (s.1 &&& sRch V s.1 30 (2 ^ c)), s.2 + 1) else s) n (sDry V (V 58 * V 59), 0)
/-- the first at which p -/
def ff (p : Nat → Bool) : Nat → Option Nat
  | 0 => none
  | n + 1 => match ff p n with
    | some i => some i
    | none => if p n then some n else none
theorem ff_none {p : Nat → Bool} : ∀ {n : Nat}, (∀ j, j < n → p j = false) → ff p n = none := by
  intro n
  induction n with
  | zero => intro _; rfl
  | succ n ih =>
    intro h
    unfold ff
    rw [ih (fun j hj => h j (by omega)), h n (by omega)]
    rfl
theorem ff_some {p : Nat → Bool} {i : Nat} (h0 : ∀ j, j < i → p j = false) (h1 : p i = true) : ∀ {n : Nat}, i < n → ff p n = some i := by
  intro n
  induction n with
  | zero => intro h; omega
  | succ n ih =>
    intro h
    unfold ff
    by_cases hn : i = n
    · subst hn; rw [ff_none h0, h1]; rfl
    · rw [ih (by omega)]
def sFew (V : Nat → Nat) (a b : Nat) : Option Nat :=
  if (sDry V (V 58 * V 59)).testBit a then ff (fun n => (sRch V (sDry V (V 58 * V 59)) n (2 ^ a)).testBit b) 30 else none
theorem b_pow {c : Nat} (hc : c < 30) : 2 ^ c < 1073741824 := Nat.pow_lt_pow_right (by decide) hc
theorem b_or {a b : Nat} (ha : a < 1073741824) (hb : b < 1073741824) : a ||| b < 1073741824 := Nat.or_lt_two_pow (n := 30) ha hb
theorem b_and {a b : Nat} (ha : a < 1073741824) : a &&& b < 1073741824 := Nat.lt_of_le_of_lt Nat.and_le_left ha
theorem sDry_lt {V : Nat → Nat} : ∀ {n : Nat}, n ≤ 30 → sDry V n < 1073741824 := by
  intro n
  induction n with
  | zero => intro _; show 0 < _; omega
  | succ n ih =>
    intro hn
    show (if sDryP V n then sDry V n ||| 2 ^ n else sDry V n) < _
    split
    · exact b_or (ih (by omega)) (b_pow (by omega))
    · exact ih (by omega)
theorem sWid1_lt {V : Nat → Nat} {dry c wd : Nat} (hd : dry < 1073741824) (hw : wd < 1073741824) : ∀ {n : Nat}, sWid1 V dry c n wd < 1073741824 := by
  intro n
  induction n with
  | zero => exact hw
  | succ n ih =>
    show (match sBes V c n with | none => sWid1 V dry c n wd | some e => sWid1 V dry c n wd ||| (2 ^ e &&& dry)) < _
    cases sBes V c n with
    | none => exact ih
    | some e => exact b_or ih (Nat.lt_of_le_of_lt Nat.and_le_right hd)
theorem sWid_lt {V : Nat → Nat} {dry bits : Nat} (hd : dry < 1073741824) (hb : bits < 1073741824) : ∀ {n : Nat}, sWid V bits dry n < 1073741824 := by
  intro n
  induction n with
  | zero => exact hb
  | succ n ih =>
    show (if bits.testBit n then sWid1 V dry n 4 (sWid V bits dry n) else sWid V bits dry n) < _
    split
    · exact sWid1_lt hd ih
    · exact ih
theorem sRch_lt {V : Nat → Nat} {dry bits : Nat} (hd : dry < 1073741824) (hb : bits < 1073741824) : ∀ {n : Nat}, sRch V dry n bits < 1073741824 := by
  intro n
  induction n with
  | zero => exact hb
  | succ n ih => exact sWid_lt hd ih
theorem n_clr (a b : Nat) : nI a &&& (nI b ^^^ -nI 1) = nI (a ^^^ (a &&& b)) := by
  rw [← n_xor, ← n_and]
  have : ∀ x y : Int32, x &&& (y ^^^ -nI 1) = x ^^^ (x &&& y) := by
    intro x y
    rw [show (-nI 1 : Int32) = -1 from rfl, Int32.xor_neg_one]
    refine Int32.toBitVec_inj.1 ?_
    show x.toBitVec &&& ~~~y.toBitVec = x.toBitVec ^^^ (x.toBitVec &&& y.toBitVec)
    refine BitVec.eq_of_getLsbD_eq (fun i hi => ?_)
    simp only [BitVec.getLsbD_and, BitVec.getLsbD_not, BitVec.getLsbD_xor, hi, decide_true, Bool.true_and]
    cases x.toBitVec.getLsbD i <;> cases y.toBitVec.getLsbD i <;> rfl
  exact this _ _
theorem sWent_le {V : Nat → Nat} (hB : ∀ k, V k < 1048576) : ∀ n, sWent V n ≤ n * 1048576 := by
  intro n
  induction n with
  | zero => exact Nat.le_refl _
  | succ n ih =>
    have := hB (38 + n)
    show sWent V n + V (38 + n) ≤ _
    omega
theorem sMost_lt {f : Nat → Nat} : ∀ n, sMost f n ≤ n := by
  intro n
  induction n with
  | zero => exact Nat.le_refl _
  | succ n ih =>
    show (if f (sMost f n) < f n then n else sMost f n) ≤ n + 1
    split <;> omega
section C6
variable {La : gz_L} {w : Nat} {g : gz_S} {V : Nat → Nat} {B : Nat}
theorem c_sweepOff (hw : gz_sc w) (hv : g.1 (w + 16) = fI V) (hW : Wf B V) {c : Nat} (hc : c < 30) (h48 : 1 ≤ V 48) : fX6_sweepOff La w (nI c) g = some (nI (sCnt V c), gz_wa g (w + 16) (fI (sSweep V c))) := by
  have h60 := hW.2.2.2.1.2
  have hB := hW.1
  have e0 : gz_wa g (w + 16) (fI (sOff V c 0)) = g := by
    have : sOff V c 0 = V := by funext k; unfold sOff; rw [if_neg (by omega)]
    rw [this, ← hv]
    unfold gz_wa
    refine Prod.ext ?_ rfl
    funext j
    by_cases hj : j = w + 16
    · subst hj; exact if_pos rfl
    · exact if_neg hj
  unfold fX6_sweepOff
  rw [l_0]
  refine lp (fun f i (g1 : gz_S) => fX6_sweepOff_4 La w (fun (x2 : Int32) g => gz_let (gz_wi g (w + 16) 48 ((g.1 (w + 16) 48) - 1)) (fun g53 => some (x2, g53))) f (nI c) (nI (it (fun i a => if sOn V c i then a + 1 else a) i 0)) (nI i) g1)
    (fun i g1 => g1 = gz_wa g (w + 16) (fI (sOff V c i))) (V 60) (fun r => r = some (nI (sCnt V c), gz_wa g (w + 16) (fI (sSweep V c)))) ?_ ?_ gz_FU 0 g (by omega) (by unfold gz_FU; omega) e0.symm
  · intro f i g1 hi h1
    subst h1
    refine Or.inr ⟨_, ?_, rfl⟩
    have hv1 : (gz_wa g (w + 16) (fI (sOff V c i))).1 (w + 16) = fI (sOff V c i) := wa_at _ _ _
    have hB1 : ∀ k, sOff V c i k < 1048576 := by
      intro k; have := hB k
      unfold sOff; split <;> omega
    have e60 : sOff V c i 60 = V 60 := by unfold sOff; rw [if_neg (by omega)]
    have hn : ¬ V 60 ≤ i := by omega
    have eo : sOn (sOff V c i) c i = sOn V c i := by
      have a1 : sOff V c i (42 + i) = V (42 + i) := by unfold sOff; rw [if_neg (by omega)]
      have a2 : sOff V c i (30 + i) = V (30 + i) := by unfold sOff; rw [if_neg (by omega)]
      unfold sOn; rw [a1, a2]
    have hst : it (fun i a => if sOn V c i then a + 1 else a) (i + 1) 0 = if sOn V c i then it (fun i a => if sOn V c i then a + 1 else a) i 0 + 1 else it (fun i a => if sOn V c i then a + 1 else a) i 0 := rfl
    show fX6_sweepOff_4 La w _ (f + 1) (nI c) _ (nI i) _ = fX6_sweepOff_4 La w _ f (nI c) (nI (it (fun i a => if sOn V c i then a + 1 else a) (i + 1) 0)) (nI (i + 1)) (gz_wa g (w + 16) (fI (sOff V c (i + 1))))
    rw [fX6_sweepOff_4, hst]
    simp (disch := omega) only [l_0, l_1, l_2, l_3, l_4, l_5, l_6, l_7, l_8, l_9, l_10, l_11, l_12, l_13, l_14, l_15, l_16, l_17, l_18, l_19, l_20, l_21, l_22, l_23, l_24, l_25, l_26, l_28, l_29, l_30, l_31, l_32, l_33, l_34, l_36, l_37, l_38, l_39, l_40, l_41, l_42, l_43, l_44, l_45, l_46, l_47, l_48, l_49, l_50, l_53, l_54, l_57, l_58, l_59, l_60, l_61, l_62, l_63, l_91, l_93, l_97, l_98, l_99, l_100, l_103, l_104, l_110, l_112, l_114, l_115, l_116, l_119, l_120, l_121, l_124, l_128, l_231, l_240, l_241, l_255, l_496, l_999, l_1000, l_8191, l_9999, l_10000, l_100000, l_200000, l_1000000, l_1000000000, gz_let_eq, Option.bind_some, ↓reduceIte, wi_wa, wa_at, wa_wa, upd_fI, fI_ap, wa_2, n_add, n_ok, n_cl, n_lt, n_le, n_eq, p_0, p_1, p_01, hv1, e60, hn, c_goesOn hv1 hB1, eo, fX6_sweepOff_37]
    have hx : 42 + i - 42 = i := by omega
    by_cases h : sOn V c i
    · rw [if_neg (not_not_intro h), if_pos h]
      congr 3
      funext k
      unfold uN sOff
      by_cases hk : k = 42 + i
      · rw [if_pos hk, if_pos (by rw [hk, hx]; exact ⟨by omega, by omega, h⟩)]
      · rw [if_neg hk]
        by_cases hk2 : 42 ≤ k ∧ k < 42 + i ∧ sOn V c (k - 42)
        · rw [if_pos hk2, if_pos ⟨by omega, by omega, hk2.2.2⟩]
        · rw [if_neg hk2, if_neg (fun e => hk2 ⟨e.1, by omega, e.2.2⟩)]
    · rw [if_pos h, if_neg h]
      congr 3
      funext k
      unfold sOff
      by_cases hk2 : 42 ≤ k ∧ k < 42 + i ∧ sOn V c (k - 42)
      · rw [if_pos hk2, if_pos ⟨by omega, by omega, hk2.2.2⟩]
      · rw [if_neg hk2, if_neg (fun e => by
          by_cases hk : k = 42 + i
          · rw [hk, hx] at e; exact h e.2.2
          · exact hk2 ⟨e.1, by omega, e.2.2⟩)]
  · intro f g1 h1
    subst h1
    have e60 : sOff V c (V 60) 60 = V 60 := by unfold sOff; rw [if_neg (by omega)]
    have e48 : sOff V c (V 60) 48 = V 48 := by unfold sOff; rw [if_neg (by omega)]
    show fX6_sweepOff_4 La w _ (f + 1) (nI c) _ (nI (V 60)) _ = _
    have b0 := hB 60
    rw [fX6_sweepOff_4]
    simp (disch := omega) only [l_0, l_1, l_2, l_3, l_4, l_5, l_6, l_7, l_8, l_9, l_10, l_11, l_12, l_13, l_14, l_15, l_16, l_17, l_18, l_19, l_20, l_21, l_22, l_23, l_24, l_25, l_26, l_28, l_29, l_30, l_31, l_32, l_33, l_34, l_36, l_37, l_38, l_39, l_40, l_41, l_42, l_43, l_44, l_45, l_46, l_47, l_48, l_49, l_50, l_53, l_54, l_57, l_58, l_59, l_60, l_61, l_62, l_63, l_91, l_93, l_97, l_98, l_99, l_100, l_103, l_104, l_110, l_112, l_114, l_115, l_116, l_119, l_120, l_121, l_124, l_128, l_231, l_240, l_241, l_255, l_496, l_999, l_1000, l_8191, l_9999, l_10000, l_100000, l_200000, l_1000000, l_1000000000, gz_let_eq, Option.bind_some, ↓reduceIte, wi_wa, wa_at, wa_wa, upd_fI, fI_ap, wa_2, n_add, n_ok, n_cl, n_lt, n_le, n_eq, p_0, p_1, p_01, e60, e48, Nat.le_refl, n_sub]
    rfl
theorem c_wentInAll (hv : g.1 (w + 16) = fI V) (hB : ∀ k, V k < 1048576) (h60 : V 60 ≤ 4) : fX6_wentInAll La w g = some (nI (sWent V (V 60)), g) := by
  unfold fX6_wentInAll
  rw [l_0]
  refine lp (fun f i (_ : Unit) => fX6_wentInAll_4 La w f (nI (sWent V i)) (nI i) g) (fun _ _ => True) (V 60) (fun r => r = some (nI (sWent V (V 60)), g)) ?_ ?_ gz_FU 0 () (by omega) (by unfold gz_FU; omega) trivial
  · intro f i _ hi _
    refine Or.inr ⟨(), ?_, trivial⟩
    have hn : ¬ V 60 ≤ i := by omega
    show fX6_wentInAll_4 La w (f + 1) (nI (sWent V i)) (nI i) g = fX6_wentInAll_4 La w f (nI (sWent V i + V (38 + i))) (nI (i + 1)) g
    rw [fX6_wentInAll_4]
    simp (disch := omega) only [l_0, l_1, l_2, l_3, l_4, l_5, l_6, l_7, l_8, l_9, l_10, l_11, l_12, l_13, l_14, l_15, l_16, l_17, l_18, l_19, l_20, l_21, l_22, l_23, l_24, l_25, l_26, l_28, l_29, l_30, l_31, l_32, l_33, l_34, l_36, l_37, l_38, l_39, l_40, l_41, l_42, l_43, l_44, l_45, l_46, l_47, l_48, l_49, l_50, l_53, l_54, l_57, l_58, l_59, l_60, l_61, l_62, l_63, l_91, l_93, l_97, l_98, l_99, l_100, l_103, l_104, l_110, l_112, l_114, l_115, l_116, l_119, l_120, l_121, l_124, l_128, l_231, l_240, l_241, l_255, l_496, l_999, l_1000, l_8191, l_9999, l_10000, l_100000, l_200000, l_1000000, l_1000000000, gz_let_eq, Option.bind_some, ↓reduceIte, wi_wa, wa_at, wa_wa, upd_fI, fI_ap, wa_2, n_add, n_ok, n_cl, n_lt, n_le, n_eq, p_0, p_1, p_01, hv, hn]
  · intro f _ _
    show fX6_wentInAll_4 La w (f + 1) (nI (sWent V (V 60))) (nI (V 60)) g = _
    rw [fX6_wentInAll_4]
    simp (disch := omega) only [l_0, l_1, l_2, l_3, l_4, l_5, l_6, l_7, l_8, l_9, l_10, l_11, l_12, l_13, l_14, l_15, l_16, l_17, l_18, l_19, l_20, l_21, l_22, l_23, l_24, l_25, l_26, l_28, l_29, l_30, l_31, l_32, l_33, l_34, l_36, l_37, l_38, l_39, l_40, l_41, l_42, l_43, l_44, l_45, l_46, l_47, l_48, l_49, l_50, l_53, l_54, l_57, l_58, l_59, l_60, l_61, l_62, l_63, l_91, l_93, l_97, l_98, l_99, l_100, l_103, l_104, l_110, l_112, l_114, l_115, l_116, l_119, l_120, l_121, l_124, l_128, l_231, l_240, l_241, l_255, l_496, l_999, l_1000, l_8191, l_9999, l_10000, l_100000, l_200000, l_1000000, l_1000000000, gz_let_eq, Option.bind_some, ↓reduceIte, wi_wa, wa_at, wa_wa, upd_fI, fI_ap, wa_2, n_add, n_ok, n_cl, n_lt, n_le, n_eq, p_0, p_1, p_01, hv, Nat.le_refl]
theorem c_goerWithMost (hv : g.1 (w + 16) = fI V) (hB : ∀ k, V k < 1048576) (h60 : 1 ≤ V 60 ∧ V 60 ≤ 4) {r : Nat} (hr : r ≤ 57) : fX6_goerWithMost La w (nI r) g = some (nI (sMost (fun i => V (r + i)) (V 60)), g) := by
  have e1 : sMost (fun i => V (r + i)) 1 = 0 := by
    show (if V (r + 0) < V (r + 0) then 0 else 0) = 0
    rw [if_neg (Nat.lt_irrefl _)]
  unfold fX6_goerWithMost
  rw [l_0, l_1, show nI 0 = nI (sMost (fun i => V (r + i)) 1) by rw [e1]]
  refine lp (fun f i (_ : Unit) => fX6_goerWithMost_4 La w f (nI r) (nI (sMost (fun i => V (r + i)) i)) (nI i) g) (fun _ _ => True) (V 60) (fun x => x = some (nI (sMost (fun i => V (r + i)) (V 60)), g)) ?_ ?_ gz_FU 1 () h60.1 (by unfold gz_FU; omega) trivial
  · intro f i _ hi _
    refine Or.inr ⟨(), ?_, trivial⟩
    have hn : ¬ V 60 ≤ i := by omega
    have hm := sMost_lt (f := fun i => V (r + i)) i
    have b0 := hB (r + i)
    have b1 := hB (r + sMost (fun i => V (r + i)) i)
    have hst : sMost (fun i => V (r + i)) (i + 1) = if V (r + sMost (fun i => V (r + i)) i) < V (r + i) then i else sMost (fun i => V (r + i)) i := rfl
    show fX6_goerWithMost_4 La w (f + 1) (nI r) (nI (sMost (fun i => V (r + i)) i)) (nI i) g = fX6_goerWithMost_4 La w f (nI r) (nI (sMost (fun i => V (r + i)) (i + 1))) (nI (i + 1)) g
    rw [fX6_goerWithMost_4, hst]
    simp (disch := omega) only [l_0, l_1, l_2, l_3, l_4, l_5, l_6, l_7, l_8, l_9, l_10, l_11, l_12, l_13, l_14, l_15, l_16, l_17, l_18, l_19, l_20, l_21, l_22, l_23, l_24, l_25, l_26, l_28, l_29, l_30, l_31, l_32, l_33, l_34, l_36, l_37, l_38, l_39, l_40, l_41, l_42, l_43, l_44, l_45, l_46, l_47, l_48, l_49, l_50, l_53, l_54, l_57, l_58, l_59, l_60, l_61, l_62, l_63, l_91, l_93, l_97, l_98, l_99, l_100, l_103, l_104, l_110, l_112, l_114, l_115, l_116, l_119, l_120, l_121, l_124, l_128, l_231, l_240, l_241, l_255, l_496, l_999, l_1000, l_8191, l_9999, l_10000, l_100000, l_200000, l_1000000, l_1000000000, gz_let_eq, Option.bind_some, ↓reduceIte, wi_wa, wa_at, wa_wa, upd_fI, fI_ap, wa_2, n_add, n_ok, n_cl, n_lt, n_le, n_eq, p_0, p_1, p_01, hv, hn, fX6_goerWithMost_36]
    by_cases h : V (r + sMost (fun i => V (r + i)) i) < V (r + i)
    · rw [if_pos h, if_neg (by omega)]
    · rw [if_neg h, if_pos (by omega)]
  · intro f _ _
    show fX6_goerWithMost_4 La w (f + 1) (nI r) (nI (sMost (fun i => V (r + i)) (V 60))) (nI (V 60)) g = _
    rw [fX6_goerWithMost_4]
    simp (disch := omega) only [l_0, l_1, l_2, l_3, l_4, l_5, l_6, l_7, l_8, l_9, l_10, l_11, l_12, l_13, l_14, l_15, l_16, l_17, l_18, l_19, l_20, l_21, l_22, l_23, l_24, l_25, l_26, l_28, l_29, l_30, l_31, l_32, l_33, l_34, l_36, l_37, l_38, l_39, l_40, l_41, l_42, l_43, l_44, l_45, l_46, l_47, l_48, l_49, l_50, l_53, l_54, l_57, l_58, l_59, l_60, l_61, l_62, l_63, l_91, l_93, l_97, l_98, l_99, l_100, l_103, l_104, l_110, l_112, l_114, l_115, l_116, l_119, l_120, l_121, l_124, l_128, l_231, l_240, l_241, l_255, l_496, l_999, l_1000, l_8191, l_9999, l_10000, l_100000, l_200000, l_1000000, l_1000000000, gz_let_eq, Option.bind_some, ↓reduceIte, wi_wa, wa_at, wa_wa, upd_fI, fI_ap, wa_2, n_add, n_ok, n_cl, n_lt, n_le, n_eq, p_0, p_1, p_01, hv, Nat.le_refl]
theorem c_goersWith (hv : g.1 (w + 16) = fI V) (hB : ∀ k, V k < 1048576) (h60 : V 60 ≤ 4) {h : Nat} (hh : h < 2147483648) : fX6_goersWith La w (nI h) g = some (nI (sWith V h (V 60)), g) := by
  unfold fX6_goersWith
  rw [l_0]
  refine lp (fun f i (_ : Unit) => fX6_goersWith_4 La w f (nI h) (nI (sWith V h i)) (nI i) g) (fun _ _ => True) (V 60) (fun x => x = some (nI (sWith V h (V 60)), g)) ?_ ?_ gz_FU 0 () (by omega) (by unfold gz_FU; omega) trivial
  · intro f i _ hi _
    refine Or.inr ⟨(), ?_, trivial⟩
    have hn : ¬ V 60 ≤ i := by omega
    have b0 := hB (42 + i)
    have hst : sWith V h (i + 1) = if V (42 + i) = h then sWith V h i ||| 2 ^ i else sWith V h i := rfl
    show fX6_goersWith_4 La w (f + 1) (nI h) (nI (sWith V h i)) (nI i) g = fX6_goersWith_4 La w f (nI h) (nI (sWith V h (i + 1))) (nI (i + 1)) g
    rw [fX6_goersWith_4, hst]
    simp (disch := omega) only [l_0, l_1, l_2, l_3, l_4, l_5, l_6, l_7, l_8, l_9, l_10, l_11, l_12, l_13, l_14, l_15, l_16, l_17, l_18, l_19, l_20, l_21, l_22, l_23, l_24, l_25, l_26, l_28, l_29, l_30, l_31, l_32, l_33, l_34, l_36, l_37, l_38, l_39, l_40, l_41, l_42, l_43, l_44, l_45, l_46, l_47, l_48, l_49, l_50, l_53, l_54, l_57, l_58, l_59, l_60, l_61, l_62, l_63, l_91, l_93, l_97, l_98, l_99, l_100, l_103, l_104, l_110, l_112, l_114, l_115, l_116, l_119, l_120, l_121, l_124, l_128, l_231, l_240, l_241, l_255, l_496, l_999, l_1000, l_8191, l_9999, l_10000, l_100000, l_200000, l_1000000, l_1000000000, gz_let_eq, Option.bind_some, ↓reduceIte, wi_wa, wa_at, wa_wa, upd_fI, fI_ap, wa_2, n_add, n_ok, n_cl, n_lt, n_le, n_eq, p_0, p_1, p_01, hv, hn, fX6_goersWith_34, n_shl1, n_or]
    by_cases h : V (42 + i) = h
    · rw [if_pos h, if_pos h]
    · rw [if_neg h, if_neg h]
  · intro f _ _
    show fX6_goersWith_4 La w (f + 1) (nI h) (nI (sWith V h (V 60))) (nI (V 60)) g = _
    rw [fX6_goersWith_4]
    simp (disch := omega) only [l_0, l_1, l_2, l_3, l_4, l_5, l_6, l_7, l_8, l_9, l_10, l_11, l_12, l_13, l_14, l_15, l_16, l_17, l_18, l_19, l_20, l_21, l_22, l_23, l_24, l_25, l_26, l_28, l_29, l_30, l_31, l_32, l_33, l_34, l_36, l_37, l_38, l_39, l_40, l_41, l_42, l_43, l_44, l_45, l_46, l_47, l_48, l_49, l_50, l_53, l_54, l_57, l_58, l_59, l_60, l_61, l_62, l_63, l_91, l_93, l_97, l_98, l_99, l_100, l_103, l_104, l_110, l_112, l_114, l_115, l_116, l_119, l_120, l_121, l_124, l_128, l_231, l_240, l_241, l_255, l_496, l_999, l_1000, l_8191, l_9999, l_10000, l_100000, l_200000, l_1000000, l_1000000000, gz_let_eq, Option.bind_some, ↓reduceIte, wi_wa, wa_at, wa_wa, upd_fI, fI_ap, wa_2, n_add, n_ok, n_cl, n_lt, n_le, n_eq, p_0, p_1, p_01, hv, Nat.le_refl]
theorem c_busyCells (hv : g.1 (w + 16) = fI V) (hW : Wf B V) : fX6_busyCells La w g = some (nI (sBusy V (V 60)), g) := by
  have hB := hW.1
  have h60 := hW.2.2.2.1.2
  unfold fX6_busyCells
  rw [l_0]
  refine lp (fun f i (_ : Unit) => fX6_busyCells_4 La w f (nI (sBusy V i)) (nI i) g) (fun _ _ => True) (V 60) (fun x => x = some (nI (sBusy V (V 60)), g)) ?_ ?_ gz_FU 0 () (by omega) (by unfold gz_FU; omega) trivial
  · intro f i _ hi _
    refine Or.inr ⟨(), ?_, trivial⟩
    have hn : ¬ V 60 ≤ i := by omega
    have b0 := (hW.2.2.2.2.2.2.2.2.2.1 i (by omega)).1
    have hst : sBusy V (i + 1) = if V (42 + i) = 0 then sBusy V i ||| 2 ^ V (30 + i) else sBusy V i := rfl
    show fX6_busyCells_4 La w (f + 1) (nI (sBusy V i)) (nI i) g = fX6_busyCells_4 La w f (nI (sBusy V (i + 1))) (nI (i + 1)) g
    rw [fX6_busyCells_4, hst]
    simp (disch := omega) only [l_0, l_1, l_2, l_3, l_4, l_5, l_6, l_7, l_8, l_9, l_10, l_11, l_12, l_13, l_14, l_15, l_16, l_17, l_18, l_19, l_20, l_21, l_22, l_23, l_24, l_25, l_26, l_28, l_29, l_30, l_31, l_32, l_33, l_34, l_36, l_37, l_38, l_39, l_40, l_41, l_42, l_43, l_44, l_45, l_46, l_47, l_48, l_49, l_50, l_53, l_54, l_57, l_58, l_59, l_60, l_61, l_62, l_63, l_91, l_93, l_97, l_98, l_99, l_100, l_103, l_104, l_110, l_112, l_114, l_115, l_116, l_119, l_120, l_121, l_124, l_128, l_231, l_240, l_241, l_255, l_496, l_999, l_1000, l_8191, l_9999, l_10000, l_100000, l_200000, l_1000000, l_1000000000, gz_let_eq, Option.bind_some, ↓reduceIte, wi_wa, wa_at, wa_wa, upd_fI, fI_ap, wa_2, n_add, n_ok, n_cl, n_lt, n_le, n_eq, p_0, p_1, p_01, hv, hn, fX6_busyCells_37, n_shl1, n_or, c_goes hv hB]
    by_cases h : V (42 + i) = 0
    · rw [if_neg (not_not_intro h), if_pos h]
    · rw [if_pos h, if_neg h]
  · intro f _ _
    show fX6_busyCells_4 La w (f + 1) (nI (sBusy V (V 60))) (nI (V 60)) g = _
    rw [fX6_busyCells_4]
    simp (disch := omega) only [l_0, l_1, l_2, l_3, l_4, l_5, l_6, l_7, l_8, l_9, l_10, l_11, l_12, l_13, l_14, l_15, l_16, l_17, l_18, l_19, l_20, l_21, l_22, l_23, l_24, l_25, l_26, l_28, l_29, l_30, l_31, l_32, l_33, l_34, l_36, l_37, l_38, l_39, l_40, l_41, l_42, l_43, l_44, l_45, l_46, l_47, l_48, l_49, l_50, l_53, l_54, l_57, l_58, l_59, l_60, l_61, l_62, l_63, l_91, l_93, l_97, l_98, l_99, l_100, l_103, l_104, l_110, l_112, l_114, l_115, l_116, l_119, l_120, l_121, l_124, l_128, l_231, l_240, l_241, l_255, l_496, l_999, l_1000, l_8191, l_9999, l_10000, l_100000, l_200000, l_1000000, l_1000000000, gz_let_eq, Option.bind_some, ↓reduceIte, wi_wa, wa_at, wa_wa, upd_fI, fI_ap, wa_2, n_add, n_ok, n_cl, n_lt, n_le, n_eq, p_0, p_1, p_01, hv, Nat.le_refl]
theorem sCrowd_le {V : Nat → Nat} : ∀ n, sCrowd V n ≤ V 60 := by
  intro n
  induction n with
  | zero => exact Nat.zero_le _
  | succ n ih =>
    have : sCnt V (V (30 + n)) ≤ V 60 := sCnt_le
    show (if V (42 + n) = 0 then max (sCrowd V n) (sCnt V (V (30 + n))) else sCrowd V n) ≤ _
    split <;> omega
theorem c_crowd (hv : g.1 (w + 16) = fI V) (hW : Wf B V) : fX6_crowd La w g = some (nI (sCrowd V (V 60)), g) := by
  have hB := hW.1
  have h60 := hW.2.2.2.1.2
  unfold fX6_crowd
  rw [l_0]
  refine lp (fun f i (_ : Unit) => fX6_crowd_4 La w f (nI (sCrowd V i)) (nI i) g) (fun _ _ => True) (V 60) (fun x => x = some (nI (sCrowd V (V 60)), g)) ?_ ?_ gz_FU 0 () (by omega) (by unfold gz_FU; omega) trivial
  · intro f i _ hi _
    refine Or.inr ⟨(), ?_, trivial⟩
    have hn : ¬ V 60 ≤ i := by omega
    have b0 := hB (30 + i)
    have b1 : sCnt V (V (30 + i)) ≤ V 60 := sCnt_le
    have b2 := sCrowd_le (V := V) i
    have hst : sCrowd V (i + 1) = if V (42 + i) = 0 then max (sCrowd V i) (sCnt V (V (30 + i))) else sCrowd V i := rfl
    show fX6_crowd_4 La w (f + 1) (nI (sCrowd V i)) (nI i) g = fX6_crowd_4 La w f (nI (sCrowd V (i + 1))) (nI (i + 1)) g
    rw [fX6_crowd_4, hst]
    simp (disch := omega) only [l_0, l_1, l_2, l_3, l_4, l_5, l_6, l_7, l_8, l_9, l_10, l_11, l_12, l_13, l_14, l_15, l_16, l_17, l_18, l_19, l_20, l_21, l_22, l_23, l_24, l_25, l_26, l_28, l_29, l_30, l_31, l_32, l_33, l_34, l_36, l_37, l_38, l_39, l_40, l_41, l_42, l_43, l_44, l_45, l_46, l_47, l_48, l_49, l_50, l_53, l_54, l_57, l_58, l_59, l_60, l_61, l_62, l_63, l_91, l_93, l_97, l_98, l_99, l_100, l_103, l_104, l_110, l_112, l_114, l_115, l_116, l_119, l_120, l_121, l_124, l_128, l_231, l_240, l_241, l_255, l_496, l_999, l_1000, l_8191, l_9999, l_10000, l_100000, l_200000, l_1000000, l_1000000000, gz_let_eq, Option.bind_some, ↓reduceIte, wi_wa, wa_at, wa_wa, upd_fI, fI_ap, wa_2, n_add, n_ok, n_cl, n_lt, n_le, n_eq, p_0, p_1, p_01, hv, hn, fX6_crowd_41, c_goes hv hB, c_goingOn hv hB h60, c_max]
    by_cases h : V (42 + i) = 0
    · rw [if_neg (not_not_intro h), if_pos h]
    · rw [if_pos h, if_neg h]
  · intro f _ _
    show fX6_crowd_4 La w (f + 1) (nI (sCrowd V (V 60))) (nI (V 60)) g = _
    rw [fX6_crowd_4]
    simp (disch := omega) only [l_0, l_1, l_2, l_3, l_4, l_5, l_6, l_7, l_8, l_9, l_10, l_11, l_12, l_13, l_14, l_15, l_16, l_17, l_18, l_19, l_20, l_21, l_22, l_23, l_24, l_25, l_26, l_28, l_29, l_30, l_31, l_32, l_33, l_34, l_36, l_37, l_38, l_39, l_40, l_41, l_42, l_43, l_44, l_45, l_46, l_47, l_48, l_49, l_50, l_53, l_54, l_57, l_58, l_59, l_60, l_61, l_62, l_63, l_91, l_93, l_97, l_98, l_99, l_100, l_103, l_104, l_110, l_112, l_114, l_115, l_116, l_119, l_120, l_121, l_124, l_128, l_231, l_240, l_241, l_255, l_496, l_999, l_1000, l_8191, l_9999, l_10000, l_100000, l_200000, l_1000000, l_1000000000, gz_let_eq, Option.bind_some, ↓reduceIte, wi_wa, wa_at, wa_wa, upd_fI, fI_ap, wa_2, n_add, n_ok, n_cl, n_lt, n_le, n_eq, p_0, p_1, p_01, hv, Nat.le_refl]
end C6
