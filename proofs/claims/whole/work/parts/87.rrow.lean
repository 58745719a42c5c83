/-! the reference's rows, against a scene's vector -/
def rp (k : Nat) : Nat := if k < 30 then k else if k < 46 then 30 + 4 * ((k - 30) % 4) + (k - 30) / 4 else k
theorem rp_c {k : Nat} (h : k < 30) : rp k = k := if_pos h
theorem rp_0 {i : Nat} (h : i < 4) : rp (30 + i) = 30 + 4 * i + 0 := by unfold rp; rw [if_neg (by omega), if_pos (by omega)]; omega
theorem rp_1 {i : Nat} (h : i < 4) : rp (34 + i) = 30 + 4 * i + 1 := by unfold rp; rw [if_neg (by omega), if_pos (by omega)]; omega
theorem rp_2 {i : Nat} (h : i < 4) : rp (38 + i) = 30 + 4 * i + 2 := by unfold rp; rw [if_neg (by omega), if_pos (by omega)]; omega
theorem rp_3 {i : Nat} (h : i < 4) : rp (42 + i) = 30 + 4 * i + 3 := by unfold rp; rw [if_neg (by omega), if_pos (by omega)]; omega
theorem rp_n {k : Nat} (h : 46 ≤ k) : rp k = k := by unfold rp; rw [if_neg (by omega), if_neg (by omega)]
theorem rp_lt {k : Nat} (h : k < 50) : rp k < 50 := by
  unfold rp
  by_cases c1 : k < 30
  · rw [if_pos c1]; omega
  · rw [if_neg c1]
    by_cases c2 : k < 46
    · rw [if_pos c2]; omega
    · rw [if_neg c2]; omega
theorem rp_inj {k j : Nat} (hk : k < 50) (hj : j < 50) (h : rp k = rp j) : k = j := by
  unfold rp at h
  by_cases c1 : k < 30
  · rw [if_pos c1] at h
    by_cases c2 : j < 30
    · rw [if_pos c2] at h; exact h
    · rw [if_neg c2] at h
      by_cases c3 : j < 46
      · rw [if_pos c3] at h; omega
      · rw [if_neg c3] at h; omega
  · rw [if_neg c1] at h
    by_cases c1' : k < 46
    · rw [if_pos c1'] at h
      by_cases c2 : j < 30
      · rw [if_pos c2] at h; omega
      · rw [if_neg c2] at h
        by_cases c3 : j < 46
        · rw [if_pos c3] at h; omega
        · rw [if_neg c3] at h; omega
    · rw [if_neg c1'] at h
      by_cases c2 : j < 30
      · rw [if_pos c2] at h; omega
      · rw [if_neg c2] at h
        by_cases c3 : j < 46
        · rw [if_pos c3] at h; omega
        · rw [if_neg c3] at h; omega
def RV (g : gz_S) (w : Nat) (V : Nat → Nat) : Prop := ∀ k, k < 50 → g.1 w (rp k) = nI (V k)
def RK (g : gz_S) (V : Nat → Nat) : Prop := g.1 44 0 = nI (V 58) ∧ g.1 44 1 = nI (V 59) ∧ g.1 39 27 = nI (V 60) ∧ ∀ i, i < V 60 → ∃ x y, g.1 46 (4 * i) = nI x ∧ g.1 46 (4 * i + 1) = nI y ∧ x < 6 ∧ y < 5 ∧ V (54 + i) = V 58 * y + x
def RKp (g : gz_S) (V : Nat → Nat) : Prop := ∀ i, i < V 60 → g.1 46 (4 * i + 3) = nI (V (50 + i))
/-- frames: fields K, rows S; the text may be another -/
def Fy (K S : Nat → Prop) (g g' : gz_S) : Prop := (∀ j, j ≠ 39 → ¬ S j → g'.1 j = g.1 j) ∧ (∀ k, ¬ K k → g'.1 39 k = g.1 39 k) ∧ g'.2.1 = g.2.1 ∧ Tq g g'
theorem Fy.z0 {K S : Nat → Prop} {g : gz_S} : Fy K S g g := ⟨fun _ _ _ => rfl, fun _ _ => rfl, rfl, Tq.rf⟩
theorem Fy.tr {K S : Nat → Prop} {g g' g'' : gz_S} (h : Fy K S g g') (h' : Fy K S g' g'') : Fy K S g g'' :=
  ⟨fun j hj hs => (h'.1 j hj hs).trans (h.1 j hj hs), fun k hk => (h'.2.1 k hk).trans (h.2.1 k hk), h'.2.2.1.trans h.2.2.1, h'.2.2.2.trans h.2.2.2⟩
theorem Fy.w {K S : Nat → Prop} {g g' : gz_S} {k : Nat} {x : Int32} (h : Fy K S g g') (hk : K k) : Fy K S g (gz_wi g' 39 k x) :=
  ⟨fun j hj hs => by rw [wi_no hj]; exact h.1 j hj hs, fun j hj => by rw [wi_sn (fun hh => hj (by rw [hh]; exact hk))]; exact h.2.1 j hj, h.2.2.1, h.2.2.2⟩
theorem Fy.s {K S : Nat → Prop} {g g' : gz_S} {j k : Nat} {x : Int32} (h : Fy K S g g') (hj : j ≠ 39) (hs : S j) : Fy K S g (gz_wi g' j k x) :=
  ⟨fun i hi hsi => by rw [wi_no (fun hh => hsi (by rw [hh]; exact hs))]; exact h.1 i hi hsi, fun i hi => by rw [wi_39 hj]; exact h.2.1 i hi, h.2.2.1, h.2.2.2⟩
theorem Fy.mo {K K' S S' : Nat → Prop} {g g' : gz_S} (h : Fy K S g g') (hk : ∀ k, K k → K' k) (hs : ∀ j, S j → S' j) : Fy K' S' g g' :=
  ⟨fun j hj hn => h.1 j hj (fun hh => hn (hs j hh)), fun k hn => h.2.1 k (fun hh => hn (hk k hh)), h.2.2⟩
theorem Fs.y {S : Nat → Prop} {g g' : gz_S} (h : Fs S g g') : Fy (fun k => 8 ≤ k ∧ k ≤ 14 ∨ k = 17) S g g' := h
section RW
variable {g : gz_S} {w : Nat} {V : Nat → Nat} {B : Nat} {La : gz_L}
theorem RV.up {k x : Nat} (h : RV g w V) (hk : k < 50) : RV (gz_wi g w (rp k) (nI x)) w (uN V k x) := by
  intro j hj
  by_cases c : j = k
  · rw [c, wi_ss, uN_s]
  · rw [wi_sn (fun hh => c (rp_inj hj hk hh)), uN_n c]; exact h j hj
theorem RV.fr {g' : gz_S} (h : RV g w V) (he : g'.1 w = g.1 w) : RV g' w V := by intro j hj; rw [he]; exact h j hj
theorem RK.fr {K S : Nat → Prop} {g' : gz_S} (h : RK g V) (hF : Fy K S g g') (h1 : ¬ S 44) (h2 : ¬ S 46) (h3 : ¬ K 27) : RK g' V := by
  unfold RK; rw [hF.1 44 (by omega) h1, hF.1 46 (by omega) h2, hF.2.1 27 h3]; exact h
theorem RKp.fr {K S : Nat → Prop} {g' : gz_S} (h : RKp g V) (hF : Fy K S g g') (h2 : ¬ S 46) : RKp g' V := by
  unfold RKp; rw [hF.1 46 (by omega) h2]; exact h
theorem RK.mo {V' : Nat → Nat} (h : RK g V) (hV : ∀ k, (k = 58 ∨ k = 59 ∨ k = 60 ∨ (54 ≤ k ∧ k < 58)) → V' k = V k) (h60 : V 60 ≤ 4) : RK g V' := by
  unfold RK; rw [hV 58 (by omega), hV 59 (by omega), hV 60 (by omega)]
  refine ⟨h.1, h.2.1, h.2.2.1, fun i hi => ?_⟩
  rw [hV (54 + i) (by omega)]
  exact h.2.2.2 i hi
theorem RKp.mo {V' : Nat → Nat} (h : RKp g V) (hV : ∀ k, (k = 60 ∨ (50 ≤ k ∧ k < 54)) → V' k = V k) (h60 : V 60 ≤ 4) : RKp g V' := by
  unfold RKp; rw [hV 60 (by omega)]
  intro i hi
  rw [hV (50 + i) (by omega)]
  exact h i hi
/-! numbers of a goer's place -/
theorem ix_0 {i : Nat} : (30 : Int32) + (4 : Int32) * nI i = nI (30 + 4 * i) := by
  rw [show (30 : Int32) = nI 30 from rfl, show (4 : Int32) = nI 4 from rfl, n_mul, n_add]
theorem n_sublt {q a b : Nat} (hq : q < 1000) (ha : a < 1000) (hb : b < 1000) : (nI q < nI a - nI b) = (q < a - b) := by
  rw [Int32.lt_iff_toInt_lt, i_sub (by rw [n_ti (by omega), n_ti (by omega)]; omega) (by rw [n_ti (by omega), n_ti (by omega)]; omega), n_ti (by omega), n_ti (by omega), n_ti (by omega)]
  exact propext (by omega)
theorem r_does (hv : RV g w V) (hB : ∀ k, V k < 1048576) {i : Nat} (hi : i < 4) : fX12_does La w (nI i) g = some (pI (V (42 + i) = 0), g) := by
  have h3 := hv (42 + i) (by omega)
  rw [rp_3 hi] at h3
  have b3 := hB (42 + i)
  unfold fX12_does
  rw [ix_0, show nI (30 + 4 * i) + (3 : Int32) = nI (30 + 4 * i + 3) from n_add _ 3, if_pos (n_okP (by omega) (by omega)), n_cl (by omega), h3]
  by_cases c : V (42 + i) = 0
  · rw [if_pos (show nI (V (42 + i)) = 0 by rw [c]; rfl)]; exact p_t c
  · rw [if_neg (show ¬ nI (V (42 + i)) = 0 by show ¬ _ = nI 0; rw [n_eq (by omega) (by omega)]; exact c)]; exact p_f c
theorem r_isUnder (hv : RV g w V) (hk : RK g V) (hW : Wf B V) {c : Nat} (hc : c < 30) : fX12_isUnder La w (nI c) g = some (pI (sUnd V c), g) := by
  have h0 := hv c (by omega)
  rw [rp_c hc] at h0
  have h46 := hv 46 (by omega)
  rw [rp_n (by omega)] at h46
  have b0 := hW.1 c
  have b58 := hW.2.1
  have b59 := hW.2.2.1
  have b46 := hW.2.2.2.2.1
  have hcw : c / V 58 ≤ c := Nat.div_le_self _ _
  have hdl : (c / V 58 < V 59 - V 46) = (c < (V 59 - V 46) * V 58) := propext (Nat.div_lt_iff_lt_mul (by omega))
  unfold fX12_isUnder
  rw [if_pos (n_okP (by omega) (by omega)), n_cl (by omega), h0, hk.1, hk.2.1, h46]
  by_cases c2 : V c = 2
  · rw [if_pos (show nI (V c) = 2 by rw [c2]; rfl)]; exact p_t (Or.inl c2)
  · rw [if_neg (show ¬ nI (V c) = 2 by show ¬ _ = nI 2; rw [n_eq (by omega) (by omega)]; exact c2), if_pos (show ¬ nI (V 58) = 0 by show ¬ _ = nI 0; rw [n_eq (by omega) (by omega)]; omega), n_div (by omega) (by omega)]
    by_cases c3 : c / V 58 < V 59 - V 46
    · rw [if_pos (show nI (c / V 58) < nI (V 59) - nI (V 46) by rw [n_sublt (by omega) (by omega) (by omega)]; exact c3)]
      rw [hdl] at c3
      exact p_f (fun hh => by rcases hh with hh | hh; exact c2 hh; omega)
    · rw [if_neg (show ¬ nI (c / V 58) < nI (V 59) - nI (V 46) by rw [n_sublt (by omega) (by omega) (by omega)]; exact c3)]
      rw [hdl] at c3
      exact p_t (Or.inr (by omega))
def besB (W R c : Nat) : Bool := !(decide (c < W * R)) || ((decide (c / W = 0) == decide (c < W)) && ((decide (c % W = W - 1) == decide ((c + 1) % W = 0)) && (decide (c / W = R - 1) == decide (W * R ≤ c + W))))
theorem bes_b : ∀ a, a < 5 → ∀ b, b < 4 → ∀ c, c < 30 → besB (2 + a) (2 + b) c = true := by decide +kernel
theorem bes_f (W : Nat) (hW : W < 7) (hW2 : 2 ≤ W) (R : Nat) (hR : R < 6) (hR2 : 2 ≤ R) (c : Nat) (hc : c < 30) (h : c < W * R) : (c / W = 0 ↔ c < W) ∧ (c % W = W - 1 ↔ (c + 1) % W = 0) ∧ (c / W = R - 1 ↔ W * R ≤ c + W) := by
  have hb := bes_b (W - 2) (by omega) (R - 2) (by omega) c hc
  rw [show 2 + (W - 2) = W by omega, show 2 + (R - 2) = R by omega] at hb
  unfold besB at hb
  simp only [h, decide_true, Bool.not_true, Bool.false_or, Bool.and_eq_true, beq_iff_eq, decide_eq_decide] at hb
  exact hb
theorem r_nextCell (hk : RK g V) (hW : Wf B V) {c d : Nat} (hc : c < V 58 * V 59) (hd : d < 4) : fX12_nextCell La (nI c) (nI d) g = some (oI (sBes V c d), g) := by
  have b58 := hW.2.1
  have b59 := hW.2.2.1
  have h30 := hW.cells
  obtain ⟨f1, f2, f3⟩ := bes_f (V 58) (by omega) b58.1 (V 59) (by omega) b59.1 c (by omega) hc
  have hcw : c / V 58 ≤ c := Nat.div_le_self _ _
  have hcm : c % V 58 < V 58 := Nat.mod_lt _ (by omega)
  have hz : ¬ nI (V 58) = 0 := by show ¬ _ = nI 0; rw [n_eq (by omega) (by omega)]; omega
  unfold fX12_nextCell sBes
  rw [hk.1, hk.2.1, if_pos hz, n_mod (by omega) (by omega), gz_let_eq, if_pos hz, n_div (by omega) (by omega), gz_let_eq, show nI (V 58) - (1 : Int32) = nI (V 58 - 1) from n_sub (a := V 58) (b := 1) (by omega), show nI (V 59) - (1 : Int32) = nI (V 59 - 1) from n_sub (a := V 59) (b := 1) (by omega)]
  by_cases d0 : d = 0
  · subst d0
    rw [if_pos rfl, if_pos (show nI 0 = (0 : Int32) from rfl)]
    by_cases x : V 58 ≤ c
    · rw [if_pos x, if_neg (show ¬ nI (c / V 58) = 0 by show ¬ _ = nI 0; rw [n_eq (by omega) (by omega), f1]; omega), n_sub x]; rfl
    · rw [if_neg x, if_pos (show nI (c / V 58) = 0 by show _ = nI 0; rw [n_eq (by omega) (by omega), f1]; omega)]; rfl
  · rw [if_neg d0, if_neg (show ¬ nI d = 0 by show ¬ _ = nI 0; rw [n_eq (by omega) (by omega)]; exact d0)]
    by_cases d1 : d = 1
    · subst d1
      rw [if_pos rfl, if_pos (show nI 1 = (1 : Int32) from rfl)]
      by_cases x : (c + 1) % V 58 = 0
      · rw [if_pos x, if_pos (show nI (c % V 58) = nI (V 58 - 1) by rw [f2.mpr x])]; rfl
      · rw [if_neg x, if_neg (show ¬ nI (c % V 58) = nI (V 58 - 1) by rw [n_eq (by omega) (by omega)]; exact fun hh => x (f2.mp hh)), show nI c + (1 : Int32) = nI (c + 1) from n_add c 1]; rfl
    · rw [if_neg d1, if_neg (show ¬ nI d = 1 by show ¬ _ = nI 1; rw [n_eq (by omega) (by omega)]; exact d1)]
      by_cases d2 : d = 2
      · subst d2
        rw [if_pos rfl, if_pos (show nI 2 = (2 : Int32) from rfl)]
        by_cases x : V 58 * V 59 ≤ c + V 58
        · rw [if_pos x, if_pos (show nI (c / V 58) = nI (V 59 - 1) by rw [f3.mpr x])]; rfl
        · rw [if_neg x, if_neg (show ¬ nI (c / V 58) = nI (V 59 - 1) by rw [n_eq (by omega) (by omega)]; exact fun hh => x (f3.mp hh)), n_add]; rfl
      · rw [if_neg d2, if_neg (show ¬ nI d = 2 by show ¬ _ = nI 2; rw [n_eq (by omega) (by omega)]; exact d2)]
        by_cases x : c % V 58 = 0
        · rw [if_pos x, if_pos (show nI (c % V 58) = 0 by rw [x]; rfl)]; rfl
        · have hc0 : c ≠ 0 := fun e => x (by rw [e]; exact Nat.zero_mod _)
          rw [if_neg x, if_neg (show ¬ nI (c % V 58) = 0 by show ¬ _ = nI 0; rw [n_eq (by omega) (by omega)]; exact x), show nI c - (1 : Int32) = nI (c - 1) from n_sub (a := c) (b := 1) (by omega)]; rfl
theorem r_aheadOf (hv : RV g w V) (hk : RK g V) (hW : Wf B V) {c d : Nat} (hc : c < V 58 * V 59) (hd : d < 4) : fX12_aheadOf La w (nI c) (nI d) g = some (nI (sLie V (sBes V c d)), g) := by
  have h30 := hW.cells
  unfold fX12_aheadOf
  rw [r_nextCell hk hW hc hd, Option.bind_some]
  cases hs : sBes V c d with
  | none => exact if_pos rfl
  | some q =>
    have hq := sBes_lt hW.2.1 hc hs
    have h0 := hv q (by omega)
    rw [rp_c (by omega)] at h0
    have b0 := hW.1 q
    refine (if_neg (show ¬ nI q = -1 by rw [show (-1 : Int32) = -nI 1 from rfl, m_eq (by omega)]; exact id)).trans ?_
    show (if gz_ok (nI q) 231 then if (g.1 w (Int32.toNatClampNeg (nI q))) = 1 then some (1, g) else (fX12_isUnder La w (nI q) g).bind (fun q28 => if q28.1 = 0 then if gz_ok (nI q) 231 then if (q28.2.1 w (Int32.toNatClampNeg (nI q))) = 3 then some (3, q28.2) else some (0, q28.2) else none else some (2, q28.2)) else none) = some (nI (if V q = 1 then 1 else if sUnd V q then 2 else if V q = 3 then 3 else 0), g)
    rw [if_pos (n_okP (by omega) (by omega))]
    simp only [n_cl (show q < 2147483648 by omega)]
    rw [h0, r_isUnder hv hk hW (by omega), Option.bind_some]
    by_cases c1 : V q = 1
    · rw [if_pos c1, if_pos (show nI (V q) = 1 by rw [c1]; rfl)]; rfl
    · rw [if_neg c1, if_neg (show ¬ nI (V q) = 1 by show ¬ _ = nI 1; rw [n_eq (by omega) (by omega)]; exact c1)]
      by_cases c2 : sUnd V q
      · rw [if_pos c2]; exact if_neg (pI1 c2)
      · rw [if_neg c2]
        refine (if_pos (pI0 c2)).trans ((if_pos (n_okP (by omega) (by omega))).trans ?_)
        show (if g.1 w q = 3 then some (3, g) else some (0, g)) = _
        rw [h0]
        by_cases c3 : V q = 3
        · rw [if_pos c3, if_pos (show nI (V q) = 3 by rw [c3]; rfl)]; rfl
        · rw [if_neg c3, if_neg (show ¬ nI (V q) = 3 by show ¬ _ = nI 3; rw [n_eq (by omega) (by omega)]; exact c3)]; rfl
end RW
