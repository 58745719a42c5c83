/-! acts by hand: what stays well; the reference's -/
theorem wf_up1 {B : Nat} {V : Nat → Nat} (h : Wf B V) {k x : Nat} (hk : k = 46 ∧ x ≤ 5 ∨ k = 48 ∧ x ≤ 999 ∨ k < 30 ∧ x ≤ 3) : Wf B (uN V k x) := by
  have c30 := h.cells
  exact h.up (by omega) (by omega) (by omega) (by omega) (by omega) (by omega) (by omega) (by omega) (by omega) (by omega) (by omega) (by omega) (by omega)
theorem sBegin_wf {B : Nat} {V : Nat → Nat} (h : Wf B V) {i l : Nat} (hi : i < V 60) (hl : l < 4) : Wf B (sBegin V i l) := by
  have h60 := h.2.2.2.1.2
  have c30 := h.cells
  have b := h.2.2.2.2.2.2.2.2.2.2 i hi
  unfold sBegin
  have w1 : Wf B (uN V (30 + i) (V (54 + i))) := h.up (by omega) (by omega) (by omega) (by omega) (by omega) (by omega) (by omega) (by omega) (by omega) (by omega) (by omega) (by omega) (by omega)
  have e1 : uN V (30 + i) (V (54 + i)) 58 = V 58 := uN_n (by omega)
  have e2 : uN V (30 + i) (V (54 + i)) 59 = V 59 := uN_n (by omega)
  have w2 : Wf B (uN (uN V (30 + i) (V (54 + i))) (34 + i) l) := by
    refine w1.up ?_ ?_ ?_ ?_ ?_ ?_ ?_ ?_ ?_ ?_ ?_ ?_ ?_ <;> (try rw [e1, e2]) <;> omega
  have w3 : Wf B (uN (uN (uN V (30 + i) (V (54 + i))) (34 + i) l) (38 + i) 0) := w2.up (by omega) (by omega) (by omega) (by omega) (by omega) (by omega) (by omega) (by omega) (by omega) (by omega) (by omega) (by omega) (by omega)
  exact w3.up (by omega) (by omega) (by omega) (by omega) (by omega) (by omega) (by omega) (by omega) (by omega) (by omega) (by omega) (by omega) (by omega)
theorem sBegin_fix {V : Nat → Nat} {i l k : Nat} (hi : i < 4) (hk : k < 30 ∨ 46 ≤ k) : sBegin V i l k = V k := by
  unfold sBegin
  rw [uN_n (by omega), uN_n (by omega), uN_n (by omega), uN_n (by omega)]
theorem sPay_wf {B : Nat} {V : Nat → Nat} (h : Wf B V) {i l : Nat} (hi : i < V 60) (hl : l < 4) : Wf B (sPay V i l) := by
  have b48 := h.2.2.2.2.2.2.1
  exact sBegin_wf (wf_up1 h (Or.inr (Or.inl ⟨rfl, by omega⟩))) (by rw [uN_n (by omega)]; exact hi) hl
theorem sPay_fix {V : Nat → Nat} {i l k : Nat} (hi : i < 4) (hk : 49 ≤ k) : sPay V i l k = V k := by
  unfold sPay; rw [sBegin_fix hi (by omega), uN_n (by omega)]
theorem sOff_wf {B : Nat} {V : Nat → Nat} (h : Wf B V) {c n : Nat} (hn : n ≤ 4) : Wf B (sOff V c n) := by
  obtain ⟨a1, a2, a3, a4, a5, a6, a7, a8, a9, a10, a11⟩ := h
  have e : ∀ k, k < 42 ∨ 46 ≤ k → sOff V c n k = V k := fun k hk => if_neg (fun hh => by omega)
  have b : ∀ k, sOff V c n k = 2 ∨ sOff V c n k = V k := fun k => by
    unfold sOff; split
    · exact Or.inl rfl
    · exact Or.inr rfl
  refine ⟨fun k => ?_, by rw [e 58 (by omega)]; exact a2, by rw [e 59 (by omega)]; exact a3, by rw [e 60 (by omega)]; exact a4, by rw [e 46 (by omega)]; exact a5, by rw [e 47 (by omega)]; exact a6, by rw [e 48 (by omega)]; exact a7, by rw [e 49 (by omega)]; exact a8, fun k hk => by rw [e k (by omega)]; exact a9 k hk, fun i hi => ?_, fun i hi => ?_⟩
  · rcases b k with hh | hh
    · omega
    · rw [hh]; exact a1 k
  · rw [e (30 + i) (by omega), e (34 + i) (by omega), e (38 + i) (by omega), e (50 + i) (by omega), e (54 + i) (by omega)]
    have := a10 i hi
    refine ⟨this.1, this.2.1, this.2.2.1, ?_, this.2.2.2.2⟩
    rcases b (42 + i) with hh | hh
    · omega
    · rw [hh]; exact this.2.2.2.1
  · rw [e 60 (by omega)] at hi
    rw [e (30 + i) (by omega), e (50 + i) (by omega), e (54 + i) (by omega), e 58 (by omega), e 59 (by omega)]
    exact a11 i hi
theorem sSweep_wf {B : Nat} {V : Nat → Nat} (h : Wf B V) {c : Nat} : Wf B (sSweep V c) := by
  have b48 := h.2.2.2.2.2.2.1
  exact wf_up1 (sOff_wf h h.2.2.2.1.2) (Or.inr (Or.inl ⟨rfl, by omega⟩))
theorem sSweep_fix {V : Nat → Nat} {c k : Nat} (h60 : V 60 ≤ 4) (hk : 49 ≤ k) : sSweep V c k = V k := by
  unfold sSweep; rw [uN_n (by omega)]; exact if_neg (fun hh => by omega)
theorem sStone_wf {B : Nat} {V : Nat → Nat} (h : Wf B V) {c : Nat} (hc : c < 30) : Wf B (sStone V c) := by
  have b48 := h.2.2.2.2.2.2.1
  unfold sStone
  exact wf_up1 (wf_up1 h (Or.inr (Or.inl ⟨rfl, by omega⟩))) (Or.inr (Or.inr ⟨hc, by split <;> omega⟩))
theorem sStone_fix {V : Nat → Nat} {c k : Nat} (hc : c < 30) (hk : 49 ≤ k) : sStone V c k = V k := by
  unfold sStone; rw [uN_n (by omega), uN_n (by omega)]
/-! bits of those who go on a cell -/
def gb (V : Nat → Nat) (c n : Nat) : Nat := it (fun i b => if sOn V c i then b ||| 2 ^ i else b) n 0
theorem gb_s (V : Nat → Nat) (c n : Nat) : gb V c (n + 1) = if sOn V c n then gb V c n ||| 2 ^ n else gb V c n := rfl
theorem gb_t {V : Nat → Nat} {c : Nat} : ∀ n j, (gb V c n).testBit j = (decide (j < n) && decide (sOn V c j)) := by
  intro n
  induction n with
  | zero => intro j; show (0 : Nat).testBit j = _; rw [Nat.zero_testBit]; simp
  | succ n ih =>
    intro j
    rw [gb_s]
    by_cases h : sOn V c n
    · rw [if_pos h, Nat.testBit_or, ih, Nat.testBit_two_pow]
      by_cases c1 : j < n
      · have : n ≠ j := by omega
        simp [c1, this, show j < n + 1 by omega]
      · by_cases c2 : n = j
        · subst c2; simp [h]
        · simp [c1, c2, show ¬ j < n + 1 by omega]
    · rw [if_neg h, ih]
      by_cases c2 : n = j
      · subst c2; simp [h]
      · by_cases c1 : j < n
        · simp [c1, show j < n + 1 by omega]
        · simp [c1, show ¬ j < n + 1 by omega]
theorem gb_lt {V : Nat → Nat} {c : Nat} : ∀ n, n ≤ 4 → gb V c n < 2 ^ n := by
  intro n
  induction n with
  | zero => intro _; exact Nat.zero_lt_one
  | succ n ih =>
    intro hn
    have h1 := ih (by omega)
    have h2 : (2 : Nat) ^ (n + 1) = 2 ^ n + 2 ^ n := by rw [Nat.pow_succ]; omega
    rw [gb_s]
    split
    · exact Nat.or_lt_two_pow (by omega) (by omega)
    · omega
theorem gb_16 {V : Nat → Nat} {c : Nat} (h60 : V 60 ≤ 4) : gb V c (V 60) < 16 := by
  have h1 := gb_lt (V := V) (c := c) (V 60) h60
  have h2 : 2 ^ V 60 ≤ 2 ^ 4 := Nat.pow_le_pow_right (by omega) h60
  omega
theorem gb_pc {V : Nat → Nat} {c n : Nat} : ∀ m, m ≤ n → pc m (gb V c n) = it (fun i a => if sOn V c i then a + 1 else a) m 0 := by
  intro m
  induction m with
  | zero => intro _; rfl
  | succ m ih =>
    intro hm
    rw [pc_s, ih (by omega), gb_t]
    show _ = if sOn V c m then it (fun i a => if sOn V c i then a + 1 else a) m 0 + 1 else it (fun i a => if sOn V c i then a + 1 else a) m 0
    by_cases h : sOn V c m
    · rw [if_pos h, if_pos (by simp [h, show m < n by omega])]
    · rw [if_neg h, if_neg (by simp [h])]
theorem gb_pc2 {V : Nat → Nat} {c n : Nat} : ∀ d, pc (n + d) (gb V c n) = it (fun i a => if sOn V c i then a + 1 else a) n 0 := by
  intro d
  induction d with
  | zero => exact gb_pc n (Nat.le_refl _)
  | succ d ih => rw [← Nat.add_assoc, pc_s, gb_t, if_neg (fun hh => by simp only [Bool.and_eq_true, decide_eq_true_eq] at hh; omega), ih]
theorem gb_cnt {V : Nat → Nat} {c : Nat} (h60 : V 60 ≤ 4) : pc 32 (gb V c (V 60)) = sCnt V c := by
  have := gb_pc2 (V := V) (c := c) (n := V 60) (32 - V 60)
  rw [show V 60 + (32 - V 60) = 32 by omega] at this; exact this
theorem gb_0 {V : Nat → Nat} {c : Nat} : ∀ n, (gb V c n = 0) = (it (fun i a => if sOn V c i then a + 1 else a) n 0 = 0) := by
  intro n
  induction n with
  | zero => rfl
  | succ n ih =>
    rw [gb_s]
    show _ = ((if sOn V c n then it (fun i a => if sOn V c i then a + 1 else a) n 0 + 1 else it (fun i a => if sOn V c i then a + 1 else a) n 0) = 0)
    by_cases h : sOn V c n
    · rw [if_pos h, if_pos h]
      refine propext ⟨fun hh => ?_, fun hh => absurd hh (Nat.succ_ne_zero _)⟩
      have h1 : (gb V c n ||| 2 ^ n).testBit n = true := by rw [Nat.testBit_or, Nat.testBit_two_pow]; simp
      rw [hh, Nat.zero_testBit] at h1; cases h1
    · rw [if_neg h, if_neg h]; exact ih
section RW
variable {g : gz_S} {w : Nat} {V : Nat → Nat} {B : Nat} {La : gz_L} {Ls : List (List Nat)} {cur : Option Nat}
theorem CX.n27 (h : CX g w V Ls cur) : g.1 39 27 = nI (V 60) := h.2.1.2.2.1
theorem r_goingOn (h : CX g w V Ls cur) (hW : Wf B V) {c : Nat} (hc : c < 2147483648) : fX12_goingOn La w (nI c) g = some (nI (gb V c (V 60)), g) := by
  have h60 := hW.2.2.2.1.2
  unfold fX12_goingOn
  refine lp (fun f n (x : Nat) => fX12_goingOn_5 La w f (nI c) (nI x) (nI n) g) (fun n x => x = gb V c n) (V 60) (fun q => q = some (nI (gb V c (V 60)), g)) ?_ ?_ gz_FU 0 0 (by omega) (by unfold gz_FU; omega) rfl
  · intro f n x hn hx
    subst hx
    have e30 := (h.at0 (i := n) (by omega)).1
    have e30 : g.1 w (30 + 4 * n) = nI (V (30 + n)) := e30
    have b1 := hW.1 (30 + n)
    refine Or.inr ⟨gb V c (n + 1), ?_, rfl⟩
    show fX12_goingOn_5 La w (f + 1) (nI c) (nI (gb V c n)) (nI n) g = _
    rw [fX12_goingOn_5, if_neg (show ¬ g.1 39 27 ≤ nI n by rw [h.n27, n_le (by omega) (by omega)]; omega), r_does h.1 hW.1 (by omega), Option.bind_some]
    unfold fX12_goingOn_44 fX12_goingOn_45
    have s1 : (1 : Int32) <<< (nI n &&& 31) = nI (2 ^ n) := n_shl1 (by omega)
    simp only [ix_0, gz_let_eq, show nI n + (1 : Int32) = nI (n + 1) from n_add _ _, s1, n_or, n_cl (show 30 + 4 * n < 2147483648 by omega), e30, show (0 : Int32) = nI 0 from rfl, Nat.or_zero]
    rw [gb_s]
    by_cases c1 : V (42 + n) = 0
    · rw [if_neg (show ¬ pI (V (42 + n) = 0) = nI 0 from pI1 c1), if_pos (n_okP (by omega) (by omega))]
      by_cases c2 : V (30 + n) = c
      · rw [if_pos (show nI (V (30 + n)) = nI c by rw [c2]), if_pos (show sOn V c n from ⟨c1, c2⟩)]
      · rw [if_neg (show ¬ nI (V (30 + n)) = nI c by rw [n_eq (by omega) hc]; exact c2), if_neg (show ¬ sOn V c n from fun hh => c2 hh.2)]
    · rw [if_pos (show pI (V (42 + n) = 0) = nI 0 from pI0 c1), if_neg (show ¬ sOn V c n from fun hh => c1 hh.1)]
  · intro f x hx
    subst hx
    show fX12_goingOn_5 La w (f + 1) (nI c) (nI (gb V c (V 60))) (nI (V 60)) g = _
    rw [fX12_goingOn_5]
    exact if_pos (by rw [h.n27, n_le (by omega) (by omega)]; omega)
theorem r_isCell (h : CX g w V Ls cur) (hW : Wf B V) {x : Int32} : fX12_isCell La x g = some (pI (0 ≤ x.toInt ∧ x.toInt < ((V 58 * V 59 : Nat) : Int)), g) := by
  have h30 := hW.cells
  have h60 := hW.2.2.2.1
  unfold fX12_isCell fX12_cells
  by_cases c : x.toInt < 0
  · rw [if_pos (by show x < nI 0; rw [x_lt (by omega)]; omega)]; exact p_f (by omega)
  · rw [if_neg (by show ¬ x < nI 0; rw [x_lt (by omega)]; omega), h.n27, if_neg (show ¬ nI (V 60) = 0 by show ¬ _ = nI 0; rw [n_eq (by omega) (by omega)]; omega), Option.bind_some, h.2.1.1, h.2.1.2.1, n_mul]
    by_cases c2 : x.toInt < ((V 58 * V 59 : Nat) : Int)
    · exact (if_neg (by show ¬ nI (V 58 * V 59) ≤ x; rw [x_ge (by omega)]; omega)).trans (p_t (by omega))
    · exact (if_pos (by show nI (V 58 * V 59) ≤ x; rw [x_ge (by omega)]; omega)).trans (p_f (by omega))
theorem r_isGoer (h27 : g.1 39 27 = nI (V 60)) (h60 : V 60 ≤ 4) {x : Int32} : fX12_isGoer La x g = some (pI (0 ≤ x.toInt ∧ x.toInt < (V 60 : Int)), g) := by
  unfold fX12_isGoer
  by_cases c : x.toInt < 0
  · rw [if_pos (by show x < nI 0; rw [x_lt (by omega)]; omega)]; exact p_f (by omega)
  · rw [if_neg (by show ¬ x < nI 0; rw [x_lt (by omega)]; omega), h27]
    by_cases c2 : x.toInt < (V 60 : Int)
    · rw [if_neg (by rw [x_ge (by omega)]; omega)]; exact p_t (by omega)
    · rw [if_pos (by rw [x_ge (by omega)]; omega)]; exact p_f (by omega)
theorem r_startOf (h : CX g w V Ls cur) (hW : Wf B V) {i : Nat} (hi : i < V 60) : fX12_startOf La (nI i) g = some (nI (V (54 + i)), g) := by
  have h60 := hW.2.2.2.1.2
  obtain ⟨x, y, e1, e2, e3, e4, e5⟩ := h.2.1.2.2.2 i hi
  have m1 : (4 : Int32) * nI i = nI (4 * i) := n_mul 4 i
  unfold fX12_startOf
  rw [m1, show nI (4 * i) + (1 : Int32) = nI (4 * i + 1) from n_add _ _, if_pos (n_okP (by omega) (by omega)), if_pos (n_okP (by omega) (by omega)), n_cl (by omega), n_cl (by omega), e1, e2, h.2.1.1, n_mul, n_add, e5]
theorem r_canSweep (h : CX g w V Ls cur) (hW : Wf B V) {x : Int32} : fX12_canSweep La w x g = some (pI ((0 ≤ x.toInt ∧ x.toInt < ((V 58 * V 59 : Nat) : Int)) ∧ 0 < sCnt V x.toInt.toNat ∧ 1 ≤ V 48), g) := by
  have h30 := hW.cells
  have b48 := hW.2.2.2.2.2.2.1
  unfold fX12_canSweep
  rw [r_isCell h hW, Option.bind_some]
  by_cases c : 0 ≤ x.toInt ∧ x.toInt < ((V 58 * V 59 : Nat) : Int)
  · obtain ⟨n, n1, rfl, n3⟩ := x_of (x := x) c.1
    have et : (nI n).toInt.toNat = n := by rw [n_ti n1]; omega
    rw [et]
    refine (if_neg (pI1 c)).trans ?_
    show (fX12_goingOn La w (nI n) g).bind _ = _
    rw [r_goingOn h hW n1, Option.bind_some]
    have hg := gb_16 (V := V) (c := n) hW.2.2.2.1.2
    have e0 : (nI (gb V n (V 60)) = 0) = (sCnt V n = 0) := by
      show (nI _ = nI 0) = _
      rw [n_eq (by omega) (by omega)]; exact gb_0 (V 60)
    by_cases c2 : sCnt V n = 0
    · exact (if_pos (by rw [e0]; exact c2)).trans (p_f (by omega))
    · refine (if_neg (by rw [e0]; exact c2)).trans ?_
      show (if g.1 w 48 < 1 then some (0, g) else some (1, g)) = _
      rw [h.at46 (k := 48) (by omega)]
      by_cases c3 : V 48 < 1
      · rw [if_pos (by show nI (V 48) < nI 1; rw [n_lt (by omega) (by omega)]; exact c3)]; exact p_f (by omega)
      · rw [if_neg (by show ¬ nI (V 48) < nI 1; rw [n_lt (by omega) (by omega)]; exact c3)]; exact p_t (by omega)
  · exact (if_pos (pI0 c)).trans (p_f (fun hh => c hh.1))
theorem r_sweeps (hw : isW w) (h : CX g w V Ls cur) (hW : Wf B V) {c : Nat} (hc : c < 2147483648) (h48 : 1 ≤ V 48) : ∃ g', fX12_sweeps La w (nI c) g = some (nI (sCnt V c), g') ∧ RG w g g' ∧ CX g' w (sSweep V c) Ls cur := by
  have h60 := hW.2.2.2.1.2
  have b48 := hW.2.2.2.2.2.2.1
  have h16 := gb_16 (V := V) (c := c) h60
  have hx := h.up hw (k := 48) (j := 48) (x := V 48 - 1) (by omega) (rp_n (by omega))
  have G1 : RG w g (gz_wi g w 48 (nI (V 48 - 1))) := RG.z0.up hw (by omega)
  unfold fX12_sweeps
  rw [r_goingOn h hW hc, Option.bind_some]
  show ∃ g', gz_let (gz_wi g w 48 ((g.1 w 48) - 1)) _ = _ ∧ _
  rw [h.at46 (k := 48) (by omega), show nI (V 48) - (1 : Int32) = nI (V 48 - 1) from n_sub (a := V 48) (b := 1) h48, gz_let_eq]
  generalize gz_wi g w 48 (nI (V 48 - 1)) = g1 at *
  have sw : ∀ n, (fun k => if 42 ≤ k ∧ k < 42 + n ∧ (gb V c (V 60)).testBit (k - 42) = true then 2 else uN V 48 (V 48 - 1) k) 60 = V 60 ∨ 4 < n := by
    intro n
    by_cases hn : n ≤ 4
    · left
      show (if 42 ≤ 60 ∧ 60 < 42 + n ∧ (gb V c (V 60)).testBit (60 - 42) = true then 2 else uN V 48 (V 48 - 1) 60) = V 60
      rw [if_neg (fun hh => by omega), uN_n (by omega)]
    · right; omega
  refine lp (fun f n g2 => fX12_sweeps_18 La w (fun (x3 : Int32) g => (fJ6_bitCount_0f7a4 La x3 g).bind (fun q55 => some (q55.1, q55.2))) f (nI (gb V c (V 60))) (nI n) g2)
    (fun n g2 => RG w g g2 ∧ CX g2 w (fun k => if 42 ≤ k ∧ k < 42 + n ∧ (gb V c (V 60)).testBit (k - 42) = true then 2 else uN V 48 (V 48 - 1) k) Ls cur) (V 60)
    (fun q => ∃ g', q = some (nI (sCnt V c), g') ∧ RG w g g' ∧ CX g' w (sSweep V c) Ls cur) ?_ ?_ gz_FU 0 g1 (by omega) (by unfold gz_FU; omega) ⟨G1, ?_⟩
  · intro f n g2 hn ⟨q1, q2⟩
    have e60 := (sw n).resolve_right (by omega)
    have e27 := q2.n27.trans (congrArg nI e60)
    refine Or.inr ?_
    show ∃ g', fX12_sweeps_18 La w _ (f + 1) (nI (gb V c (V 60))) (nI n) g2 = _ ∧ _
    rw [fX12_sweeps_18, if_neg (show ¬ g2.1 39 27 ≤ nI n by rw [e27, n_le (by omega) (by omega)]; omega), r_has (by omega) (by omega), Option.bind_some]
    unfold fX12_sweeps_48
    by_cases ct : (gb V c (V 60)).testBit n = true
    · refine ⟨gz_wi g2 w (30 + 4 * n + 3) (nI 2), ?_, q1.up hw (by omega), ?_⟩
      · refine (if_neg (pI1 ct)).trans ?_
        rw [ix_0, show nI (30 + 4 * n) + (3 : Int32) = nI (30 + 4 * n + 3) from n_add _ 3]
        refine (if_pos (n_okP (by omega) (by omega))).trans ?_
        rw [n_cl (by omega), gz_let_eq, gz_let_eq, show nI n + (1 : Int32) = nI (n + 1) from n_add _ _]; rfl
      · have q3 := q2.up hw (k := 42 + n) (x := 2) (by omega) (rp_3 (by omega))
        have ef : uN (fun k => if 42 ≤ k ∧ k < 42 + n ∧ (gb V c (V 60)).testBit (k - 42) = true then 2 else uN V 48 (V 48 - 1) k) (42 + n) 2 = (fun k => if 42 ≤ k ∧ k < 42 + (n + 1) ∧ (gb V c (V 60)).testBit (k - 42) = true then 2 else uN V 48 (V 48 - 1) k) := by
          funext k
          by_cases ck : k = 42 + n
          · rw [ck, uN_s, if_pos ⟨by omega, by omega, by rw [show 42 + n - 42 = n by omega]; exact ct⟩]
          · rw [uN_n ck]
            by_cases c3 : 42 ≤ k ∧ k < 42 + n ∧ (gb V c (V 60)).testBit (k - 42) = true
            · rw [if_pos c3, if_pos ⟨c3.1, by omega, c3.2.2⟩]
            · rw [if_neg c3, if_neg (fun hh => c3 ⟨hh.1, by omega, hh.2.2⟩)]
        rw [ef] at q3
        exact q3
    · refine ⟨g2, ?_, q1, ?_⟩
      · refine (if_pos (pI0 ct)).trans ?_
        rw [gz_let_eq, show nI n + (1 : Int32) = nI (n + 1) from n_add _ _]
      · have ef : (fun k => if 42 ≤ k ∧ k < 42 + n ∧ (gb V c (V 60)).testBit (k - 42) = true then 2 else uN V 48 (V 48 - 1) k) = (fun k => if 42 ≤ k ∧ k < 42 + (n + 1) ∧ (gb V c (V 60)).testBit (k - 42) = true then 2 else uN V 48 (V 48 - 1) k) := by
          funext k
          by_cases c3 : 42 ≤ k ∧ k < 42 + n ∧ (gb V c (V 60)).testBit (k - 42) = true
          · rw [if_pos c3, if_pos ⟨c3.1, by omega, c3.2.2⟩]
          · rw [if_neg c3, if_neg]
            intro hh
            by_cases ck : k = 42 + n
            · have := hh.2.2
              rw [ck, show 42 + n - 42 = n by omega] at this
              exact ct this
            · exact c3 ⟨hh.1, by omega, hh.2.2⟩
        rw [← ef]; exact q2
  · intro f g2 ⟨q1, q2⟩
    have e60 := (sw (V 60)).resolve_right (by omega)
    have e27 := q2.n27.trans (congrArg nI e60)
    have ef : (fun k => if 42 ≤ k ∧ k < 42 + V 60 ∧ (gb V c (V 60)).testBit (k - 42) = true then 2 else uN V 48 (V 48 - 1) k) = sSweep V c := by
      funext k
      unfold sSweep sOff
      have et : 42 ≤ k ∧ k < 42 + V 60 → ((gb V c (V 60)).testBit (k - 42) = true ↔ sOn V c (k - 42)) := by
        intro hk
        rw [gb_t]; simp [show k - 42 < V 60 by omega]
      by_cases ck : 42 ≤ k ∧ k < 42 + V 60
      · by_cases c3 : sOn V c (k - 42)
        · rw [if_pos ⟨ck.1, ck.2, (et ck).mpr c3⟩, uN_n (by omega), if_pos ⟨ck.1, ck.2, c3⟩]
        · rw [if_neg (fun hh => c3 ((et ck).mp hh.2.2)), uN_n (by omega), uN_n (by omega), if_neg (fun hh => c3 hh.2.2)]
      · rw [if_neg (fun hh => ck ⟨hh.1, hh.2.1⟩)]
        by_cases c48 : k = 48
        · rw [c48, uN_s, uN_s]
        · rw [uN_n c48, uN_n c48, if_neg (fun hh => ck ⟨hh.1, hh.2.1⟩)]
    rw [ef] at q2
    refine ⟨g2, ?_, q1, q2⟩
    show fX12_sweeps_18 La w _ (f + 1) (nI (gb V c (V 60))) (nI (V 60)) g2 = _
    rw [fX12_sweeps_18]
    refine (if_pos (by rw [e27, n_le (by omega) (by omega)]; omega)).trans ?_
    rw [c_bitCount (by omega), Option.bind_some, gb_cnt h60]
  · have ef : (fun k => if 42 ≤ k ∧ k < 42 + 0 ∧ (gb V c (V 60)).testBit (k - 42) = true then 2 else uN V 48 (V 48 - 1) k) = uN V 48 (V 48 - 1) := by
      funext k; exact if_neg (fun hh => by omega)
    rw [ef]; exact hx
theorem r_canBegin (h : CX g w V Ls cur) (hW : Wf B V) {x y : Int32} : fX12_canBegin La w x y g = some (pI ((0 ≤ x.toInt ∧ x.toInt < (V 60 : Int)) ∧ (0 ≤ y.toInt ∧ y.toInt < 4) ∧ ¬ V (V (54 + x.toInt.toNat)) = 1), g) := by
  have h60 := hW.2.2.2.1.2
  have h30 := hW.cells
  have hb1 := Int32.toInt_lt y
  have hb2 := Int32.le_toInt y
  unfold fX12_canBegin
  rw [r_isGoer h.n27 h60, Option.bind_some]
  by_cases c : 0 ≤ x.toInt ∧ x.toInt < (V 60 : Int)
  · obtain ⟨n, n1, rfl, n3⟩ := x_of (x := x) c.1
    have et : (nI n).toInt.toNat = n := by rw [n_ti n1]; omega
    have hn : n < V 60 := by rw [n_ti n1] at c; omega
    have b54 := hW.2.2.2.2.2.2.2.2.2.2 n hn
    rw [et]
    refine (if_neg (pI1 c)).trans ?_
    rw [x_l y, show (0 : Int64) = Int64.ofInt 0 from rfl, show (3 : Int64) = Int64.ofInt 3 from rfl, r_isInZ (by omega) (by omega) (by omega), Option.bind_some]
    by_cases c2 : 0 ≤ y.toInt ∧ y.toInt ≤ 3
    · refine (if_neg (pI1 c2)).trans ?_
      rw [r_startOf h hW hn, Option.bind_some]
      have e1 : g.1 w (V (54 + n)) = nI (V (V (54 + n))) := by
        have := h.1 (V (54 + n)) (by omega)
        rw [rp_c (by omega)] at this; exact this
      refine (if_pos (n_okP (by omega) (by omega))).trans ?_
      show (if g.1 w (Int32.toNatClampNeg (nI (V (54 + n)))) = 1 then some (0, g) else some (1, g)) = _
      rw [n_cl (by omega), e1]
      have b := hW.1 (V (54 + n))
      by_cases c3 : V (V (54 + n)) = 1
      · rw [if_pos (by rw [c3]; rfl)]; exact p_f (fun hh => hh.2.2 c3)
      · rw [if_neg (by show ¬ _ = nI 1; rw [n_eq (by omega) (by omega)]; exact c3)]; exact p_t ⟨c, by omega, c3⟩
    · exact (if_pos (pI0 c2)).trans (p_f (by omega))
  · exact (if_pos (pI0 c)).trans (p_f (fun hh => c hh.1))
theorem r_begins0 (hw : isW w) (h : CX g w V Ls cur) (hW : Wf B V) {i l : Nat} (hi : i < V 60) : ∃ g', fX12_begins0 La w (nI i) (nI l) g = some g' ∧ RG w g g' ∧ CX g' w (sBegin V i l) Ls cur := by
  have h60 := hW.2.2.2.1.2
  have x1 := h.up hw (k := 30 + i) (x := V (54 + i)) (by omega) (rp_0 (by omega))
  have x2 := x1.up hw (k := 34 + i) (x := l) (by omega) (rp_1 (by omega))
  have x3 := x2.up hw (k := 38 + i) (x := 0) (by omega) (rp_2 (by omega))
  have x4 := x3.up hw (k := 42 + i) (x := 0) (by omega) (rp_3 (by omega))
  have G := (((RG.z0 (w := w) (g := g)).up hw (k := 30 + 4 * i + 0) (x := nI (V (54 + i))) (by omega)).up hw (k := 30 + 4 * i + 1) (x := nI l) (by omega)).up hw (k := 30 + 4 * i + 2) (x := nI 0) (by omega)
  refine ⟨_, ?_, G.up hw (k := 30 + 4 * i + 3) (x := nI 0) (by omega), x4⟩
  unfold fX12_begins0
  rw [ix_0, gz_let_eq, r_startOf h hW hi, Option.bind_some]
  simp (disch := omega) only [l_0, l_1, l_2, l_3, l_4, l_5, l_6, l_7, l_8, l_9, l_10, l_11, l_12, l_13, l_14, l_15, l_16, l_17, l_18, l_19, l_20, l_21, l_22, l_23, l_24, l_25, l_26, l_28, l_29, l_30, l_31, l_32, l_33, l_34, l_36, l_37, l_38, l_39, l_40, l_41, l_42, l_43, l_44, l_45, l_46, l_47, l_48, l_49, l_50, l_53, l_54, l_57, l_58, l_59, l_60, l_61, l_62, l_63, l_91, l_93, l_97, l_98, l_99, l_100, l_103, l_104, l_110, l_112, l_114, l_115, l_116, l_119, l_120, l_121, l_124, l_128, l_231, l_240, l_241, l_255, l_496, l_999, l_1000, l_8191, l_9999, l_10000, l_100000, l_200000, l_1000000, l_1000000000, n_add, n_ok, n_cl, ↓reduceIte, gz_let_eq]
end RW
