/-! call all, the reference's: greatest, those who, crowd, busy, faced -/
section US
variable {V : Nat → Nat}
theorem sMost_s (f : Nat → Nat) (n : Nat) : sMost f (n + 1) = if f (sMost f n) < f n then n else sMost f n := rfl
theorem sMost_1 (f : Nat → Nat) : sMost f 1 = 0 := by rw [sMost_s]; split <;> rfl
theorem sMost_le2 (f : Nat → Nat) : ∀ n, sMost f (n + 1) ≤ n := by
  intro n
  induction n with
  | zero => rw [sMost_1]; exact Nat.le_refl _
  | succ n ih => rw [sMost_s]; split <;> omega
theorem sCnt_ex {c : Nat} (h : 1 ≤ sCnt V c) : ∃ i, i < V 60 ∧ sOn V c i := by
  have key : ∀ n, 1 ≤ it (fun i a => if sOn V c i then a + 1 else a) n 0 → ∃ i, i < n ∧ sOn V c i := by
    intro n
    induction n with
    | zero => intro hh; have hh : 1 ≤ 0 := hh; omega
    | succ n ih =>
      intro hh
      by_cases cn : sOn V c n
      · exact ⟨n, by omega, cn⟩
      · have hh : 1 ≤ (if sOn V c n then it (fun i a => if sOn V c i then a + 1 else a) n 0 + 1 else it (fun i a => if sOn V c i then a + 1 else a) n 0) := hh
        rw [if_neg cn] at hh
        obtain ⟨i, h1, h2⟩ := ih hh
        exact ⟨i, by omega, h2⟩
  exact key (V 60) h
theorem sBusy_t : ∀ n e, (sBusy V n).testBit e = true ↔ ∃ i, i < n ∧ sOn V e i := by
  intro n
  induction n with
  | zero => intro e; exact ⟨fun h => by (have h : (0 : Nat).testBit e = true := h; rw [Nat.zero_testBit] at h; cases h), fun ⟨i, h, _⟩ => absurd h (Nat.not_lt_zero _)⟩
  | succ n ih =>
    intro e
    show (if V (42 + n) = 0 then sBusy V n ||| 2 ^ V (30 + n) else sBusy V n).testBit e = true ↔ _
    by_cases c : V (42 + n) = 0
    · rw [if_pos c, Nat.testBit_or, Bool.or_eq_true, ih, Nat.testBit_two_pow, decide_eq_true_eq]
      constructor
      · rintro (⟨i, h1, h2⟩ | h)
        · exact ⟨i, by omega, h2⟩
        · exact ⟨n, by omega, c, h⟩
      · rintro ⟨i, h1, h2⟩
        by_cases ci : i = n
        · subst ci; exact Or.inr h2.2
        · exact Or.inl ⟨i, by omega, h2⟩
    · rw [if_neg c, ih]
      constructor
      · rintro ⟨i, h1, h2⟩; exact ⟨i, by omega, h2⟩
      · rintro ⟨i, h1, h2⟩
        by_cases ci : i = n
        · subst ci; exact absurd h2.1 c
        · exact ⟨i, by omega, h2⟩
def cBusy (V : Nat → Nat) (n : Nat) : Nat := it (fun c b => if sCnt V c = 0 then b else b ||| 2 ^ c) n 0
def cCrowd (V : Nat → Nat) (n : Nat) : Nat := it (fun c m => max m (sCnt V c)) n 0
theorem cBusy_s (V : Nat → Nat) (n : Nat) : cBusy V (n + 1) = if sCnt V n = 0 then cBusy V n else cBusy V n ||| 2 ^ n := rfl
theorem cCrowd_s (V : Nat → Nat) (n : Nat) : cCrowd V (n + 1) = max (cCrowd V n) (sCnt V n) := rfl
theorem cBusy_t : ∀ n e, (cBusy V n).testBit e = true ↔ e < n ∧ ¬ sCnt V e = 0 := by
  intro n
  induction n with
  | zero => intro e; exact ⟨fun h => by (have h : (0 : Nat).testBit e = true := h; rw [Nat.zero_testBit] at h; cases h), fun h => absurd h.1 (Nat.not_lt_zero _)⟩
  | succ n ih =>
    intro e
    rw [cBusy_s]
    by_cases c : sCnt V n = 0
    · rw [if_pos c, ih]
      constructor
      · intro h; exact ⟨by omega, h.2⟩
      · intro h
        by_cases ce : e = n
        · subst ce; exact absurd c h.2
        · exact ⟨by omega, h.2⟩
    · rw [if_neg c, Nat.testBit_or, Bool.or_eq_true, ih, Nat.testBit_two_pow, decide_eq_true_eq]
      constructor
      · rintro (h | h)
        · exact ⟨by omega, h.2⟩
        · subst h; exact ⟨by omega, c⟩
      · intro h
        by_cases ce : n = e
        · exact Or.inr ce
        · exact Or.inl ⟨by omega, h.2⟩
theorem cBusy_eq {B : Nat} (hW : Wf B V) : cBusy V (V 58 * V 59) = sBusy V (V 60) := by
  refine Nat.eq_of_testBit_eq (fun e => ?_)
  have : (cBusy V (V 58 * V 59)).testBit e = true ↔ (sBusy V (V 60)).testBit e = true := by
    rw [cBusy_t, sBusy_t]
    constructor
    · intro h; exact sCnt_ex (by omega)
    · rintro ⟨i, h1, h2⟩
      have b := (hW.2.2.2.2.2.2.2.2.2.2 i h1).1
      rw [h2.2] at b
      have := sCnt_pos h1 h2
      exact ⟨b, by omega⟩
  cases h1 : (cBusy V (V 58 * V 59)).testBit e with
  | true => exact (this.mp h1).symm
  | false =>
    cases h2 : (sBusy V (V 60)).testBit e with
    | true => rw [this.mpr h2] at h1; cases h1
    | false => rfl
theorem cCrowd_ge : ∀ n c, c < n → sCnt V c ≤ cCrowd V n := by
  intro n
  induction n with
  | zero => intro c h; exact absurd h (Nat.not_lt_zero _)
  | succ n ih =>
    intro c h
    rw [cCrowd_s]
    by_cases ce : c = n
    · subst ce; exact Nat.le_max_right _ _
    · exact Nat.le_trans (ih c (by omega)) (Nat.le_max_left _ _)
theorem cCrowd_le {m : Nat} (h : ∀ c, sCnt V c ≤ m) : ∀ n, cCrowd V n ≤ m := by
  intro n
  induction n with
  | zero => exact Nat.zero_le _
  | succ n ih => rw [cCrowd_s]; exact Nat.max_le.mpr ⟨ih, h n⟩
theorem sCrowd_s (V : Nat → Nat) (n : Nat) : sCrowd V (n + 1) = if V (42 + n) = 0 then max (sCrowd V n) (sCnt V (V (30 + n))) else sCrowd V n := rfl
theorem sCrowd_ge : ∀ n i, i < n → V (42 + i) = 0 → sCnt V (V (30 + i)) ≤ sCrowd V n := by
  intro n
  induction n with
  | zero => intro i h; exact absurd h (Nat.not_lt_zero _)
  | succ n ih =>
    intro i h h0
    rw [sCrowd_s]
    by_cases ce : i = n
    · subst ce; rw [if_pos h0]; exact Nat.le_max_right _ _
    · have := ih i (by omega) h0
      split
      · exact Nat.le_trans this (Nat.le_max_left _ _)
      · exact this
theorem sCrowd_le2 {m : Nat} (h : ∀ i, i < V 60 → V (42 + i) = 0 → sCnt V (V (30 + i)) ≤ m) : ∀ n, n ≤ V 60 → sCrowd V n ≤ m := by
  intro n
  induction n with
  | zero => intro _; exact Nat.zero_le _
  | succ n ih =>
    intro hn
    rw [sCrowd_s]
    by_cases c : V (42 + n) = 0
    · rw [if_pos c]; exact Nat.max_le.mpr ⟨ih (by omega), h n (by omega) c⟩
    · rw [if_neg c]; exact ih (by omega)
theorem cCrowd_eq {B : Nat} (hW : Wf B V) : cCrowd V (V 58 * V 59) = sCrowd V (V 60) := by
  refine Nat.le_antisymm (cCrowd_le (fun c => ?_) _) (sCrowd_le2 (fun i h1 h2 => ?_) _ (Nat.le_refl _))
  · by_cases c0 : sCnt V c = 0
    · omega
    · obtain ⟨i, h1, h2⟩ := sCnt_ex (V := V) (c := c) (by omega)
      have := sCrowd_ge (V := V) (V 60) i h1 h2.1
      rw [h2.2] at this; exact this
  · exact cCrowd_ge _ _ (hW.2.2.2.2.2.2.2.2.2.2 i h1).1
end US
section RW
variable {g : gz_S} {V W U : Nat → Nat} {B : Nat} {La : gz_L} {Ls : List (List Nat)} {cur : Option Nat}
theorem r_crowd (h : CX g 53 V Ls cur) (hW : Wf B V) : fX12_crowd La g = some (nI (sCrowd V (V 60)), g) := by
  have c30 := hW.cells
  have h60 := hW.2.2.2.1.2
  rw [← cCrowd_eq hW]
  unfold fX12_crowd
  refine lp (fun f n (_ : Unit) => fX12_crowd_4 La f (nI (cCrowd V n)) (nI n) g) (fun n _ => True) (V 58 * V 59) (fun q => q = some (nI (cCrowd V (V 58 * V 59)), g)) ?_ ?_ gz_FU 0 () (by omega) (by unfold gz_FU; omega) trivial
  · intro f n _ hn _
    have b1 : cCrowd V n ≤ 4 := cCrowd_le (fun c => Nat.le_trans (sCnt_le (V := V)) h60) n
    have b2 : sCnt V n ≤ 4 := Nat.le_trans (sCnt_le (V := V)) h60
    refine Or.inr ⟨(), ?_, trivial⟩
    show fX12_crowd_4 La (f + 1) (nI (cCrowd V n)) (nI n) g = _
    have hg := gb_16 (V := V) (c := n) h60
    rw [fX12_crowd_4, r_cells h hW, Option.bind_some, if_neg (show ¬ nI (V 58 * V 59) ≤ nI n by rw [n_le (by omega) (by omega)]; omega), r_goingOn h hW (by omega), Option.bind_some, c_bitCount (by omega), Option.bind_some, gb_cnt h60, c_max (by omega) (by omega), Option.bind_some, gz_let_eq, show nI n + (1 : Int32) = nI (n + 1) from n_add _ _, ← cCrowd_s]
  · intro f _ _
    show fX12_crowd_4 La (f + 1) (nI (cCrowd V (V 58 * V 59))) (nI (V 58 * V 59)) g = _
    rw [fX12_crowd_4, r_cells h hW, Option.bind_some, if_pos (show nI (V 58 * V 59) ≤ nI (V 58 * V 59) by rw [n_le (by omega) (by omega)]; omega)]
theorem r_busy (h : CX g 53 V Ls cur) (hW : Wf B V) : fX12_busy La g = some (nI (sBusy V (V 60)), g) := by
  have c30 := hW.cells
  have h60 := hW.2.2.2.1.2
  rw [← cBusy_eq hW]
  unfold fX12_busy
  refine lp (fun f n (_ : Unit) => fX12_busy_4 La f (nI (cBusy V n)) (nI n) g) (fun n _ => True) (V 58 * V 59) (fun q => q = some (nI (cBusy V (V 58 * V 59)), g)) ?_ ?_ gz_FU 0 () (by omega) (by unfold gz_FU; omega) trivial
  · intro f n _ hn _
    refine Or.inr ⟨(), ?_, trivial⟩
    show fX12_busy_4 La (f + 1) (nI (cBusy V n)) (nI n) g = _
    have hg := gb_16 (V := V) (c := n) h60
    rw [fX12_busy_4, r_cells h hW, Option.bind_some, if_neg (show ¬ nI (V 58 * V 59) ≤ nI n by rw [n_le (by omega) (by omega)]; omega), r_goingOn h hW (by omega), Option.bind_some, cBusy_s]
    unfold fX12_busy_32
    by_cases c : sCnt V n = 0
    · have c2 : gb V n (V 60) = 0 := by rw [gb_0]; exact c
      rw [if_pos c, if_pos (show nI (gb V n (V 60)) = 0 by rw [c2]; rfl), gz_let_eq, gz_let_eq, show nI n + (1 : Int32) = nI (n + 1) from n_add _ _, show nI (cBusy V n) ||| (0 : Int32) = nI (cBusy V n ||| 0) from n_or _ 0, Nat.or_zero]
    · have c2 : ¬ gb V n (V 60) = 0 := by rw [gb_0]; exact c
      rw [if_neg c, if_neg (show ¬ nI (gb V n (V 60)) = 0 by show ¬ _ = nI 0; rw [n_eq (by omega) (by omega)]; exact c2), gz_let_eq, gz_let_eq, show nI n + (1 : Int32) = nI (n + 1) from n_add _ _, show (1 : Int32) <<< (nI n &&& 31) = nI (2 ^ n) from n_shl1 (by omega), n_or]
  · intro f _ _
    show fX12_busy_4 La (f + 1) (nI (cBusy V (V 58 * V 59))) (nI (V 58 * V 59)) g = _
    rw [fX12_busy_4, r_cells h hW, Option.bind_some, if_pos (show nI (V 58 * V 59) ≤ nI (V 58 * V 59) by rw [n_le (by omega) (by omega)]; omega)]
theorem sWith_s (V : Nat → Nat) (h n : Nat) : sWith V h (n + 1) = if V (42 + n) = h then sWith V h n ||| 2 ^ n else sWith V h n := rfl
theorem r_thoseWho (h : CX g 53 V Ls cur) (hW : Wf B V) {q : Nat} (hq : q ≤ 2) : fX12_thoseWho La (nI q) g = some (nI (sWith V q (V 60)), g) := by
  have h60 := hW.2.2.2.1.2
  have n27 := h.2.1.2.2.1
  unfold fX12_thoseWho
  refine lp (fun f n (_ : Unit) => fX12_thoseWho_4 La f (nI q) (nI (sWith V q n)) (nI n) g) (fun n _ => True) (V 60) (fun r => r = some (nI (sWith V q (V 60)), g)) ?_ ?_ gz_FU 0 () (by omega) (by unfold gz_FU; omega) trivial
  · intro f n _ hn _
    refine Or.inr ⟨(), ?_, trivial⟩
    show fX12_thoseWho_4 La (f + 1) (nI q) (nI (sWith V q n)) (nI n) g = _
    have m3 := (h.at0 (i := n) (by omega)).2.2.2
    have b3 := hW.1 (42 + n)
    rw [fX12_thoseWho_4, n27, if_neg (show ¬ nI (V 60) ≤ nI n by rw [n_le (by omega) (by omega)]; omega), show (4 : Int32) * nI n = nI (4 * n) from n_mul 4 n, show (30 : Int32) + nI (4 * n) = nI (30 + 4 * n) from n_add 30 _, show nI (30 + 4 * n) + (3 : Int32) = nI (30 + 4 * n + 3) from n_add _ 3, if_pos (n_okP (by omega) (by omega)), n_cl (by omega), m3, sWith_s]
    unfold fX12_thoseWho_37
    by_cases c : V (42 + n) = q
    · rw [if_pos c, if_pos (by rw [c]), gz_let_eq, gz_let_eq, show nI n + (1 : Int32) = nI (n + 1) from n_add _ _, show (1 : Int32) <<< (nI n &&& 31) = nI (2 ^ n) from n_shl1 (by omega), n_or]
    · rw [if_neg c, if_neg (by rw [n_eq (by omega) (by omega)]; exact c), gz_let_eq, gz_let_eq, show nI n + (1 : Int32) = nI (n + 1) from n_add _ _, show nI (sWith V q n) ||| (0 : Int32) = nI (sWith V q n ||| 0) from n_or _ 0, Nat.or_zero]
  · intro f _ _
    show fX12_thoseWho_4 La (f + 1) (nI q) (nI (sWith V q (V 60))) (nI (V 60)) g = _
    rw [fX12_thoseWho_4, n27, if_pos (show nI (V 60) ≤ nI (V 60) by rw [n_le (by omega) (by omega)]; omega)]
theorem r_greatest (h : CX g 53 V Ls cur) (hp : RKp g V) (hW : Wf B V) {q : Nat} (hq : q ≤ 1) : fX12_greatest La (nI q) g = some (nI (sMost (fun i => V ((if q = 0 then 38 else 50) + i)) (V 60)), g) := by
  have h60 := hW.2.2.2.1
  have n27 := h.2.1.2.2.1
  generalize hf : (fun i => V ((if q = 0 then 38 else 50) + i)) = F
  have hF : ∀ i, F i = V ((if q = 0 then 38 else 50) + i) := fun i => by rw [← hf]
  unfold fX12_greatest
  rw [show fX12_greatest_4 La gz_FU (nI q) 0 1 g = fX12_greatest_4 La gz_FU (nI q) (nI (sMost F 1)) (nI 1) g by rw [sMost_1]; rfl]
  refine lp (fun f n (_ : Unit) => fX12_greatest_4 La f (nI q) (nI (sMost F n)) (nI n) g) (fun n _ => 1 ≤ n) (V 60) (fun r => r = some (nI (sMost F (V 60)), g)) ?_ ?_ gz_FU 1 () (by omega) (by unfold gz_FU; omega) (Nat.le_refl _)
  · intro f n _ hn hn1
    refine Or.inr ⟨(), ?_, by omega⟩
    show fX12_greatest_4 La (f + 1) (nI q) (nI (sMost F n)) (nI n) g = _
    obtain ⟨m, rfl⟩ : ∃ m, n = m + 1 := ⟨n - 1, by omega⟩
    have hb := sMost_le2 F m
    have b1 : ∀ k, V k < 1048576 := hW.1
    have pick : ∀ (x y : Int32), x = nI (F (m + 1)) → y = nI (F (sMost F (m + 1))) → (if x ≤ y then fX12_greatest_71 La (fX12_greatest_4 La f) (nI q) (nI (sMost F (m + 1))) (nI (m + 1)) 0 g else fX12_greatest_71 La (fX12_greatest_4 La f) (nI q) (nI (sMost F (m + 1))) (nI (m + 1)) 1 g) = fX12_greatest_4 La f (nI q) (nI (sMost F (m + 1 + 1))) (nI (m + 1 + 1)) g := by
      intro x y hx hy
      have f1 : F (m + 1) < 1048576 := by rw [hF]; exact b1 _
      have f2 : F (sMost F (m + 1)) < 1048576 := by rw [hF]; exact b1 _
      have le : (nI (F (m + 1)) ≤ nI (F (sMost F (m + 1)))) = (F (m + 1) ≤ F (sMost F (m + 1))) := n_le (by omega) (by omega)
      rw [hx, hy, sMost_s F (m + 1)]
      unfold fX12_greatest_71 fX12_greatest_83
      by_cases c : F (sMost F (m + 1)) < F (m + 1)
      · rw [if_neg (show ¬ nI (F (m + 1)) ≤ nI (F (sMost F (m + 1))) by rw [le]; omega), if_pos c, if_neg (by decide), gz_let_eq, show nI (m + 1) + (1 : Int32) = nI (m + 1 + 1) from n_add _ _]
      · rw [if_pos (show nI (F (m + 1)) ≤ nI (F (sMost F (m + 1))) by rw [le]; omega), if_neg c, if_pos rfl, gz_let_eq, show nI (m + 1) + (1 : Int32) = nI (m + 1 + 1) from n_add _ _]
    rw [fX12_greatest_4, n27, if_neg (show ¬ nI (V 60) ≤ nI (m + 1) by rw [n_le (by omega) (by omega)]; omega)]
    by_cases c0 : q = 0
    · have m1 := (h.at0 (i := m + 1) (by omega)).2.2.1
      have m2 := (h.at0 (i := sMost F (m + 1)) (by omega)).2.2.1
      have e : ∀ k : Nat, ((30 : Int32) + (4 : Int32) * nI k) + 2 = nI (30 + 4 * k + 2) := fun k => by rw [show (4 : Int32) * nI k = nI (4 * k) from n_mul 4 k, show (30 : Int32) + nI (4 * k) = nI (30 + 4 * k) from n_add 30 _]; exact n_add _ 2
      rw [if_pos (show nI q = 0 by rw [c0]; rfl), e, e, if_pos (n_okP (by omega) (by omega)), if_pos (n_okP (by omega) (by omega)), n_cl (by omega), n_cl (by omega)]
      exact pick _ _ (by rw [m1, hF, if_pos c0]) (by rw [m2, hF, if_pos c0])
    · rw [if_neg (show ¬ nI q = 0 by show ¬ _ = nI 0; rw [n_eq (by omega) (by omega)]; exact c0), r_paceOf hp (by omega) (by omega), Option.bind_some, r_paceOf hp (by omega) (by omega), Option.bind_some]
      exact pick _ _ (by rw [hF, if_neg c0]) (by rw [hF, if_neg c0])
  · intro f _ _
    show fX12_greatest_4 La (f + 1) (nI q) (nI (sMost F (V 60))) (nI (V 60)) g = _
    rw [fX12_greatest_4, n27, if_pos (show nI (V 60) ≤ nI (V 60) by rw [n_le (by omega) (by omega)]; omega)]
theorem r_doesFace (h : CX g 53 V Ls cur) (hW : Wf B V) {i j : Nat} (hi : i < V 60) (hj : j < V 60) : fX12_doesFace La (nI i) (nI j) g = some (pI (sSees V i j), g) := by
  have h60 := hW.2.2.2.1
  have b1 := hW.2.2.2.2.2.2.2.2.2.1 i (by omega)
  have b2 := (hW.2.2.2.2.2.2.2.2.2.2 i hi).1
  have b3 := (hW.2.2.2.2.2.2.2.2.2.2 j hj).1
  have c30 := hW.cells
  obtain ⟨m0, m1, _⟩ := h.at0 (i := i) (by omega)
  have k0 := (h.at0 (i := j) (by omega)).1
  have m0 : g.1 53 (30 + 4 * i) = nI (V (30 + i)) := m0
  have k0 : g.1 53 (30 + 4 * j) = nI (V (30 + j)) := k0
  have e : ∀ k : Nat, (30 : Int32) + (4 : Int32) * nI k = nI (30 + 4 * k) := fun k => by rw [show (4 : Int32) * nI k = nI (4 * k) from n_mul 4 k]; exact n_add 30 _
  unfold fX12_doesFace
  rw [e, e, show nI (30 + 4 * i) + (1 : Int32) = nI (30 + 4 * i + 1) from n_add _ 1, if_pos (n_okP (by omega) (by omega)), if_pos (n_okP (by omega) (by omega)), n_cl (by omega), n_cl (by omega), m0, m1, r_nextCell h.2.1 hW b2 (by omega), Option.bind_some, if_pos (n_okP (by omega) (by omega)), n_cl (by omega), k0]
  have hx : (oI (sBes V (V (30 + i)) (V (34 + i))) = nI (V (30 + j))) = sSees V i j := oI_eq (by omega) (fun c hc => by have := sBes_lt hW.2.1 b2 hc; omega)
  by_cases c : sSees V i j
  · exact (if_pos (hx ▸ c)).trans (p_t c)
  · exact (if_neg (hx ▸ c)).trans (p_f c)
theorem sFaced_s (V : Nat → Nat) (n : Nat) : sFaced V (n + 1) = sFaced1 V n (V 60) (sFaced V n) := rfl
theorem sFaced1_s (V : Nat → Nat) (a n s : Nat) : sFaced1 V a (n + 1) s = if a < n ∧ sFace V a n then sFaced1 V a n s + 1 else sFaced1 V a n s := rfl
theorem r_faced (h : CX g 53 V Ls cur) (hW : Wf B V) : fX12_faced La g = some (nI (sFaced V (V 60)), g) := by
  have h60 := hW.2.2.2.1.2
  have n27 := h.2.1.2.2.1
  unfold fX12_faced
  refine lp (fun f n (_ : Unit) => fX12_faced_4 La f (nI (sFaced V n)) (nI n) g) (fun n _ => True) (V 60) (fun r => r = some (nI (sFaced V (V 60)), g)) ?_ ?_ gz_FU 0 () (by omega) (by unfold gz_FU; omega) trivial
  · intro f a _ ha _
    show _ ∨ ∃ g', fX12_faced_4 La (f + 1) (nI (sFaced V a)) (nI a) g = _ ∧ _
    rw [fX12_faced_4, n27, if_neg (show ¬ nI (V 60) ≤ nI a by rw [n_le (by omega) (by omega)]; omega), gz_let_eq, show nI a + (1 : Int32) = nI (a + 1) from n_add _ _]
    refine Or.inr ⟨(), ?_, trivial⟩
    generalize hs : sFaced V a = s
    have e1 : sFaced V (a + 1) = sFaced1 V a (V 60) s := by rw [sFaced_s, hs]
    rw [e1]
    generalize hK : (fun (x1 : Int32) (x2 : Int32) g => gz_let (x2 + 1) (fun y78 => fX12_faced_4 La f x1 y78 g)) = K78
    have e2 : fX12_faced_16 La K78 gz_FU (nI s) (nI a) (nI (a + 1)) g = fX12_faced_16 La K78 gz_FU (nI (sFaced1 V a (a + 1) s)) (nI a) (nI (a + 1)) g := by rw [sFaced1_0 (a + 1) (Nat.le_refl _)]
    rw [e2]
    refine lp (fun f2 b (_ : Unit) => fX12_faced_16 La K78 f2 (nI (sFaced1 V a b s)) (nI a) (nI b) g) (fun b _ => a < b) (V 60) (fun r => r = fX12_faced_4 La f (nI (sFaced1 V a (V 60) s)) (nI (a + 1)) g) ?_ ?_ gz_FU (a + 1) () (by omega) (by unfold gz_FU; omega) (by omega)
    · intro f2 b _ hb hab
      refine Or.inr ⟨(), ?_, by omega⟩
      show fX12_faced_16 La K78 (f2 + 1) (nI (sFaced1 V a b s)) (nI a) (nI b) g = _
      have no : ∀ z, ¬ sFace V a b → fX12_faced_69 La (fX12_faced_16 La K78 f2) (nI a) (nI b) (nI (sFaced1 V a b s)) z = fX12_faced_16 La K78 f2 (nI (sFaced1 V a (b + 1) s)) (nI a) (nI (b + 1)) z := by
        intro z hz
        unfold fX12_faced_69 fX12_faced_70
        rw [gz_let_eq, gz_let_eq, show nI b + (1 : Int32) = nI (b + 1) from n_add _ _, show nI (sFaced1 V a b s) + (0 : Int32) = nI (sFaced1 V a b s + 0) from n_add _ 0, sFaced1_s, if_neg (fun hh => hz hh.2)]; rfl
      rw [fX12_faced_16, n27, if_neg (show ¬ nI (V 60) ≤ nI b by rw [n_le (by omega) (by omega)]; omega), r_does h.1 hW.1 (by omega), Option.bind_some]
      by_cases c1 : V (42 + a) = 0
      · rw [if_neg (pI1 c1), r_does h.1 hW.1 (by omega), Option.bind_some]
        by_cases c2 : V (42 + b) = 0
        · rw [if_neg (pI1 c2), r_doesFace h hW (by omega) (by omega), Option.bind_some]
          by_cases c3 : sSees V a b
          · rw [if_neg (pI1 c3), r_doesFace h hW (by omega) (by omega), Option.bind_some]
            by_cases c4 : sSees V b a
            · rw [if_neg (pI1 c4)]
              unfold fX12_faced_70
              rw [gz_let_eq, gz_let_eq, show nI b + (1 : Int32) = nI (b + 1) from n_add _ _, show nI (sFaced1 V a b s) + (1 : Int32) = nI (sFaced1 V a b s + 1) from n_add _ 1, sFaced1_s, if_pos ⟨hab, c1, c2, c3, c4⟩]
            · rw [if_pos (pI0 c4)]; exact no g (fun hh => c4 hh.2.2.2)
          · rw [if_pos (pI0 c3)]; exact no g (fun hh => c3 hh.2.2.1)
        · rw [if_pos (pI0 c2)]; exact no g (fun hh => c2 hh.2.1)
      · rw [if_pos (pI0 c1)]; exact no g (fun hh => c1 hh.1)
    · intro f2 _ _
      show fX12_faced_16 La K78 (f2 + 1) (nI (sFaced1 V a (V 60) s)) (nI a) (nI (V 60)) g = _
      rw [fX12_faced_16, n27, if_pos (show nI (V 60) ≤ nI (V 60) by rw [n_le (by omega) (by omega)]; omega), ← hK]
      show gz_let (nI a + 1) _ = _
      rw [gz_let_eq, show nI a + (1 : Int32) = nI (a + 1) from n_add _ _]
  · intro f _ _
    show fX12_faced_4 La (f + 1) (nI (sFaced V (V 60))) (nI (V 60)) g = _
    rw [fX12_faced_4, n27, if_pos (show nI (V 60) ≤ nI (V 60) by rw [n_le (by omega) (by omega)]; omega)]
end RW
