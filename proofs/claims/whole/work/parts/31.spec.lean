/-! a shore at one moment, as numbers: 61 places (the class's own order) -/
abbrev sUnd (V : Nat → Nat) (c : Nat) : Prop := V c = 2 ∨ (V 59 - V 46) * V 58 ≤ c
def sBes (V : Nat → Nat) (c d : Nat) : Option Nat :=
  if d = 0 then (if V 58 ≤ c then some (c - V 58) else none)
  else if d = 1 then (if (c + 1) % V 58 = 0 then none else some (c + 1))
  else if d = 2 then (if V 58 * V 59 ≤ c + V 58 then none else some (c + V 58))
  else (if c % V 58 = 0 then none else some (c - 1))
def sLie (V : Nat → Nat) (o : Option Nat) : Nat := match o with
  | none => 1
  | some c => if V c = 1 then 1 else if sUnd V c then 2 else if V c = 3 then 3 else 0
def sAhd (V : Nat → Nat) (i d : Nat) : Nat := sLie V (sBes V (V (30 + i)) d)
def oI (o : Option Nat) : Int32 := match o with
  | none => -nI 1
  | some n => nI n
abbrev sOn (V : Nat → Nat) (c i : Nat) : Prop := V (42 + i) = 0 ∧ V (30 + i) = c
def sCnt (V : Nat → Nat) (c : Nat) : Nat := it (fun i a => if sOn V c i then a + 1 else a) (V 60) 0
def sBegin (V : Nat → Nat) (i l : Nat) : Nat → Nat := uN (uN (uN (uN V (30 + i) (V (54 + i))) (34 + i) l) (38 + i) 0) (42 + i) 0
def sPay (V : Nat → Nat) (i l : Nat) : Nat → Nat := sBegin (uN V 48 (V 48 - 3)) i l
def sOff (V : Nat → Nat) (c n : Nat) : Nat → Nat := fun k => if 42 ≤ k ∧ k < 42 + n ∧ sOn V c (k - 42) then 2 else V k
def sSweep (V : Nat → Nat) (c : Nat) : Nat → Nat := uN (sOff V c (V 60)) 48 (V 48 - 1)
def sStone (V : Nat → Nat) (c : Nat) : Nat → Nat := uN (uN V 48 (V 48 - 2)) c (if V c = 0 then 1 else 0)
/-- the way prints turn: look, ahead, right, pace, went, hour -/
abbrev sT : Type := Option (Nat → Nat → Nat → Nat → Nat → Nat → Nat)
def sTurn (T : sT) (V : Nat → Nat) (i : Nat) : Nat := match T with
  | none => if sAhd V i (V (34 + i)) = 1 then (V (34 + i) + 1) % 4 else V (34 + i)
  | some t => t (V (34 + i)) (sAhd V i (V (34 + i))) (sAhd V i ((V (34 + i) + 1) % 4)) (V (50 + i)) (V (38 + i) % 100) (V 49 % 24)
/-- a step, once it looks that way -/
def sGo (V : Nat → Nat) (i l : Nat) : Nat → Nat :=
  if sAhd V i l = 1 then uN V (34 + i) l else
    (if sAhd V i l = 2 then fun W => uN W (42 + i) 2 else if sAhd V i l = 3 then fun W => uN W (42 + i) 1 else fun W => W)
      (uN (uN (uN V (34 + i) l) (30 + i) ((sBes V (V (30 + i)) l).getD 0)) (38 + i) (V (38 + i) + 1))
def sStep (T : sT) (V : Nat → Nat) (i : Nat) : Nat → Nat := sGo V i (sTurn T V i)
def sPk (T : sT) (i : Nat) (V : Nat → Nat) (k : Nat) : Nat → Nat := it (fun _ W => if W (42 + i) = 0 then sStep T W i else W) k V
def sPace (T : sT) (i : Nat) (V : Nat → Nat) : Nat → Nat := sPk T i V (V (50 + i))
def sGoer (T : sT) (V : Nat → Nat) (i : Nat) : Nat → Nat :=
  if V (42 + i) = 0 then sPace T i (if sUnd V (V (30 + i)) then uN V (42 + i) 2 else V) else V
def sAll (T : sT) (V : Nat → Nat) (n : Nat) : Nat → Nat := it (fun i W => sGoer T W i) n V
def sEnd (T : sT) (V : Nat → Nat) (n : Nat) : Nat := it (fun i b => if sAll T V i (42 + i) = 0 ∧ ¬ sAll T V (i + 1) (42 + i) = 0 then b ||| 2 ^ i else b) n 0
def sPairs (V : Nat → Nat) (n : Nat) : Nat := it (fun i a => if V (42 + i) = 0 then a + (sCnt V (V (30 + i)) - 1) else a) n 0
def sTurned (V : Nat → Nat) (n : Nat) : Nat → Nat := fun k => if 34 ≤ k ∧ k < 34 + n ∧ V (42 + (k - 34)) = 0 ∧ 1 < sCnt V (V (30 + (k - 34))) then (V k + 2) % 4 else V k
def sMet (T : sT) (V : Nat → Nat) : Nat := sPairs (sAll T V (V 60)) (V 60) / 2
def sHour (T : sT) (V : Nat → Nat) : Nat → Nat :=
  uN (uN (sTurned (sAll T V (V 60)) (V 60)) 47 (min 9999 (V 47 + sMet T V))) 49 (V 49 + 1)
/-! what holds of it -/
def Wf (B : Nat) (V : Nat → Nat) : Prop :=
  (∀ k, V k < 1048576) ∧ (2 ≤ V 58 ∧ V 58 ≤ 6) ∧ (2 ≤ V 59 ∧ V 59 ≤ 5) ∧ (1 ≤ V 60 ∧ V 60 ≤ 4) ∧ V 46 ≤ 5 ∧ V 47 ≤ 9999 ∧ V 48 ≤ 999 ∧ V 49 ≤ B ∧
  (∀ c, c < 30 → V c ≤ 3) ∧
  (∀ i, i < 4 → V (30 + i) < 30 ∧ V (34 + i) ≤ 3 ∧ V (38 + i) ≤ B ∧ V (42 + i) ≤ 2 ∧ V (50 + i) ≤ 4 ∧ V (54 + i) < 30) ∧
  (∀ i, i < V 60 → V (30 + i) < V 58 * V 59 ∧ 1 ≤ V (50 + i) ∧ V (54 + i) < V 58 * V 59)
theorem Wf.cells {B : Nat} {V : Nat → Nat} (h : Wf B V) : V 58 * V 59 ≤ 30 := Nat.mul_le_mul h.2.1.2 h.2.2.1.2
theorem Wf.cells4 {B : Nat} {V : Nat → Nat} (h : Wf B V) : 4 ≤ V 58 * V 59 := Nat.mul_le_mul h.2.1.1 h.2.2.1.1
theorem Wf.dry {B : Nat} {V : Nat → Nat} (h : Wf B V) : (V 59 - V 46) * V 58 ≤ V 58 * V 59 := by
  rw [Nat.mul_comm (V 58)]; exact Nat.mul_le_mul (Nat.sub_le _ _) (Nat.le_refl _)
theorem sBes_lt {V : Nat → Nat} {c d e : Nat} (h8 : 2 ≤ V 58 ∧ V 58 ≤ 6) (hc : c < V 58 * V 59) (h : sBes V c d = some e) : e < V 58 * V 59 := by
  unfold sBes at h
  by_cases d0 : d = 0
  · rw [if_pos d0] at h
    by_cases hx : V 58 ≤ c
    · rw [if_pos hx] at h; cases h; omega
    · rw [if_neg hx] at h; cases h
  · rw [if_neg d0] at h
    by_cases d1 : d = 1
    · rw [if_pos d1] at h
      by_cases hx : (c + 1) % V 58 = 0
      · rw [if_pos hx] at h; cases h
      · rw [if_neg hx] at h; cases h
        rcases Nat.lt_or_ge (c + 1) (V 58 * V 59) with hl | hl
        · exact hl
        · have he : c + 1 = V 58 * V 59 := by omega
          rw [he, Nat.mul_mod_right] at hx; exact absurd rfl hx
    · rw [if_neg d1] at h
      by_cases d2 : d = 2
      · rw [if_pos d2] at h
        by_cases hx : V 58 * V 59 ≤ c + V 58
        · rw [if_pos hx] at h; cases h
        · rw [if_neg hx] at h; cases h; omega
      · rw [if_neg d2] at h
        by_cases hx : c % V 58 = 0
        · rw [if_pos hx] at h; cases h
        · rw [if_neg hx] at h; cases h; omega
theorem sLie_le {V : Nat → Nat} {o : Option Nat} : sLie V o ≤ 3 := by
  unfold sLie
  cases o with
  | none => simp
  | some c =>
    show (if V c = 1 then 1 else if sUnd V c then 2 else if V c = 3 then 3 else 0) ≤ 3
    repeat' split
    all_goals omega
theorem sCnt_le {V : Nat → Nat} {c n : Nat} : it (fun i a => if sOn V c i then a + 1 else a) n 0 ≤ n := by
  induction n with
  | zero => exact Nat.le_refl _
  | succ n ih =>
    show (if sOn V c n then it (fun i a => if sOn V c i then a + 1 else a) n 0 + 1 else it (fun i a => if sOn V c i then a + 1 else a) n 0) ≤ n + 1
    by_cases h : sOn V c n
    · rw [if_pos h]; omega
    · rw [if_neg h]; omega
theorem Wf.mo {B B' : Nat} {V : Nat → Nat} (h : Wf B V) (hb : B ≤ B') : Wf B' V := by
  obtain ⟨a1, a2, a3, a4, a5, a6, a7, a8, a9, a10, a11⟩ := h
  refine ⟨a1, a2, a3, a4, a5, a6, a7, by omega, a9, fun i hi => ?_, a11⟩
  have h1 := a10 i hi
  omega
theorem Wf.up {B : Nat} {V : Nat → Nat} (h : Wf B V) {k x : Nat} (hx : x < 1048576) (h58 : k ≠ 58 ∧ k ≠ 59 ∧ k ≠ 60) (h46 : k = 46 → x ≤ 5) (h47 : k = 47 → x ≤ 9999) (h48 : k = 48 → x ≤ 999) (h49 : k = 49 → x ≤ B)
    (h0 : k < 30 → x ≤ 3) (h30 : 30 ≤ k ∧ k < 34 → x < V 58 * V 59) (h34 : 34 ≤ k ∧ k < 38 → x ≤ 3) (h38 : 38 ≤ k ∧ k < 42 → x ≤ B) (h42 : 42 ≤ k ∧ k < 46 → x ≤ 2) (h50 : 50 ≤ k ∧ k < 54 → 1 ≤ x ∧ x ≤ 4) (h54 : 54 ≤ k ∧ k < 58 → x < V 58 * V 59) : Wf B (uN V k x) := by
  have c30 := h.cells
  obtain ⟨a1, a2, a3, a4, a5, a6, a7, a8, a9, a10, a11⟩ := h
  have e : ∀ j, j ≠ k → uN V k x j = V j := fun j hj => uN_n hj
  have e2 : ∀ j, j = k → uN V k x j = x := fun j hj => by rw [hj]; exact uN_s V k x
  refine ⟨fun j => ?_, ?_, ?_, ?_, ?_, ?_, ?_, ?_, fun c hc => ?_, fun i hi => ?_, fun i hi => ?_⟩
  · by_cases hj : j = k
    · rw [e2 j hj]; exact hx
    · rw [e j hj]; exact a1 j
  · rw [e 58 (by omega)]; exact a2
  · rw [e 59 (by omega)]; exact a3
  · rw [e 60 (by omega)]; exact a4
  · by_cases hj : 46 = k
    · rw [e2 46 hj]; omega
    · rw [e 46 hj]; exact a5
  · by_cases hj : 47 = k
    · rw [e2 47 hj]; omega
    · rw [e 47 hj]; exact a6
  · by_cases hj : 48 = k
    · rw [e2 48 hj]; omega
    · rw [e 48 hj]; exact a7
  · by_cases hj : 49 = k
    · rw [e2 49 hj]; omega
    · rw [e 49 hj]; exact a8
  · by_cases hj : c = k
    · rw [e2 c hj]; omega
    · rw [e c hj]; exact a9 c hc
  · have b := a10 i hi
    refine ⟨?_, ?_, ?_, ?_, ?_, ?_⟩
    · by_cases hj : 30 + i = k
      · rw [e2 _ hj]; have := h30 (by omega); omega
      · rw [e _ hj]; exact b.1
    · by_cases hj : 34 + i = k
      · rw [e2 _ hj]; omega
      · rw [e _ hj]; exact b.2.1
    · by_cases hj : 38 + i = k
      · rw [e2 _ hj]; omega
      · rw [e _ hj]; exact b.2.2.1
    · by_cases hj : 42 + i = k
      · rw [e2 _ hj]; omega
      · rw [e _ hj]; exact b.2.2.2.1
    · by_cases hj : 50 + i = k
      · rw [e2 _ hj]; omega
      · rw [e _ hj]; exact b.2.2.2.2.1
    · by_cases hj : 54 + i = k
      · rw [e2 _ hj]; have := h54 (by omega); omega
      · rw [e _ hj]; exact b.2.2.2.2.2
  · rw [e 60 (by omega)] at hi
    have b := a11 i hi
    rw [e 58 (by omega), e 59 (by omega)]
    refine ⟨?_, ?_, ?_⟩
    · by_cases hj : 30 + i = k
      · rw [e2 _ hj]; exact h30 (by omega)
      · rw [e _ hj]; exact b.1
    · by_cases hj : 50 + i = k
      · rw [e2 _ hj]; exact (h50 (by omega)).1
      · rw [e _ hj]; exact b.2.1
    · by_cases hj : 54 + i = k
      · rw [e2 _ hj]; exact h54 (by omega)
      · rw [e _ hj]; exact b.2.2
/-- places that no step touches -/
def sFix (V V' : Nat → Nat) : Prop := ∀ k, k < 30 ∨ 46 ≤ k → V' k = V k
theorem sFix.rf {V : Nat → Nat} : sFix V V := fun _ _ => rfl
theorem sFix.tr {V V' V'' : Nat → Nat} (h : sFix V V') (h' : sFix V' V'') : sFix V V'' := fun k hk => (h' k hk).trans (h k hk)
theorem sFix.up {V V' : Nat → Nat} {k x : Nat} (h : sFix V V') (hk : 30 ≤ k ∧ k < 46) : sFix V (uN V' k x) := fun j hj => by rw [uN_n (by omega)]; exact h j hj
theorem sGo_fix {V : Nat → Nat} {i l : Nat} (hi : i < 4) : sFix V (sGo V i l) := by
  unfold sGo
  by_cases h1 : sAhd V i l = 1
  · rw [if_pos h1]; exact sFix.rf.up (by omega)
  · rw [if_neg h1]
    by_cases h2 : sAhd V i l = 2
    · rw [if_pos h2]; exact (((sFix.rf.up (by omega)).up (by omega)).up (by omega)).up (by omega)
    · rw [if_neg h2]
      by_cases h3 : sAhd V i l = 3
      · rw [if_pos h3]; exact (((sFix.rf.up (by omega)).up (by omega)).up (by omega)).up (by omega)
      · rw [if_neg h3]; exact ((sFix.rf.up (by omega)).up (by omega)).up (by omega)
theorem sGo_wf {B : Nat} {V : Nat → Nat} (h : Wf B V) (hB : B < 1000000) {i l : Nat} (hi : i < V 60) (hl : l ≤ 3) : Wf (B + 1) (sGo V i l) := by
  have h60 := h.2.2.2.1.2
  have c30 := h.cells
  have b1 := h.2.2.2.2.2.2.2.2.2.1 i (by omega)
  have b2 := h.2.2.2.2.2.2.2.2.2.2 i hi
  have hw := h.mo (Nat.le_succ B)
  unfold sGo
  by_cases h1 : sAhd V i l = 1
  · rw [if_pos h1]
    exact hw.up (by omega) (by omega) (by omega) (by omega) (by omega) (by omega) (by omega) (by omega) (by omega) (by omega) (by omega) (by omega) (by omega)
  · rw [if_neg h1]
    have hc : (sBes V (V (30 + i)) l).getD 0 < V 58 * V 59 := by
      cases ho : sBes V (V (30 + i)) l with
      | none => exfalso; apply h1; unfold sAhd; rw [ho]; rfl
      | some c => exact sBes_lt h.2.1 b2.1 ho
    have w1 : Wf (B + 1) (uN V (34 + i) l) := hw.up (by omega) (by omega) (by omega) (by omega) (by omega) (by omega) (by omega) (by omega) (by omega) (by omega) (by omega) (by omega) (by omega)
    have e1 : uN V (34 + i) l 58 = V 58 := uN_n (by omega)
    have e2 : uN V (34 + i) l 59 = V 59 := uN_n (by omega)
    have w2 : Wf (B + 1) (uN (uN V (34 + i) l) (30 + i) ((sBes V (V (30 + i)) l).getD 0)) := by
      refine w1.up ?_ ?_ ?_ ?_ ?_ ?_ ?_ ?_ ?_ ?_ ?_ ?_ ?_ <;> (try rw [e1, e2]) <;> omega
    have w3 : Wf (B + 1) (uN (uN (uN V (34 + i) l) (30 + i) ((sBes V (V (30 + i)) l).getD 0)) (38 + i) (V (38 + i) + 1)) := w2.up (by omega) (by omega) (by omega) (by omega) (by omega) (by omega) (by omega) (by omega) (by omega) (by omega) (by omega) (by omega) (by omega)
    by_cases h2 : sAhd V i l = 2
    · rw [if_pos h2]; exact w3.up (by omega) (by omega) (by omega) (by omega) (by omega) (by omega) (by omega) (by omega) (by omega) (by omega) (by omega) (by omega) (by omega)
    · rw [if_neg h2]
      by_cases h3 : sAhd V i l = 3
      · rw [if_pos h3]; exact w3.up (by omega) (by omega) (by omega) (by omega) (by omega) (by omega) (by omega) (by omega) (by omega) (by omega) (by omega) (by omega) (by omega)
      · rw [if_neg h3]; exact w3
