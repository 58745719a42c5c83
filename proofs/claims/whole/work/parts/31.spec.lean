/-! a shore at one moment, as numbers: 61 places (the class's own order) -/
abbrev sUnd (V : Nat → Nat) (c : Nat) : Prop := V c = 2 ∨ (V 59 - V 46) * V 58 ≤ c
def sBes (V : Nat → Nat) (c d : Nat) : Option Nat :=
  if d = 0 then (if V 58 ≤ c then some (c - V 58) else none)
  else if d = 1 then (if (c + 1) % V 58 = 0 then none else some (c + 1))
  else if d = 2 then (if V 58 * V 59 ≤ c + V 58 then none else some (c + V 58))
  else (if c % V 58 = 0 then none else some (c - 1))
def sLie (V : Nat → Nat) (o : Option Nat) : Nat := match o with
  | none => 1
  | some c => if V c = 1 then 1 else if sUnd V c then 2 else if V c = 3 then 3 else 0
def sAhd (V : Nat → Nat) (i d : Nat) : Nat := sLie V (sBes V (V (30 + i)) d)
def oI (o : Option Nat) : Int32 := match o with
  | none => -nI 1
  | some n => nI n
abbrev sOn (V : Nat → Nat) (c i : Nat) : Prop := V (42 + i) = 0 ∧ V (30 + i) = c
def sCnt (V : Nat → Nat) (c : Nat) : Nat := it (fun i a => if sOn V c i then a + 1 else a) (V 60) 0
def sBegin (V : Nat → Nat) (i l : Nat) : Nat → Nat := uN (uN (uN (uN V (30 + i) (V (54 + i))) (34 + i) l) (38 + i) 0) (42 + i) 0
def sPay (V : Nat → Nat) (i l : Nat) : Nat → Nat := sBegin (uN V 48 (V 48 - 3)) i l
def sOff (V : Nat → Nat) (c n : Nat) : Nat → Nat := fun k => if 42 ≤ k ∧ k < 42 + n ∧ sOn V c (k - 42) then 2 else V k
def sSweep (V : Nat → Nat) (c : Nat) : Nat → Nat := uN (sOff V c (V 60)) 48 (V 48 - 1)
def sStone (V : Nat → Nat) (c : Nat) : Nat → Nat := uN (uN V 48 (V 48 - 2)) c (if V c = 0 then 1 else 0)
/-- the way prints turn: look, ahead, right, pace, went, hour -/
abbrev sT : Type := Option (Nat → Nat → Nat → Nat → Nat → Nat → Nat)
def sTurn (T : sT) (V : Nat → Nat) (i : Nat) : Nat := match T with
  | none => if sAhd V i (V (34 + i)) = 1 then (V (34 + i) + 1) % 4 else V (34 + i)
  | some t => t (V (34 + i)) (sAhd V i (V (34 + i))) (sAhd V i ((V (34 + i) + 1) % 4)) (V (50 + i)) (V (38 + i) % 100) (V 49 % 24)
/-- a step, once it looks that way -/
def sGo (V : Nat → Nat) (i l : Nat) : Nat → Nat :=
  if sAhd V i l = 1 then uN V (34 + i) l else
    (if sAhd V i l = 2 then fun W => uN W (42 + i) 2 else if sAhd V i l = 3 then fun W => uN W (42 + i) 1 else fun W => W)
      (uN (uN (uN V (34 + i) l) (30 + i) ((sBes V (V (30 + i)) l).getD 0)) (38 + i) (V (38 + i) + 1))
def sStep (T : sT) (V : Nat → Nat) (i : Nat) : Nat → Nat := sGo V i (sTurn T V i)
def sPace (T : sT) (i : Nat) (V : Nat → Nat) : Nat → Nat := it (fun _ W => if W (42 + i) = 0 then sStep T W i else W) (V (50 + i)) V
def sGoer (T : sT) (V : Nat → Nat) (i : Nat) : Nat → Nat :=
  if V (42 + i) = 0 then sPace T i (if sUnd V (V (30 + i)) then uN V (42 + i) 2 else V) else V
def sAll (T : sT) (V : Nat → Nat) (n : Nat) : Nat → Nat := it (fun i W => sGoer T W i) n V
def sEnd (T : sT) (V : Nat → Nat) (n : Nat) : Nat := it (fun i b => if V (42 + i) = 0 ∧ ¬ sAll T V (i + 1) (42 + i) = 0 then b ||| 2 ^ i else b) n 0
def sPairs (V : Nat → Nat) (n : Nat) : Nat := it (fun i a => if V (42 + i) = 0 then a + (sCnt V (V (30 + i)) - 1) else a) n 0
def sTurned (V : Nat → Nat) (n : Nat) : Nat → Nat := fun k => if 34 ≤ k ∧ k < 34 + n ∧ V (42 + (k - 34)) = 0 ∧ 1 < sCnt V (V (30 + (k - 34))) then (V k + 2) % 4 else V k
def sMet (T : sT) (V : Nat → Nat) : Nat := sPairs (sAll T V (V 60)) (V 60) / 2
def sHour (T : sT) (V : Nat → Nat) : Nat → Nat :=
  uN (uN (sTurned (sAll T V (V 60)) (V 60)) 47 (min 9999 (V 47 + sMet T V))) 49 (V 49 + 1)
/-! what holds of it -/
def Wf (B : Nat) (V : Nat → Nat) : Prop :=
  (∀ k, V k < 1048576) ∧ (2 ≤ V 58 ∧ V 58 ≤ 6) ∧ (2 ≤ V 59 ∧ V 59 ≤ 5) ∧ (1 ≤ V 60 ∧ V 60 ≤ 4) ∧ V 46 ≤ 5 ∧ V 47 ≤ 9999 ∧ V 48 ≤ 999 ∧ V 49 ≤ B ∧
  (∀ c, c < 30 → V c ≤ 3) ∧
  (∀ i, i < 4 → V (30 + i) < 30 ∧ V (34 + i) ≤ 3 ∧ V (38 + i) ≤ B ∧ V (42 + i) ≤ 2 ∧ V (50 + i) ≤ 4 ∧ V (54 + i) < 30) ∧
  (∀ i, i < V 60 → V (30 + i) < V 58 * V 59 ∧ 1 ≤ V (50 + i) ∧ V (54 + i) < V 58 * V 59)
theorem Wf.cells {B : Nat} {V : Nat → Nat} (h : Wf B V) : V 58 * V 59 ≤ 30 := Nat.mul_le_mul h.2.1.2 h.2.2.1.2
theorem Wf.cells4 {B : Nat} {V : Nat → Nat} (h : Wf B V) : 4 ≤ V 58 * V 59 := Nat.mul_le_mul h.2.1.1 h.2.2.1.1
theorem Wf.dry {B : Nat} {V : Nat → Nat} (h : Wf B V) : (V 59 - V 46) * V 58 ≤ V 58 * V 59 := by
  rw [Nat.mul_comm (V 58)]; exact Nat.mul_le_mul (Nat.sub_le _ _) (Nat.le_refl _)
theorem sBes_lt {V : Nat → Nat} {c d e : Nat} (h8 : 2 ≤ V 58 ∧ V 58 ≤ 6) (hc : c < V 58 * V 59) (h : sBes V c d = some e) : e < V 58 * V 59 := by
  unfold sBes at h
  by_cases d0 : d = 0
  · rw [if_pos d0] at h
    by_cases hx : V 58 ≤ c
    · rw [if_pos hx] at h; cases h; omega
    · rw [if_neg hx] at h; cases h
  · rw [if_neg d0] at h
    by_cases d1 : d = 1
    · rw [if_pos d1] at h
      by_cases hx : (c + 1) % V 58 = 0
      · rw [if_pos hx] at h; cases h
      · rw [if_neg hx] at h; cases h
        rcases Nat.lt_or_ge (c + 1) (V 58 * V 59) with hl | hl
        · exact hl
        · have he : c + 1 = V 58 * V 59 := by omega
          rw [he, Nat.mul_mod_right] at hx; exact absurd rfl hx
    · rw [if_neg d1] at h
      by_cases d2 : d = 2
      · rw [if_pos d2] at h
        by_cases hx : V 58 * V 59 ≤ c + V 58
        · rw [if_pos hx] at h; cases h
        · rw [if_neg hx] at h; cases h; omega
      · rw [if_neg d2] at h
        by_cases hx : c % V 58 = 0
        · rw [if_pos hx] at h; cases h
        · rw [if_neg hx] at h; cases h; omega
theorem sLie_le {V : Nat → Nat} {o : Option Nat} : sLie V o ≤ 3 := by
  unfold sLie
  cases o with
  | none => simp
  | some c =>
    show (if V c = 1 then 1 else if sUnd V c then 2 else if V c = 3 then 3 else 0) ≤ 3
    repeat' split
    all_goals omega
theorem sCnt_le {V : Nat → Nat} {c n : Nat} : it (fun i a => if sOn V c i then a + 1 else a) n 0 ≤ n := by
  induction n with
  | zero => exact Nat.le_refl _
  | succ n ih =>
    show (if sOn V c n then it (fun i a => if sOn V c i then a + 1 else a) n 0 + 1 else it (fun i a => if sOn V c i then a + 1 else a) n 0) ≤ n + 1
    by_cases h : sOn V c n
    · rw [if_pos h]; omega
    · rw [if_neg h]; omega
