/-! one goer alone: others that don't go change nothing -/
section US
variable {U A : Nat → Nat} {T : sT} {i : Nat}
def agK (i k : Nat) : Prop := k < 30 ∨ k = 30 + i ∨ k = 34 + i ∨ k = 38 + i ∨ k = 42 + i ∨ k = 50 + i ∨ k = 46 ∨ k = 49 ∨ k = 58 ∨ k = 59
def Ag (i : Nat) (U A : Nat → Nat) : Prop := ∀ k, agK i k → U k = A k
theorem Ag.up {k x : Nat} (h : Ag i U A) : Ag i (uN U k x) (uN A k x) := by
  intro j hj
  by_cases c : j = k
  · rw [c, uN_s, uN_s]
  · rw [uN_n c, uN_n c]; exact h j hj
theorem Ag.und (h : Ag i U A) {c : Nat} (hc : c < 30) : sUnd U c = sUnd A c := by
  unfold sUnd
  rw [h c (Or.inl hc), h 59 (by unfold agK; omega), h 46 (by unfold agK; omega), h 58 (by unfold agK; omega)]
theorem Ag.bes (h : Ag i U A) (c d : Nat) : sBes U c d = sBes A c d := by
  unfold sBes
  rw [h 59 (by unfold agK; omega), h 58 (by unfold agK; omega)]
theorem Ag.ahd {B : Nat} (h : Ag i U A) (hW : Wf B A) (hc : A (30 + i) < A 58 * A 59) (d : Nat) : sAhd U i d = sAhd A i d := by
  have c30 := hW.cells
  unfold sAhd
  rw [h (30 + i) (by unfold agK; omega), h.bes]
  cases hb : sBes A (A (30 + i)) d with
  | none => rfl
  | some e =>
    have he := sBes_lt hW.2.1 hc hb
    have hu := h.und (c := e) (by omega)
    unfold sLie
    simp only [h e (Or.inl (by omega)), hu]
theorem Ag.turn {B : Nat} (h : Ag i U A) (hW : Wf B A) (hc : A (30 + i) < A 58 * A 59) : sTurn T U i = sTurn T A i := by
  unfold sTurn
  simp only [h.ahd hW hc, h (34 + i) (by unfold agK; omega), h (38 + i) (by unfold agK; omega), h (50 + i) (by unfold agK; omega), h 49 (by unfold agK; omega)]
theorem Ag.go {B : Nat} (h : Ag i U A) (hW : Wf B A) (hc : A (30 + i) < A 58 * A 59) (l : Nat) : Ag i (sGo U i l) (sGo A i l) := by
  unfold sGo
  rw [h.ahd hW hc, h (30 + i) (by unfold agK; omega), h (38 + i) (by unfold agK; omega), h.bes]
  split
  · exact h.up
  · split
    · exact h.up.up.up.up
    · split
      · exact h.up.up.up.up
      · exact h.up.up.up
theorem Ag.step {B : Nat} (h : Ag i U A) (hW : Wf B A) (hc : A (30 + i) < A 58 * A 59) : Ag i (sStep T U i) (sStep T A i) := by
  unfold sStep
  rw [h.turn hW hc]; exact h.go hW hc _
theorem Ag.pk {B : Nat} (hT : TLt T) (h : Ag i U A) (hW : Wf B A) (hi : i < A 60) : ∀ k, B + k < 1000000 → Ag i (sPk T i U k) (sPk T i A k) := by
  intro k
  induction k with
  | zero => intro _; exact h
  | succ k ih =>
    intro hk
    have h1 := ih (by omega)
    have hW1 := sPk_wf hT hW hi k (by omega)
    have h4 : i < 4 := by have := hW.2.2.2.1.2; omega
    have k60 : sPk T i A k 60 = A 60 := sPk_fix h4 60 (by omega)
    have hc := (hW1.2.2.2.2.2.2.2.2.2.2 i (by omega)).1
    rw [sPk_s, sPk_s, h1 (42 + i) (by unfold agK; omega)]
    split
    · exact h1.step hW1 hc
    · exact h1
theorem Ag.goer {B : Nat} (hT : TLt T) (h : Ag i U A) (hW : Wf B A) (hB : B < 900000) (hi : i < A 60) : Ag i (sGoer T U i) (sGoer T A i) := by
  have h4 : i < 4 := by have := hW.2.2.2.1.2; omega
  have hc := (hW.2.2.2.2.2.2.2.2.2.2 i hi).1
  have c30 := hW.cells
  have hp := (hW.2.2.2.2.2.2.2.2.2.1 i h4).2.2.2.2.1
  unfold sGoer sPace
  rw [h (42 + i) (by unfold agK; omega), h (30 + i) (by unfold agK; omega)]
  by_cases c0 : A (42 + i) = 0
  · rw [if_pos c0, if_pos c0]
    have hu := h.und (c := A (30 + i)) (by omega)
    by_cases c1 : sUnd A (A (30 + i))
    · rw [if_pos c1, if_pos (hu.symm ▸ c1)]
      have hW2 : Wf B (uN A (42 + i) 2) := hW.up (by omega) (by omega) (by omega) (by omega) (by omega) (by omega) (by omega) (by omega) (by omega) (by omega) (by omega) (by omega) (by omega)
      rw [uN_n (show 50 + i ≠ 42 + i by omega), uN_n (show 50 + i ≠ 42 + i by omega), h (50 + i) (by unfold agK; omega)]
      exact (h.up (k := 42 + i) (x := 2)).pk hT hW2 (by rw [uN_n (by omega)]; exact hi) _ (by omega)
    · rw [if_neg c1, if_neg (fun hh => c1 (hu ▸ hh)), h (50 + i) (by unfold agK; omega)]
      exact h.pk hT hW hi _ (by omega)
  · rw [if_neg c0, if_neg c0]; exact h
theorem sAll_one {m : Nat} (hm : m ≤ 4) (hi : i < 4) (ho : ∀ j, j < m → j ≠ i → ¬ A (42 + j) = 0) : ∀ n, n ≤ m → sAll T A n = if i < n then sGoer T A i else A := by
  intro n
  induction n with
  | zero => intro _; rfl
  | succ n ih =>
    intro hn
    rw [sAll_s, ih (by omega)]
    by_cases c : i < n
    · rw [if_pos c, if_pos (by omega)]
      have : ¬ sGoer T A i (42 + n) = 0 := by rw [sGoer_o hi (by omega) (by omega)]; exact ho n (by omega) (by omega)
      show (if sGoer T A i (42 + n) = 0 then _ else _) = _
      rw [if_neg this]
    · rw [if_neg c]
      by_cases c2 : n = i
      · subst c2; rw [if_pos (by omega)]
      · rw [if_neg (by omega)]
        show (if A (42 + n) = 0 then _ else _) = _
        rw [if_neg (ho n (by omega) c2)]
theorem cnt_one {m : Nat} (hm : m ≤ 4) (ho : ∀ j, j < m → j ≠ i → ¬ A (42 + j) = 0) (c : Nat) : ∀ n, n ≤ m → it (fun i a => if sOn A c i then a + 1 else a) n 0 ≤ (if i < n then 1 else 0) := by
  intro n
  induction n with
  | zero => intro _; exact Nat.zero_le _
  | succ n ih =>
    intro hn
    have h1 := ih (by omega)
    show (if sOn A c n then it (fun i a => if sOn A c i then a + 1 else a) n 0 + 1 else it (fun i a => if sOn A c i then a + 1 else a) n 0) ≤ _
    by_cases c2 : n = i
    · subst c2
      rw [if_neg (show ¬ n < n by omega)] at h1
      rw [if_pos (show n < n + 1 by omega)]
      split <;> omega
    · rw [if_neg (fun hh => ho n (by omega) c2 hh.1)]
      by_cases c3 : i < n
      · rw [if_pos c3] at h1; rw [if_pos (show i < n + 1 by omega)]; exact h1
      · rw [if_neg c3] at h1; rw [if_neg (show ¬ i < n + 1 by omega)]; exact h1
theorem Ag.hour {B : Nat} (hT : TLt T) (h : Ag i U A) (hW : Wf B A) (hB : B < 800000) (hi : i < A 60) (ho : ∀ j, j < A 60 → j ≠ i → ¬ A (42 + j) = 0) : Ag i (uN (sGoer T U i) 49 (U 49 + 1)) (sHour T A) ∧ ∀ j, j < A 60 → j ≠ i → ¬ sHour T A (42 + j) = 0 := by
  have h60 := hW.2.2.2.1.2
  have h4 : i < 4 := by omega
  have e1 : sAll T A (A 60) = sGoer T A i := by rw [sAll_one h60 h4 ho _ (Nat.le_refl _), if_pos hi]
  have o1 : ∀ j, j < A 60 → j ≠ i → ¬ sGoer T A i (42 + j) = 0 := fun j hj hji => by rw [sGoer_o h4 (by omega) hji]; exact ho j hj hji
  have k60 : sGoer T A i 60 = A 60 := sGoer_fix h4 60 (by omega)
  have e2 : sTurned (sGoer T A i) (A 60) = sGoer T A i := by
    funext k
    unfold sTurned
    refine if_neg (fun hh => ?_)
    have := cnt_one (A := sGoer T A i) h60 o1 (sGoer T A i (30 + (k - 34))) (A 60) (Nat.le_refl _)
    have hc : sCnt (sGoer T A i) (sGoer T A i (30 + (k - 34))) = it (fun i' a => if sOn (sGoer T A i) (sGoer T A i (30 + (k - 34))) i' then a + 1 else a) (A 60) 0 := by unfold sCnt; rw [k60]
    rw [← hc] at this
    rw [if_pos hi] at this
    omega
  refine ⟨?_, fun j hj hji => by rw [sHour_how (by omega) h60 (ho j hj hji)]; exact ho j hj hji⟩
  have hg := h.goer hT hW (by omega) hi
  intro k hk
  unfold sHour
  rw [e1, e2]
  by_cases c : k = 49
  · subst c; rw [uN_s, uN_s, h 49 (by unfold agK; omega)]
  · rw [uN_n c, uN_n c, uN_n (by unfold agK at hk; omega)]; exact hg k hk
/-- the reference's way of one goer -/
def rU (T : sT) (i : Nat) (U : Nat → Nat) (n : Nat) : Nat → Nat := it (fun _ W => uN (sGoer T W i) 49 (W 49 + 1)) n U
theorem rU_s (T : sT) (i : Nat) (U : Nat → Nat) (n : Nat) : rU T i U (n + 1) = uN (sGoer T (rU T i U n) i) 49 (rU T i U n 49 + 1) := rfl
theorem rU_ag {B : Nat} (hT : TLt T) (h : Ag i U A) (hW : Wf B A) (hi : i < A 60) (ho : ∀ j, j < A 60 → j ≠ i → ¬ A (42 + j) = 0) : ∀ n, B + 20 * n < 800000 → Ag i (rU T i U n) (sHrs T A n) ∧ ∀ j, j < A 60 → j ≠ i → ¬ sHrs T A n (42 + j) = 0 := by
  intro n
  induction n with
  | zero => intro _; exact ⟨h, ho⟩
  | succ n ih =>
    intro hn
    obtain ⟨h1, h2⟩ := ih (by omega)
    have hW1 := sHrs_wf hT hW n (by omega)
    have k60 : sHrs T A n 60 = A 60 := sHrs_60 hW.2.2.2.1.2 n 60 (by omega)
    rw [rU_s, sHrs_s]
    have := h1.hour hT hW1 (by omega) (by omega) (by rw [k60]; exact h2)
    rw [k60] at this; exact this
end US
