/-! texts: faults lie within; evenings are well told -/
section PE
variable {b : Nat → Nat} {len : Nat}
theorem pDg_le {p : Nat} (hp : p ≤ len) : (pDg b len p).1 ≤ len := by
  have h := nx_le (b := b) hp
  unfold pDg
  by_cases c : dg b len (nx b len p)
  · rw [if_pos c]; exact c.1
  · rw [if_neg c]; exact h.2
theorem pDg_9 {p d : Nat} (h : (pDg b len p).2 = some d) : d ≤ 9 := by
  unfold pDg at h
  by_cases c : dg b len (nx b len p)
  · rw [if_pos c] at h
    have h : b (nx b len p) - 48 = d := by injection h
    have := c.2.2
    omega
  · rw [if_neg c] at h; cases h
theorem pDs_le {k p : Nat} (hp : p ≤ len) : (pDs b len k p).1 ≤ len := by
  have h1 := pDg_le (b := b) hp
  have h2 := pDg_le (b := b) h1
  unfold pDs
  cases (pDg b len p).2 with
  | none => exact h1
  | some d =>
    dsimp only
    by_cases c : k = 2
    · rw [if_pos c]; exact h1
    · rw [if_neg c]
      cases (pDg b len (pDg b len p).1).2 with
      | none => exact h2
      | some e => exact h2
theorem pDs_w {k p : Nat} {s : eS} (hk : k = 1 ∨ k = 2 ∨ k = 3) (h : (pDs b len k p).2 = some s) : sWell s.1 s.2.1 s.2.2 := by
  unfold pDs at h
  cases h1 : (pDg b len p).2 with
  | none => rw [h1] at h; cases h
  | some d =>
    rw [h1] at h
    dsimp only at h
    have d1 := pDg_9 h1
    by_cases c : k = 2
    · rw [if_pos c] at h; cases h
      exact Or.inr (Or.inr (Or.inl ⟨rfl, d, rfl, d1, rfl⟩))
    · rw [if_neg c] at h
      cases h2 : (pDg b len (pDg b len p).1).2 with
      | none => rw [h2] at h; cases h
      | some e =>
        rw [h2] at h
        dsimp only at h
        have e1 := pDg_9 h2
        by_cases c3 : k = 3
        · rw [if_pos c3] at h; cases h
          exact Or.inr (Or.inr (Or.inr ⟨rfl, d * 10 + e, rfl, by omega, rfl⟩))
        · rw [if_neg c3] at h; cases h
          exact Or.inr (Or.inl ⟨by show k = 1; omega, d, e, rfl, rfl, d1, e1⟩)
theorem pStp_le {p : Nat} (hp : p ≤ len) : (pStp b len p).1 ≤ len := by
  have h := nx_le (b := b) hp
  unfold pStp
  by_cases c1 : sg b len (nx b len p) = some 103
  · rw [if_pos c1]; exact pDs_le (sg_lt c1).1
  rw [if_neg c1]
  by_cases c2 : sg b len (nx b len p) = some 104
  · rw [if_pos c2]; exact (sg_lt c2).1
  rw [if_neg c2]
  by_cases c3 : sg b len (nx b len p) = some 115
  · rw [if_pos c3]; exact pDs_le (sg_lt c3).1
  rw [if_neg c3]
  by_cases c4 : sg b len (nx b len p) = some 116
  · rw [if_pos c4]; exact pDs_le (sg_lt c4).1
  rw [if_neg c4]; exact h.2
theorem pStp_w {p : Nat} {s : eS} (h : (pStp b len p).2 = some s) : sWell s.1 s.2.1 s.2.2 := by
  unfold pStp at h
  by_cases c1 : sg b len (nx b len p) = some 103
  · rw [if_pos c1] at h; exact pDs_w (by omega) h
  rw [if_neg c1] at h
  by_cases c2 : sg b len (nx b len p) = some 104
  · rw [if_pos c2] at h; cases h; exact Or.inl ⟨rfl, rfl, rfl⟩
  rw [if_neg c2] at h
  by_cases c3 : sg b len (nx b len p) = some 115
  · rw [if_pos c3] at h; exact pDs_w (by omega) h
  rw [if_neg c3] at h
  by_cases c4 : sg b len (nx b len p) = some 116
  · rw [if_pos c4] at h; exact pDs_w (by omega) h
  rw [if_neg c4] at h; cases h
theorem pEv_e (n p : Nat) : pEv b len (n + 1) p = match (pStp b len p).2 with
    | none => ((pStp b len p).1, none)
    | some s => if sg b len (nx b len (pStp b len p).1) = none then (nx b len (pStp b len p).1, some [s]) else if n = 0 then (nx b len (pStp b len p).1, none) else
      if sg b len (nx b len (pStp b len p).1) = some 59 then ((pEv b len n (nx b len (pStp b len p).1 + 1)).1, (pEv b len n (nx b len (pStp b len p).1 + 1)).2.map (s :: ·)) else (nx b len (pStp b len p).1, none) := rfl
theorem pEv_le : ∀ n p, p ≤ len → (pEv b len n p).1 ≤ len := by
  intro n
  induction n with
  | zero => intro p hp; exact hp
  | succ n ih =>
    intro p hp
    have h1 := pStp_le (b := b) hp
    have h2 := nx_le (b := b) h1
    rw [pEv_e]
    cases (pStp b len p).2 with
    | none => exact h1
    | some s =>
      dsimp only
      by_cases c1 : sg b len (nx b len (pStp b len p).1) = none
      · rw [if_pos c1]; exact h2.2
      rw [if_neg c1]
      by_cases c2 : n = 0
      · rw [if_pos c2]; exact h2.2
      rw [if_neg c2]
      by_cases c3 : sg b len (nx b len (pStp b len p).1) = some 59
      · rw [if_pos c3]; exact ih _ (sg_lt c3).1
      rw [if_neg c3]; exact h2.2
theorem pEv_w : ∀ n p E, (pEv b len n p).2 = some E → E.length ≤ n ∧ ∀ s ∈ E, sWell s.1 s.2.1 s.2.2 := by
  intro n
  induction n with
  | zero => intro p E h; cases h
  | succ n ih =>
    intro p E h
    rw [pEv_e] at h
    cases h1 : (pStp b len p).2 with
    | none => rw [h1] at h; cases h
    | some s =>
      rw [h1] at h
      dsimp only at h
      have hw := pStp_w h1
      by_cases c1 : sg b len (nx b len (pStp b len p).1) = none
      · rw [if_pos c1] at h; cases h
        refine ⟨by show 1 ≤ n + 1; omega, fun t ht => ?_⟩
        rw [List.mem_singleton] at ht
        rw [ht]; exact hw
      rw [if_neg c1] at h
      by_cases c2 : n = 0
      · rw [if_pos c2] at h; cases h
      rw [if_neg c2] at h
      by_cases c3 : sg b len (nx b len (pStp b len p).1) = some 59
      · rw [if_pos c3] at h
        dsimp only at h
        cases h3 : (pEv b len n (nx b len (pStp b len p).1 + 1)).2 with
        | none => rw [h3] at h; cases h
        | some E' =>
          rw [h3] at h
          cases h
          obtain ⟨k1, k2⟩ := ih _ _ h3
          refine ⟨by show E'.length + 1 ≤ n + 1; omega, fun t ht => ?_⟩
          rcases List.mem_cons.mp ht with e | e
          · rw [e]; exact hw
          · exact k2 t e
      rw [if_neg c3] at h; cases h
theorem pIt_le {t : Nat → Nat} : ∀ n u p v, p ≤ len → (pIt b len t n u p v).1 ≤ len := by
  intro n
  induction n with
  | zero => intro u p v hp; exact hp
  | succ n ih =>
    intro u p v hp
    have e : pIt b len t (n + 1) u p v = match (sg b len (nx b len p)).bind (itm t) with
      | none => if sg b len (nx b len p) = some 59 ∨ sg b len (nx b len p) = none then (nx b len p, some v) else (nx b len p, none)
      | some i => if u.testBit i then (nx b len p, none) else
        if ¬ (nx b len (nx b len p + 1) < (numV b len 2 (nx b len (nx b len p + 1)) 0).1 ∧ ¬ dg b len (numV b len 2 (nx b len (nx b len p + 1)) 0).1) then ((numV b len 2 (nx b len (nx b len p + 1)) 0).1, none) else
        if (numV b len 2 (nx b len (nx b len p + 1)) 0).2 < t (i * 4 + 1) ∨ t (i * 4 + 2) < (numV b len 2 (nx b len (nx b len p + 1)) 0).2 then ((numV b len 2 (nx b len (nx b len p + 1)) 0).1 - 1, none) else
        pIt b len t n (u ||| 2 ^ i) (numV b len 2 (nx b len (nx b len p + 1)) 0).1 (uN v i (numV b len 2 (nx b len (nx b len p + 1)) 0).2) := rfl
    have h1 := nx_le (b := b) hp
    rw [e]
    cases hs : (sg b len (nx b len p)).bind (itm t) with
    | none =>
      dsimp only
      by_cases c1 : sg b len (nx b len p) = some 59 ∨ sg b len (nx b len p) = none
      · rw [if_pos c1]; exact h1.2
      · rw [if_neg c1]; exact h1.2
    | some i =>
      dsimp only
      have hlt : nx b len p + 1 ≤ len := by
        cases hc : sg b len (nx b len p) with
        | none => rw [hc] at hs; cases hs
        | some c => exact (sg_lt hc).1
      have h2 := nx_le (b := b) hlt
      have h3 := numV_le (b := b) 2 (nx b len (nx b len p + 1)) 0 h2.2
      by_cases c1 : u.testBit i
      · rw [if_pos c1]; exact h1.2
      rw [if_neg c1]
      by_cases c2 : ¬ (nx b len (nx b len p + 1) < (numV b len 2 (nx b len (nx b len p + 1)) 0).1 ∧ ¬ dg b len (numV b len 2 (nx b len (nx b len p + 1)) 0).1)
      · rw [if_pos c2]; exact h3.2
      rw [if_neg c2]
      by_cases c3 : (numV b len 2 (nx b len (nx b len p + 1)) 0).2 < t (i * 4 + 1) ∨ t (i * 4 + 2) < (numV b len 2 (nx b len (nx b len p + 1)) 0).2
      · rw [if_pos c3]
        show (numV b len 2 (nx b len (nx b len p + 1)) 0).1 - 1 ≤ len
        omega
      rw [if_neg c3]
      exact ih _ _ _ h3.2
theorem pRow_le {o : Nat} : ∀ n j p K, p ≤ len → (pRow b len o n j p K).1 ≤ len := by
  intro n
  induction n with
  | zero => intro j p K hp; exact hp
  | succ n ih =>
    intro j p K hp
    have e : pRow b len o (n + 1) j p K = if dg b len (nx b len p) then (if b (nx b len p) - 48 ≤ 3 then pRow b len o n (j + 1) (nx b len p + 1) (uN K (o + j) (b (nx b len p) - 48)) else (nx b len p, none)) else (nx b len p, some (j, K)) := rfl
    have h1 := nx_le (b := b) hp
    rw [e]
    by_cases hd : dg b len (nx b len p)
    · rw [if_pos hd]
      by_cases c3 : b (nx b len p) - 48 ≤ 3
      · rw [if_pos c3]; exact ih _ _ _ hd.1
      · rw [if_neg c3]; exact h1.2
    · rw [if_neg hd]; exact h1.2
theorem pCl_le {s : SH} {p : Nat} (hp : p ≤ len) : (pCl b len s p).1 ≤ len := by
  have h1 := nx_le (b := b) hp
  unfold pCl
  by_cases c1 : sg b len (nx b len p) = some 115 ∧ s.hr = false
  · rw [if_pos c1]; exact pIt_le _ _ _ _ (sg_lt c1.1).1
  rw [if_neg c1]
  by_cases c2 : sg b len (nx b len p) = some 114 ∧ s.rn < 5
  · rw [if_pos c2]; exact pRow_le _ _ _ _ (sg_lt c2.1).1
  rw [if_neg c2]
  by_cases c3 : sg b len (nx b len p) = some 103 ∧ s.gn < 4
  · rw [if_pos c3]; exact pIt_le _ _ _ _ (sg_lt c3.1).1
  rw [if_neg c3]; exact h1.2
theorem pSh_le : ∀ n s p, p ≤ len → (pSh b len n s p).1 ≤ len := by
  intro n
  induction n with
  | zero => intro s p hp; exact hp
  | succ n ih =>
    intro s p hp
    have e : pSh b len (n + 1) s p = match (pCl b len s p).2 with
      | none => ((pCl b len s p).1, none)
      | some S => if sg b len (nx b len (pCl b len s p).1) = none then (nx b len (pCl b len s p).1, if sAgr S then some S else none) else
        if sg b len (nx b len (pCl b len s p).1) = some 59 then pSh b len n S (nx b len (pCl b len s p).1 + 1) else (nx b len (pCl b len s p).1, none) := rfl
    have h1 := pCl_le (b := b) (s := s) hp
    have h2 := nx_le (b := b) h1
    rw [e]
    cases (pCl b len s p).2 with
    | none => exact h1
    | some S =>
      dsimp only
      by_cases c1 : sg b len (nx b len (pCl b len s p).1) = none
      · rw [if_pos c1]; exact h2.2
      rw [if_neg c1]
      by_cases c2 : sg b len (nx b len (pCl b len s p).1) = some 59
      · rw [if_pos c2]; exact ih _ _ (sg_lt c2).1
      rw [if_neg c2]; exact h2.2
theorem pLaw_le : ∀ n p acc, p ≤ len → (pLaw b len n p acc).1 ≤ len := by
  intro n
  induction n with
  | zero => intro p acc hp; exact hp
  | succ n ih =>
    intro p acc hp
    rw [pLaw]
    by_cases c1 : sg b len p = some 121
    · rw [if_pos c1]
      have h2 := nx_le (b := b) (show p + 1 ≤ len from (sg_lt c1).1)
      by_cases c2 : sg b len (nx b len (p + 1)) = some 58
      · rw [if_pos c2]
        have h3 := nx_le (b := b) (show nx b len (p + 1) + 1 ≤ len from (sg_lt c2).1)
        have h4 := pClause_good (b := b) h3.2
        generalize pClause b len (nx b len (nx b len (p + 1) + 1)) = q at *
        obtain ⟨q, o⟩ := q
        have h5 : q ≤ len := h4.2.1
        clear h4
        cases o with
        | none => exact h5
        | some cv =>
          obtain ⟨c, i, v⟩ := cv
          dsimp only
          by_cases c3 : sg b len q = none
          · rw [if_pos c3]; exact h5
          rw [if_neg c3]
          by_cases c4 : sg b len q = some 59
          · rw [if_pos c4]
            exact ih _ _ (nx_le (b := b) (show q + 1 ≤ len from (sg_lt c4).1)).2
          rw [if_neg c4]; exact h5
      · rw [if_neg c2]; exact h2.2
    · rw [if_neg c1]; exact hp
theorem pLawT_le : (pLawT b len).1 ≤ len := pLaw_le _ _ _ (nx_le (Nat.zero_le _)).2
end PE
/-- a fault is told as one -/
theorem ft_m {l : List Nat} (hl : l.length ≤ 240) {x : Int32} (h : ft l x = -1) : (x = 0 ∧ ∃ S, (pSh (tb l) l.length 11 sh0 0).2 = some S) ∨ (x = 1 ∧ ∃ d, (pLawT (tb l) l.length).2 = some d) ∨ (x = 2 ∧ ∃ E, (pEv (tb l) l.length 16 0).2 = some E) := by
  have no : ∀ p, p ≤ l.length → ¬ nI p = -nI 1 := fun p hp hh => by rw [m_eq (by omega)] at hh; exact hh
  have h : ft l x = -nI 1 := h
  unfold ft at h
  by_cases x0 : x = 0
  · rw [if_pos x0] at h
    cases hs : (pSh (tb l) l.length 11 sh0 0).2 with
    | none => rw [if_pos hs] at h; exact absurd h (no _ (pSh_le _ _ _ (Nat.zero_le _)))
    | some S => exact Or.inl ⟨x0, S, rfl⟩
  rw [if_neg x0] at h
  by_cases x1 : x = 1
  · rw [if_pos x1] at h
    cases hs : (pLawT (tb l) l.length).2 with
    | none => rw [if_pos hs] at h; exact absurd h (no _ pLawT_le)
    | some S => exact Or.inr (Or.inl ⟨x1, S, rfl⟩)
  rw [if_neg x1] at h
  by_cases x2 : x = 2
  · rw [if_pos x2] at h
    cases hs : (pEv (tb l) l.length 16 0).2 with
    | none => rw [if_pos hs] at h; exact absurd h (no _ (pEv_le _ _ (Nat.zero_le _)))
    | some S => exact Or.inr (Or.inr ⟨x2, S, rfl⟩)
  rw [if_neg x2] at h
  exact absurd h (by decide)
