/-! ways: how the dry cells are reached -/
section US
variable {V : Nat → Nat} {dry : Nat}
theorem dry_t : ∀ n e, (sDry V n).testBit e = true ↔ e < n ∧ sDryP V e := by
  intro n
  induction n with
  | zero => intro e; show (0 : Nat).testBit e = true ↔ _; rw [Nat.zero_testBit]; exact ⟨fun h => absurd h (by decide), fun h => absurd h.1 (Nat.not_lt_zero _)⟩
  | succ n ih =>
    intro e
    show (if sDryP V n then sDry V n ||| 2 ^ n else sDry V n).testBit e = true ↔ _
    by_cases c : sDryP V n
    · rw [if_pos c, Nat.testBit_or, Bool.or_eq_true, ih, Nat.testBit_two_pow, decide_eq_true_eq]
      constructor
      · rintro (h | h)
        · exact ⟨by omega, h.2⟩
        · subst h; exact ⟨by omega, c⟩
      · intro h
        by_cases ce : n = e
        · exact Or.inr ce
        · exact Or.inl ⟨by omega, h.2⟩
    · rw [if_neg c, ih]
      constructor
      · intro h; exact ⟨by omega, h.2⟩
      · intro h
        by_cases ce : n = e
        · subst ce; exact absurd h.2 c
        · exact ⟨by omega, h.2⟩
theorem wid1_t {c : Nat} : ∀ n wd e, (sWid1 V dry c n wd).testBit e = true ↔ wd.testBit e = true ∨ (dry.testBit e = true ∧ ∃ d, d < n ∧ sBes V c d = some e) := by
  intro n
  induction n with
  | zero => intro wd e; exact ⟨Or.inl, fun h => h.elim id (fun h => by obtain ⟨_, d, hd, _⟩ := h; exact absurd hd (Nat.not_lt_zero _))⟩
  | succ n ih =>
    intro wd e
    show (match sBes V c n with | none => sWid1 V dry c n wd | some e => sWid1 V dry c n wd ||| (2 ^ e &&& dry)).testBit e = true ↔ _
    cases hb : sBes V c n with
    | none =>
      show (sWid1 V dry c n wd).testBit e = true ↔ _
      rw [ih]
      constructor
      · rintro (h | ⟨h1, d, hd, h2⟩)
        · exact Or.inl h
        · exact Or.inr ⟨h1, d, by omega, h2⟩
      · rintro (h | ⟨h1, d, hd, h2⟩)
        · exact Or.inl h
        · by_cases cd : d = n
          · subst cd; rw [hb] at h2; cases h2
          · exact Or.inr ⟨h1, d, by omega, h2⟩
    | some f =>
      show (sWid1 V dry c n wd ||| (2 ^ f &&& dry)).testBit e = true ↔ _
      rw [Nat.testBit_or, Bool.or_eq_true, ih, Nat.testBit_and, Bool.and_eq_true, Nat.testBit_two_pow, decide_eq_true_eq]
      constructor
      · rintro ((h | ⟨h1, d, hd, h2⟩) | ⟨h1, h2⟩)
        · exact Or.inl h
        · exact Or.inr ⟨h1, d, by omega, h2⟩
        · subst h1; exact Or.inr ⟨h2, n, by omega, hb⟩
      · rintro (h | ⟨h1, d, hd, h2⟩)
        · exact Or.inl (Or.inl h)
        · by_cases cd : d = n
          · subst cd; rw [hb] at h2
            have : f = e := by injection h2
            exact Or.inr ⟨this, h1⟩
          · exact Or.inl (Or.inr ⟨h1, d, by omega, h2⟩)
theorem wid_t {bits : Nat} : ∀ n e, (sWid V bits dry n).testBit e = true ↔ bits.testBit e = true ∨ (dry.testBit e = true ∧ ∃ c, c < n ∧ bits.testBit c = true ∧ ∃ d, d < 4 ∧ sBes V c d = some e) := by
  intro n
  induction n with
  | zero => intro e; exact ⟨Or.inl, fun h => h.elim id (fun h => by obtain ⟨_, c, hc, _⟩ := h; exact absurd hc (Nat.not_lt_zero _))⟩
  | succ n ih =>
    intro e
    show (if bits.testBit n then sWid1 V dry n 4 (sWid V bits dry n) else sWid V bits dry n).testBit e = true ↔ _
    by_cases cb : bits.testBit n = true
    · rw [if_pos cb, wid1_t, ih]
      constructor
      · rintro ((h | ⟨h1, c, hc, h2⟩) | ⟨h1, h2⟩)
        · exact Or.inl h
        · exact Or.inr ⟨h1, c, by omega, h2⟩
        · exact Or.inr ⟨h1, n, by omega, cb, h2⟩
      · rintro (h | ⟨h1, c, hc, h2, h3⟩)
        · exact Or.inl (Or.inl h)
        · by_cases cc : c = n
          · subst cc; exact Or.inr ⟨h1, h3⟩
          · exact Or.inl (Or.inr ⟨h1, c, by omega, h2, h3⟩)
    · rw [if_neg cb, ih]
      constructor
      · rintro (h | ⟨h1, c, hc, h2⟩)
        · exact Or.inl h
        · exact Or.inr ⟨h1, c, by omega, h2⟩
      · rintro (h | ⟨h1, c, hc, h2, h3⟩)
        · exact Or.inl h
        · by_cases cc : c = n
          · subst cc; exact absurd h2 cb
          · exact Or.inr ⟨h1, c, by omega, h2, h3⟩
theorem rch_s (n bits : Nat) : sRch V dry (n + 1) bits = sWid V (sRch V dry n bits) dry (V 58 * V 59) := rfl
theorem rch_up {bits e : Nat} {n : Nat} (h : (sRch V dry n bits).testBit e = true) : ∀ m, (sRch V dry (n + m) bits).testBit e = true := by
  intro m
  induction m with
  | zero => exact h
  | succ m ih => rw [show n + (m + 1) = n + m + 1 by omega, rch_s, wid_t]; exact Or.inl ih
theorem rch_stay {bits n : Nat} (h : sRch V dry (n + 1) bits = sRch V dry n bits) : ∀ m, sRch V dry (n + m) bits = sRch V dry n bits := by
  intro m
  induction m with
  | zero => rfl
  | succ m ih => rw [show n + (m + 1) = n + m + 1 by omega, rch_s, ih, ← rch_s]; exact h
theorem pc_mono {a b : Nat} (h : ∀ e, a.testBit e = true → b.testBit e = true) : ∀ n, pc n a ≤ pc n b := by
  intro n
  induction n with
  | zero => exact Nat.le_refl _
  | succ n ih =>
    rw [pc_s, pc_s]
    by_cases c : a.testBit n = true
    · rw [if_pos c, if_pos (h n c)]; omega
    · rw [if_neg c]
      split <;> omega
theorem pc_lt {a b f : Nat} (h : ∀ e, a.testBit e = true → b.testBit e = true) (h1 : ¬ a.testBit f = true) (h2 : b.testBit f = true) : ∀ n, f < n → pc n a < pc n b := by
  intro n
  induction n with
  | zero => intro hf; exact absurd hf (Nat.not_lt_zero _)
  | succ n ih =>
    intro hf
    rw [pc_s, pc_s]
    by_cases cf : f = n
    · subst cf
      have := pc_mono h f
      rw [if_neg h1, if_pos h2]; omega
    · have := ih (by omega)
      by_cases c : a.testBit n = true
      · rw [if_pos c, if_pos (h n c)]; omega
      · rw [if_neg c]
        split <;> omega
theorem pc_1 {a : Nat} : ∀ n, a < n → 1 ≤ pc n (2 ^ a) := by
  intro n
  induction n with
  | zero => intro h; exact absurd h (Nat.not_lt_zero _)
  | succ n ih =>
    intro h
    rw [pc_s]
    by_cases c : a = n
    · subst c; rw [if_pos (by rw [Nat.testBit_two_pow]; exact decide_eq_true rfl)]; omega
    · have := ih (by omega)
      split <;> omega
/-- nobody is reached first at the thirtieth step -/
theorem rch_30 {a b : Nat} (hd : dry < 1073741824) (ha : a < 30) (h : (sRch V dry 30 (2 ^ a)).testBit b = true) : (sRch V dry 29 (2 ^ a)).testBit b = true := by
  refine Classical.byContradiction (fun hno => ?_)
  have lt : ∀ n, sRch V dry n (2 ^ a) < 1073741824 := by
    intro n
    refine Nat.lt_pow_two_of_testBit (n := 30) _ (fun j hj => ?_)
    cases hb : (sRch V dry n (2 ^ a)).testBit j with
    | false => rfl
    | true =>
      exfalso
      have key : ∀ n, (sRch V dry n (2 ^ a)).testBit j = true → False := by
        intro n
        induction n with
        | zero => intro hh; have hh : (2 ^ a).testBit j = true := hh; rw [Nat.testBit_two_pow, decide_eq_true_eq] at hh; omega
        | succ n ih =>
          intro hh
          rw [rch_s, wid_t] at hh
          rcases hh with hh | hh
          · exact ih hh
          · have hh := hh.1
            have : dry.testBit j = false := Nat.testBit_lt_two_pow (Nat.lt_of_lt_of_le hd (Nat.pow_le_pow_right (n := 2) (by omega) hj))
            rw [this] at hh; cases hh
      exact key n hb
  have grow : ∀ n, n ≤ 29 → ¬ sRch V dry (n + 1) (2 ^ a) = sRch V dry n (2 ^ a) := by
    intro n hn he
    have e1 := rch_stay he (29 - n)
    have e2 := rch_stay he (30 - n)
    rw [show n + (29 - n) = 29 by omega] at e1
    rw [show n + (30 - n) = 30 by omega] at e2
    rw [e1] at hno; rw [e2] at h; exact hno h
  have cnt : ∀ n, n ≤ 30 → n + 1 ≤ pc 30 (sRch V dry n (2 ^ a)) := by
    intro n
    induction n with
    | zero => intro _; exact pc_1 30 ha
    | succ n ih =>
      intro hn
      have h1 := ih (by omega)
      have sub : ∀ e, (sRch V dry n (2 ^ a)).testBit e = true → (sRch V dry (n + 1) (2 ^ a)).testBit e = true := fun e he => rch_up he 1
      have : ∃ f, ¬ (sRch V dry n (2 ^ a)).testBit f = true ∧ (sRch V dry (n + 1) (2 ^ a)).testBit f = true := by
        refine Classical.byContradiction (fun hx => grow n (by omega) (Nat.eq_of_testBit_eq (fun i => ?_)))
        cases h2 : (sRch V dry n (2 ^ a)).testBit i with
        | true => exact sub i h2
        | false =>
          cases h3 : (sRch V dry (n + 1) (2 ^ a)).testBit i with
          | false => rfl
          | true => exact absurd ⟨i, by rw [h2]; decide, h3⟩ hx
      obtain ⟨f, f1, f2⟩ := this
      have hf : f < 30 := by
        rcases Nat.lt_or_ge f 30 with hh | hh
        · exact hh
        · have : (sRch V dry (n + 1) (2 ^ a)).testBit f = false := Nat.testBit_lt_two_pow (Nat.lt_of_lt_of_le (lt (n + 1)) (Nat.pow_le_pow_right (n := 2) (by omega) hh))
          rw [this] at f2; cases f2
      have := pc_lt sub f1 f2 30 hf
      omega
  have h1 := cnt 30 (Nat.le_refl _)
  have h2 := pc_le 30 (sRch V dry 30 (2 ^ a))
  omega
/-- the steps to a cell, within n -/
def dst (V : Nat → Nat) (dry a n e : Nat) : Option Nat := ff (fun k => (sRch V dry k (2 ^ a)).testBit e) (n + 1)
theorem dst_s (a n e : Nat) : dst V dry a (n + 1) e = match dst V dry a n e with | some i => some i | none => if (sRch V dry (n + 1) (2 ^ a)).testBit e then some (n + 1) else none := rfl
theorem ff_no {p : Nat → Bool} : ∀ {n : Nat}, ff p n = none → ∀ j, j < n → p j = false := by
  intro n h j hj
  cases hp : p j with
  | false => rfl
  | true =>
    exfalso
    have hx : ∀ m, j < m → ff p m ≠ none := by
      intro m
      induction m with
      | zero => intro hm; exact absurd hm (Nat.not_lt_zero _)
      | succ m ihm =>
        intro hm hh
        have hh : (match ff p m with | some i => some i | none => if p m then some m else none) = none := hh
        cases hg : ff p m with
        | some q => rw [hg] at hh; cases hh
        | none =>
          rw [hg] at hh
          have hh : (if p m then some m else none) = none := hh
          by_cases cm : j = m
          · subst cm; rw [hp] at hh; cases hh
          · exact ihm (by omega) hg
    exact hx n hj h
/-- who is reached at the next step: beside one that was reached at this -/
theorem dst_nx {a n e : Nat} (h : dst V dry a n e = none) : (sRch V dry (n + 1) (2 ^ a)).testBit e = true ↔ dry.testBit e = true ∧ ∃ c d, c < V 58 * V 59 ∧ d < 4 ∧ dst V dry a n c = some n ∧ sBes V c d = some e := by
  have hno := ff_no h
  constructor
  · intro hh
    rw [rch_s, wid_t] at hh
    rcases hh with hh | ⟨h1, c, hc, h2, d, hd, h3⟩
    · rw [hno n (by omega)] at hh; cases hh
    · refine ⟨h1, c, d, hc, hd, ?_, h3⟩
      refine ff_some (p := fun k => (sRch V dry k (2 ^ a)).testBit c) (fun j hj => ?_) h2 (by omega)
      show (sRch V dry j (2 ^ a)).testBit c = false
      cases hb : (sRch V dry j (2 ^ a)).testBit c with
      | false => rfl
      | true =>
        exfalso
        have : (sRch V dry (j + 1) (2 ^ a)).testBit e = true := by rw [rch_s, wid_t]; exact Or.inr ⟨h1, c, hc, hb, d, hd, h3⟩
        rw [hno (j + 1) (by omega)] at this; cases this
  · rintro ⟨h1, c, d, hc, hd, h2, h3⟩
    rw [rch_s, wid_t]
    exact Or.inr ⟨h1, c, hc, (ff_lt h2).2, d, hd, h3⟩
theorem sFew_dst {a b : Nat} (ha : a < 30) (h30 : V 58 * V 59 ≤ 30) : sFew V a b = if (sDry V (V 58 * V 59)).testBit a then dst V (sDry V (V 58 * V 59)) a 30 b else none := by
  unfold sFew
  split
  · unfold dst
    show _ = (match ff (fun n => (sRch V (sDry V (V 58 * V 59)) n (2 ^ a)).testBit b) 30 with | some i => some i | none => if (sRch V (sDry V (V 58 * V 59)) 30 (2 ^ a)).testBit b then some 30 else none)
    cases hf : ff (fun n => (sRch V (sDry V (V 58 * V 59)) n (2 ^ a)).testBit b) 30 with
    | some i => rfl
    | none =>
      show none = if _ then some 30 else none
      rw [if_neg]
      intro hh
      have := rch_30 (sDry_lt h30) ha hh
      rw [ff_no hf 29 (by omega)] at this; cases this
  · rfl
end US
