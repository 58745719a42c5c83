/-! what texts of shores tell is within bounds -/
theorem pIt_ok {b : Nat → Nat} {len : Nat} {t : Nat → Nat} : ∀ n u p v v', (∀ i, i < 4 → t (i * 4 + 1) ≤ v i ∧ v i ≤ t (i * 4 + 2)) → (pIt b len t n u p v).2 = some v' → ∀ i, i < 4 → t (i * 4 + 1) ≤ v' i ∧ v' i ≤ t (i * 4 + 2) := by
  intro n
  induction n with
  | zero => intro u p v v' h hv; cases hv; exact h
  | succ n ih =>
    intro u p v v' h hv
    have e : pIt b len t (n + 1) u p v = match (sg b len (nx b len p)).bind (itm t) with
      | none => if sg b len (nx b len p) = some 59 ∨ sg b len (nx b len p) = none then (nx b len p, some v) else (nx b len p, none)
      | some i => if u.testBit i then (nx b len p, none) else
        if ¬ (nx b len (nx b len p + 1) < (numV b len 2 (nx b len (nx b len p + 1)) 0).1 ∧ ¬ dg b len (numV b len 2 (nx b len (nx b len p + 1)) 0).1) then ((numV b len 2 (nx b len (nx b len p + 1)) 0).1, none) else
        if (numV b len 2 (nx b len (nx b len p + 1)) 0).2 < t (i * 4 + 1) ∨ t (i * 4 + 2) < (numV b len 2 (nx b len (nx b len p + 1)) 0).2 then ((numV b len 2 (nx b len (nx b len p + 1)) 0).1 - 1, none) else
        pIt b len t n (u ||| 2 ^ i) (numV b len 2 (nx b len (nx b len p + 1)) 0).1 (uN v i (numV b len 2 (nx b len (nx b len p + 1)) 0).2) := rfl
    rw [e] at hv
    cases hs : (sg b len (nx b len p)).bind (itm t) with
    | none =>
      rw [hs] at hv
      dsimp only at hv
      by_cases c1 : sg b len (nx b len p) = some 59 ∨ sg b len (nx b len p) = none
      · rw [if_pos c1] at hv; cases hv; exact h
      · rw [if_neg c1] at hv; cases hv
    | some i =>
      rw [hs] at hv
      dsimp only at hv
      by_cases c1 : u.testBit i
      · rw [if_pos c1] at hv; cases hv
      rw [if_neg c1] at hv
      by_cases c2 : ¬ (nx b len (nx b len p + 1) < (numV b len 2 (nx b len (nx b len p + 1)) 0).1 ∧ ¬ dg b len (numV b len 2 (nx b len (nx b len p + 1)) 0).1)
      · rw [if_pos c2] at hv; cases hv
      rw [if_neg c2] at hv
      by_cases c3 : (numV b len 2 (nx b len (nx b len p + 1)) 0).2 < t (i * 4 + 1) ∨ t (i * 4 + 2) < (numV b len 2 (nx b len (nx b len p + 1)) 0).2
      · rw [if_pos c3] at hv; cases hv
      rw [if_neg c3] at hv
      refine ih _ _ _ _ (fun k hk => ?_) hv
      unfold uN
      by_cases hki : k = i
      · rw [if_pos hki, hki]; omega
      · rw [if_neg hki]; exact h k hk
theorem pRow_ok {b : Nat → Nat} {len o : Nat} : ∀ n j p K R, n + j = 6 → (∀ c, K c ≤ 3) → (pRow b len o n j p K).2 = some R → R.1 ≤ 6 ∧ ∀ c, R.2 c ≤ 3 := by
  intro n
  induction n with
  | zero => intro j p K R hn h hR; cases hR; exact ⟨by show j ≤ 6; omega, h⟩
  | succ n ih =>
    intro j p K R hn h hR
    have e : pRow b len o (n + 1) j p K = if dg b len (nx b len p) then (if b (nx b len p) - 48 ≤ 3 then pRow b len o n (j + 1) (nx b len p + 1) (uN K (o + j) (b (nx b len p) - 48)) else (nx b len p, none)) else (nx b len p, some (j, K)) := rfl
    rw [e] at hR
    by_cases hd : dg b len (nx b len p)
    · rw [if_pos hd] at hR
      by_cases c3 : b (nx b len p) - 48 ≤ 3
      · rw [if_pos c3] at hR
        exact ih _ _ _ _ (by omega) (fun c => by unfold uN; split; exact c3; exact h c) hR
      · rw [if_neg c3] at hR; cases hR
    · rw [if_neg hd] at hR; cases hR; exact ⟨by show j ≤ 6; omega, h⟩
def ShB (s : SH) : Prop := ShOk s ∧ s.gn ≤ 4 ∧ s.rn ≤ 5 ∧ (∀ c, s.rk c ≤ 3) ∧ ∀ i, i < s.rn → s.rl i ≤ 6
theorem sh0_ok : ShB sh0 := by
  have e : ∀ i, i < 4 → tS (i * 4 + 1) ≤ tS (i * 4 + 3) ∧ tS (i * 4 + 3) ≤ tS (i * 4 + 2) := by decide
  exact ⟨⟨e, fun j hj => absurd hj (Nat.not_lt_zero _)⟩, Nat.zero_le _, Nat.zero_le _, fun _ => Nat.zero_le _, fun i hi => absurd hi (Nat.not_lt_zero _)⟩
theorem pCl_ok {b : Nat → Nat} {len p : Nat} {s S : SH} (h : ShB s) (hS : (pCl b len s p).2 = some S) : ShB S ∧ S.gn + S.rn + (if S.hr then 1 else 0) = s.gn + s.rn + (if s.hr then 1 else 0) + 1 := by
  obtain ⟨⟨h1, h2⟩, h3, h4, h5, h6⟩ := h
  unfold pCl at hS
  by_cases c1 : sg b len (nx b len p) = some 115 ∧ s.hr = false
  · rw [if_pos c1] at hS
    cases hv : (pIt b len tS 4 0 (nx b len p + 1) (fun i => tS (i * 4 + 3))).2 with
    | none => dsimp only at hS; rw [hv] at hS; cases hS
    | some v =>
      dsimp only at hS
      rw [hv] at hS
      cases hS
      have e : ∀ i, i < 4 → tS (i * 4 + 1) ≤ tS (i * 4 + 3) ∧ tS (i * 4 + 3) ≤ tS (i * 4 + 2) := by decide
      refine ⟨⟨⟨pIt_ok _ _ _ _ _ e hv, h2⟩, h3, h4, h5, h6⟩, ?_⟩
      rw [c1.2]
      rfl
  rw [if_neg c1] at hS
  by_cases c2 : sg b len (nx b len p) = some 114 ∧ s.rn < 5
  · rw [if_pos c2] at hS
    cases hv : (pRow b len (s.rn * 6) 6 0 (nx b len p + 1) s.rk).2 with
    | none => dsimp only at hS; rw [hv] at hS; cases hS
    | some R =>
      dsimp only at hS
      rw [hv] at hS
      cases hS
      obtain ⟨k1, k2⟩ := pRow_ok _ _ _ _ _ rfl h5 hv
      refine ⟨⟨⟨h1, h2⟩, h3, by show s.rn + 1 ≤ 5; omega, k2, fun i hi => ?_⟩, by show s.gn + (s.rn + 1) + _ = _; rw [← Nat.add_assoc, Nat.add_right_comm]⟩
      show uN s.rl s.rn R.1 i ≤ 6
      have hi : i < s.rn + 1 := hi
      unfold uN
      split
      · exact k1
      · exact h6 i (by omega)
  rw [if_neg c2] at hS
  by_cases c3 : sg b len (nx b len p) = some 103 ∧ s.gn < 4
  · rw [if_pos c3] at hS
    cases hv : (pIt b len tG 4 0 (nx b len p + 1) (fun i => tG (i * 4 + 3))).2 with
    | none => dsimp only at hS; rw [hv] at hS; cases hS
    | some v =>
      dsimp only at hS
      rw [hv] at hS
      cases hS
      have e : ∀ i, i < 4 → tG (i * 4 + 1) ≤ tG (i * 4 + 3) ∧ tG (i * 4 + 3) ≤ tG (i * 4 + 2) := by decide
      have k1 := pIt_ok _ _ _ _ _ e hv
      refine ⟨⟨⟨h1, fun j hj => ?_⟩, by show s.gn + 1 ≤ 4; omega, h4, h5, h6⟩, by show s.gn + 1 + s.rn + _ = _; rw [Nat.add_right_comm s.gn 1, Nat.add_right_comm]⟩
      show tG (j % 4 * 4 + 1) ≤ (if j / 4 = s.gn then v (j % 4) else s.go j) ∧ (if j / 4 = s.gn then v (j % 4) else s.go j) ≤ tG (j % 4 * 4 + 2)
      have hj : j < 4 * (s.gn + 1) := hj
      split
      · exact k1 (j % 4) (by omega)
      · exact h2 j (by omega)
  rw [if_neg c3] at hS
  cases hS
theorem pSh_ok {b : Nat → Nat} {len : Nat} : ∀ n s p S, ShB s → (pSh b len n s p).2 = some S → ShB S ∧ sAgr S := by
  intro n
  induction n with
  | zero => intro s p S _ h; cases h
  | succ n ih =>
    intro s p S hs h
    have e : pSh b len (n + 1) s p = match (pCl b len s p).2 with
      | none => ((pCl b len s p).1, none)
      | some S => if sg b len (nx b len (pCl b len s p).1) = none then (nx b len (pCl b len s p).1, if sAgr S then some S else none) else
        if sg b len (nx b len (pCl b len s p).1) = some 59 then pSh b len n S (nx b len (pCl b len s p).1 + 1) else (nx b len (pCl b len s p).1, none) := rfl
    rw [e] at h
    cases hc : (pCl b len s p).2 with
    | none => rw [hc] at h; cases h
    | some S1 =>
      have k1 := pCl_ok hs hc
      rw [hc] at h
      dsimp only at h
      by_cases c1 : sg b len (nx b len (pCl b len s p).1) = none
      · rw [if_pos c1] at h
        dsimp only at h
        by_cases ca : sAgr S1
        · rw [if_pos ca] at h; cases h; exact ⟨k1.1, ca⟩
        · rw [if_neg ca] at h; cases h
      rw [if_neg c1] at h
      by_cases c2 : sg b len (nx b len (pCl b len s p).1) = some 59
      · rw [if_pos c2] at h; exact ih _ _ _ k1.1 h
      · rw [if_neg c2] at h; cases h
theorem shV_wf {s : SH} (h : ShB s) (hA : sAgr s) : Wf 0 (shV s) := by
  obtain ⟨⟨h1, h2⟩, h3, h4, h5, h6⟩ := h
  have w0 : 2 ≤ s.ru 0 ∧ s.ru 0 ≤ 6 := h1 0 (by omega)
  have w1 : 2 ≤ s.ru 1 ∧ s.ru 1 ≤ 5 := h1 1 (by omega)
  have w2 : s.ru 2 ≤ 5 := (h1 2 (by omega)).2
  have w3 : s.ru 3 ≤ 99 := (h1 3 (by omega)).2
  have hc : s.ru 0 * s.ru 1 ≤ 6 * 5 := Nat.mul_le_mul w0.2 w1.2
  have hg : ∀ i, i < s.gn → s.go (i * 4 + 1) * s.ru 0 + s.go (i * 4) < s.ru 0 * s.ru 1 ∧ s.go (i * 4 + 2) ≤ 3 ∧ 1 ≤ s.go (i * 4 + 3) ∧ s.go (i * 4 + 3) ≤ 4 := by
    intro i hi
    have a1 := hA.2.2.2 i hi
    have a2 := h2 (i * 4 + 2) (by omega)
    have a3 := h2 (i * 4 + 3) (by omega)
    rw [show (i * 4 + 2) % 4 = 2 by omega] at a2
    rw [show (i * 4 + 3) % 4 = 3 by omega] at a3
    have a2 : _ ∧ s.go (i * 4 + 2) ≤ 3 := a2
    have a3 : 1 ≤ s.go (i * 4 + 3) ∧ s.go (i * 4 + 3) ≤ 4 := a3
    have a4 : (s.go (i * 4 + 1) + 1) * s.ru 0 ≤ s.ru 1 * s.ru 0 := Nat.mul_le_mul_right _ a1.2
    rw [Nat.succ_mul, Nat.mul_comm (s.ru 1)] at a4
    exact ⟨by omega, a2.2, a3⟩
  have v30 : ∀ i, i < 4 → shV s (30 + i) = if i < s.gn then s.go (i * 4 + 1) * s.ru 0 + s.go (i * 4) else 0 := by
    intro i hi
    unfold shV shW
    rw [if_neg (by omega), if_pos (by omega), show 30 + i - 30 = i by omega]
    simp only [show (30 + i < 30 + s.gn) = (i < s.gn) from propext (by omega)]
  have v34 : ∀ i, i < 4 → shV s (34 + i) = if i < s.gn then s.go (i * 4 + 2) else 0 := by
    intro i hi
    unfold shV shW
    rw [if_neg (by omega), if_neg (by omega), if_pos (by omega), show 34 + i - 34 = i by omega]
    simp only [show (34 + i < 34 + s.gn) = (i < s.gn) from propext (by omega)]
  have v0 : ∀ k, 38 ≤ k → k < 46 → shV s k = 0 := by
    intro k hk hk2
    unfold shV shW
    rw [if_neg (by omega), if_neg (by omega), if_neg (by omega), if_pos (by omega)]
  have v50 : ∀ i, i < 4 → shV s (50 + i) = if i < s.gn then s.go (i * 4 + 3) else 0 := by
    intro i hi
    unfold shV shW
    rw [if_neg (by omega), if_neg (by omega), if_neg (by omega), if_neg (by omega), if_neg (by omega), if_neg (by omega), if_neg (by omega), if_neg (by omega), if_pos (by omega), show 50 + i - 50 = i by omega]
    simp only [show (50 + i < 50 + s.gn) = (i < s.gn) from propext (by omega)]
  have v54 : ∀ i, i < 4 → shV s (54 + i) = if i < s.gn then s.go (i * 4 + 1) * s.ru 0 + s.go (i * 4) else 0 := by
    intro i hi
    unfold shV shW
    rw [if_neg (by omega), if_neg (by omega), if_neg (by omega), if_neg (by omega), if_neg (by omega), if_neg (by omega), if_neg (by omega), if_neg (by omega), if_neg (by omega), if_pos (by omega), show 54 + i - 54 = i by omega]
    simp only [show (54 + i < 54 + s.gn) = (i < s.gn) from propext (by omega)]
  have vc : ∀ c, c < 30 → shV s c ≤ 3 := by
    intro c hc
    unfold shV shW
    rw [if_pos hc]
    split
    · exact h5 _
    · omega
  have vb : ∀ k, shV s k ≤ 99 := by
    intro k
    by_cases k1 : k < 30
    · have := vc k k1; omega
    by_cases k2 : k < 34
    · have e := v30 (k - 30) (by omega)
      rw [show 30 + (k - 30) = k by omega] at e
      rw [e]
      split
      · rename_i hi; have := (hg _ hi).1; omega
      · omega
    by_cases k3 : k < 38
    · have e := v34 (k - 34) (by omega)
      rw [show 34 + (k - 34) = k by omega] at e
      rw [e]
      split
      · rename_i hi; have := (hg _ hi).2.1; omega
      · omega
    by_cases k4 : k < 46
    · rw [v0 k (by omega) k4]; omega
    by_cases k5 : 50 ≤ k ∧ k < 54
    · have e := v50 (k - 50) (by omega)
      rw [show 50 + (k - 50) = k by omega] at e
      rw [e]
      split
      · rename_i hi; have := (hg _ hi).2.2; omega
      · omega
    by_cases k6 : 54 ≤ k ∧ k < 58
    · have e := v54 (k - 54) (by omega)
      rw [show 54 + (k - 54) = k by omega] at e
      rw [e]
      split
      · rename_i hi; have := (hg _ hi).1; omega
      · omega
    unfold shV shW
    rw [if_neg k1, if_neg k2, if_neg k3, if_neg k4]
    repeat' split
    all_goals omega
  refine ⟨fun k => by have := vb k; omega, w0, w1, ⟨hA.1, h3⟩, w2, Nat.zero_le _, Nat.le_trans w3 (by omega), Nat.le_refl _, vc, fun i hi => ?_, fun i hi => ?_⟩
  · rw [v30 i hi, v34 i hi, v0 _ (by omega) (by omega), v0 _ (by omega) (by omega), v50 i hi, v54 i hi]
    by_cases hh : i < s.gn
    · simp only [if_pos hh]
      have := hg i hh
      omega
    · simp only [if_neg hh]
      omega
  · have hi : i < s.gn := hi
    rw [v30 i (by omega), v50 i (by omega), v54 i (by omega), if_pos hi, if_pos hi]
    have := hg i hi
    exact ⟨this.1, this.2.2.1, this.1⟩
