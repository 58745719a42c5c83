/-! a stone on a cell that isn't looked at changes nothing -/
section US
variable {V : Nat → Nat} {T : sT} {c : Nat}
theorem uN_c {k x y : Nat} (h : k ≠ c) : uN (uN V c x) k y = uN (uN V k y) c x := by
  funext j
  by_cases c1 : j = k
  · subst c1; rw [uN_s, uN_n h, uN_s]
  · rw [uN_n c1]
    by_cases c2 : j = c
    · subst c2; rw [uN_s, uN_s]
    · rw [uN_n c2, uN_n c2, uN_n c1]
theorem u_und (hc : c < 30) (h0 : V c = 0) (e : Nat) : sUnd (uN V c 1) e = sUnd V e := by
  unfold sUnd
  rw [uN_n (show 59 ≠ c by omega), uN_n (show 46 ≠ c by omega), uN_n (show 58 ≠ c by omega)]
  by_cases c1 : e = c
  · subst c1; rw [uN_s, h0]; exact propext ⟨fun h => Or.inr (h.resolve_left (by omega)), fun h => Or.inr (h.resolve_left (by omega))⟩
  · rw [uN_n c1]
theorem u_bes (hc : c < 30) (e d : Nat) : sBes (uN V c 1) e d = sBes V e d := by
  unfold sBes
  rw [uN_n (show 59 ≠ c by omega), uN_n (show 58 ≠ c by omega)]
theorem u_lie (hc : c < 30) (h0 : V c = 0) {o : Option Nat} (h : o ≠ some c) : sLie (uN V c 1) o = sLie V o := by
  cases o with
  | none => rfl
  | some e =>
    have he : e ≠ c := fun hh => h (by rw [hh])
    have hu := u_und hc h0 e
    unfold sLie
    simp only [uN_n he, hu]
theorem u_at {k : Nat} (hc : c < 30) (hk : 30 ≤ k) : uN V c 1 k = V k := uN_n (by omega)
theorem u_ahd {i d : Nat} (hc : c < 30) (h0 : V c = 0) (h : (sLk V i d).testBit c = false) : sAhd (uN V c 1) i d = sAhd V i d := by
  unfold sAhd
  rw [u_at hc (by omega), u_bes hc, u_lie hc h0]
  intro hh
  unfold sLk at h
  rw [hh] at h
  have : (2 ^ c).testBit c = true := Nat.testBit_two_pow_self
  rw [this] at h; cases h
theorem u_lk {i d : Nat} (hc : c < 30) : sLk (uN V c 1) i d = sLk V i d := by
  unfold sLk
  rw [u_at hc (by omega), u_bes hc]
theorem or_f {x y : Nat} (h : (x ||| y).testBit c = false) : x.testBit c = false ∧ y.testBit c = false := by
  rw [Nat.testBit_or] at h
  exact Bool.or_eq_false_iff.mp h
theorem u_turn {i : Nat} (hc : c < 30) (h0 : V c = 0) (h : (sLkS T V i).testBit c = false) : sTurn T (uN V c 1) i = sTurn T V i := by
  cases T with
  | none =>
    have h1 := (or_f h).1
    unfold sTurn
    simp only [u_at hc (show 30 ≤ 34 + i by omega)]
    rw [u_ahd hc h0 h1]
  | some t =>
    have h1 := or_f (or_f h).1
    unfold sTurn
    simp only [u_at hc (show 30 ≤ 34 + i by omega), u_at hc (show 30 ≤ 50 + i by omega), u_at hc (show 30 ≤ 38 + i by omega), u_at hc (show 30 ≤ 49 by omega)]
    rw [u_ahd hc h0 h1.1, u_ahd hc h0 h1.2]
theorem u_lkS {i : Nat} (hc : c < 30) (h0 : V c = 0) (h : (sLkS T V i).testBit c = false) : sLkS T (uN V c 1) i = sLkS T V i := by
  have ht := u_turn hc h0 h
  cases T with
  | none => unfold sLkS; rw [u_lk hc, u_lk hc, ht, u_at hc (by omega)]
  | some t =>
    show (sLk (uN V c 1) i (uN V c 1 (34 + i)) ||| sLk (uN V c 1) i ((uN V c 1 (34 + i) + 1) % 4)) ||| sLk (uN V c 1) i (sTurn (some t) (uN V c 1) i) = (sLk V i (V (34 + i)) ||| sLk V i ((V (34 + i) + 1) % 4)) ||| sLk V i (sTurn (some t) V i)
    rw [u_lk hc, u_lk hc, u_lk hc, ht, u_at hc (by omega)]
theorem lkS_turn {i : Nat} (h : (sLkS T V i).testBit c = false) : (sLk V i (sTurn T V i)).testBit c = false := by
  cases T with
  | none => exact (or_f h).2
  | some t => exact (or_f h).2
theorem u_go {i l : Nat} (hc : c < 30) (h0 : V c = 0) (h : (sLk V i l).testBit c = false) : sGo (uN V c 1) i l = uN (sGo V i l) c 1 := by
  unfold sGo
  rw [u_ahd hc h0 h, u_at hc (show 30 ≤ 30 + i by omega), u_at hc (show 30 ≤ 38 + i by omega), u_bes hc]
  split
  · exact uN_c (by omega)
  · generalize (sBes V (V (30 + i)) l).getD 0 = x
    generalize V (38 + i) + 1 = y
    have e : uN (uN (uN (uN V c 1) (34 + i) l) (30 + i) x) (38 + i) y = uN (uN (uN (uN V (34 + i) l) (30 + i) x) (38 + i) y) c 1 := by
      rw [uN_c (k := 34 + i) (by omega), uN_c (k := 30 + i) (by omega), uN_c (k := 38 + i) (by omega)]
    rw [e]
    split
    · exact uN_c (k := 42 + i) (by omega)
    · split
      · exact uN_c (k := 42 + i) (by omega)
      · rfl
theorem u_step {i : Nat} (hc : c < 30) (h0 : V c = 0) (h : (sLkS T V i).testBit c = false) : sStep T (uN V c 1) i = uN (sStep T V i) c 1 := by
  unfold sStep
  rw [u_turn hc h0 h]; exact u_go hc h0 (lkS_turn h)
theorem u_pk {i : Nat} (hi : i < 4) (hc : c < 30) (h0 : V c = 0) : ∀ k, (lkPk T i V k).testBit c = false → sPk T i (uN V c 1) k = uN (sPk T i V k) c 1 ∧ lkPk T i (uN V c 1) k = lkPk T i V k := by
  intro k
  induction k with
  | zero => intro _; exact ⟨rfl, rfl⟩
  | succ k ih =>
    intro h
    rw [lkPk_s] at h
    have hk0 : sPk T i V k c = 0 := by rw [sPk_fix hi c (by omega)]; exact h0
    by_cases c0 : sPk T i V k (42 + i) = 0
    · rw [if_pos c0] at h
      obtain ⟨h1, h2⟩ := or_f h
      obtain ⟨e1, e2⟩ := ih h1
      rw [sPk_s, sPk_s, lkPk_s, lkPk_s, e1, e2, u_at hc (by omega), if_pos c0, if_pos c0, if_pos c0, if_pos c0, u_step hc hk0 h2, u_lkS hc hk0 h2]
      exact ⟨rfl, rfl⟩
    · rw [if_neg c0] at h
      obtain ⟨e1, e2⟩ := ih h
      rw [sPk_s, sPk_s, lkPk_s, lkPk_s, e1, e2, u_at hc (by omega), if_neg c0, if_neg c0, if_neg c0, if_neg c0]
      exact ⟨rfl, rfl⟩
theorem u_goer {i : Nat} (hi : i < 4) (hc : c < 30) (h0 : V c = 0) (h : (lkGoer T V i).testBit c = false) : sGoer T (uN V c 1) i = uN (sGoer T V i) c 1 ∧ lkGoer T (uN V c 1) i = lkGoer T V i := by
  unfold sGoer sPace
  unfold lkGoer at h ⊢
  have hu := u_und hc h0 (V (30 + i))
  rw [u_at hc (show 30 ≤ 42 + i by omega), u_at hc (show 30 ≤ 30 + i by omega), u_at hc (show 30 ≤ 50 + i by omega)]
  by_cases c0 : V (42 + i) = 0
  · rw [if_pos c0] at h
    rw [if_pos c0, if_pos c0, if_pos c0, if_pos c0]
    simp only [hu]
    by_cases c1 : sUnd V (V (30 + i))
    · rw [if_pos c1] at h
      rw [if_pos c1, if_pos c1, uN_c (by omega)]
      have h1 : uN V (42 + i) 2 c = 0 := by rw [uN_n (by omega)]; exact h0
      have := u_pk (T := T) hi hc h1 (V (50 + i)) h
      rw [u_at hc (by omega)]
      rw [show uN V (42 + i) 2 (50 + i) = V (50 + i) from uN_n (by omega)]
      exact this
    · rw [if_neg c1] at h
      rw [if_neg c1, if_neg c1, u_at hc (by omega)]
      exact u_pk (T := T) hi hc h0 (V (50 + i)) h
  · rw [if_neg c0, if_neg c0, if_neg c0, if_neg c0]
    exact ⟨rfl, rfl⟩
theorem lkAll_s (T : sT) (V : Nat → Nat) (n : Nat) : lkAll T V (n + 1) = lkAll T V n ||| lkGoer T (sAll T V n) n := rfl
theorem u_all (hc : c < 30) (h0 : V c = 0) : ∀ n, n ≤ 4 → (lkAll T V n).testBit c = false → sAll T (uN V c 1) n = uN (sAll T V n) c 1 ∧ lkAll T (uN V c 1) n = lkAll T V n := by
  intro n
  induction n with
  | zero => intro _ _; exact ⟨rfl, rfl⟩
  | succ n ih =>
    intro hn h
    rw [lkAll_s] at h
    obtain ⟨h1, h2⟩ := or_f h
    obtain ⟨e1, e2⟩ := ih (by omega) h1
    have hk0 : sAll T V n c = 0 := by rw [sAll_fix (by omega) c (by omega)]; exact h0
    obtain ⟨f1, f2⟩ := u_goer (T := T) (i := n) (by omega) hc hk0 h2
    rw [sAll_s, sAll_s, lkAll_s, lkAll_s, e1, e2, f1, f2]
    exact ⟨rfl, rfl⟩
theorem it_cg {S : Type} {f f' : Nat → S → S} (h : ∀ k s, f k s = f' k s) (n : Nat) (s : S) : it f n s = it f' n s := by
  rw [show f = f' from funext (fun k => funext (fun s => h k s))]
theorem u_cnt (hc : c < 30) (e : Nat) : sCnt (uN V c 1) e = sCnt V e := by
  unfold sCnt
  rw [u_at hc (by omega)]
  refine it_cg (fun i s => ?_) _ _
  show (if uN V c 1 (42 + i) = 0 ∧ uN V c 1 (30 + i) = e then s + 1 else s) = _
  rw [u_at hc (by omega), u_at hc (by omega)]
theorem u_pairs (hc : c < 30) (n : Nat) : sPairs (uN V c 1) n = sPairs V n := by
  unfold sPairs
  refine it_cg (fun i s => ?_) _ _
  show (if uN V c 1 (42 + i) = 0 then s + (sCnt (uN V c 1) (uN V c 1 (30 + i)) - 1) else s) = _
  rw [u_at hc (by omega), u_at hc (by omega), u_cnt hc]
theorem u_turned (hc : c < 30) (n : Nat) : sTurned (uN V c 1) n = uN (sTurned V n) c 1 := by
  funext k
  by_cases ck : k = c
  · subst ck
    unfold sTurned
    rw [uN_s, if_neg (by omega), uN_s]
  · rw [uN_n (V := sTurned V n) ck]
    unfold sTurned
    by_cases c3 : 34 ≤ k
    · rw [u_at hc (by omega), u_at hc (by omega), u_at hc (by omega), u_cnt hc]
    · rw [if_neg (by omega), if_neg (by omega), uN_n ck]
theorem u_hour (hc : c < 30) (h0 : V c = 0) (h60 : V 60 ≤ 4) (h : (lkAll T V (V 60)).testBit c = false) : sHour T (uN V c 1) = uN (sHour T V) c 1 ∧ lkAll T (uN V c 1) (V 60) = lkAll T V (V 60) := by
  obtain ⟨e1, e2⟩ := u_all (T := T) hc h0 (V 60) h60 h
  refine ⟨?_, e2⟩
  unfold sHour sMet
  rw [u_at hc (show 30 ≤ 60 by omega), u_at hc (show 30 ≤ 47 by omega), u_at hc (show 30 ≤ 49 by omega), e1, u_pairs hc, u_turned hc, uN_c (k := 47) (by omega), uN_c (k := 49) (by omega)]
theorem lkHrs_s (T : sT) (V : Nat → Nat) (n : Nat) : lkHrs T V (n + 1) = lkHrs T V n ||| lkAll T (sHrs T V n) (V 60) := rfl
theorem u_hrs (hc : c < 30) (h0 : V c = 0) (h60 : V 60 ≤ 4) : ∀ n, (lkHrs T V n).testBit c = false → (∀ k, k ≤ n → sHrs T (uN V c 1) k = uN (sHrs T V k) c 1) ∧ lkHrs T (uN V c 1) n = lkHrs T V n := by
  intro n
  induction n with
  | zero => intro _; exact ⟨fun k hk => by have : k = 0 := by omega
                                           subst this; rfl, rfl⟩
  | succ n ih =>
    intro h
    rw [lkHrs_s] at h
    obtain ⟨h1, h2⟩ := or_f h
    obtain ⟨e1, e2⟩ := ih h1
    have hk0 : sHrs T V n c = 0 := by rw [sHrs_60 h60 n c (by omega)]; exact h0
    have hk6 : sHrs T V n 60 = V 60 := sHrs_60 h60 n 60 (by omega)
    obtain ⟨f1, f2⟩ := u_hour (T := T) hc hk0 (by omega) (by rw [hk6]; exact h2)
    refine ⟨fun k hk => ?_, ?_⟩
    · by_cases c1 : k ≤ n
      · exact e1 k c1
      · have : k = n + 1 := by omega
        subst this
        rw [sHrs_s, sHrs_s, e1 n (Nat.le_refl _), f1]
    · rw [lkHrs_s, lkHrs_s, e2, e1 n (Nat.le_refl _), u_at hc (by omega)]
      rw [hk6] at f2
      rw [f2]
theorem u_tog (hc : c < 30) {a b : Nat} : sTog (uN V c 1) a b = sTog V a b := by
  unfold sTog
  rw [u_at hc (by omega), u_at hc (by omega), u_at hc (by omega), u_at hc (by omega)]
theorem ff_cg {p p' : Nat → Bool} : ∀ {n : Nat}, (∀ k, k < n → p k = p' k) → ff p n = ff p' n := by
  intro n
  induction n with
  | zero => intro _; rfl
  | succ n ih => intro h; show (match ff p n with | some i => some i | none => if p n then some n else none) = (match ff p' n with | some i => some i | none => if p' n then some n else none); rw [ih (fun k hk => h k (by omega)), h n (by omega)]
theorem ff_first {p : Nat → Bool} : ∀ {n i : Nat}, ff p n = some i → ∀ j, j < i → p j = false := by
  intro n
  induction n with
  | zero => intro i h; cases h
  | succ n ih =>
    intro i h
    have h : (match ff p n with | some i => some i | none => if p n then some n else none) = some i := h
    cases hf : ff p n with
    | some k => rw [hf] at h; exact ih (hf.trans h)
    | none =>
      rw [hf] at h
      have h : (if p n then some n else none) = some i := h
      by_cases c1 : p n = true
      · rw [if_pos c1] at h
        have : n = i := by injection h
        subst this
        intro j hj
        cases hp : p j with
        | false => rfl
        | true =>
          exfalso
          have hx : ∀ m, j < m → ff p m ≠ none := by
            intro m
            induction m with
            | zero => intro hm; omega
            | succ m ihm =>
              intro hm hh
              have hh : (match ff p m with | some i => some i | none => if p m then some m else none) = none := hh
              cases hg : ff p m with
              | some q => rw [hg] at hh; cases hh
              | none =>
                rw [hg] at hh
                have hh : (if p m then some m else none) = none := hh
                by_cases cm : j = m
                · subst cm; rw [hp] at hh; cases hh
                · exact ihm (by omega) hg
          exact hx n hj hf
      · rw [if_neg c1] at h; cases h
/-- the lemma: a stone where nobody looks -/
theorem u_meet (hc : c < 30) (h0 : V c = 0) (h60 : V 60 ≤ 4) {a b n : Nat} (h : (sLooked T V a b n).testBit c = false) : sMeet T (uN V c 1) a b n = sMeet T V a b n ∧ sLooked T (uN V c 1) a b n = sLooked T V a b n := by
  have key : sMeet T (uN V c 1) a b n = sMeet T V a b n := by
    unfold sLooked at h
    cases hm : sMeet T V a b n with
    | none =>
      rw [hm] at h
      obtain ⟨e1, _⟩ := u_hrs (T := T) hc h0 h60 n h
      rw [← hm]
      exact ff_cg (fun k hk => by rw [e1 (k + 1) (by omega)]; exact decide_eq_decide.mpr (by rw [u_tog hc]))
    | some k =>
      rw [hm] at h
      obtain ⟨e1, _⟩ := u_hrs (T := T) hc h0 h60 (k + 1) h
      have hk := ff_lt hm
      have h1 := ff_first hm
      exact ff_some (fun j hj => by
        have := h1 j hj
        rw [← this, e1 (j + 1) (by omega)]; exact decide_eq_decide.mpr (by rw [u_tog hc])) (by
        rw [← hk.2, e1 (k + 1) (by omega)]; exact decide_eq_decide.mpr (by rw [u_tog hc])) hk.1
  refine ⟨key, ?_⟩
  unfold sLooked at h ⊢
  rw [key]
  exact (u_hrs (T := T) hc h0 h60 _ h).2
end US
