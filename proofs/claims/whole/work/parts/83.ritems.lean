/-! the reference reads numbers and items -/
section RP
variable {g : gz_S} {e o : Nat} {b : Nat → Nat} {len a : Nat} {La : gz_L}
theorem r_isInZ {x lo hi : Int} (hx : -1000000000000000 ≤ x ∧ x ≤ 1000000000000000) (h1 : -1000000000000000 ≤ lo ∧ lo ≤ 1000000000000000) (h2 : -1000000000000000 ≤ hi ∧ hi ≤ 1000000000000000) :
    fX12_isIn La (Int64.ofInt x) (Int64.ofInt lo) (Int64.ofInt hi) g = some (pI (lo ≤ x ∧ x ≤ hi), g) := by
  unfold fX12_isIn
  rw [j_cmp hx h1, j_cmp hx h2]
  by_cases c1 : x < lo
  · rw [if_pos (show (if lo < x then (1 : Int32) else if x = lo then 0 else -1) < 0 by rw [if_neg (by omega), if_neg (by omega)]; decide)]
    exact p_f (by omega)
  · have d1 : ¬ (if lo < x then (1 : Int32) else if x = lo then 0 else -1) < 0 := by
      by_cases c : lo < x
      · rw [if_pos c]; decide
      · rw [if_neg c, if_pos (by omega)]; decide
    rw [if_neg d1]
    by_cases c2 : hi < x
    · rw [if_pos (show (0 : Int32) < (if hi < x then (1 : Int32) else if x = hi then 0 else -1) by rw [if_pos c2]; decide)]
      exact p_f (by omega)
    · have d2 : ¬ (0 : Int32) < (if hi < x then (1 : Int32) else if x = hi then 0 else -1) := by
        rw [if_neg c2]; split <;> decide
      rw [if_neg d2]
      exact p_t (by omega)
theorem x_l (x : Int32) : x.toInt64 = Int64.ofInt x.toInt := by
  have h1 := Int32.toInt_lt x
  have h2 := Int32.le_toInt x
  have e : x = iI x.toInt := (Int32.ofInt_toInt x).symm
  have := j_l (z := x.toInt) (by omega)
  rw [← e] at this; exact this
theorem r_isIn {x lo hi : Nat} (hx : x < 2147483648) (h1 : lo < 2147483648) (h2 : hi < 2147483648) : fX12_isIn La (Int32.toInt64 (nI x)) (Int32.toInt64 (nI lo)) (Int32.toInt64 (nI hi)) g = some (pI (lo ≤ x ∧ x ≤ hi), g) := by
  rw [x_l, x_l, x_l, n_ti hx, n_ti h1, n_ti h2, r_isInZ (by omega) (by omega) (by omega)]
  have e : ((lo : Int) ≤ (x : Int) ∧ (x : Int) ≤ (hi : Int)) = (lo ≤ x ∧ x ≤ hi) := propext (by omega)
  unfold pI
  by_cases c : lo ≤ x ∧ x ≤ hi
  · rw [if_pos c, if_pos (by omega)]
  · rw [if_neg c, if_neg (by omega)]
abbrev S0 : Nat → Prop := fun _ => False
theorem r_num67 {v lo hi : Nat} (h : RP g e o b len a) (ha : 0 < a) (hv : v < 1000) (hlo : lo < 1000) (hhi : hi < 1000) : ∃ x g', fX12_number_67 La (nI lo) (nI hi) (nI v) g = some (x, g') ∧ Fz KE S0 g g' ∧
    ((dg b len a ∧ g'.1 39 11 = nI a) ∨ (¬ dg b len a ∧ (v < lo ∨ hi < v) ∧ g'.1 39 11 = nI (a - 1)) ∨ (¬ dg b len a ∧ ¬ (v < lo ∨ hi < v) ∧ RP g' e o b len a ∧ x = nI v)) := by
  have h240 := h.le
  unfold fX12_number_67
  rw [r_isDigitR h, Option.bind_some]
  by_cases hd : dg b len a
  · refine ⟨0, rf g a, ?_, Fz.z0.f (Or.inr rfl), Or.inl ⟨hd, rf_11 _ _⟩⟩
    refine (if_neg (pI1 hd)).trans ?_
    rw [r_failsR h, Option.bind_some]
  · by_cases c : lo ≤ v ∧ v ≤ hi
    · refine ⟨nI v, g, ?_, Fz.z0, Or.inr (Or.inr ⟨hd, by omega, h, rfl⟩)⟩
      refine (if_pos (pI0 hd)).trans ?_
      rw [r_isIn (by omega) (by omega) (by omega), Option.bind_some]
      exact if_neg (pI1 c)
    · have hS := h.st (p := a - 1) (by omega)
      refine ⟨nI v, rf (rs g (a - 1)) (a - 1), ?_, (Fz.z0.r (Or.inl rfl)).f (Or.inr rfl), Or.inr (Or.inl ⟨hd, by omega, rf_11 _ _⟩)⟩
      refine (if_pos (pI0 hd)).trans ?_
      rw [r_isIn (by omega) (by omega) (by omega), Option.bind_some]
      refine (if_pos (pI0 c)).trans ?_
      show gz_let (gz_wi g 39 10 ((g.1 39 10) - 1)) _ = _
      rw [h.ta, show nI a - (1 : Int32) = nI (a - 1) from n_sub ha, wi_rs, gz_let_eq, r_failsR hS, Option.bind_some]
theorem r_number {lo hi : Nat} (h : RP g e o b len a) (hlo : lo < 1000) (hhi : hi < 1000) : ∃ x g', fX12_number La (nI lo) (nI hi) g = some (x, g') ∧ Fz KE S0 g g' ∧
    ((¬ (nx b len a < (numV b len 2 (nx b len a) 0).1 ∧ ¬ dg b len (numV b len 2 (nx b len a) 0).1) ∧ g'.1 39 11 = nI (numV b len 2 (nx b len a) 0).1 ∧ (numV b len 2 (nx b len a) 0).1 ≤ 240) ∨
     ((nx b len a < (numV b len 2 (nx b len a) 0).1 ∧ ¬ dg b len (numV b len 2 (nx b len a) 0).1) ∧ ((numV b len 2 (nx b len a) 0).2 < lo ∨ hi < (numV b len 2 (nx b len a) 0).2) ∧ g'.1 39 11 = nI ((numV b len 2 (nx b len a) 0).1 - 1) ∧ (numV b len 2 (nx b len a) 0).1 - 1 ≤ 240) ∨
     ((nx b len a < (numV b len 2 (nx b len a) 0).1 ∧ ¬ dg b len (numV b len 2 (nx b len a) 0).1) ∧ ¬ ((numV b len 2 (nx b len a) 0).2 < lo ∨ hi < (numV b len 2 (nx b len a) 0).2) ∧ RP g' e o b len (numV b len 2 (nx b len a) 0).1 ∧ x = nI (numV b len 2 (nx b len a) 0).2 ∧ (numV b len 2 (nx b len a) 0).2 ≤ 99)) := by
  have hx := nx_le (b := b) h.le.1
  have h240 := h.le.2
  have hS := h.st hx.2
  unfold fX12_number
  rw [r_lookR h, Option.bind_some]
  have F0 : Fz KE S0 g (rs g (nx b len a)) := Fz.z0.r (Or.inl rfl)
  generalize nx b len a = p at *
  generalize rs g p = g1 at *
  show ∃ x g', (fX12_isDigit La g1).bind _ = _ ∧ _
  rw [r_isDigitR hS, Option.bind_some]
  by_cases d1 : dg b len p
  · have hp1 := d1.1
    have n1 : numV b len 2 p 0 = numV b len 1 (p + 1) (b p - 48) := by
      show (if dg b len p then numV b len 1 (p + 1) (0 * 10 + (b p - 48)) else (p, 0)) = _
      rw [if_pos d1, Nat.zero_mul, Nat.zero_add]
    have hS2 := hS.st (p := p + 1) (by omega)
    have F2 : Fz KE S0 g (rs g1 (p + 1)) := F0.r (Or.inl rfl)
    have step : ∀ Q : Option (Int32 × gz_S), (fX12_isDigit La (rs g1 (p + 1))).bind (fun q36 => if q36.1 = 0 then fX12_number_67 La (nI lo) (nI hi) (nI (b p - 48)) q36.2 else (fX12_here La q36.2).bind (fun q48 => gz_let ((((10 : Int32) * nI (b p - 48)) + q48.1) - 48) (fun y55 => gz_let (gz_wi q48.2 39 10 ((q48.2.1 39 10) + 1)) (fun g64 => fX12_number_67 La (nI lo) (nI hi) y55 g64)))) = Q →
        (if pI (dg b len p) = 0 then (fX12_fails La g1).bind (fun q13 => some (0, q13.2)) else gz_let (oI (sg b len p) - 48) (fun y23 => gz_let (gz_wi g1 39 10 ((g1.1 39 10) + 1)) (fun g32 => (fX12_isDigit La g32).bind (fun q36 => if q36.1 = 0 then fX12_number_67 La (nI lo) (nI hi) y23 q36.2 else (fX12_here La q36.2).bind (fun q48 => gz_let ((((10 : Int32) * y23) + q48.1) - 48) (fun y55 => gz_let (gz_wi q48.2 39 10 ((q48.2.1 39 10) + 1)) (fun g64 => fX12_number_67 La (nI lo) (nI hi) y55 g64))))))) = Q := by
      intro Q hQ
      rw [if_neg (pI1 d1), sg_dg d1, gz_let_eq, r_step1 hS hp1, gz_let_eq, show oI (some (b p)) - (48 : Int32) = nI (b p - 48) from n_sub (a := b p) (b := 48) (by omega)]
      exact hQ
    rw [n1]
    generalize rs g1 (p + 1) = g2 at *
    by_cases d2 : dg b len (p + 1)
    · have hp2 := d2.1
      have n2 : numV b len 1 (p + 1) (b p - 48) = (p + 2, (b p - 48) * 10 + (b (p + 1) - 48)) := by
        show (if dg b len (p + 1) then (p + 1 + 1, (b p - 48) * 10 + (b (p + 1) - 48)) else (p + 1, b p - 48)) = _
        rw [if_pos d2]
      rw [n2]
      have hS3 := hS2.st (p := p + 2) (by omega)
      obtain ⟨x, g', r1, r2, r3⟩ := r_num67 (La := La) (v := (b p - 48) * 10 + (b (p + 1) - 48)) (lo := lo) (hi := hi) hS3 (by omega) (by omega) hlo hhi
      refine ⟨x, g', ?_, (F2.r (Or.inl rfl)).tr r2, ?_⟩
      · refine step _ ?_
        rw [r_isDigitR hS2, Option.bind_some]
        refine (if_neg (pI1 d2)).trans ?_
        rw [show fX12_here La g2 = some (oI (sg b len (p + 1)), g2) from r_here hS2.1, Option.bind_some, sg_dg d2, gz_let_eq]
        show gz_let (gz_wi g2 39 10 ((g2.1 39 10) + 1)) (fun g64 => fX12_number_67 La (nI lo) (nI hi) ((((10 : Int32) * nI (b p - 48)) + nI (b (p + 1))) - 48) g64) = _
        have ev : (((10 : Int32) * nI (b p - 48)) + nI (b (p + 1))) - 48 = nI ((b p - 48) * 10 + (b (p + 1) - 48)) := by
          rw [show (10 : Int32) = nI 10 from rfl, show (48 : Int32) = nI 48 from rfl, n_mul, n_add, n_sub (by omega)]; congr 1; omega
        rw [ev, r_step1 hS2 hp2, gz_let_eq]
        exact r1
      · show _ ∨ _
        rcases r3 with ⟨t1, t2⟩ | ⟨t1, t2, t3⟩ | ⟨t1, t2, t3, t4⟩
        · exact Or.inl ⟨fun hh => hh.2 t1, t2, by show p + 2 ≤ 240; omega⟩
        · exact Or.inr (Or.inl ⟨⟨by show p < p + 2; omega, t1⟩, t2, t3, by show p + 2 - 1 ≤ 240; omega⟩)
        · exact Or.inr (Or.inr ⟨⟨by show p < p + 2; omega, t1⟩, t2, t3, t4, by show (b p - 48) * 10 + (b (p + 1) - 48) ≤ 99; omega⟩)
    · have n2 : numV b len 1 (p + 1) (b p - 48) = (p + 1, b p - 48) := by
        show (if dg b len (p + 1) then (p + 1 + 1, (b p - 48) * 10 + (b (p + 1) - 48)) else (p + 1, b p - 48)) = _
        rw [if_neg d2]
      rw [n2]
      obtain ⟨x, g', r1, r2, r3⟩ := r_num67 (La := La) (v := b p - 48) (lo := lo) (hi := hi) hS2 (by omega) (by omega) hlo hhi
      refine ⟨x, g', ?_, F2.tr r2, ?_⟩
      · refine step _ ?_
        rw [r_isDigitR hS2, Option.bind_some]
        exact (if_pos (pI0 d2)).trans r1
      · show _ ∨ _
        rcases r3 with ⟨t1, t2⟩ | ⟨t1, t2, t3⟩ | ⟨t1, t2, t3, t4⟩
        · exact absurd t1 d2
        · exact Or.inr (Or.inl ⟨⟨by show p < p + 1; omega, t1⟩, t2, t3, by show p + 1 - 1 ≤ 240; omega⟩)
        · exact Or.inr (Or.inr ⟨⟨by show p < p + 1; omega, t1⟩, t2, t3, t4, by show b p - 48 ≤ 99; omega⟩)
  · have n1 : numV b len 2 p 0 = (p, 0) := by
      show (if dg b len p then numV b len 1 (p + 1) (0 * 10 + (b p - 48)) else (p, 0)) = _
      rw [if_neg d1]
    rw [n1]
    refine ⟨0, rf g1 p, ?_, F0.f (Or.inr rfl), Or.inl ⟨fun hh => Nat.lt_irrefl _ hh.1, rf_11 _ _, by show p ≤ 240; omega⟩⟩
    refine (if_pos (pI0 d1)).trans ?_
    rw [r_failsR hS, Option.bind_some]
/-! what a reading of a part of a shore may come to -/
def RdO {X : Type} (G : gz_S → X → Prop) (g' : gz_S) (e o : Nat) (b : Nat → Nat) (len : Nat) (s : Nat × Option X) : Prop :=
  (∃ p, g'.1 39 11 = nI p ∧ p ≤ 240 ∧ ((s.2 = none ∧ p = s.1) ∨ (s.2 ≠ none ∧ nx b len s.1 = p ∧ sg b len p ≠ none ∧ sg b len p ≠ some 59))) ∨
  ∃ a', RP g' e o b len a' ∧ ((∃ x, s.2 = some x ∧ G g' x ∧ nx b len a' = nx b len s.1) ∨ (s.2 = none ∧ nx b len a' = s.1 ∧ sg b len s.1 ≠ none ∧ sg b len s.1 ≠ some 59))
def kdT (kd w4 : Nat) (t : Nat → Nat) : Prop := (kd = 115 ∧ w4 = 212 ∧ t = tS) ∨ (kd = 103 ∧ w4 = 213 ∧ t = tG)
theorem itm_sp {kd w4 : Nat} {t : Nat → Nat} (h : kdT kd w4 t) (c : Nat) : sp (tx w4) c 0 = itm t c := by
  have e : ∀ d, (d = c) = (c = d) := fun d => propext ⟨Eq.symm, Eq.symm⟩
  rcases h with ⟨rfl, rfl, rfl⟩ | ⟨rfl, rfl, rfl⟩
  · show (if 119 = c then some 0 else if 104 = c then some 1 else if 116 = c then some 2 else if 99 = c then some 3 else none) = (if c = 119 then some 0 else if c = 104 then some 1 else if c = 116 then some 2 else if c = 99 then some 3 else none)
    simp only [e]
  · show (if 120 = c then some 0 else if 121 = c then some 1 else if 98 = c then some 2 else if 112 = c then some 3 else none) = (if c = 120 then some 0 else if c = 121 then some 1 else if c = 98 then some 2 else if c = 112 then some 3 else none)
    simp only [e]
theorem kd_least {kd w4 : Nat} {t : Nat → Nat} (h : kdT kd w4 t) : ∀ i, i < 4 → fX12_leastOf La (nI kd) (nI i) g = some (nI (t (i * 4 + 1)), g) ∧ fX12_mostOf La (nI kd) (nI i) g = some (nI (t (i * 4 + 2)), g) ∧ fX12_usual La (nI kd) (nI i) g = some (nI (t (i * 4 + 3)), g) ∧
    t (i * 4 + 1) < 1000 ∧ t (i * 4 + 2) < 1000 ∧ t (i * 4 + 3) ≤ 99 := by
  intro i hi
  have : i = 0 ∨ i = 1 ∨ i = 2 ∨ i = 3 := by omega
  rcases h with ⟨rfl, rfl, rfl⟩ | ⟨rfl, rfl, rfl⟩ <;> rcases this with rfl | rfl | rfl | rfl <;> exact ⟨rfl, rfl, rfl, by decide, by decide, by decide⟩
def cnt4 (u : Nat) : Nat := u % 2 + u / 2 % 2 + u / 4 % 2 + u / 8 % 2
theorem cnt4_s : ∀ u, u < 16 → ∀ i, i < 4 → u.testBit i = false → cnt4 (u ||| 2 ^ i) = cnt4 u + 1 ∧ u ||| 2 ^ i < 16 := by decide
theorem cnt4_4 : ∀ u, u < 16 → cnt4 u = 4 → ∀ i, i < 4 → u.testBit i = true := by decide
theorem r_has {u i : Nat} (hu : u < 2147483648) (hi : i < 32) : fX12_has La (nI u) (nI i) g = some (pI (u.testBit i = true), g) := by
  unfold fX12_has
  rw [show (31 : Int32) = nI 31 from rfl, show (1 : Int32) = nI 1 from rfl, n_bit hu hi]
  by_cases c : u.testBit i = true
  · rw [if_pos (show nI (if u.testBit i = true then 1 else 0) = nI 1 by rw [if_pos c])]
    exact p_t c
  · rw [if_neg (show ¬ nI (if u.testBit i = true then 1 else 0) = nI 1 by rw [if_neg c]; decide)]
    exact p_f c
def rk69 (La : gz_L) : gz_S → Option gz_S := fun g => (fX12_fails La g).bind (fun q70 => some q70.2)
def GI (w2 off : Nat) (g' : gz_S) (v : Nat → Nat) : Prop := ∀ i, i < 4 → g'.1 w2 (off + i) = nI (v i) ∧ v i ≤ 99
theorem r_items {kd w4 w2 off : Nat} {t : Nat → Nat} (hk : kdT kd w4 t) (hw : w2 = 45 ∨ w2 = 47) (ho : off + 4 ≤ gz_ln w2) (hl : gz_ln w2 ≤ 16) : ∀ n f u p0 v g, cnt4 u + n = 4 → u < 16 → n + 1 < f → RP g e o b len (nx b len p0) → GI w2 off g v →
    ∃ g', fX12_readItems_45 La w2 w4 (rk69 La) f (nI kd) (nI off) (nI u) (oI ((sg b len (nx b len p0)).bind (itm t))) g = some g' ∧ Fz KE (fun j => j = w2) g g' ∧ (∀ j, ¬ (off ≤ j ∧ j < off + 4) → g'.1 w2 j = g.1 w2 j) ∧ RdO (GI w2 off) g' e o b len (pIt b len t n u p0 v) := by
  have hw4 : 210 ≤ w4 ∧ w4 < 215 := by rcases hk with ⟨_, rfl, _⟩ | ⟨_, rfl, _⟩ <;> omega
  have hit : ∀ c i, itm t c = some i → ¬ c = 59 := by
    intro c i hc
    have htt : t 0 ≠ 59 ∧ t 4 ≠ 59 ∧ t 8 ≠ 59 ∧ t 12 ≠ 59 := by rcases hk with ⟨_, _, rfl⟩ | ⟨_, _, rfl⟩ <;> decide
    unfold itm at hc
    repeat' split at hc
    all_goals first
      | omega
      | cases hc
  intro n
  induction n with
  | zero =>
    intro f u p0 v g hc hu hf h hv
    obtain ⟨f, rfl⟩ : ∃ f', f = f' + 1 := ⟨f - 1, by omega⟩
    have h240 := h.le
    have hnx : nx b len (nx b len p0) = nx b len p0 := nx_nx
    rw [fX12_readItems_45]
    show ∃ g', _ ∧ _ ∧ _ ∧ RdO (GI w2 off) g' e o b len (p0, some v)
    cases hi : (sg b len (nx b len p0)).bind (itm t) with
    | none => exact ⟨g, if_pos rfl, Fz.z0, fun _ _ => rfl, Or.inr ⟨nx b len p0, h, Or.inl ⟨v, rfl, hv, hnx⟩⟩⟩
    | some i =>
      obtain ⟨c, hs, hic⟩ : ∃ c, sg b len (nx b len p0) = some c ∧ itm t c = some i := by
        cases hs : sg b len (nx b len p0) with
        | none => rw [hs] at hi; cases hi
        | some c => rw [hs] at hi; exact ⟨c, rfl, hi⟩
      have hi4 := itm_lt hic
      refine ⟨rf g (nx b len p0), ?_, Fz.z0.f (Or.inr rfl), fun j _ => ?_, Or.inl ⟨nx b len p0, rf_11 _ _, by omega, Or.inr ⟨(fun hh => by cases hh), rfl, (by rw [hs]; exact fun hh => by cases hh), (by rw [hs]; exact fun hh => hit c i hic (Option.some.inj hh))⟩⟩⟩
      · refine (if_neg (show ¬ nI i = -1 by rw [show (-1 : Int32) = -nI 1 from rfl, m_eq (by omega)]; exact id)).trans ((if_pos h.2).trans ?_)
        show (fX12_has La (nI u) (nI i) g).bind _ = _
        rw [r_has (by omega) (by omega), Option.bind_some]
        refine (if_neg (pI1 (cnt4_4 u hu hc i hi4))).trans ?_
        show rk69 La g = _
        unfold rk69; rw [r_failsR h, Option.bind_some]
      · rw [show (rf g (nx b len p0)).1 w2 = g.1 w2 from wa_ne (by omega)]
  | succ n ih =>
    intro f u p0 v g hc hu hf h hv
    obtain ⟨f, rfl⟩ : ∃ f', f = f' + 1 := ⟨f - 1, by omega⟩
    obtain ⟨f, rfl⟩ : ∃ f', f = f' + 1 := ⟨f - 1, by omega⟩
    have h240 := h.le
    have hnx : nx b len (nx b len p0) = nx b len p0 := nx_nx
    rw [fX12_readItems_45]
    unfold pIt
    cases hi : (sg b len (nx b len p0)).bind (itm t) with
    | none =>
      refine ⟨g, if_pos rfl, Fz.z0, fun _ _ => rfl, Or.inr ⟨nx b len p0, h, ?_⟩⟩
      by_cases c1 : sg b len (nx b len p0) = some 59 ∨ sg b len (nx b len p0) = none
      · exact Or.inl ⟨v, by rw [if_pos c1], hv, by rw [if_pos c1]⟩
      · refine Or.inr ⟨by rw [if_neg c1], by rw [if_neg c1]; exact hnx, ?_, ?_⟩
        · rw [if_neg c1]; exact fun hh => c1 (Or.inr hh)
        · rw [if_neg c1]; exact fun hh => c1 (Or.inl hh)
    | some i =>
      obtain ⟨c, hs, hic⟩ : ∃ c, sg b len (nx b len p0) = some c ∧ itm t c = some i := by
        cases hs : sg b len (nx b len p0) with
        | none => rw [hs] at hi; cases hi
        | some c => rw [hs] at hi; exact ⟨c, rfl, hi⟩
      have hi4 := itm_lt hic
      have hpl := (sg_lt hs).1
      generalize nx b len p0 = p at *
      show ∃ g', _ ∧ _ ∧ _ ∧ RdO (GI w2 off) g' e o b len (if u.testBit i = true then (p, none) else
        if ¬ (nx b len (p + 1) < (numV b len 2 (nx b len (p + 1)) 0).1 ∧ ¬ dg b len (numV b len 2 (nx b len (p + 1)) 0).1) then ((numV b len 2 (nx b len (p + 1)) 0).1, none) else
        if (numV b len 2 (nx b len (p + 1)) 0).2 < t (i * 4 + 1) ∨ t (i * 4 + 2) < (numV b len 2 (nx b len (p + 1)) 0).2 then ((numV b len 2 (nx b len (p + 1)) 0).1 - 1, none) else
        pIt b len t n (u ||| 2 ^ i) (numV b len 2 (nx b len (p + 1)) 0).1 (uN v i (numV b len 2 (nx b len (p + 1)) 0).2))
      by_cases c2 : u.testBit i = true
      · rw [if_pos c2]
        refine ⟨rf g p, ?_, Fz.z0.f (Or.inr rfl), fun j _ => ?_, Or.inl ⟨p, rf_11 _ _, by omega, Or.inl ⟨rfl, rfl⟩⟩⟩
        · refine (if_neg (show ¬ nI i = -1 by rw [show (-1 : Int32) = -nI 1 from rfl, m_eq (by omega)]; exact id)).trans ((if_pos h.2).trans ?_)
          show (fX12_has La (nI u) (nI i) g).bind _ = _
          rw [r_has (by omega) (by omega), Option.bind_some]
          refine (if_neg (pI1 c2)).trans ?_
          show rk69 La g = _
          unfold rk69; rw [r_failsR h, Option.bind_some]
        · rw [show (rf g p).1 w2 = g.1 w2 from wa_ne (by omega)]
      · rw [if_neg c2]
        have c2' : u.testBit i = false := by cases hh : u.testBit i; rfl; exact absurd hh c2
        obtain ⟨k1, k2⟩ := cnt4_s u hu i hi4 c2'
        obtain ⟨l1, l2, l3, l4, l5, l6⟩ := kd_least (La := La) (g := rs g (p + 1)) hk i hi4
        have hS := h.st (p := p + 1) (by omega)
        obtain ⟨x, g1, r1, r2, r3⟩ := r_number (La := La) (lo := t (i * 4 + 1)) (hi := t (i * 4 + 2)) hS l4 l5
        have F1 : Fz KE (fun j => j = w2) g g1 := by
          have F0 : Fz KE S0 g g1 := Fz.tr (Fz.z0.r (Or.inl rfl)) r2
          exact ⟨fun j hj _ => F0.1 j hj id, F0.2⟩
        have hbody : ∀ Q : Option gz_S, (gz_let (gz_wi g1 w2 (off + i) x) (fun g115 => if (g115.1 39 11) = (-1) then (fX12_look La g115).bind (fun q127 => (fX12_spotOf La w4 q127.1 q127.2).bind (fun q130 => fX12_readItems_45 La w2 w4 (rk69 La) (f + 1) (nI kd) (nI off) (nI (u ||| 2 ^ i)) q130.1 q130.2)) else fX12_readItems_45 La w2 w4 (rk69 La) (f + 1) (nI kd) (nI off) (nI (u ||| 2 ^ i)) (nI i) g115)) = Q →
            (if oI (some i) = (-1) then some g else if (g.1 39 11) = (-1) then (fX12_has La (nI u) (oI (some i)) g).bind (fun q63 => if q63.1 = 0 then gz_let ((nI u) ||| ((1 : Int32) <<< ((oI (some i)) &&& 31))) (fun y82 => gz_let (gz_wi q63.2 39 10 ((q63.2.1 39 10) + 1)) (fun g91 => (fX12_leastOf La (nI kd) (oI (some i)) g91).bind (fun q103 => (fX12_mostOf La (nI kd) (oI (some i)) q103.2).bind (fun q109 => (fX12_number La q103.1 q109.1 q109.2).bind (fun q112 => if gz_ok ((nI off) + (oI (some i))) (gz_ln w2) then gz_let (gz_wi q112.2 w2 (Int32.toNatClampNeg ((nI off) + (oI (some i)))) q112.1) (fun g115 => if (g115.1 39 11) = (-1) then (fX12_look La g115).bind (fun q127 => (fX12_spotOf La w4 q127.1 q127.2).bind (fun q130 => fX12_readItems_45 La w2 w4 (rk69 La) (f + 1) (nI kd) (nI off) y82 q130.1 q130.2)) else fX12_readItems_45 La w2 w4 (rk69 La) (f + 1) (nI kd) (nI off) y82 (oI (some i)) g115) else none))))) else rk69 La q63.2) else some g) = Q := by
          intro Q hQ
          refine (if_neg (show ¬ nI i = -1 by rw [show (-1 : Int32) = -nI 1 from rfl, m_eq (by omega)]; exact id)).trans ((if_pos h.2).trans ?_)
          show (fX12_has La (nI u) (nI i) g).bind _ = _
          rw [r_has (by omega) (by omega), Option.bind_some]
          refine (if_pos (pI0 c2)).trans ?_
          rw [gz_let_eq]
          show gz_let (gz_wi g 39 10 ((g.1 39 10) + 1)) _ = _
          rw [r_step1 h hpl, gz_let_eq]
          show (fX12_leastOf La (nI kd) (nI i) (rs g (p + 1))).bind _ = _
          rw [l1, Option.bind_some]
          show (fX12_mostOf La (nI kd) (nI i) (rs g (p + 1))).bind _ = _
          rw [l2, Option.bind_some]
          show (fX12_number La (nI (t (i * 4 + 1))) (nI (t (i * 4 + 2))) (rs g (p + 1))).bind _ = _
          rw [r1, Option.bind_some]
          have eo : (nI off) + (oI (some i)) = nI (off + i) := n_add _ _
          have eu : (nI u) ||| ((1 : Int32) <<< ((oI (some i)) &&& 31)) = nI (u ||| 2 ^ i) := by
            show nI u ||| (nI 1 <<< (nI i &&& nI 31)) = _
            rw [n_shl1 (by omega), n_or]
          rw [eo, eu]
          refine (if_pos (n_okP (by omega) (by omega))).trans ?_
          rw [n_cl (by omega)]
          exact hQ
        have hfl : ∀ q, g1.1 39 11 = nI q → q ≤ 240 → ∃ g', (gz_let (gz_wi g1 w2 (off + i) x) (fun g115 => if (g115.1 39 11) = (-1) then (fX12_look La g115).bind (fun q127 => (fX12_spotOf La w4 q127.1 q127.2).bind (fun q130 => fX12_readItems_45 La w2 w4 (rk69 La) (f + 1) (nI kd) (nI off) (nI (u ||| 2 ^ i)) q130.1 q130.2)) else fX12_readItems_45 La w2 w4 (rk69 La) (f + 1) (nI kd) (nI off) (nI (u ||| 2 ^ i)) (nI i) g115)) = some g' ∧ Fz KE (fun j => j = w2) g g' ∧ (∀ j, ¬ (off ≤ j ∧ j < off + 4) → g'.1 w2 j = g.1 w2 j) ∧ g'.1 39 11 = nI q := by
          intro q hq hq2
          have hq3 : (gz_wi g1 w2 (off + i) x).1 39 11 = nI q := by rw [wi_39 (by omega)]; exact hq
          refine ⟨gz_wi g1 w2 (off + i) x, ?_, F1.s (by omega) rfl, fun j hj => ?_, hq3⟩
          · rw [gz_let_eq, if_neg (fault_ne hq2 hq3), fX12_readItems_45]
            refine (if_neg (show ¬ nI i = -1 by rw [show (-1 : Int32) = -nI 1 from rfl, m_eq (by omega)]; exact id)).trans ?_
            exact if_neg (fault_ne hq2 hq3)
          · rw [wi_sn (by omega), r2.1 w2 (by omega) id, rs_n (by omega)]
        generalize hN : numV b len 2 (nx b len (p + 1)) 0 = N at *
        rcases r3 with ⟨t1, t2, t3⟩ | ⟨t1, t2, t3, t4⟩ | ⟨t1, t2, t3, t4, t5⟩
        · rw [if_pos t1]
          obtain ⟨g2, z1, z2, z3, z4⟩ := hfl _ t2 t3
          exact ⟨g2, hbody _ z1, z2, z3, Or.inl ⟨_, z4, t3, Or.inl ⟨rfl, rfl⟩⟩⟩
        · rw [if_neg (show ¬ ¬ (nx b len (p + 1) < N.1 ∧ ¬ dg b len N.1) from fun hh => hh t1), if_pos t2]
          obtain ⟨g2, z1, z2, z3, z4⟩ := hfl _ t3 t4
          exact ⟨g2, hbody _ z1, z2, z3, Or.inl ⟨_, z4, t4, Or.inl ⟨rfl, rfl⟩⟩⟩
        · rw [if_neg (show ¬ ¬ (nx b len (p + 1) < N.1 ∧ ¬ dg b len N.1) from fun hh => hh t1), if_neg t2]
          subst t4
          have hS3 := t3.ws (j := w2) (k := off + i) (x := nI N.2) (by omega)
          have hy := nx_le (b := b) hS3.le.1
          have hv2 : GI w2 off (rs (gz_wi g1 w2 (off + i) (nI N.2)) (nx b len N.1)) (uN v i N.2) := by
            intro i' hi'
            rw [rs_n (by omega)]
            by_cases c3 : i' = i
            · rw [c3, wi_ss, uN_s]; exact ⟨rfl, t5⟩
            · rw [wi_sn (by omega), uN_n c3, r2.1 w2 (by omega) id, rs_n (by omega)]; exact hv i' hi'
          have hS4 := hS3.st hy.2
          obtain ⟨g2, z1, z2, z3, z4⟩ := ih (f + 1) (u ||| 2 ^ i) N.1 (uN v i N.2) (rs (gz_wi g1 w2 (off + i) (nI N.2)) (nx b len N.1)) (by omega) k2 (by omega) hS4 hv2
          refine ⟨g2, hbody _ ?_, Fz.tr ((F1.s (by omega) rfl).r (Or.inl rfl)) z2, fun j hj => ?_, z4⟩
          · rw [gz_let_eq, if_pos (show (gz_wi g1 w2 (off + i) (nI N.2)).1 39 11 = -1 from hS3.2), r_lookR hS3, Option.bind_some]
            show (fX12_spotOf La w4 (oI (sg b len (nx b len N.1))) (rs (gz_wi g1 w2 (off + i) (nI N.2)) (nx b len N.1))).bind _ = _
            rw [r_spotOf hw4 (fun c hc => hS3.sgc hc), Option.bind_some]
            have esp : (sg b len (nx b len N.1)).bind (fun c => sp (tx w4) c 0) = (sg b len (nx b len N.1)).bind (itm t) := by
              cases sg b len (nx b len N.1) with
              | none => rfl
              | some c => exact itm_sp hk c
            rw [esp]
            exact z1
          · rw [z3 j hj, rs_n (by omega), wi_sn (by omega), r2.1 w2 (by omega) id, rs_n (by omega)]
end RP
