/-! call odds -/
theorem sGo_o {V : Nat → Nat} {i j l : Nat} (hi : i < 4) (hj : j < 4) (hij : j ≠ i) : sGo V i l (42 + j) = V (42 + j) := by
  unfold sGo
  split
  · rw [uN_n (by omega)]
  · split
    · show uN _ _ _ _ = _
      rw [uN_n (by omega), uN_n (by omega), uN_n (by omega), uN_n (by omega)]
    · split
      · show uN _ _ _ _ = _
        rw [uN_n (by omega), uN_n (by omega), uN_n (by omega), uN_n (by omega)]
      · show uN _ _ _ _ = _
        rw [uN_n (by omega), uN_n (by omega), uN_n (by omega)]
theorem sPk_o {T : sT} {V : Nat → Nat} {i j : Nat} (hi : i < 4) (hj : j < 4) (hij : j ≠ i) : ∀ k, sPk T i V k (42 + j) = V (42 + j) := by
  intro k
  induction k with
  | zero => rfl
  | succ k ih =>
    rw [sPk_s]
    split
    · exact (sGo_o hi hj hij).trans ih
    · exact ih
theorem sGoer_o {T : sT} {V : Nat → Nat} {i j : Nat} (hi : i < 4) (hj : j < 4) (hij : j ≠ i) : sGoer T V i (42 + j) = V (42 + j) := by
  unfold sGoer
  split
  · refine (sPk_o hi hj hij _).trans ?_
    split
    · rw [uN_n (by omega)]
    · rfl
  · rfl
theorem sAll_how {T : sT} {V : Nat → Nat} {j : Nat} (hj : j < 4) (h : ¬ V (42 + j) = 0) : ∀ n, n ≤ 4 → sAll T V n (42 + j) = V (42 + j) := by
  intro n
  induction n with
  | zero => intro _; rfl
  | succ n ih =>
    intro hn
    rw [sAll_s]
    by_cases c : j = n
    · subst c
      unfold sGoer
      rw [if_neg (by rw [ih (by omega)]; exact h)]; exact ih (by omega)
    · rw [sGoer_o (by omega) hj c]; exact ih (by omega)
theorem sHour_how {T : sT} {V : Nat → Nat} {j : Nat} (hj : j < 4) (h60 : V 60 ≤ 4) (h : ¬ V (42 + j) = 0) : sHour T V (42 + j) = V (42 + j) := by
  unfold sHour
  rw [uN_n (by omega), uN_n (by omega), sTurned_n (by omega) h60, sAll_how hj h _ h60]
/-- the reference's tree of odds -/
def oTu (U : Nat → Nat) (i : Nat) : Nat → Nat := if U (42 + i) = 0 then uN U (34 + i) ((U (34 + i) + 1) % 4) else U
def rO (T : sT) (i c ch : Nat) : Nat → (Nat → Nat) → Nat → Nat
  | 0, U, p => if U (30 + i) = c then p else 0
  | n + 1, U, p => rO T i c ch n (sHour T U) (p - p * ch / 100) + rO T i c ch n (sHour T (oTu U i)) (p * ch / 100)
theorem rO_0 (T : sT) (i c ch : Nat) : ∀ n U, rO T i c ch n U 0 = 0 := by
  intro n
  induction n with
  | zero => intro U; show (if _ then 0 else 0) = 0; split <;> rfl
  | succ n ih => intro U; show rO T i c ch n _ (0 - 0 * ch / 100) + rO T i c ch n _ (0 * ch / 100) = 0; rw [Nat.zero_mul, Nat.zero_div, ih, ih]
theorem perc_le {p ch : Nat} (h : ch ≤ 100) : p * ch / 100 ≤ p := by
  have : p * ch ≤ p * 100 := Nat.mul_le_mul_left _ h
  omega
theorem rO_no {T : sT} {i c ch : Nat} (hi : i < 4) (hc : ch ≤ 100) : ∀ n U p q, U 60 ≤ 4 → ¬ U (42 + i) = 0 → rO T i c ch n U (p + q) = rO T i c ch n U p + rO T i c ch n U q := by
  intro n
  induction n with
  | zero => intro U p q _ _; show (if _ then _ else _) = (if _ then _ else _) + (if _ then _ else _); split <;> rfl
  | succ n ih =>
    intro U p q h60 h
    have h1 : (sHour T U) 60 ≤ 4 := by rw [sHour_fix h60 (by omega)]; exact h60
    have h2 : ¬ sHour T U (42 + i) = 0 := by rw [sHour_how hi h60 h]; exact h
    have e : oTu U i = U := by unfold oTu; rw [if_neg h]
    have f : ∀ p, rO T i c ch (n + 1) U p = rO T i c ch n (sHour T U) p := by
      intro p
      show rO T i c ch n (sHour T U) (p - p * ch / 100) + rO T i c ch n (sHour T (oTu U i)) (p * ch / 100) = _
      rw [e, ← ih _ _ _ h1 h2, Nat.sub_add_cancel (perc_le hc)]
    rw [f, f, f]; exact ih _ _ _ h1 h2
/-- the class's sum over all turns -/
def oP (T : sT) (i ch : Nat) (b : Bool) (s : (Nat → Nat) × Nat) : (Nat → Nat) × Nat :=
  if s.2 = 0 then s else
  if b then (sHour T (uN s.1 (34 + i) ((s.1 (34 + i) + 1) % 4)), if s.1 (42 + i) = 0 then s.2 * ch / 100 else 0)
  else (sHour T s.1, s.2 - (if s.1 (42 + i) = 0 then s.2 * ch / 100 else 0))
def oIt (T : sT) (i ch t n : Nat) (s : (Nat → Nat) × Nat) : (Nat → Nat) × Nat := it (fun k s => oP T i ch (t.testBit k) s) n s
def oVal (T : sT) (i c ch t n : Nat) (s : (Nat → Nat) × Nat) : Nat := if (oIt T i ch t n s).1 (30 + i) = c then (oIt T i ch t n s).2 else 0
def oSum (f : Nat → Nat) (m : Nat) : Nat := it (fun t s => s + f t) m 0
theorem oSum_s (f : Nat → Nat) (m : Nat) : oSum f (m + 1) = oSum f m + f m := rfl
theorem oSum_2 (f : Nat → Nat) : ∀ m, oSum f (2 * m) = oSum (fun t => f (2 * t)) m + oSum (fun t => f (2 * t + 1)) m := by
  intro m
  induction m with
  | zero => rfl
  | succ m ih => rw [show 2 * (m + 1) = 2 * m + 1 + 1 by omega, oSum_s, oSum_s, oSum_s, oSum_s, ih]; omega
theorem oSum_c {f f' : Nat → Nat} (h : ∀ t, f t = f' t) (m : Nat) : oSum f m = oSum f' m := by rw [funext h]
theorem it_front {S : Type} (b : Nat → S → S) (s : S) : ∀ n, it b (n + 1) s = it (fun k => b (k + 1)) n (b 0 s) := by
  intro n
  induction n with
  | zero => rfl
  | succ n ih => show b (n + 1) (it b (n + 1) s) = b (n + 1) (it (fun k => b (k + 1)) n (b 0 s)); rw [ih]
theorem oVal_s (T : sT) (i c ch t n : Nat) (s : (Nat → Nat) × Nat) : oVal T i c ch t (n + 1) s = oVal T i c ch (t / 2) n (oP T i ch (t.testBit 0) s) := by
  have : oIt T i ch t (n + 1) s = oIt T i ch (t / 2) n (oP T i ch (t.testBit 0) s) := by
    unfold oIt
    rw [it_front]
    have : (fun k => (fun k s => oP T i ch (t.testBit k) s) (k + 1)) = (fun k s => oP T i ch ((t / 2).testBit k) s) := by
      funext k s; show oP T i ch (t.testBit (k + 1)) s = _; rw [Nat.testBit_succ]
    rw [this]
  unfold oVal
  rw [this]
theorem oAll_s (T : sT) (i c ch n : Nat) (s : (Nat → Nat) × Nat) : oSum (fun t => oVal T i c ch t (n + 1) s) (2 ^ (n + 1)) = oSum (fun t => oVal T i c ch t n (oP T i ch false s)) (2 ^ n) + oSum (fun t => oVal T i c ch t n (oP T i ch true s)) (2 ^ n) := by
  rw [show 2 ^ (n + 1) = 2 * 2 ^ n by rw [Nat.pow_succ]; omega, oSum_2]
  congr 1
  · refine oSum_c (fun t => ?_) _
    show oVal T i c ch (2 * t) (n + 1) s = _
    rw [oVal_s, show 2 * t / 2 = t by omega, show (2 * t).testBit 0 = false by rw [Nat.testBit_zero]; exact decide_eq_false (by omega)]
  · refine oSum_c (fun t => ?_) _
    show oVal T i c ch (2 * t + 1) (n + 1) s = _
    rw [oVal_s, show (2 * t + 1) / 2 = t by omega, show (2 * t + 1).testBit 0 = true by rw [Nat.testBit_zero]; exact decide_eq_true (by omega)]
theorem oSum_0 {f : Nat → Nat} (h : ∀ t, f t = 0) : ∀ m, oSum f m = 0 := by
  intro m
  induction m with
  | zero => rfl
  | succ m ih => rw [oSum_s, ih, h]
theorem oVal_0 {T : sT} {i c ch t : Nat} {s : (Nat → Nat) × Nat} (h : s.2 = 0) : ∀ n, oVal T i c ch t n s = 0 := by
  intro n
  have : ∀ n, oIt T i ch t n s = s := by
    intro n
    induction n with
    | zero => rfl
    | succ n ih => show oP T i ch (t.testBit n) (oIt T i ch t n s) = s; rw [ih]; unfold oP; rw [if_pos h]
  unfold oVal
  rw [this, h]; split <;> rfl
theorem oAll_rO {T : sT} {i c ch : Nat} (hi : i < 4) (hc : ch ≤ 100) : ∀ n U p, U 60 ≤ 4 → oSum (fun t => oVal T i c ch t n (U, p)) (2 ^ n) = rO T i c ch n U p := by
  intro n
  induction n with
  | zero => intro U p _; show 0 + oVal T i c ch 0 0 (U, p) = _; rw [Nat.zero_add]; rfl
  | succ n ih =>
    intro U p h60
    by_cases p0 : p = 0
    · subst p0
      rw [rO_0]; exact oSum_0 (fun t => oVal_0 rfl _) _
    · have h1 : (sHour T U) 60 ≤ 4 := by rw [sHour_fix h60 (by omega)]; exact h60
      rw [oAll_s]
      by_cases c0 : U (42 + i) = 0
      · have e1 : oP T i ch false (U, p) = (sHour T U, p - p * ch / 100) := by
          unfold oP; rw [if_neg p0, if_neg (by decide)]; show (_, p - (if U (42 + i) = 0 then _ else _)) = _; rw [if_pos c0]
        have e2 : oP T i ch true (U, p) = (sHour T (oTu U i), p * ch / 100) := by
          unfold oP oTu; rw [if_neg p0, if_pos rfl, if_pos c0, if_pos c0]
        have h2 : (oTu U i) 60 ≤ 4 := by unfold oTu; rw [if_pos c0, uN_n (by omega)]; exact h60
        rw [e1, e2, ih _ _ h1, ih _ _ (by rw [sHour_fix h2 (by omega)]; exact h2)]; rfl
      · have h2 : ¬ sHour T U (42 + i) = 0 := by rw [sHour_how hi h60 c0]; exact c0
        have e1 : oP T i ch false (U, p) = (sHour T U, p) := by
          unfold oP; rw [if_neg p0, if_neg (by decide)]; show (_, p - (if U (42 + i) = 0 then _ else _)) = _; rw [if_neg c0]; rfl
        have e2 : (oP T i ch true (U, p)).2 = 0 := by
          unfold oP; rw [if_neg p0, if_pos rfl]; exact if_neg c0
        have e3 : oTu U i = U := by unfold oTu; rw [if_neg c0]
        rw [e1, ih _ _ h1, oSum_0 (fun t => oVal_0 e2 _)]
        show _ = rO T i c ch n (sHour T U) (p - p * ch / 100) + rO T i c ch n (sHour T (oTu U i)) (p * ch / 100)
        rw [e3, ← rO_no hi hc _ _ _ _ h1 h2, Nat.sub_add_cancel (perc_le hc)]; rfl
theorem sOdds_rO {T : sT} {V : Nat → Nat} {i c n ch : Nat} (hi : i < 4) (hc : ch ≤ 100) (h60 : V 60 ≤ 4) : sOdds T V i c n ch (2 ^ n) = rO T i c ch n V 1000000000 := by
  rw [← oAll_rO hi hc n V _ h60]
  have : ∀ m, sOdds T V i c n ch m = oSum (fun t => oVal T i c ch t n (V, 1000000000)) m := by
    intro m
    induction m with
    | zero => rfl
    | succ m ih =>
      rw [oSum_s, ← ih]
      show (if (oIt T i ch m n (V, 1000000000)).1 (30 + i) = c then sOdds T V i c n ch m + (oIt T i ch m n (V, 1000000000)).2 else sOdds T V i c n ch m) = _ + (if (oIt T i ch m n (V, 1000000000)).1 (30 + i) = c then (oIt T i ch m n (V, 1000000000)).2 else 0)
      split <;> rfl
  exact this _
theorem ex_q {α β : Type} {q q' : α} {X : β → α} {P : β → Prop} (e : q = q') (h : ∃ z, q' = X z ∧ P z) : ∃ z, q = X z ∧ P z := by rw [e]; exact h
section RW
variable {g : gz_S} {V W U : Nat → Nat} {B : Nat} {La : gz_L} {Ls : List (List Nat)} {cur : Option Nat}
def F62 (m : Nat) (g g' : gz_S) : Prop := ∀ k, m ≤ k → g'.1 62 k = g.1 62 k
theorem r_save {n : Nat} (hn : n ≤ 6) {F : Int32 → Int32 → Int32 → Int32 → Int32 → gz_S → Option (Int32 × gz_S)} {k61 : Int32 → Int32 → Int32 → Int32 → Int32 → gz_S → Option (Int32 × gz_S)} {x1 x2 x4 x5 : Int32} :
    ∃ g', fX12_oddsFrom_29 La F k61 gz_FU x1 x2 (nI n) x4 x5 0 g = k61 x1 x2 (nI n) x4 x5 g' ∧ Fz (fun _ => False) (fun j => j = 62) g g' ∧ F62 (51 * (n + 1)) g g' ∧ ∀ j, j < 51 → g'.1 62 (51 * n + j) = g.1 54 j := by
  refine lp (fun f k z => fX12_oddsFrom_29 La F k61 f x1 x2 (nI n) x4 x5 (nI k) z) (fun k z => Fz (fun _ => False) (fun j => j = 62) g z ∧ F62 (51 * (n + 1)) g z ∧ ∀ j, j < k → z.1 62 (51 * n + j) = g.1 54 j) 51
    (fun q => ∃ g', q = k61 x1 x2 (nI n) x4 x5 g' ∧ Fz (fun _ => False) (fun j => j = 62) g g' ∧ F62 (51 * (n + 1)) g g' ∧ ∀ j, j < 51 → g'.1 62 (51 * n + j) = g.1 54 j) ?_ ?_ gz_FU 0 g (by omega) (by unfold gz_FU; omega) ⟨Fz.z0, fun k _ => rfl, fun j hj => absurd hj (Nat.not_lt_zero _)⟩
  · intro f k z hk ⟨q1, q2, q3⟩
    refine Or.inr ⟨gz_wi z 62 (51 * n + k) (g.1 54 k), ?_, q1.s (by omega) rfl, fun j hj => ?_, fun j hj => ?_⟩
    · rw [fX12_oddsFrom_29, if_neg (show ¬ (50 : Int32) < nI k by show ¬ nI 50 < nI k; rw [n_lt (by omega) (by omega)]; omega), if_pos (n_okP (by omega) (by omega)), show (51 : Int32) * nI n = nI (51 * n) from n_mul 51 n, n_add]
      refine (if_pos (n_okP (by omega) (by omega))).trans ?_
      rw [gz_let_eq, gz_let_eq, n_cl (by omega), n_cl (by omega), q1.1 54 (by omega) (by omega), show nI k + (1 : Int32) = nI (k + 1) from n_add _ _]
    · rw [wi_sn (by omega)]; exact q2 j hj
    · by_cases c : j = k
      · rw [c, wi_ss]
      · rw [wi_sn (by omega)]; exact q3 j (by omega)
  · intro f z ⟨q1, q2, q3⟩
    refine ⟨z, ?_, q1, q2, q3⟩
    rw [fX12_oddsFrom_29]; exact if_pos (by decide)
theorem r_load {n : Nat} (hn : n ≤ 6) {F : Int32 → Int32 → Int32 → Int32 → Int32 → gz_S → Option (Int32 × gz_S)} {k122 : Int32 → Int32 → Int32 → Int32 → Int32 → Int32 → Int32 → Int32 → gz_S → Option (Int32 × gz_S)} {x1 x2 x4 x5 x6 x7 x8 : Int32} :
    ∃ g', fX12_oddsFrom_90 La F k122 gz_FU x1 x2 (nI n) x4 x5 x6 x7 x8 0 g = k122 x1 x2 (nI n) x4 x5 x6 x7 x8 g' ∧ Fz (fun _ => False) (fun j => j = 54) g g' ∧ ∀ j, j < 51 → g'.1 54 j = g.1 62 (51 * n + j) := by
  refine lp (fun f k z => fX12_oddsFrom_90 La F k122 f x1 x2 (nI n) x4 x5 x6 x7 x8 (nI k) z) (fun k z => Fz (fun _ => False) (fun j => j = 54) g z ∧ ∀ j, j < k → z.1 54 j = g.1 62 (51 * n + j)) 51
    (fun q => ∃ g', q = k122 x1 x2 (nI n) x4 x5 x6 x7 x8 g' ∧ Fz (fun _ => False) (fun j => j = 54) g g' ∧ ∀ j, j < 51 → g'.1 54 j = g.1 62 (51 * n + j)) ?_ ?_ gz_FU 0 g (by omega) (by unfold gz_FU; omega) ⟨Fz.z0, fun j hj => absurd hj (Nat.not_lt_zero _)⟩
  · intro f k z hk ⟨q1, q3⟩
    refine Or.inr ⟨gz_wi z 54 k (g.1 62 (51 * n + k)), ?_, q1.s (by omega) rfl, fun j hj => ?_⟩
    · rw [fX12_oddsFrom_90, if_neg (show ¬ (50 : Int32) < nI k by show ¬ nI 50 < nI k; rw [n_lt (by omega) (by omega)]; omega), show (51 : Int32) * nI n = nI (51 * n) from n_mul 51 n, n_add]
      refine (if_pos (n_okP (by omega) (by omega))).trans ((if_pos (n_okP (by omega) (by omega))).trans ?_)
      rw [gz_let_eq, gz_let_eq, n_cl (by omega), n_cl (by omega), q1.1 62 (by omega) (by omega), show nI k + (1 : Int32) = nI (k + 1) from n_add _ _]
    · by_cases c : j = k
      · rw [c, wi_ss]
      · rw [wi_sn c]; exact q3 j (by omega)
  · intro f z ⟨q1, q3⟩
    refine ⟨z, ?_, q1, q3⟩
    rw [fX12_oddsFrom_90]; exact if_pos (by decide)
theorem oTu_wf (h : Wf B U) {i : Nat} (hi : i < 4) : Wf B (oTu U i) := by
  unfold oTu
  split
  · exact h.up (by omega) (by omega) (by omega) (by omega) (by omega) (by omega) (by omega) (by omega) (by omega) (by omega) (by omega) (by omega) (by omega)
  · exact h
theorem r_odds {i c ch : Nat} (hc30 : c < 30) (hch : ch ≤ 100) : ∀ n, n ≤ 6 → ∀ d, n < d → ∀ (g : gz_S) (U : Nat → Nat) (B p : Nat), CX g 54 U Ls cur → RKp g U → Wf B U → B + 20 * n < 700000 → i < U 60 → p ≤ 1000000000 →
    ∃ g', fX12_oddsFromD La d (nI i) (nI c) (nI n) (nI ch) (nI p) g = some (nI (rO (sTof Ls cur) i c ch n U p), g') ∧ Fy KQ SQ g g' ∧ F62 (51 * (n + 1)) g g' ∧ RLw g' Ls cur := by
  intro n
  induction n with
  | zero =>
    intro _ d hd g U B p hx hkp hW hB hi hp
    obtain ⟨d, rfl⟩ : ∃ k, d = k + 1 := ⟨d - 1, by omega⟩
    have h60 := hW.2.2.2.1.2
    have b1 := (hW.2.2.2.2.2.2.2.2.2.1 i (by omega)).1
    have m0 : g.1 54 (30 + 4 * i) = nI (U (30 + i)) := (hx.at0 (i := i) (by omega)).1
    refine ⟨g, ?_, Fy.z0, fun _ _ => rfl, hx.2.2⟩
    show fX12_oddsFrom La _ (nI i) (nI c) (nI 0) (nI ch) (nI p) g = some (nI (if U (30 + i) = c then p else 0), g)
    unfold fX12_oddsFrom
    rw [if_pos (show nI 0 = 0 from rfl), show (4 : Int32) * nI i = nI (4 * i) from n_mul 4 i, show (30 : Int32) + nI (4 * i) = nI (30 + 4 * i) from n_add 30 _]
    refine (if_pos (n_okP (by omega) (by omega))).trans ?_
    rw [n_cl (by omega), m0]
    by_cases c1 : U (30 + i) = c
    · rw [if_pos c1, if_pos (by rw [c1])]
    · rw [if_neg c1, if_neg (by rw [n_eq (by omega) (by omega)]; exact c1)]; rfl
  | succ n ih =>
    intro hn d hd g U B p hx hkp hW hB hi hp
    obtain ⟨d, rfl⟩ : ∃ k, d = k + 1 := ⟨d - 1, by omega⟩
    have h60 := hW.2.2.2.1.2
    have hT := sTof_lt (Ls := Ls) (cur := cur)
    obtain ⟨g1, u1, u2, u3, u4⟩ := r_save (La := La) (g := g) (n := n + 1) hn (F := fX12_oddsFromD La d) (x1 := nI i) (x2 := nI c) (x4 := nI ch) (x5 := nI p) (k61 := fun (x1 : Int32) (x2 : Int32) (x3 : Int32) (x4 : Int32) (x5 : Int32) g => gz_let (Int64.toInt32 (((Int32.toInt64 x5) * (Int32.toInt64 x4)) / 100)) (fun y76 => fX12_oddsFrom_81 La (fX12_oddsFromD La d) gz_FU x1 x2 x3 x4 x5 0 y76 0 g))
    have F1 : Fy KQ SQ g g1 := u2.y.mo (fun k hk => hk.elim) (fun j hj => by have := hj; omega)
    have hyp : p * ch / 100 ≤ p := perc_le hch
    show ∃ g', fX12_oddsFrom La (fX12_oddsFromD La d) (nI i) (nI c) (nI (n + 1)) (nI ch) (nI p) g = _ ∧ _
    unfold fX12_oddsFrom
    rw [if_neg (show ¬ nI (n + 1) = 0 by show ¬ _ = nI 0; rw [n_eq (by omega) (by omega)]; omega), u1, gz_let_eq, n_perc hp hch]
    generalize hy : p * ch / 100 = y at *
    have acc : ∀ t : Nat, ∃ a : Nat, (t = 0 → a = 0) ∧ (t = 1 → a = rO (sTof Ls cur) i c ch n (sHour (sTof Ls cur) U) (p - y)) ∧ (t = 2 → a = rO (sTof Ls cur) i c ch (n + 1) U p) := by
      intro t
      by_cases t0 : t = 0
      · exact ⟨0, fun _ => rfl, fun h => by omega, fun h => by omega⟩
      · by_cases t1 : t = 1
        · exact ⟨_, fun h => by omega, fun _ => rfl, fun h => by omega⟩
        · exact ⟨_, fun h => by omega, fun h => by omega, fun _ => rfl⟩
    have rest : ∀ z, Fy KQ SQ g z → F62 (51 * (n + 2)) g z → (∀ j, j < 51 → z.1 62 (51 * (n + 1) + j) = g.1 54 j) → RLw z Ls cur → ∀ (f t A : Nat), t < 2 →
        ∃ z', fX12_oddsFrom_81 La (fX12_oddsFromD La d) (f + 1) (nI i) (nI c) (nI (n + 1)) (nI ch) (nI p) (nI A) (nI y) (nI t) z = fX12_oddsFrom_81 La (fX12_oddsFromD La d) f (nI i) (nI c) (nI (n + 1)) (nI ch) (nI p) (nI (A + rO (sTof Ls cur) i c ch n (sHour (sTof Ls cur) (if t = 1 then oTu U i else U)) (if t = 1 then y else p - y))) (nI y) (nI (t + 1)) z' ∧
          Fy KQ SQ g z' ∧ F62 (51 * (n + 2)) g z' ∧ (∀ j, j < 51 → z'.1 62 (51 * (n + 1) + j) = g.1 54 j) ∧ RLw z' Ls cur := by
      intro z z1 z2 z3 z4 f t A ht
      rw [fX12_oddsFrom_81, if_neg (show ¬ (2 : Int32) ≤ nI t by show ¬ nI 2 ≤ nI t; rw [n_le (by omega) (by omega)]; omega)]
      generalize hK : (fun (x1 : Int32) (x2 : Int32) (x3 : Int32) (x4 : Int32) (x5 : Int32) (x6 : Int32) (x7 : Int32) (x8 : Int32) g => if x8 = 1 then (fX12_does La 54 x1 g).bind (fun q133 => if q133.1 = 0 then fX12_oddsFrom_169 La (fX12_oddsFromD La d) (fX12_oddsFrom_81 La (fX12_oddsFromD La d) f) x1 x2 x3 x4 x5 x6 x7 x8 q133.2 else if gz_ok (((30 : Int32) + ((4 : Int32) * x1)) + 1) 231 then if gz_ok (((30 : Int32) + ((4 : Int32) * x1)) + 1) 231 then gz_let (gz_wi q133.2 54 (Int32.toNatClampNeg (((30 : Int32) + ((4 : Int32) * x1)) + 1)) (((q133.2.1 54 (Int32.toNatClampNeg (((30 : Int32) + ((4 : Int32) * x1)) + 1))) + 1) - ((q133.2.1 54 (Int32.toNatClampNeg (((30 : Int32) + ((4 : Int32) * x1)) + 1))) + 1) / 4 * 4)) (fun g168 => fX12_oddsFrom_169 La (fX12_oddsFromD La d) (fX12_oddsFrom_81 La (fX12_oddsFromD La d) f) x1 x2 x3 x4 x5 x6 x7 x8 g168) else none else none) else fX12_oddsFrom_169 La (fX12_oddsFromD La d) (fX12_oddsFrom_81 La (fX12_oddsFromD La d) f) x1 x2 x3 x4 x5 x6 x7 x8 g) = K
      obtain ⟨g2, v1, v2, v3⟩ := r_load (La := La) (g := z) (n := n + 1) hn (F := fX12_oddsFromD La d) (x1 := nI i) (x2 := nI c) (x4 := nI ch) (x5 := nI p) (x6 := nI A) (x7 := nI y) (x8 := nI t) (k122 := K)
      rw [v1, ← hK]
      have G2 : Fy KQ SQ z g2 := v2.y.mo (fun k hk => hk.elim) (fun j hj => by have := hj; omega)
      have F2 := z1.tr G2
      have RL2 : RLw g2 Ls cur := z4.fr v2.y id id (by omega) (by omega) (by omega) (by omega) (by omega)
      have x2 : CX g2 54 U Ls cur := ⟨fun k hk => by rw [v3 _ (by have := rp_lt hk; omega), z3 _ (by have := rp_lt hk; omega)]; exact hx.1 k hk, hx.2.1.fr F2 (by omega) (by omega) (by omega), RL2⟩
      have kp2 : RKp g2 U := hkp.fr F2 (by omega)
      have e62 : g2.1 62 = z.1 62 := v2.1 62 (by omega) (by omega)
      -- the way on, once the look is settled
      have on : ∀ (z2' : gz_S) (W : Nat → Nat) (pt : Nat), Fy KQ SQ g z2' → z2'.1 62 = z.1 62 → CX z2' 54 W Ls cur → RKp z2' W → Wf B W → W 60 = U 60 → W = (if t = 1 then oTu U i else U) → pt = (if t = 1 then y else p - y) → ∃ z', fX12_oddsFrom_169 La (fX12_oddsFromD La d) (fX12_oddsFrom_81 La (fX12_oddsFromD La d) f) (nI i) (nI c) (nI (n + 1)) (nI ch) (nI p) (nI A) (nI y) (nI t) z2' = fX12_oddsFrom_81 La (fX12_oddsFromD La d) f (nI i) (nI c) (nI (n + 1)) (nI ch) (nI p) (nI (A + rO (sTof Ls cur) i c ch n (sHour (sTof Ls cur) W) pt)) (nI y) (nI (t + 1)) z' ∧
          Fy KQ SQ g z' ∧ F62 (51 * (n + 2)) g z' ∧ (∀ j, j < 51 → z'.1 62 (51 * (n + 1) + j) = g.1 54 j) ∧ RLw z' Ls cur := by
        intro z5 W pt m1 m2 m3 m4 m5 m6 m7 m8
        obtain ⟨g3, w1, w2, w3, _⟩ := r_passes (La := La) (Or.inr rfl) m3 m4 m5 (by omega)
        have F3 : Fy KQ SQ z5 g3 := w2.1.mo (fun k hk => by have := hk; omega) (fun j hj => by have := hj; omega)
        have e3 : g3.1 62 = z5.1 62 := w2.1.1 62 (by omega) (by omega)
        have W60 : W 60 ≤ 4 := by omega
        have kp3 : RKp g3 (sHour (sTof Ls cur) W) := (m4.fr w2.1 (by omega)).mo (fun k hk => sHour_fix W60 (by omega)) W60
        have hpt : pt ≤ 1000000000 := by rw [m8]; split <;> omega
        obtain ⟨g4, r1, r2, r3, r4⟩ := ih (by omega) d (by omega) g3 (sHour (sTof Ls cur) W) (B + 20) pt w3 kp3 (sHour_wf hT m5 (by omega)) (by omega) (by rw [sHour_fix W60 (by omega)]; omega) hpt
        have e4 : ∀ k, 51 * (n + 1) ≤ k → g4.1 62 k = z.1 62 k := fun k hk => (r3 k hk).trans (by rw [e3, m2])
        refine ⟨g4, ?_, m1.tr (F3.tr r2), fun k hk => (e4 k (by omega)).trans (z2 k hk), fun j hj => (e4 _ (by omega)).trans (z3 j hj), r4⟩
        unfold fX12_oddsFrom_169
        rw [w1, Option.bind_some]
        have e5 : nI (n + 1) - (1 : Int32) = nI n := n_sub (a := n + 1) (b := 1) (by omega)
        have fin : fX12_oddsFrom_205 La (fX12_oddsFromD La d) (fX12_oddsFrom_81 La (fX12_oddsFromD La d) f) (nI i) (nI c) (nI (n + 1)) (nI ch) (nI p) (nI y) (nI t) (nI pt) (nI ch) (nI (n + 1) - 1) (nI c) (nI i) (nI A) g3 = fX12_oddsFrom_81 La (fX12_oddsFromD La d) f (nI i) (nI c) (nI (n + 1)) (nI ch) (nI p) (nI (A + rO (sTof Ls cur) i c ch n (sHour (sTof Ls cur) W) pt)) (nI y) (nI (t + 1)) g4 := by
          unfold fX12_oddsFrom_205
          rw [e5, r1, Option.bind_some, gz_let_eq, gz_let_eq, show nI t + (1 : Int32) = nI (t + 1) from n_add _ _]
          show fX12_oddsFrom_81 La _ f _ _ _ _ _ (nI A + nI _) _ _ _ = _
          rw [n_add]
        by_cases t1 : t = 1
        · rw [if_pos t1] at m8
          rw [m8] at fin; rw [if_pos (show nI t = 1 by rw [t1]; rfl), m8]; exact fin
        · rw [if_neg t1] at m8
          rw [if_neg (show ¬ nI t = 1 by show ¬ _ = nI 1; rw [n_eq (by omega) (by omega)]; exact t1), n_sub hyp, m8]; rw [m8] at fin; exact fin
      by_cases t1 : t = 1
      · rw [if_pos t1, if_pos t1]
        refine ex_q (if_pos (show nI t = 1 by rw [t1]; rfl)) ?_
        rw [r_does x2.1 hW.1 (by omega), Option.bind_some]
        by_cases c0 : U (42 + i) = 0
        · have m1 := (x2.at0 (i := i) (by omega)).2.1
          have b2 := (hW.2.2.2.2.2.2.2.2.2.1 i (by omega)).2.1
          refine ex_q (if_neg (pI1 c0)) ?_
          have e1 : ((30 : Int32) + (4 : Int32) * nI i) + 1 = nI (30 + 4 * i + 1) := by rw [show (4 : Int32) * nI i = nI (4 * i) from n_mul 4 i, show (30 : Int32) + nI (4 * i) = nI (30 + 4 * i) from n_add 30 _]; exact n_add _ 1
          simp only [e1]
          rw [if_pos (n_okP (by omega) (by omega)), if_pos (n_okP (by omega) (by omega)), gz_let_eq, n_cl (by omega), m1, show nI (U (34 + i)) + (1 : Int32) = nI (U (34 + i) + 1) from n_add _ 1, show (nI (U (34 + i) + 1) - nI (U (34 + i) + 1) / 4 * 4) = nI ((U (34 + i) + 1) % 4) from n_mod (b := 4) (by omega) (by omega)]
          have x3 := x2.up (Or.inr rfl) (k := 34 + i) (x := (U (34 + i) + 1) % 4) (by omega) (rp_1 (by omega))
          have G3 : Fy KQ SQ g2 (gz_wi g2 54 (30 + 4 * i + 1) (nI ((U (34 + i) + 1) % 4))) := (Fy.z0 (K := KQ) (S := SQ)).s (by omega) (by omega)
          have eo : oTu U i = uN U (34 + i) ((U (34 + i) + 1) % 4) := by unfold oTu; rw [if_pos c0]
          have := on _ (uN U (34 + i) ((U (34 + i) + 1) % 4)) y (F2.tr G3) (by rw [wi_no (by omega)]; exact e62) x3 ((kp2.fr G3 (by omega)).mo (fun k hk => uN_n (by omega)) h60) (by rw [← eo]; exact oTu_wf hW (by omega)) (uN_n (by omega)) (by rw [if_pos t1, eo]) (by rw [if_pos t1])
          rw [eo]; exact this
        · refine ex_q (if_pos (pI0 c0)) ?_
          have eo : oTu U i = U := by unfold oTu; rw [if_neg c0]
          rw [eo]
          exact on g2 U y F2 e62 x2 kp2 hW rfl (by rw [if_pos t1, eo]) (by rw [if_pos t1])
      · rw [if_neg t1, if_neg t1]
        refine ex_q (if_neg (show ¬ nI t = 1 by show ¬ _ = nI 1; rw [n_eq (by omega) (by omega)]; exact t1)) ?_
        exact on g2 U (p - y) F2 e62 x2 kp2 hW rfl (by rw [if_neg t1]) (by rw [if_neg t1])
    have RL1 : RLw g1 Ls cur := hx.2.2.fr u2.y id id (by omega) (by omega) (by omega) (by omega) (by omega)
    obtain ⟨z1, a1, a2, a3, a4, a5⟩ := rest g1 F1 u3 u4 RL1 99999 0 0 (by omega)
    obtain ⟨z2, b1, b2, b3, b4, b5⟩ := rest z1 a2 a3 a4 a5 99998 1 (0 + rO (sTof Ls cur) i c ch n (sHour (sTof Ls cur) (if (0 : Nat) = 1 then oTu U i else U)) (if (0 : Nat) = 1 then y else p - y)) (by omega)
    refine ⟨z2, ?_, b2, b3, b5⟩
    show fX12_oddsFrom_81 La (fX12_oddsFromD La d) (99999 + 1) (nI i) (nI c) (nI (n + 1)) (nI ch) (nI p) (nI 0) (nI y) (nI 0) g1 = _
    rw [a1, b1]
    show fX12_oddsFrom_81 La (fX12_oddsFromD La d) (99997 + 1) _ _ _ _ _ _ _ (nI 2) _ = _
    rw [fX12_oddsFrom_81, if_pos (show (2 : Int32) ≤ nI 2 by decide)]
    show some (nI (0 + rO _ _ _ _ n (sHour _ U) (p - y) + rO _ _ _ _ n (sHour _ (oTu U i)) y), z2) = some (nI (rO _ _ _ _ n (sHour _ U) (p - p * ch / 100) + rO _ _ _ _ n (sHour _ (oTu U i)) (p * ch / 100)), z2)
    rw [hy, Nat.zero_add]
end RW
