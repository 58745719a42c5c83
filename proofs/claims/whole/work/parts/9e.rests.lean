/-! call rests -/
theorem sRests_bit (G1 G2 : Nat → Int32) : ∀ n j, (sRests G1 G2 n).testBit j = decide (j < n ∧ sRestP G1 G2 (j / 4) (j % 4)) := by
  intro n
  induction n with
  | zero => intro j; rw [decide_eq_false (fun h => absurd h.1 (Nat.not_lt_zero _))]; exact Nat.zero_testBit j
  | succ n ih =>
    intro j
    show (if sRestP G1 G2 (n / 4) (n % 4) then sRests G1 G2 n ||| 2 ^ n else sRests G1 G2 n).testBit j = _
    by_cases c : sRestP G1 G2 (n / 4) (n % 4)
    · rw [if_pos c, Nat.testBit_or, ih, Nat.testBit_two_pow]
      by_cases e : j = n
      · subst e
        rw [decide_eq_true (show j = j from rfl), Bool.or_true, decide_eq_true ⟨by omega, c⟩]
      · rw [decide_eq_false (show ¬ n = j from fun h => e h.symm), Bool.or_false]
        exact decide_eq_decide.mpr ⟨fun h => ⟨by omega, h.2⟩, fun h => ⟨by omega, h.2⟩⟩
    · rw [if_neg c, ih]
      have key : j < n + 1 ∧ sRestP G1 G2 (j / 4) (j % 4) → j < n := by
        intro h
        rcases Nat.lt_or_ge j n with h3 | h3
        · exact h3
        · have : j = n := by omega
          subst this; exact absurd h.2 c
      exact decide_eq_decide.mpr ⟨fun h => ⟨by omega, h.2⟩, fun h => ⟨key h, h.2⟩⟩
theorem pc_up {a n : Nat} (h : ∀ j, n ≤ j → a.testBit j = false) : ∀ m, pc (n + m) a = pc n a := by
  intro m
  induction m with
  | zero => rfl
  | succ m ih => rw [show n + (m + 1) = n + m + 1 by omega, pc_s, h (n + m) (by omega), ih]; rfl
section RW
variable {g : gz_S} {V W : Nat → Nat} {B : Nat} {La : gz_L} {Ls : List (List Nat)} {cur : Option Nat}
def rG1 (Ls : List (List Nat)) (cur : Option Nat) (V : Nat → Nat) (a b : Nat) : Nat → Int32 := fun i => sGain (sTof Ls cur) V a b (i / 4) (i % 4) a
def rG2 (Ls : List (List Nat)) (cur : Option Nat) (V : Nat → Nat) (a b : Nat) : Nat → Int32 := fun i => sGain (sTof Ls cur) V a b (i / 4) (i % 4) b
theorem rG1_at {a b x y : Nat} (hy : y < 4) : rG1 Ls cur V a b (x * 4 + y) = sGain (sTof Ls cur) V a b x y a := by
  unfold rG1; rw [show (x * 4 + y) / 4 = x by omega, show (x * 4 + y) % 4 = y by omega]
theorem rG2_at {a b x y : Nat} (hy : y < 4) : rG2 Ls cur V a b (x * 4 + y) = sGain (sTof Ls cur) V a b x y b := by
  unfold rG2; rw [show (x * 4 + y) / 4 = x by omega, show (x * 4 + y) % 4 = y by omega]
theorem r_rest48 (h : CX g 53 V Ls cur) (hp : RKp g V) (hW : Wf B V) (hB : B < 400000) {a b x y : Nat} (ha : a < V 60) (hb : b < V 60) (hab : a ≠ b) (hx : x < 4) (hy : y < 4) {x3 x4 : Int32} {k122 : Int32 → Int32 → Int32 → Int32 → Int32 → Int32 → Int32 → gz_S → Option (Int32 × gz_S)} :
    ∃ g', fX12_rests_48 La k122 gz_FU (nI a) (nI b) x3 x4 (nI x) (nI y) 1 0 g = k122 (nI a) (nI b) x3 x4 (nI x) (nI y) (pI (sRestP (rG1 Ls cur V a b) (rG2 Ls cur V a b) x y)) g' ∧ Fy KQ SQ g g' ∧ RLw g' Ls cur := by
  refine lp (fun f k (z : gz_S) => fX12_rests_48 La k122 f (nI a) (nI b) x3 x4 (nI x) (nI y) (pI (∀ j, j < k → ¬ rG1 Ls cur V a b (x * 4 + y) < rG1 Ls cur V a b (j * 4 + y) ∧ ¬ rG2 Ls cur V a b (x * 4 + y) < rG2 Ls cur V a b (x * 4 + j))) (nI k) z)
    (fun k z => Fy KQ SQ g z ∧ RLw z Ls cur) 4
    (fun q => ∃ g', q = k122 (nI a) (nI b) x3 x4 (nI x) (nI y) (pI (sRestP (rG1 Ls cur V a b) (rG2 Ls cur V a b) x y)) g' ∧ Fy KQ SQ g g' ∧ RLw g' Ls cur) ?_ ?_ gz_FU 0 g (by omega) (by unfold gz_FU; omega) ⟨Fy.z0, h.2.2⟩
  · intro f k g1 hk ⟨q1, q2⟩
    rw [fX12_rests_48, if_neg (show ¬ (4 : Int32) ≤ nI k by show ¬ nI 4 ≤ nI k; rw [n_le (by omega) (by omega)]; omega)]
    by_cases c : ∀ j, j < k → ¬ rG1 Ls cur V a b (x * 4 + y) < rG1 Ls cur V a b (j * 4 + y) ∧ ¬ rG2 Ls cur V a b (x * 4 + y) < rG2 Ls cur V a b (x * 4 + j)
    · refine Or.inr ?_
      have H : ∀ z, Fy KQ SQ g z → RLw z Ls cur → ∀ i j w, i < 4 → j < 4 → w ≤ 1 → ∃ g', fX12_gameOf La (nI a) (nI b) (nI i) (nI j) (nI w) z = some (sGain (sTof Ls cur) V a b i j (if w = 0 then a else b), g') ∧ Fy KQ SQ g g' ∧ RLw g' Ls cur := by
        intro z hz1 hz2 i j w hi hj hw
        obtain ⟨g', e1, e2, e3⟩ := r_gameOf (La := La) (h.q hz1 hz2) (hp.fr hz1 (by omega)) hW hB ha hb hab hi hj hw
        exact ⟨g', e1, hz1.tr e2, e3⟩
      obtain ⟨g2, e1, e2, e3⟩ := H g1 q1 q2 k y 0 hk hy (by omega)
      obtain ⟨g3, f1, f2, f3⟩ := H g2 e2 e3 x y 0 hx hy (by omega)
      rw [if_neg (pI1 c), show (0 : Int32) = nI 0 from rfl, e1, Option.bind_some, f1, Option.bind_some, if_pos rfl, ← rG1_at hy, ← rG1_at hy]
      have stop : ∀ z, (¬ (¬ rG1 Ls cur V a b (x * 4 + y) < rG1 Ls cur V a b (k * 4 + y) ∧ ¬ rG2 Ls cur V a b (x * 4 + y) < rG2 Ls cur V a b (x * 4 + k))) → fX12_rests_113 La (fX12_rests_48 La k122 f) (nI a) (nI b) x3 x4 (nI x) (nI y) (nI k) z = fX12_rests_48 La k122 f (nI a) (nI b) x3 x4 (nI x) (nI y) (pI (∀ j, j < k + 1 → ¬ rG1 Ls cur V a b (x * 4 + y) < rG1 Ls cur V a b (j * 4 + y) ∧ ¬ rG2 Ls cur V a b (x * 4 + y) < rG2 Ls cur V a b (x * 4 + j))) (nI (k + 1)) z := by
        intro z hz
        unfold fX12_rests_113 fX12_rests_114
        rw [gz_let_eq, show nI k + (1 : Int32) = nI (k + 1) from n_add _ _, pI0 (fun hh => hz (hh k (by omega)))]
      by_cases d1 : rG1 Ls cur V a b (x * 4 + y) < rG1 Ls cur V a b (k * 4 + y)
      · rw [if_pos d1]
        exact ⟨g3, stop g3 (fun hh => hh.1 d1), f2, f3⟩
      · rw [if_neg d1]
        obtain ⟨g4, m1, m2, m3⟩ := H g3 f2 f3 x k 1 hx hk (by omega)
        obtain ⟨g5, p1, p2, p3⟩ := H g4 m2 m3 x y 1 hx hy (by omega)
        rw [show (1 : Int32) = nI 1 from rfl, m1, Option.bind_some, p1, Option.bind_some, if_neg (show ¬ (1 : Nat) = 0 by decide), ← rG2_at hk, ← rG2_at hy]
        by_cases d2 : rG2 Ls cur V a b (x * 4 + y) < rG2 Ls cur V a b (x * 4 + k)
        · rw [if_pos d2]
          exact ⟨g5, stop g5 (fun hh => hh.2 d2), p2, p3⟩
        · rw [if_neg d2]
          refine ⟨g5, ?_, p2, p3⟩
          have c' : ∀ j, j < k + 1 → ¬ rG1 Ls cur V a b (x * 4 + y) < rG1 Ls cur V a b (j * 4 + y) ∧ ¬ rG2 Ls cur V a b (x * 4 + y) < rG2 Ls cur V a b (x * 4 + j) := by
            intro j hj
            rcases Nat.lt_or_ge j k with h3 | h3
            · exact c j h3
            · have : j = k := by omega
              subst this; exact ⟨d1, d2⟩
          unfold fX12_rests_114
          rw [gz_let_eq, show nI k + (1 : Int32) = nI (k + 1) from n_add _ _]
          unfold pI
          rw [if_pos c']
    · refine Or.inl ⟨g1, ?_, q1, q2⟩
      have c' : ¬ sRestP (rG1 Ls cur V a b) (rG2 Ls cur V a b) x y := fun hh => c (fun j hj => hh j (by omega))
      rw [if_pos (pI0 c), pI0 c, pI0 c']
  · intro f g1 ⟨q1, q2⟩
    refine ⟨g1, ?_, q1, q2⟩
    rw [fX12_rests_48]
    exact if_pos (by decide)
def rRv (X : Nat) (x3 : Int32) : Int32 := if x3 = -1 then nI (pc 16 X) else oI ((sNth X x3).map (fun p => p / 4 * 10 + p % 4))
theorem r_rests (h : CX g 53 V Ls cur) (hp : RKp g V) (hW : Wf B V) (hB : B < 400000) {a b : Nat} (ha : a < V 60) (hb : b < V 60) (hab : a ≠ b) {x3 : Int32} :
    ∃ g', fX12_rests_27 La (fun (x3 : Int32) (x4 : Int32) g => if x3 = (-1) then some (x4, g) else some ((-1), g)) (fun (x5 : Int32) (x6 : Int32) g => some (((10 : Int32) * x5) + x6, g)) gz_FU (nI a) (nI b) x3 0 0 g = some (rRv (sRests (rG1 Ls cur V a b) (rG2 Ls cur V a b) 16) x3, g') ∧ Fy KQ SQ g g' ∧ RLw g' Ls cur := by
  have hbit := sRests_bit (rG1 Ls cur V a b) (rG2 Ls cur V a b) 16
  generalize hX : sRests (rG1 Ls cur V a b) (rG2 Ls cur V a b) 16 = X at *
  have hno : ∀ {n : Nat}, n ≤ 16 → (∀ q, q < n → ¬ (X.testBit q = true ∧ nI (pc q X) = x3)) → ∀ q, q < n → (X.testBit q && decide ((pc q X : Int) = x3.toInt)) = false := by
    intro n hn hI q hq
    have h1 := hI q hq
    have h2 := pc_le q X
    cases hb : X.testBit q with
    | false => rfl
    | true =>
      rw [Bool.true_and]
      refine decide_eq_false (fun hh => h1 ⟨hb, ?_⟩)
      have : x3 = nI (pc q X) := by rw [x_eq (by omega)]; exact hh.symm
      exact this.symm
  refine lp (fun f k (z : gz_S) => fX12_rests_27 La (fun (x3 : Int32) (x4 : Int32) g => if x3 = (-1) then some (x4, g) else some ((-1), g)) (fun (x5 : Int32) (x6 : Int32) g => some (((10 : Int32) * x5) + x6, g)) f (nI a) (nI b) x3 (nI (pc (4 * k) X)) (nI k) z)
    (fun k z => Fy KQ SQ g z ∧ RLw z Ls cur ∧ ∀ q, q < 4 * k → ¬ (X.testBit q = true ∧ nI (pc q X) = x3)) 4
    (fun q => ∃ g', q = some (rRv X x3, g') ∧ Fy KQ SQ g g' ∧ RLw g' Ls cur) ?_ ?_ gz_FU 0 g (by omega) (by unfold gz_FU; omega) ⟨Fy.z0, h.2.2, fun q hq => absurd hq (by omega)⟩
  · intro f x g1 hx ⟨q1, q2, q3⟩
    rw [fX12_rests_27, if_neg (show ¬ (4 : Int32) ≤ nI x by show ¬ nI 4 ≤ nI x; rw [n_le (by omega) (by omega)]; omega)]
    generalize hK : (fun (x1 : Int32) (x2 : Int32) (x3 : Int32) (x4 : Int32) (x5 : Int32) g => gz_let (x5 + 1) (fun y154 => fX12_rests_27 La (fun (x3 : Int32) (x4 : Int32) g => if x3 = (-1) then some (x4, g) else some ((-1), g)) (fun (x5 : Int32) (x6 : Int32) g => some (((10 : Int32) * x5) + x6, g)) f x1 x2 x3 x4 y154 g)) = K154
    refine lp (fun f2 k (z : gz_S) => fX12_rests_36 La K154 (fun (x5 : Int32) (x6 : Int32) g => some (((10 : Int32) * x5) + x6, g)) f2 (nI a) (nI b) x3 (nI (pc (4 * x + k) X)) (nI x) (nI k) z)
      (fun k z => Fy KQ SQ g z ∧ RLw z Ls cur ∧ ∀ q, q < 4 * x + k → ¬ (X.testBit q = true ∧ nI (pc q X) = x3)) 4
      (fun q => (∃ g', q = some (rRv X x3, g') ∧ Fy KQ SQ g g' ∧ RLw g' Ls cur) ∨ ∃ g', q = fX12_rests_27 La (fun (x3 : Int32) (x4 : Int32) g => if x3 = (-1) then some (x4, g) else some ((-1), g)) (fun (x5 : Int32) (x6 : Int32) g => some (((10 : Int32) * x5) + x6, g)) f (nI a) (nI b) x3 (nI (pc (4 * (x + 1)) X)) (nI (x + 1)) g' ∧ Fy KQ SQ g g' ∧ RLw g' Ls cur ∧ ∀ q, q < 4 * (x + 1) → ¬ (X.testBit q = true ∧ nI (pc q X) = x3)) ?_ ?_ gz_FU 0 g1 (by omega) (by unfold gz_FU; omega) ⟨q1, q2, q3⟩
    · intro f2 y g2 hy ⟨p1, p2, p3⟩
      rw [fX12_rests_36, if_neg (show ¬ (4 : Int32) ≤ nI y by show ¬ nI 4 ≤ nI y; rw [n_le (by omega) (by omega)]; omega)]
      obtain ⟨g3, e1, e2, e3⟩ := r_rest48 (La := La) (h.q p1 p2) (hp.fr p1 (by omega)) hW hB ha hb hab hx hy (x3 := x3) (x4 := nI (pc (4 * x + y) X)) (k122 := fX12_rests_122 La (fX12_rests_36 La K154 (fun (x5 : Int32) (x6 : Int32) g => some (((10 : Int32) * x5) + x6, g)) f2) (fun (x5 : Int32) (x6 : Int32) g => some (((10 : Int32) * x5) + x6, g)))
      have hb2 := hbit (4 * x + y)
      rw [show (4 * x + y) / 4 = x by omega, show (4 * x + y) % 4 = y by omega] at hb2
      have hpl := pc_le (4 * x + y) X
      rw [e1]
      unfold fX12_rests_122
      by_cases c : sRestP (rG1 Ls cur V a b) (rG2 Ls cur V a b) x y
      · have hb3 : X.testBit (4 * x + y) = true := by rw [hb2]; exact decide_eq_true ⟨by omega, c⟩
        rw [if_neg (pI1 c)]
        by_cases d : nI (pc (4 * x + y) X) = x3
        · refine Or.inl (Or.inl ⟨g3, ?_, p1.tr e2, e3⟩)
          rw [if_pos d]
          have d2 : x3.toInt = (pc (4 * x + y) X : Int) := by rw [← d, n_ti (by omega)]
          have d3 : sNth X x3 = some (4 * x + y) := by
            unfold sNth
            rw [if_neg (by omega)]
            exact ff_some (hno (by omega) p3) (by show (X.testBit (4 * x + y) && decide ((pc (4 * x + y) X : Int) = x3.toInt)) = true; rw [hb3, decide_eq_true d2.symm]; rfl) (by omega)
          have d4 : ¬ x3 = -1 := fun hh => by rw [hh] at d2; have : (-1 : Int32).toInt = -1 := rfl; omega
          unfold rRv
          rw [if_neg d4, d3]
          show some ((10 : Int32) * nI x + nI y, g3) = some (nI ((4 * x + y) / 4 * 10 + (4 * x + y) % 4), g3)
          rw [show (10 : Int32) * nI x = nI (10 * x) from n_mul 10 x, n_add, show (4 * x + y) / 4 * 10 + (4 * x + y) % 4 = 10 * x + y by omega]
        · refine Or.inr ⟨g3, ?_, p1.tr e2, e3, fun q hq => ?_⟩
          · rw [if_neg d, gz_let_eq]
            unfold fX12_rests_148
            rw [gz_let_eq, show nI y + (1 : Int32) = nI (y + 1) from n_add _ _, show nI (pc (4 * x + y) X) + (1 : Int32) = nI (pc (4 * x + y) X + 1) from n_add _ _]
            show _ = fX12_rests_36 La K154 _ f2 (nI a) (nI b) x3 (nI (pc (4 * x + (y + 1)) X)) (nI x) (nI (y + 1)) g3
            rw [show 4 * x + (y + 1) = 4 * x + y + 1 by omega, pc_s, if_pos hb3]
          · rcases Nat.lt_or_ge q (4 * x + y) with h3 | h3
            · exact p3 q h3
            · have : q = 4 * x + y := by omega
              subst this; exact fun hh => d hh.2
      · have hb3 : ¬ X.testBit (4 * x + y) = true := by rw [hb2, decide_eq_false (fun hh => c hh.2)]; decide
        refine Or.inr ⟨g3, ?_, p1.tr e2, e3, fun q hq => ?_⟩
        · rw [if_pos (pI0 c)]
          unfold fX12_rests_148
          rw [gz_let_eq, show nI y + (1 : Int32) = nI (y + 1) from n_add _ _]
          show _ = fX12_rests_36 La K154 _ f2 (nI a) (nI b) x3 (nI (pc (4 * x + (y + 1)) X)) (nI x) (nI (y + 1)) g3
          rw [show 4 * x + (y + 1) = 4 * x + y + 1 by omega, pc_s, if_neg hb3]
        · rcases Nat.lt_or_ge q (4 * x + y) with h3 | h3
          · exact p3 q h3
          · have : q = 4 * x + y := by omega
            subst this; exact fun hh => hb3 hh.1
    · intro f2 g2 ⟨p1, p2, p3⟩
      refine Or.inr ⟨g2, ?_, p1, p2, p3⟩
      show fX12_rests_36 La K154 _ (f2 + 1) (nI a) (nI b) x3 (nI (pc (4 * x + 4) X)) (nI x) (nI 4) g2 = _
      rw [fX12_rests_36, if_pos (show (4 : Int32) ≤ nI 4 by decide), ← hK]
      show gz_let (nI x + 1) _ = _
      rw [gz_let_eq, show nI x + (1 : Int32) = nI (x + 1) from n_add _ _]
      rfl
  · intro f g1 ⟨q1, q2, q3⟩
    refine ⟨g1, ?_, q1, q2⟩
    show fX12_rests_27 La _ _ (f + 1) (nI a) (nI b) x3 (nI (pc (4 * 4) X)) (nI 4) g1 = _
    rw [fX12_rests_27, if_pos (show (4 : Int32) ≤ nI 4 by decide)]
    unfold rRv
    by_cases c : x3 = -1
    · rw [if_pos c, if_pos c]
    · rw [if_neg c, if_neg c]
      have : sNth X x3 = none := by
        unfold sNth
        split
        · rfl
        · exact ff_none (hno (by omega) q3)
      rw [this]; rfl
end RW
section ST
variable {La : gz_L} {g : gz_S} {l : List Nat} {Ls : List (List Nat)} {Es : List (List eS)} {cur : Option Nat} {lv : Nat} {V V0 : Nat → Nat} {a : Nat} {K : Nat → Nat → Nat} {Lg : Nat → Nat} {him : Nat} {IV ILg : Nat → Nat} {s : sS} {B : Nat}
theorem w_rests (hw : WR La g B) (hB : B < 400000) (x y x3 : Int32) : CallOk La (fX11_rests La x y x3) (fX12_rests La x y x3) g B := by
  obtain ⟨l, Ls, Es, cur, lv, V, V0, a, K, Lg, him, IV, ILg, s, hC, hR, hI⟩ := hw
  have hg4 := hI.g4
  by_cases yp : goingP V x y
  · obtain ⟨i, i1, rfl, i3⟩ := x_of (x := x) yp.1.1.1
    obtain ⟨n, n1, rfl, n3⟩ := x_of (x := y) yp.1.2.1.1
    have h0 : ¬ V 60 = 0 := fun h0 => by have := yp.1.1; omega
    obtain ⟨hW, h49, _⟩ := hI.2.2.1 h0
    have hi : i < V 60 := by have := yp.1.1; omega
    have hn : n < V 60 := by have := yp.1.2.1; omega
    have hin : i ≠ n := by have := yp.1.2.2; omega
    have hbit := sRests_bit (rG1 Ls cur V i n) (rG2 Ls cur V i n) 16
    have hlt : sRests (rG1 Ls cur V i n) (rG2 Ls cur V i n) 16 < 2 ^ 16 := Nat.lt_pow_two_of_testBit _ (fun j hj => by rw [hbit, decide_eq_false (by omega)])
    have hlt2 : sRests (rG1 Ls cur V i n) (rG2 Ls cur V i n) 16 < 1073741824 := by omega
    refine CallOk.qt (v := rRv (sRests (rG1 Ls cur V i n) (rG2 Ls cur V i n) 16) x3) hC hR hI ?_ (fun g1 hR1 => ?_)
    · obtain ⟨g1, u1, u2⟩ := c_restsOf (La := La) (hC.cf hW) hB (a := i) (b := n) (by omega) (by omega)
      refine ⟨g1, ?_, u2⟩
      have u1 : fX2_restsOf La (nI i) (nI n) g = some (nI (sRests (rG1 Ls cur V i n) (rG2 Ls cur V i n) 16), g1) := u1
      unfold fX11_rests rRv
      rw [c_going hC hI, Option.bind_some]
      refine (if_neg (pI1 yp)).trans ?_
      rw [u1, Option.bind_some]
      by_cases c : x3 = -1
      · rw [if_pos c, if_pos c]
        rw [c_bitCount hlt2, Option.bind_some]
        have := pc_up (a := sRests (rG1 Ls cur V i n) (rG2 Ls cur V i n) 16) (n := 16) (fun j hj => by rw [hbit, decide_eq_false (by omega)]) 16
        rw [show 16 + 16 = 32 from rfl] at this
        rw [this]
      · rw [if_neg c, if_neg c]
        rw [c_rest hlt2, Option.bind_some]
    · obtain ⟨hcx, hkp⟩ := hR1.f0.1.cx hI h0
      unfold fX12_rests
      rw [gz_let_eq, hR1.f0.1.canPlay hI, Option.bind_some]
      by_cases c : -1 ≤ x3.toInt
      · obtain ⟨g2, v1, v2, v3⟩ := r_rests (La := La) hcx hkp hW hB hi hn hin (x3 := x3)
        refine ⟨g2, ?_, hR1.f0q.tr v2, v3⟩
        refine (if_neg (pI1 yp)).trans ((if_pos (show (-1) ≤ x3 by rw [Int32.le_iff_toInt_le]; exact c)).trans ?_)
        exact v1
      · refine ⟨_, ?_, hR1.f0q, hcx.2.2⟩
        refine (if_neg (pI1 yp)).trans ((if_neg (show ¬ (-1) ≤ x3 by rw [Int32.le_iff_toInt_le]; exact c)).trans ?_)
        unfold rRv sNth
        rw [if_neg (show ¬ x3 = -1 from fun hh => c (by rw [hh]; decide)), if_pos (show x3.toInt < 0 by omega)]; rfl
  · refine CallOk.no (v := -1) ?_ ?_ hC hR hI
    · unfold fX11_rests
      rw [c_going hC hI, Option.bind_some]
      exact if_pos (pI0 yp)
    · unfold fX12_rests
      rw [gz_let_eq, hR.f0.1.canPlay hI, Option.bind_some]
      exact if_pos (pI0 yp)
end ST
