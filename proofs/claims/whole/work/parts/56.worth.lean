/-! the class's law: what its code is worth -/
def iI (z : Int) : Int32 := Int32.ofInt z
def Bd6 (z : Int) : Prop := -1000000 ≤ z ∧ z ≤ 1000000
theorem iI_ti {z : Int} (h : -2147483648 ≤ z ∧ z < 2147483648) : (iI z).toInt = z := Int32.toInt_ofInt_of_le (by omega) (by omega)
theorem iI_n (n : Nat) : iI (n : Int) = nI n := Int32.ofInt_eq_ofNat
theorem iI_eq {x y : Int} (hx : -2147483648 ≤ x ∧ x < 2147483648) (hy : -2147483648 ≤ y ∧ y < 2147483648) : (iI x = iI y) = (x = y) :=
  propext ⟨fun h => by have := congrArg Int32.toInt h; rw [iI_ti hx, iI_ti hy] at this; exact this, fun h => by rw [h]⟩
theorem wi6_bd (x : Int) : Bd6 (wi6 x) := by unfold wi6 Bd6; omega
theorem j_l {z : Int} (h : -2147483648 ≤ z ∧ z < 2147483648) : (iI z).toInt64 = Int64.ofInt z :=
  Int32.toInt64_ofInt (by have : Int32.minValue.toInt = -2147483648 := rfl; omega) (by have : Int32.maxValue.toInt = 2147483647 := rfl; omega)
theorem j_cmp {x y : Int} (hx : -1000000000000000 ≤ x ∧ x ≤ 1000000000000000) (hy : -1000000000000000 ≤ y ∧ y ≤ 1000000000000000) : lg_cmp (Int64.ofInt x) (Int64.ofInt y) = if y < x then 1 else if x = y then 0 else -1 := by
  have e1 : (Int64.ofInt x).toInt = x := Int64.toInt_ofInt_of_le (by omega) (by omega)
  have e2 : (Int64.ofInt y).toInt = y := Int64.toInt_ofInt_of_le (by omega) (by omega)
  have g : (Int64.ofInt x > Int64.ofInt y) = (y < x) := by
    show (Int64.ofInt y < Int64.ofInt x) = _
    rw [Int64.lt_iff_toInt_lt, e1, e2]
  have e : (Int64.ofInt x = Int64.ofInt y) = (x = y) := propext ⟨fun h => by have := congrArg Int64.toInt h; rw [e1, e2] at this; exact this, fun h => by rw [h]⟩
  unfold lg_cmp
  simp only [g, e]
section C3
variable {La : gz_L}
theorem c_clamp {g : gz_S} {z : Int} (h : -1000000000000000 ≤ z ∧ z ≤ 1000000000000000) : fX3_joined_146 La (Int64.ofInt z) g = some (iI (wi6 z), g) := by
  have h1 : (1000000 : Int64) = Int64.ofInt 1000000 := rfl
  have h2 : (-1000000 : Int64) = Int64.ofInt (-1000000) := rfl
  have e3 : Int64.toInt32 (Int64.ofInt z) = iI z := Int64.toInt32_ofInt
  unfold fX3_joined_146
  rw [h2, h1, e3]
  simp only [j_cmp h (show -1000000000000000 ≤ (1000000 : Int) ∧ (1000000 : Int) ≤ 1000000000000000 by omega), j_cmp h (show -1000000000000000 ≤ (-1000000 : Int) ∧ (-1000000 : Int) ≤ 1000000000000000 by omega)]
  have d1 : ((1 : Int32) ≤ 0) = False := eq_false (by decide)
  have d2 : ((0 : Int32) ≤ 0) = True := eq_true (by decide)
  have d3 : ((-1 : Int32) ≤ 0) = True := eq_true (by decide)
  have d4 : ((0 : Int32) ≤ 1) = True := eq_true (by decide)
  have d5 : ((0 : Int32) ≤ -1) = False := eq_false (by decide)
  by_cases c1 : 1000000 < z
  · simp only [c1, ↓reduceIte, d1]
    have : wi6 z = 1000000 := by unfold wi6; omega
    rw [this]; rfl
  · have hc : (if z = 1000000 then (0 : Int32) else -1) ≤ 0 := by split <;> decide
    simp only [c1, ↓reduceIte, hc]
    by_cases c2 : -1000000 < z
    · simp only [c2, ↓reduceIte, d4]
      have : wi6 z = z := by unfold wi6; omega
      rw [this]
    · simp only [c2, ↓reduceIte]
      by_cases c3 : z = -1000000
      · simp only [c3, ↓reduceIte, d2]
        rfl
      · simp only [c3, ↓reduceIte, d5]
        have : wi6 z = -1000000 := by unfold wi6; omega
        rw [this]; rfl
theorem ofI_m (n : Nat) : -nI n = iI (-(n : Int)) := by rw [← iI_n]; exact (Int32.ofInt_neg _).symm
def isJ (op : Int32) : Prop := op = -nI 11 ∨ op = -nI 12 ∨ op = -nI 13 ∨ op = -nI 14 ∨ op = -nI 15 ∨ op = -nI 16 ∨ op = -nI 17 ∨ op = -nI 18 ∨ op = -nI 19
theorem mul_bd {x y : Int} (hx : Bd6 x) (hy : Bd6 y) : -1000000000000 ≤ x * y ∧ x * y ≤ 1000000000000 := by
  have h1 : x.natAbs ≤ 1000000 := by have := hx.1; have := hx.2; omega
  have h2 : y.natAbs ≤ 1000000 := by have := hy.1; have := hy.2; omega
  have h3 : (x * y).natAbs ≤ 1000000 * 1000000 := by rw [Int.natAbs_mul]; exact Nat.mul_le_mul h1 h2
  omega
theorem tdiv_bd {x y : Int} (hx : Bd6 x) : Bd6 (x.tdiv y) := by
  have h1 : (x.tdiv y).natAbs ≤ x.natAbs := by rw [Int.natAbs_tdiv]; exact Nat.div_le_self _ _
  have h2 := hx.1
  have h3 := hx.2
  unfold Bd6; omega
theorem c_joined {g : gz_S} {op : Int32} {x y : Int} (hop : isJ op) (hx : Bd6 x) (hy : Bd6 y) (hb : op = -nI 18 ∨ op = -nI 19 → (x = 0 ∨ x = 1) ∧ (y = 0 ∨ y = 1)) : fX3_joined La op (iI x) (iI y) g = some (iI (jn op x y), g) := by
  have hx1 := hx.1
  have hx2 := hx.2
  have hy1 := hy.1
  have hy2 := hy.2
  have z0 : (0 : Int64) = Int64.ofInt 0 := rfl
  have z1 : (1 : Int64) = Int64.ofInt 1 := rfl
  have w0 : wi6 0 = 0 := rfl
  have w1 : wi6 1 = 1 := rfl
  have c0 := c_clamp (La := La) (g := g) (z := 0) (by omega)
  have c1 := c_clamp (La := La) (g := g) (z := 1) (by omega)
  rw [w0] at c0
  rw [w1] at c1
  have eqz : (iI y = 0) = (y = 0) := by
    have : (0 : Int32) = iI 0 := rfl
    rw [this, iI_eq (by omega) (by omega)]
  have eqxy : (iI x = iI y) = (x = y) := iI_eq (by omega) (by omega)
  have lexy : (iI x ≤ iI y) = (x ≤ y) := by rw [Int32.le_iff_toInt_le, iI_ti (by omega), iI_ti (by omega)]
  have leyx : (iI y ≤ iI x) = (y ≤ x) := by rw [Int32.le_iff_toInt_le, iI_ti (by omega), iI_ti (by omega)]
  unfold fX3_joined
  rcases hop with h | h | h | h | h | h | h | h | h <;> subst h
  · have ej : jn (-nI 11) x y = wi6 (x + y) := rfl
    rw [ej, ← c_clamp (La := La) (g := g) (z := x + y) (by omega)]
    have e1 : (iI x).toInt64 + (iI y).toInt64 = Int64.ofInt (x + y) := by rw [j_l (by omega), j_l (by omega), Int64.ofInt_add]
    simp only [show (-nI 11 = -18) = False from eq_false (by decide), show (-nI 11 = -17) = False from eq_false (by decide), show (-nI 11 = -16) = False from eq_false (by decide), show (-nI 11 = -15) = False from eq_false (by decide), show (-nI 11 = -14) = False from eq_false (by decide), show (-nI 11 = -13) = False from eq_false (by decide), show (-nI 11 = -12) = False from eq_false (by decide), show (-nI 11 = -11) = True from eq_true (by decide), ↓reduceIte, gz_let_eq, e1]
  · have ej : jn (-nI 12) x y = wi6 (x - y) := rfl
    rw [ej, ← c_clamp (La := La) (g := g) (z := x - y) (by omega)]
    have e1 : (iI x).toInt64 - (iI y).toInt64 = Int64.ofInt (x - y) := by rw [j_l (by omega), j_l (by omega), Int64.ofInt_sub]
    simp only [show (-nI 12 = -18) = False from eq_false (by decide), show (-nI 12 = -17) = False from eq_false (by decide), show (-nI 12 = -16) = False from eq_false (by decide), show (-nI 12 = -15) = False from eq_false (by decide), show (-nI 12 = -14) = False from eq_false (by decide), show (-nI 12 = -13) = False from eq_false (by decide), show (-nI 12 = -12) = True from eq_true (by decide), ↓reduceIte, gz_let_eq, e1]
  · have hm := mul_bd hx hy
    have ej : jn (-nI 13) x y = wi6 (x * y) := rfl
    rw [ej, ← c_clamp (La := La) (g := g) (z := x * y) (by omega)]
    have e1 : (iI x).toInt64 * (iI y).toInt64 = Int64.ofInt (x * y) := by rw [j_l (by omega), j_l (by omega), Int64.ofInt_mul]
    simp only [show (-nI 13 = -18) = False from eq_false (by decide), show (-nI 13 = -17) = False from eq_false (by decide), show (-nI 13 = -16) = False from eq_false (by decide), show (-nI 13 = -15) = False from eq_false (by decide), show (-nI 13 = -14) = False from eq_false (by decide), show (-nI 13 = -13) = True from eq_true (by decide), ↓reduceIte, gz_let_eq, e1]
  · have hd := tdiv_bd (y := y) hx
    have hd1 := hd.1
    have hd2 := hd.2
    have ej : jn (-nI 14) x y = wi6 (if y = 0 then 0 else x.tdiv y) := rfl
    have e2 : ¬ y = 0 → (iI x / iI y).toInt64 = Int64.ofInt (x.tdiv y) := by
      intro _
      have : iI x / iI y = iI (x.tdiv y) := (Int32.ofInt_tdiv (by have : Int32.minValue.toInt = -2147483648 := rfl; omega) (by have : Int32.maxValue.toInt = 2147483647 := rfl; omega) (by have : Int32.minValue.toInt = -2147483648 := rfl; omega) (by have : Int32.maxValue.toInt = 2147483647 := rfl; omega)).symm
      rw [this, j_l (by omega)]
    simp only [show (-nI 14 = -18) = False from eq_false (by decide), show (-nI 14 = -17) = False from eq_false (by decide), show (-nI 14 = -16) = False from eq_false (by decide), show (-nI 14 = -15) = False from eq_false (by decide), show (-nI 14 = -14) = True from eq_true (by decide), ↓reduceIte, eqz, fX3_joined_87, z0]
    rw [ej]
    by_cases h0 : y = 0
    · rw [if_pos h0, if_pos h0, c0]; rfl
    · rw [if_neg h0, if_pos h0, if_neg h0, e2 h0, c_clamp (by omega)]
  · have ej : jn (-nI 15) x y = if x = y then 1 else 0 := rfl
    simp only [show (-nI 15 = -18) = False from eq_false (by decide), show (-nI 15 = -17) = False from eq_false (by decide), show (-nI 15 = -16) = False from eq_false (by decide), show (-nI 15 = -15) = True from eq_true (by decide), ↓reduceIte, eqxy, fX3_joined_101, z0, z1, c0, c1]
    rw [ej]
    by_cases h0 : x = y
    · rw [if_pos h0, if_pos h0]
    · rw [if_neg h0, if_neg h0]
  · have ej : jn (-nI 16) x y = if x < y then 1 else 0 := rfl
    simp only [show (-nI 16 = -18) = False from eq_false (by decide), show (-nI 16 = -17) = False from eq_false (by decide), show (-nI 16 = -16) = True from eq_true (by decide), ↓reduceIte, leyx, fX3_joined_115, z0, z1, c0, c1]
    rw [ej]
    by_cases h0 : x < y
    · rw [if_neg (by omega), if_pos h0]
    · rw [if_pos (by omega), if_neg h0]
  · have ej : jn (-nI 17) x y = if y < x then 1 else 0 := rfl
    simp only [show (-nI 17 = -18) = False from eq_false (by decide), show (-nI 17 = -17) = True from eq_true (by decide), ↓reduceIte, lexy, fX3_joined_129, z0, z1, c0, c1]
    rw [ej]
    by_cases h0 : y < x
    · rw [if_neg (by omega), if_pos h0]
    · rw [if_pos (by omega), if_neg h0]
  · obtain ⟨b1, b2⟩ := hb (Or.inl rfl)
    have ej : jn (-nI 18) x y = if x = 1 ∧ y = 1 then 1 else 0 := rfl
    have e2 : Int32.toInt64 (iI x &&& iI y) = Int64.ofInt (if x = 1 ∧ y = 1 then 1 else 0) := by rcases b1 with h | h <;> rcases b2 with h' | h' <;> subst h <;> subst h' <;> decide
    have e3 : wi6 (if x = 1 ∧ y = 1 then 1 else 0) = if x = 1 ∧ y = 1 then 1 else 0 := by split <;> rfl
    simp only [show (-nI 18 = -18) = True from eq_true (by decide), ↓reduceIte, gz_let_eq, e2]
    rw [c_clamp (by split <;> omega), e3, ej]
  · obtain ⟨b1, b2⟩ := hb (Or.inr rfl)
    have ej : jn (-nI 19) x y = if x = 1 ∨ y = 1 then 1 else 0 := rfl
    have e2 : Int32.toInt64 (iI x ||| iI y) = Int64.ofInt (if x = 1 ∨ y = 1 then 1 else 0) := by rcases b1 with h | h <;> rcases b2 with h' | h' <;> subst h <;> subst h' <;> decide
    have e3 : wi6 (if x = 1 ∨ y = 1 then 1 else 0) = if x = 1 ∨ y = 1 then 1 else 0 := by split <;> rfl
    simp only [show (-nI 19 = -18) = False from eq_false (by decide), show (-nI 19 = -17) = False from eq_false (by decide), show (-nI 19 = -16) = False from eq_false (by decide), show (-nI 19 = -15) = False from eq_false (by decide), show (-nI 19 = -14) = False from eq_false (by decide), show (-nI 19 = -13) = False from eq_false (by decide), show (-nI 19 = -12) = False from eq_false (by decide), show (-nI 19 = -11) = False from eq_false (by decide), ↓reduceIte, gz_let_eq, e2]
    rw [c_clamp (by split <;> omega), e3, ej]
theorem jn_bd {op : Int32} {x y : Int} (hop : isJ op) : Bd6 (jn op x y) := by
  rcases hop with h | h | h | h | h | h | h | h | h <;> subst h
  · exact wi6_bd _
  · exact wi6_bd _
  · exact wi6_bd _
  · exact wi6_bd _
  · show Bd6 (if x = y then 1 else 0); unfold Bd6; split <;> omega
  · show Bd6 (if x < y then 1 else 0); unfold Bd6; split <;> omega
  · show Bd6 (if y < x then 1 else 0); unfold Bd6; split <;> omega
  · show Bd6 (if x = 1 ∧ y = 1 then 1 else 0); unfold Bd6; split <;> omega
  · show Bd6 (if x = 1 ∨ y = 1 then 1 else 0); unfold Bd6; split <;> omega
/-! code, run -/
/-- there the code stands, and the letters -/
def Hs (La : gz_L) (w : Nat) (lt : Nat → Int) (g : gz_S) : Prop := La.2.2 (w + 1) ≤ 240 ∧ 100 ≤ w ∧ (∀ k, k < 6 → g.1 24 k = iI (lt k) ∧ 0 ≤ lt k ∧ lt k ≤ 1000)
def At (g : gz_S) (w i : Nat) (c : List Int32) : Prop := ∀ k, k < c.length → g.1 (w + 1) (i + k) = c.getD k 0
theorem At.app {g : gz_S} {w i : Nat} {c d : List Int32} (h : At g w i (c ++ d)) : At g w i c ∧ At g w (i + c.length) d := by
  refine ⟨fun k hk => ?_, fun k hk => ?_⟩
  · rw [h k (by rw [List.length_append]; omega)]
    simp [List.getD, List.getElem?_append_left hk]
  · have := h (c.length + k) (by rw [List.length_append]; omega)
    rw [Nat.add_assoc, this]
    simp [List.getD, List.getElem?_append_right]
theorem At.fr {g g' : gz_S} {w i : Nat} {c : List Int32} (h : At g w i c) (hF : Fr (fun j => j = 25) g g') (hw : 100 ≤ w) : At g' w i c := fun k hk => by rw [hF.1 _ (by omega)]; exact h k hk
theorem Hs.fr {w : Nat} {lt : Nat → Int} {g g' : gz_S} (h : Hs La w lt g) (hF : Fr (fun j => j = 25) g g') : Hs La w lt g' := ⟨h.1, h.2.1, fun k hk => by rw [hF.1 24 (by omega)]; exact h.2.2 k hk⟩
/-- it leaves its worth on top -/
def Ex (La : gz_L) (lt : Nat → Int) (c : List Int32) (v : Int) : Prop := ∀ w (K : Int32 → gz_S → Option (Int32 × gz_S)) f i t g, Hs La w lt g → At g w i c → i + c.length ≤ La.2.2 (w + 1) → t ≤ i →
  ∃ g', fX3_worth_8 La w K (f + c.length) (nI t) (nI 0) (nI i) g = fX3_worth_8 La w K f (nI (t + 1)) (nI 0) (nI (i + c.length)) g' ∧ Fr (fun j => j = 25) g g' ∧ (∀ k, k < t → g'.1 25 k = g.1 25 k) ∧ g'.1 25 t = iI v
theorem ofN_n (n : Nat) : Int32.ofNat n = nI n := rfl
theorem m7 {n : Nat} (h : n ≤ 6) : (-nI n ≤ -nI 7) = False := by
  have : ∀ n, n ≤ 6 → ¬ (-nI n ≤ -nI 7) := by decide
  exact eq_false (this n h)
theorem n7 {n : Nat} (h : n < 2147483648) : (nI n ≤ -nI 7) = False := by
  refine eq_false (fun e => ?_)
  rw [Int32.le_iff_toInt_le, n_ti h] at e
  have : (-nI 7 : Int32).toInt = -7 := by decide
  omega
theorem w_push {w : Nat} {K : Int32 → gz_S → Option (Int32 × gz_S)} {f i t : Nat} {g : gz_S} {y x : Int32} (hN : i < La.2.2 (w + 1)) (h240 : La.2.2 (w + 1) ≤ 240) (hy : g.1 (w + 1) i = y) (h7 : ¬ y ≤ -7) (ht : t < 240)
    (hx : (¬ y < 0 ∧ x = y) ∨ (y < 0 ∧ gz_ok ((-1) - y) 6 ∧ g.1 24 (Int32.toNatClampNeg ((-1) - y)) = x)) :
    fX3_worth_8 La w K (f + 1) (nI t) (nI 0) (nI i) g = fX3_worth_8 La w K f (nI (t + 1)) (nI 0) (nI (i + 1)) (gz_wa g 25 (upd (g.1 25) t x)) := by
  have a0 : ¬ Int32.ofNat (La.2.2 (w + 1)) ≤ nI i := by
    intro e
    have e : nI (La.2.2 (w + 1)) ≤ nI i := e
    rw [n_le (by omega) (by omega)] at e
    omega
  have a1 : gz_ok (nI i) (La.2.2 (w + 1)) := n_okP hN (by omega)
  have a2 : (nI i).toNatClampNeg = i := n_cl (by omega)
  have a3 : nI t < Int32.ofNat 240 := by
    have e : nI t < nI 240 := by rw [n_lt (by omega) (by omega)]; exact ht
    exact e
  have a4 : gz_ok (nI t) 240 := n_okP ht (by omega)
  have a5 : (nI t).toNatClampNeg = t := n_cl (by omega)
  have a6 : nI i + 1 = nI (i + 1) := n_add i 1
  have a7 : nI t + 1 = nI (t + 1) := n_add t 1
  have h82 : fX3_worth_82 La w (fX3_worth_8 La w K f) (nI t) (nI 0) (nI i) x (nI t) g = fX3_worth_8 La w K f (nI (t + 1)) (nI 0) (nI (i + 1)) (gz_wa g 25 (upd (g.1 25) t x)) := by
    rw [fX3_worth_82, if_pos a4, gz_let_eq, gz_let_eq, fX3_worth_185, gz_let_eq, a5, a6, a7, wi_wa]
  rw [fX3_worth_8, if_neg a0, if_pos a1, gz_let_eq, a2, hy, if_pos (show nI 0 = 0 from rfl), if_neg h7, if_pos a3]
  rcases hx with ⟨b1, b2⟩ | ⟨b1, b2, b3⟩
  · rw [if_neg b1, ← b2, h82]
  · rw [if_pos b1, if_pos b2, b3, h82]
theorem Ex.num {lt : Nat → Int} {v : Nat} (hv : v ≤ 9999) : Ex La lt [nI v] (v : Int) := by
  intro w K f i t g hH hA hl ht
  rw [List.length_singleton] at hl ⊢
  have h1 : g.1 (w + 1) i = nI v := by
    have := hA 0 (by rw [List.length_singleton]; omega)
    simpa using this
  have h240 := hH.1
  have e7 : ¬ nI v ≤ -7 := by
    intro e
    have e : nI v ≤ -nI 7 := e
    rw [n7 (by omega)] at e; exact e
  have e0 : ¬ nI v < 0 := by
    intro e
    have e : nI v < nI 0 := e
    rw [n_lt (by omega) (by omega)] at e; omega
  exact ⟨gz_wa g 25 (upd (g.1 25) t (nI v)), w_push (by omega) h240 h1 e7 (by omega) (Or.inl ⟨e0, rfl⟩), Fr.rf.wa rfl, fun k hk => by rw [wa_at]; exact if_neg (by omega), by rw [wa_at, iI_n]; exact if_pos rfl⟩
theorem Ex.letter {lt : Nat → Int} {l : Nat} (hl6 : l < 6) : Ex La lt [-nI (1 + l)] (lt l) := by
  intro w K f i t g hH hA hl ht
  rw [List.length_singleton] at hl ⊢
  have h1 : g.1 (w + 1) i = -nI (1 + l) := by
    have := hA 0 (by rw [List.length_singleton]; omega)
    simpa using this
  have h240 := hH.1
  have hlt := (hH.2.2 l hl6).1
  have e1 : ∀ l, l < 6 → -nI (1 + l) < 0 ∧ ¬ -nI (1 + l) ≤ -7 ∧ (-1 : Int32) - -nI (1 + l) = nI l := by decide
  obtain ⟨q1, q2, q3⟩ := e1 l hl6
  have q4 : gz_ok ((-1) - -nI (1 + l)) 6 := by rw [q3]; exact n_okP hl6 (by omega)
  exact ⟨gz_wa g 25 (upd (g.1 25) t (iI (lt l))), w_push (by omega) h240 h1 q2 (by omega) (Or.inr ⟨q1, q4, by rw [q3, n_cl (by omega)]; exact hlt⟩), Fr.rf.wa rfl, fun k hk => by rw [wa_at]; exact if_neg (by omega), by rw [wa_at]; exact if_pos rfl⟩
theorem n_m1 (t : Nat) : nI (t + 1) + -nI 1 = nI t := by
  rw [← n_add, Int32.add_assoc]
  show nI t + 0 = nI t
  exact Int32.add_zero _
theorem isJ_7 {op : Int32} (h : isJ op) : op ≤ -nI 7 ∧ ¬ op = -nI 22 ∧ ¬ op = -nI 21 ∧ ¬ op = -nI 20 := by
  rcases h with h | h | h | h | h | h | h | h | h <;> subst h <;> decide
theorem Ex.join {lt : Nat → Int} {op : Int32} {x y : pV} (hop : isJ op) (hx : Bd6 (x.2 lt)) (hy : Bd6 (y.2 lt)) (hb : op = -nI 18 ∨ op = -nI 19 → (x.2 lt = 0 ∨ x.2 lt = 1) ∧ (y.2 lt = 0 ∨ y.2 lt = 1)) (hx1 : 1 ≤ x.1.length) (hy1 : 1 ≤ y.1.length) (h1 : Ex La lt x.1 (x.2 lt)) (h2 : Ex La lt y.1 (y.2 lt)) : Ex La lt (jV op x y).1 ((jV op x y).2 lt) := by
  intro w K f i t g hH hA hl ht
  have hlen := jV_len op x y
  have hcode : (jV op x y).1 = x.1 ++ (y.1 ++ [op]) := by unfold jV; simp
  rw [hcode] at hA
  obtain ⟨a1, a23⟩ := hA.app
  obtain ⟨a2, a3⟩ := a23.app
  rw [hlen] at hl ⊢
  obtain ⟨g1, r1, r2, r3, r4⟩ := h1 w K (f + y.1.length + 1) i t g hH a1 (by omega) ht
  obtain ⟨g2, s1, s2, s3, s4⟩ := h2 w K (f + 1) (i + x.1.length) (t + 1) g1 (hH.fr r2) (a2.fr r2 hH.2.1) (by omega) (by omega)
  have h240 := hH.1
  have e240 : Int32.ofNat 240 = nI 240 := rfl
  have eN : Int32.ofNat (La.2.2 (w + 1)) = nI (La.2.2 (w + 1)) := rfl
  have hF := r2.tr s2
  have hv : g2.1 (w + 1) (i + x.1.length + y.1.length) = op := by
    have := (a3.fr hF hH.2.1) 0 (by rw [List.length_singleton]; omega)
    simpa using this
  have t0 : g2.1 25 t = iI (x.2 lt) := by rw [s3 t (by omega)]; exact r4
  obtain ⟨o1, o2, o3, o4⟩ := isJ_7 hop
  have hj := c_joined (La := La) (g := g2) hop hx hy hb
  have hbig : t + 2 ≤ 240 := by omega
  refine ⟨gz_wa g2 25 (upd (g2.1 25) t (iI (jn op (x.2 lt) (y.2 lt)))), ?_, hF.wa rfl, fun k hk => ?_, by rw [wa_at]; exact if_pos rfl⟩
  · rw [show f + (x.1.length + y.1.length + 1) = f + y.1.length + 1 + x.1.length by omega, r1, show f + y.1.length + 1 = f + 1 + y.1.length by omega, s1, fX3_worth_8]
    have e1 : nI (t + 1 + 1) + -nI 1 = nI (t + 1) := n_m1 (t + 1)
    have e2 : nI (t + 1) - nI 1 = nI t := by rw [n_sub (by omega)]; congr 1
    simp (disch := omega) only [l_0, l_1, l_2, l_3, l_4, l_5, l_6, l_7, l_8, l_9, l_10, l_11, l_12, l_13, l_14, l_15, l_16, l_17, l_18, l_19, l_20, l_21, l_22, l_23, l_24, l_25, l_26, l_28, l_29, l_30, l_31, l_32, l_33, l_34, l_36, l_37, l_38, l_39, l_40, l_41, l_42, l_43, l_44, l_45, l_46, l_47, l_48, l_49, l_50, l_53, l_54, l_57, l_58, l_59, l_60, l_61, l_62, l_63, l_91, l_93, l_97, l_98, l_99, l_100, l_103, l_104, l_110, l_112, l_114, l_115, l_116, l_119, l_120, l_121, l_124, l_128, l_231, l_240, l_241, l_255, l_496, l_999, l_1000, l_8191, l_9999, l_10000, l_100000, l_200000, l_1000000, l_1000000000, gz_let_eq, Option.bind_some, ↓reduceIte, wi_wa, wa_at, wa_wa, upd_fI, fI_ap, wa_2, n_add, n_ok, n_cl, n_lt, n_le, n_eq, p_0, p_1, p_01, em_t, nb_0, t_10, n_modd, n_modm, Bool.false_eq_true, not_false_eq_true, not_true, e240, eN, hv, show ¬ La.2.2 (w + 1) ≤ i + x.1.length + y.1.length by omega, o1, o2, o3, o4, show 1 ≤ t + 1 + 1 by omega, show 2 ≤ t + 1 + 1 by omega, e1, e2, t0, s4, hj, fX3_worth_185]
    rw [show i + (x.1.length + y.1.length + 1) = i + x.1.length + y.1.length + 1 by omega]
  · rw [wa_at]
    unfold upd
    rw [if_neg (by omega), s3 k (by omega), r3 k hk]
end C3
