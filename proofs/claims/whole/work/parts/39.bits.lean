/-! how many bits are set -/
def pc (n a : Nat) : Nat := it (fun i s => if a.testBit i then s + 1 else s) n 0
theorem pc_s (n a : Nat) : pc (n + 1) a = if a.testBit n then pc n a + 1 else pc n a := rfl
theorem pc_le (n a : Nat) : pc n a ≤ n := by
  induction n with
  | zero => exact Nat.le_refl _
  | succ n ih => rw [pc_s]; split <;> omega
theorem hz_t {h l : Nat} (hl : l < 16) (j : Nat) : (16 * h + l).testBit j = if j < 4 then l.testBit j else h.testBit (j - 4) := Nat.testBit_two_pow_mul_add (i := 4) h (by omega) j
theorem sh_and {h l Mh M s : Nat} (hl : l < 16) (hM : M < 16) (hs : M * 2 ^ s < 16) : (16 * h + l) / 2 ^ s &&& (16 * Mh + M) = 16 * ((h / 2 ^ s) &&& Mh) + ((l / 2 ^ s) &&& M) := by
  have hMs : ∀ j, M.testBit j = true → j + s < 4 := by
    intro j hj
    rcases Nat.lt_or_ge (j + s) 4 with h1 | h1
    · exact h1
    · exfalso
      have h2 : 2 ^ j ≤ M := Nat.ge_two_pow_of_testBit hj
      have h3 : 2 ^ j * 2 ^ s ≤ M * 2 ^ s := Nat.mul_le_mul_right _ h2
      have h4 : (2 : Nat) ^ 4 ≤ 2 ^ (j + s) := Nat.pow_le_pow_right (by decide) h1
      rw [Nat.pow_add] at h4
      omega
  have hlM : (l / 2 ^ s) &&& M < 16 := Nat.lt_of_le_of_lt Nat.and_le_right hM
  refine Nat.eq_of_testBit_eq (fun i => ?_)
  rw [Nat.testBit_and, hz_t hM, hz_t hlM, Nat.testBit_and, Nat.testBit_and, ← Nat.shiftRight_eq_div_pow, ← Nat.shiftRight_eq_div_pow, ← Nat.shiftRight_eq_div_pow, Nat.testBit_shiftRight, Nat.testBit_shiftRight, Nat.testBit_shiftRight, hz_t hl]
  by_cases hi : i < 4
  · rw [if_pos hi, if_pos hi]
    by_cases hm : M.testBit i = true
    · have := hMs i hm
      rw [if_pos (by omega)]
    · have hm2 : M.testBit i = false := by simpa using hm
      rw [hm2, Bool.and_false, Bool.and_false]
  · rw [if_neg hi, if_neg hi, if_neg (by omega)]
    congr 2
    omega
def hz : List Nat → Nat
  | [] => 0
  | x :: t => 16 * hz t + x
theorem hz_and {s : Nat} : ∀ (L Ms : List Nat), (∀ x, x ∈ L → x < 16) → (∀ m, m ∈ Ms → m < 16 ∧ m * 2 ^ s < 16) → L.length = Ms.length → hz L / 2 ^ s &&& hz Ms = hz (List.zipWith (fun x m => x / 2 ^ s &&& m) L Ms) := by
  intro L
  induction L with
  | nil =>
    intro Ms _ _ h
    cases Ms with
    | nil => show 0 / 2 ^ s &&& 0 = 0; exact Nat.and_zero _
    | cons => cases h
  | cons x t ih =>
    intro Ms h1 h2 h
    cases Ms with
    | nil => cases h
    | cons m ms =>
      have a1 := h1 x List.mem_cons_self
      have a2 := h2 m List.mem_cons_self
      show (16 * hz t + x) / 2 ^ s &&& (16 * hz ms + m) = 16 * hz (List.zipWith (fun x m => x / 2 ^ s &&& m) t ms) + (x / 2 ^ s &&& m)
      rw [sh_and a1 a2.1 a2.2, ih ms (fun y hy => h1 y (List.mem_cons_of_mem _ hy)) (fun y hy => h2 y (List.mem_cons_of_mem _ hy)) (by simpa using h)]
theorem pc_cat {h l : Nat} (hl : l < 16) : ∀ n, pc (n + 4) (16 * h + l) = pc 4 l + pc n h := by
  have t := hz_t (h := h) hl
  have h1 : ∀ m, m ≤ 4 → pc m (16 * h + l) = pc m l := by
    intro m
    induction m with
    | zero => intro _; rfl
    | succ m ih =>
      intro hm
      have e : (16 * h + l).testBit m = l.testBit m := by rw [t, if_pos (by omega)]
      rw [pc_s, pc_s, e, ih (by omega)]
  intro n
  induction n with
  | zero => rw [Nat.zero_add, h1 4 (Nat.le_refl _)]; rfl
  | succ n ih =>
    have e : (16 * h + l).testBit (n + 4) = h.testBit n := by rw [t, if_neg (by omega)]; congr 1
    rw [show n + 1 + 4 = (n + 4) + 1 by omega, pc_s, e, ih, pc_s n h]
    split <;> omega
theorem pk_nib : ∀ x, x < 16 → (x / 2 &&& 5) ≤ x ∧ (x - (x / 2 &&& 5)) < 16 ∧ ((x - (x / 2 &&& 5)) &&& 3) + ((x - (x / 2 &&& 5)) / 4 &&& 3) = pc 4 x := by decide +kernel
theorem l_m5 : (1431655765 : Int32) = nI 1431655765 := rfl
theorem l_m3 : (858993459 : Int32) = nI 858993459 := rfl
theorem l_mf : (252645135 : Int32) = nI 252645135 := rfl
theorem us_n {a : Nat} (k : Nat) (ha : a < 4294967296) (hs : (((nI k).toUInt32 &&& Int32.toUInt32 31).toBitVec % 32).toNat = k) : gz_ushr (nI a) (nI k) = nI (a / 2 ^ k) := pk_ushrN (by omega) (nI k) k hs
theorem c_bitCount {La : gz_L} {g : gz_S} {a : Nat} (ha : a < 1073741824) : fJ6_bitCount_0f7a4 La (nI a) g = some (nI (pc 32 a), g) := by
  obtain ⟨n0, n1, n2, n3, n4, n5, n6, n7, rfl, p0, p1, p2, p3, p4, p5, p6, p7⟩ : ∃ n0 n1 n2 n3 n4 n5 n6 n7, a = hz [n0, n1, n2, n3, n4, n5, n6, n7] ∧ n0 < 16 ∧ n1 < 16 ∧ n2 < 16 ∧ n3 < 16 ∧ n4 < 16 ∧ n5 < 16 ∧ n6 < 16 ∧ n7 < 16 :=
    ⟨a % 16, a / 16 % 16, a / 256 % 16, a / 4096 % 16, a / 65536 % 16, a / 1048576 % 16, a / 16777216 % 16, a / 268435456 % 16, by unfold hz hz hz hz hz hz hz hz hz; omega, by omega, by omega, by omega, by omega, by omega, by omega, by omega, by omega⟩
  have e5 : hz [n0, n1, n2, n3, n4, n5, n6, n7] / 2 ^ 1 &&& hz [5, 5, 5, 5, 5, 5, 5, 5] = hz [n0 / 2 ^ 1 &&& 5, n1 / 2 ^ 1 &&& 5, n2 / 2 ^ 1 &&& 5, n3 / 2 ^ 1 &&& 5, n4 / 2 ^ 1 &&& 5, n5 / 2 ^ 1 &&& 5, n6 / 2 ^ 1 &&& 5, n7 / 2 ^ 1 &&& 5] :=
    hz_and _ _ (by simp [p0, p1, p2, p3, p4, p5, p6, p7]) (by simp) rfl
  have em5 : hz [5, 5, 5, 5, 5, 5, 5, 5] = 1431655765 := rfl
  have em3 : hz [3, 3, 3, 3, 3, 3, 3, 3] = 858993459 := rfl
  have emf : hz [15, 0, 15, 0, 15, 0, 15, 0] = 252645135 := rfl
  have k0 := pk_nib n0 p0
  have k1 := pk_nib n1 p1
  have k2 := pk_nib n2 p2
  have k3 := pk_nib n3 p3
  have k4 := pk_nib n4 p4
  have k5 := pk_nib n5 p5
  have k6 := pk_nib n6 p6
  have k7 := pk_nib n7 p7
  have hp : pc 32 (hz [n0, n1, n2, n3, n4, n5, n6, n7]) = pc 4 n0 + (pc 4 n1 + (pc 4 n2 + (pc 4 n3 + (pc 4 n4 + (pc 4 n5 + (pc 4 n6 + (pc 4 n7 + 0))))))) := by
    unfold hz
    rw [show 32 = 28 + 4 from rfl, pc_cat p0]
    unfold hz
    rw [show 28 = 24 + 4 from rfl, pc_cat p1]
    unfold hz
    rw [show 24 = 20 + 4 from rfl, pc_cat p2]
    unfold hz
    rw [show 20 = 16 + 4 from rfl, pc_cat p3]
    unfold hz
    rw [show 16 = 12 + 4 from rfl, pc_cat p4]
    unfold hz
    rw [show 12 = 8 + 4 from rfl, pc_cat p5]
    unfold hz
    rw [show 8 = 4 + 4 from rfl, pc_cat p6]
    unfold hz
    rw [show 4 = 0 + 4 from rfl, pc_cat p7]
    rfl
  have q0 := pc_le 4 n0
  have q1 := pc_le 4 n1
  have q2 := pc_le 4 n2
  have q3 := pc_le 4 n3
  have q4 := pc_le 4 n4
  have q5 := pc_le 4 n5
  have q6 := pc_le 4 n6
  have q7 := pc_le 4 n7
  have s1 : nI (hz [n0, n1, n2, n3, n4, n5, n6, n7]) - (gz_ushr (nI (hz [n0, n1, n2, n3, n4, n5, n6, n7])) (nI 1) &&& nI 1431655765) = nI (hz [n0 - (n0 / 2 &&& 5), n1 - (n1 / 2 &&& 5), n2 - (n2 / 2 &&& 5), n3 - (n3 / 2 &&& 5), n4 - (n4 / 2 &&& 5), n5 - (n5 / 2 &&& 5), n6 - (n6 / 2 &&& 5), n7 - (n7 / 2 &&& 5)]) := by
    rw [us_n 1 (by omega) (by decide), n_and, ← em5, e5]
    simp only [hz, Nat.pow_one]
    rw [n_sub (by omega)]
    congr 1
    omega
  have e3 : hz [n0 - (n0 / 2 &&& 5), n1 - (n1 / 2 &&& 5), n2 - (n2 / 2 &&& 5), n3 - (n3 / 2 &&& 5), n4 - (n4 / 2 &&& 5), n5 - (n5 / 2 &&& 5), n6 - (n6 / 2 &&& 5), n7 - (n7 / 2 &&& 5)] / 2 ^ 0 &&& hz [3, 3, 3, 3, 3, 3, 3, 3] = _ :=
    hz_and _ _ (by simp [k0, k1, k2, k3, k4, k5, k6, k7]) (by simp) rfl
  have e3' : hz [n0 - (n0 / 2 &&& 5), n1 - (n1 / 2 &&& 5), n2 - (n2 / 2 &&& 5), n3 - (n3 / 2 &&& 5), n4 - (n4 / 2 &&& 5), n5 - (n5 / 2 &&& 5), n6 - (n6 / 2 &&& 5), n7 - (n7 / 2 &&& 5)] / 2 ^ 2 &&& hz [3, 3, 3, 3, 3, 3, 3, 3] = _ :=
    hz_and _ _ (by simp [k0, k1, k2, k3, k4, k5, k6, k7]) (by simp) rfl
  rw [em3] at e3 e3'
  simp only [List.zipWith_cons_cons, List.zipWith_nil_left, Nat.pow_zero, Nat.div_one, Nat.reducePow] at e3 e3'
  have s2 : (nI (hz [n0 - (n0 / 2 &&& 5), n1 - (n1 / 2 &&& 5), n2 - (n2 / 2 &&& 5), n3 - (n3 / 2 &&& 5), n4 - (n4 / 2 &&& 5), n5 - (n5 / 2 &&& 5), n6 - (n6 / 2 &&& 5), n7 - (n7 / 2 &&& 5)]) &&& nI 858993459) + (gz_ushr (nI (hz [n0 - (n0 / 2 &&& 5), n1 - (n1 / 2 &&& 5), n2 - (n2 / 2 &&& 5), n3 - (n3 / 2 &&& 5), n4 - (n4 / 2 &&& 5), n5 - (n5 / 2 &&& 5), n6 - (n6 / 2 &&& 5), n7 - (n7 / 2 &&& 5)])) (nI 2) &&& nI 858993459) = nI (hz [pc 4 n0, pc 4 n1, pc 4 n2, pc 4 n3, pc 4 n4, pc 4 n5, pc 4 n6, pc 4 n7]) := by
    rw [us_n 2 (by simp only [hz]; omega) (by decide), n_and, n_and, n_add, show (2 : Nat) ^ 2 = 4 from rfl, e3, e3']
    simp only [hz]
    congr 1
    omega
  have s3 : (nI (hz [pc 4 n0, pc 4 n1, pc 4 n2, pc 4 n3, pc 4 n4, pc 4 n5, pc 4 n6, pc 4 n7]) + gz_ushr (nI (hz [pc 4 n0, pc 4 n1, pc 4 n2, pc 4 n3, pc 4 n4, pc 4 n5, pc 4 n6, pc 4 n7])) (nI 4)) &&& nI 252645135 = nI (hz [pc 4 n0 + pc 4 n1, 0, pc 4 n2 + pc 4 n3, 0, pc 4 n4 + pc 4 n5, 0, pc 4 n6 + pc 4 n7, 0]) := by
    have e : hz [pc 4 n0, pc 4 n1, pc 4 n2, pc 4 n3, pc 4 n4, pc 4 n5, pc 4 n6, pc 4 n7] + hz [pc 4 n0, pc 4 n1, pc 4 n2, pc 4 n3, pc 4 n4, pc 4 n5, pc 4 n6, pc 4 n7] / 2 ^ 4 = hz [pc 4 n0 + pc 4 n1, pc 4 n1 + pc 4 n2, pc 4 n2 + pc 4 n3, pc 4 n3 + pc 4 n4, pc 4 n4 + pc 4 n5, pc 4 n5 + pc 4 n6, pc 4 n6 + pc 4 n7, pc 4 n7] := by
      simp only [hz]; omega
    have e2 := hz_and (s := 0) [pc 4 n0 + pc 4 n1, pc 4 n1 + pc 4 n2, pc 4 n2 + pc 4 n3, pc 4 n3 + pc 4 n4, pc 4 n4 + pc 4 n5, pc 4 n5 + pc 4 n6, pc 4 n6 + pc 4 n7, pc 4 n7] [15, 0, 15, 0, 15, 0, 15, 0] (by intro x hx; simp only [List.mem_cons, List.not_mem_nil, or_false] at hx; omega) (by simp) rfl
    have m15 : ∀ x, x < 16 → x &&& 15 = x := fun x hx => by
      rw [show (15 : Nat) = 2 ^ 4 - 1 from rfl, Nat.and_two_pow_sub_one_eq_mod]
      exact Nat.mod_eq_of_lt hx
    rw [emf] at e2
    simp only [List.zipWith_cons_cons, List.zipWith_nil_left, Nat.pow_zero, Nat.div_one, Nat.and_zero] at e2
    rw [m15 _ (by omega), m15 _ (by omega), m15 _ (by omega), m15 _ (by omega)] at e2
    rw [us_n 4 (by simp only [hz]; omega) (by decide), n_add, n_and, e, e2]
  unfold fJ6_bitCount_0f7a4
  simp only [gz_let_eq, l_1, l_2, l_4, l_8, l_16, l_63, l_m5, l_m3, l_mf, s1, s2, s3]
  rw [us_n 8 (by simp only [hz]; omega) (by decide), n_add, us_n 16 (by simp only [hz]; omega) (by decide), n_add, n_and]
  rw [show (63 : Nat) = 2 ^ 6 - 1 from rfl, Nat.and_two_pow_sub_one_eq_mod, hp]
  congr 3
  obtain ⟨d0, hd0⟩ : ∃ d, d = pc 4 n0 + pc 4 n1 := ⟨_, rfl⟩
  obtain ⟨d1, hd1⟩ : ∃ d, d = pc 4 n2 + pc 4 n3 := ⟨_, rfl⟩
  obtain ⟨d2, hd2⟩ : ∃ d, d = pc 4 n4 + pc 4 n5 := ⟨_, rfl⟩
  obtain ⟨d3, hd3⟩ : ∃ d, d = pc 4 n6 + pc 4 n7 := ⟨_, rfl⟩
  rw [← hd0, ← hd1, ← hd2, ← hd3]
  have z0 : hz [d0, 0, d1, 0, d2, 0, d3, 0] = d0 + 256 * d1 + 65536 * d2 + 16777216 * d3 := by simp only [hz]; omega
  have r0 : d0 ≤ 8 := by omega
  have r1 : d1 ≤ 8 := by omega
  have r2 : d2 ≤ 8 := by omega
  have r3 : d3 ≤ 8 := by omega
  have hs : pc 4 n0 + (pc 4 n1 + (pc 4 n2 + (pc 4 n3 + (pc 4 n4 + (pc 4 n5 + (pc 4 n6 + (pc 4 n7 + 0))))))) = d0 + d1 + d2 + d3 := by omega
  rw [hs, z0]
  clear hs z0 hp s1 s2 s3 e3 e3' e5 hd0 hd1 hd2 hd3 k0 k1 k2 k3 k4 k5 k6 k7 ha
  have z1 : (d0 + 256 * d1 + 65536 * d2 + 16777216 * d3) / 2 ^ 8 = d1 + 256 * d2 + 65536 * d3 := by omega
  rw [z1]
  have z2 : (d0 + 256 * d1 + 65536 * d2 + 16777216 * d3 + (d1 + 256 * d2 + 65536 * d3)) / 2 ^ 16 = d2 + d3 + 256 * d3 := by omega
  rw [z2]
  omega
