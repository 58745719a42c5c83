/-! numbers, stores, loops -/
theorem l_0 : (0 : Int32) = nI 0 := rfl
theorem l_1 : (1 : Int32) = nI 1 := rfl
theorem l_2 : (2 : Int32) = nI 2 := rfl
theorem l_3 : (3 : Int32) = nI 3 := rfl
theorem l_4 : (4 : Int32) = nI 4 := rfl
theorem l_5 : (5 : Int32) = nI 5 := rfl
theorem l_6 : (6 : Int32) = nI 6 := rfl
theorem l_7 : (7 : Int32) = nI 7 := rfl
theorem l_8 : (8 : Int32) = nI 8 := rfl
theorem l_9 : (9 : Int32) = nI 9 := rfl
theorem l_10 : (10 : Int32) = nI 10 := rfl
theorem l_11 : (11 : Int32) = nI 11 := rfl
theorem l_12 : (12 : Int32) = nI 12 := rfl
theorem l_13 : (13 : Int32) = nI 13 := rfl
theorem l_14 : (14 : Int32) = nI 14 := rfl
theorem l_15 : (15 : Int32) = nI 15 := rfl
theorem l_16 : (16 : Int32) = nI 16 := rfl
theorem l_17 : (17 : Int32) = nI 17 := rfl
theorem l_18 : (18 : Int32) = nI 18 := rfl
theorem l_19 : (19 : Int32) = nI 19 := rfl
theorem l_20 : (20 : Int32) = nI 20 := rfl
theorem l_21 : (21 : Int32) = nI 21 := rfl
theorem l_22 : (22 : Int32) = nI 22 := rfl
theorem l_23 : (23 : Int32) = nI 23 := rfl
theorem l_24 : (24 : Int32) = nI 24 := rfl
theorem l_25 : (25 : Int32) = nI 25 := rfl
theorem l_26 : (26 : Int32) = nI 26 := rfl
theorem l_28 : (28 : Int32) = nI 28 := rfl
theorem l_29 : (29 : Int32) = nI 29 := rfl
theorem l_30 : (30 : Int32) = nI 30 := rfl
theorem l_31 : (31 : Int32) = nI 31 := rfl
theorem l_32 : (32 : Int32) = nI 32 := rfl
theorem l_33 : (33 : Int32) = nI 33 := rfl
theorem l_34 : (34 : Int32) = nI 34 := rfl
theorem l_36 : (36 : Int32) = nI 36 := rfl
theorem l_37 : (37 : Int32) = nI 37 := rfl
theorem l_38 : (38 : Int32) = nI 38 := rfl
theorem l_39 : (39 : Int32) = nI 39 := rfl
theorem l_40 : (40 : Int32) = nI 40 := rfl
theorem l_41 : (41 : Int32) = nI 41 := rfl
theorem l_42 : (42 : Int32) = nI 42 := rfl
theorem l_43 : (43 : Int32) = nI 43 := rfl
theorem l_44 : (44 : Int32) = nI 44 := rfl
theorem l_45 : (45 : Int32) = nI 45 := rfl
theorem l_46 : (46 : Int32) = nI 46 := rfl
theorem l_47 : (47 : Int32) = nI 47 := rfl
theorem l_48 : (48 : Int32) = nI 48 := rfl
theorem l_49 : (49 : Int32) = nI 49 := rfl
theorem l_50 : (50 : Int32) = nI 50 := rfl
theorem l_53 : (53 : Int32) = nI 53 := rfl
theorem l_54 : (54 : Int32) = nI 54 := rfl
theorem l_57 : (57 : Int32) = nI 57 := rfl
theorem l_58 : (58 : Int32) = nI 58 := rfl
theorem l_59 : (59 : Int32) = nI 59 := rfl
theorem l_60 : (60 : Int32) = nI 60 := rfl
theorem l_61 : (61 : Int32) = nI 61 := rfl
theorem l_62 : (62 : Int32) = nI 62 := rfl
theorem l_63 : (63 : Int32) = nI 63 := rfl
theorem l_91 : (91 : Int32) = nI 91 := rfl
theorem l_93 : (93 : Int32) = nI 93 := rfl
theorem l_97 : (97 : Int32) = nI 97 := rfl
theorem l_98 : (98 : Int32) = nI 98 := rfl
theorem l_99 : (99 : Int32) = nI 99 := rfl
theorem l_100 : (100 : Int32) = nI 100 := rfl
theorem l_103 : (103 : Int32) = nI 103 := rfl
theorem l_104 : (104 : Int32) = nI 104 := rfl
theorem l_110 : (110 : Int32) = nI 110 := rfl
theorem l_112 : (112 : Int32) = nI 112 := rfl
theorem l_114 : (114 : Int32) = nI 114 := rfl
theorem l_115 : (115 : Int32) = nI 115 := rfl
theorem l_116 : (116 : Int32) = nI 116 := rfl
theorem l_119 : (119 : Int32) = nI 119 := rfl
theorem l_120 : (120 : Int32) = nI 120 := rfl
theorem l_121 : (121 : Int32) = nI 121 := rfl
theorem l_124 : (124 : Int32) = nI 124 := rfl
theorem l_128 : (128 : Int32) = nI 128 := rfl
theorem l_231 : (231 : Int32) = nI 231 := rfl
theorem l_240 : (240 : Int32) = nI 240 := rfl
theorem l_241 : (241 : Int32) = nI 241 := rfl
theorem l_255 : (255 : Int32) = nI 255 := rfl
theorem l_496 : (496 : Int32) = nI 496 := rfl
theorem l_999 : (999 : Int32) = nI 999 := rfl
theorem l_1000 : (1000 : Int32) = nI 1000 := rfl
theorem l_8191 : (8191 : Int32) = nI 8191 := rfl
theorem l_9999 : (9999 : Int32) = nI 9999 := rfl
theorem l_10000 : (10000 : Int32) = nI 10000 := rfl
theorem l_100000 : (100000 : Int32) = nI 100000 := rfl
theorem l_200000 : (200000 : Int32) = nI 200000 := rfl
theorem l_1000000 : (1000000 : Int32) = nI 1000000 := rfl
theorem l_1000000000 : (1000000000 : Int32) = nI 1000000000 := rfl
theorem n_ti {n : Nat} (h : n < 2147483648) : (nI n).toInt = (n : Int) := nI_toInt (by omega)
theorem n_add (a b : Nat) : nI a + nI b = nI (a + b) := (Int32.ofNat_add a b).symm
theorem n_mul (a b : Nat) : nI a * nI b = nI (a * b) := (Int32.ofNat_mul a b).symm
theorem n_sub {a b : Nat} (h : b ≤ a) : nI a - nI b = nI (a - b) := (Int32.ofNat_sub a b h).symm
theorem n_lt {a b : Nat} (ha : a < 2147483648) (hb : b < 2147483648) : (nI a < nI b) = (a < b) := by
  rw [Int32.lt_iff_toInt_lt, n_ti ha, n_ti hb]; exact propext (by omega)
theorem n_le {a b : Nat} (ha : a < 2147483648) (hb : b < 2147483648) : (nI a ≤ nI b) = (a ≤ b) := by
  rw [Int32.le_iff_toInt_le, n_ti ha, n_ti hb]; exact propext (by omega)
theorem n_inj {a b : Nat} (ha : a < 2147483648) (hb : b < 2147483648) (h : nI a = nI b) : a = b := by
  have h2 := congrArg Int32.toInt h
  rw [n_ti ha, n_ti hb] at h2; omega
theorem n_eq {a b : Nat} (ha : a < 2147483648) (hb : b < 2147483648) : (nI a = nI b) = (a = b) :=
  propext ⟨n_inj ha hb, fun h => by rw [h]⟩
theorem n_cl {a : Nat} (h : a < 2147483648) : (nI a).toNatClampNeg = a := nI_clamp (by omega)
theorem n_okP {a n : Nat} (h : a < n) (hn : n ≤ 2147483648) : gz_ok (nI a) n := by
  intro hc
  rw [l_0, n_lt (by omega) (by omega), n_cl (by omega)] at hc
  omega
theorem n_ok {a n : Nat} (h : a < n) (hn : n ≤ 2147483648) : gz_ok (nI a) n = True := eq_true (n_okP h hn)
theorem n_div {a b : Nat} (ha : a < 2147483648) (hb : b < 2147483648) : nI a / nI b = nI (a / b) := (Int32.ofNat_div (by omega) (by omega)).symm
theorem n_mod {a b : Nat} (ha : a < 2147483648) (hb : b < 2147483648) : nI a - nI a / nI b * nI b = nI (a % b) := by
  rw [n_div ha hb, n_mul, n_sub (Nat.div_mul_le_self a b)]
  congr 1
  have h1 := Nat.div_add_mod a b
  have h2 : a / b * b = b * (a / b) := Nat.mul_comm _ _
  omega
theorem n_and (a b : Nat) : nI a &&& nI b = nI (a &&& b) := Int32.toBitVec_inj.1 (by
  show BitVec.ofNat 32 a &&& BitVec.ofNat 32 b = BitVec.ofNat 32 (a &&& b)
  exact BitVec.ofNat_and.symm)
theorem n_or (a b : Nat) : nI a ||| nI b = nI (a ||| b) := Int32.toBitVec_inj.1 (by
  show BitVec.ofNat 32 a ||| BitVec.ofNat 32 b = BitVec.ofNat 32 (a ||| b)
  exact BitVec.ofNat_or.symm)
theorem n_xor (a b : Nat) : nI a ^^^ nI b = nI (a ^^^ b) := Int32.toBitVec_inj.1 (by
  show BitVec.ofNat 32 a ^^^ BitVec.ofNat 32 b = BitVec.ofNat 32 (a ^^^ b)
  exact BitVec.ofNat_xor.symm)
theorem n_and3 (a : Nat) : nI a &&& nI 3 = nI (a % 4) := by
  rw [n_and]; exact congrArg nI (Nat.and_two_pow_sub_one_eq_mod a 2)
theorem n_smod : ∀ k, k < 32 → ((nI k &&& nI 31).toBitVec.smod 32).toNat = k := by decide +kernel
theorem n_shl1 {k : Nat} (hk : k < 32) : nI 1 <<< (nI k &&& nI 31) = nI (2 ^ k) := by
  have h2 : (2 : Nat) ^ k < 2 ^ 32 := Nat.pow_lt_pow_right (by decide) hk
  rw [pk_shlN _ k (n_smod k hk) (by omega), Nat.one_mul]
theorem n_shr {a k : Nat} (ha : a < 2147483648) (hk : k < 32) : nI a >>> (nI k &&& nI 31) = nI (a >>> k) := by
  rw [pk_shrN (by omega) _ k (n_smod k hk), Nat.shiftRight_eq_div_pow]
theorem n_and1 (a : Nat) : nI a &&& nI 1 = nI (a % 2) := by
  rw [n_and]; exact congrArg nI (Nat.and_two_pow_sub_one_eq_mod a 1)
/-- a bit of a set -/
theorem n_bit {a k : Nat} (ha : a < 2147483648) (hk : k < 32) : (nI a >>> (nI k &&& nI 31)) &&& nI 1 = nI (if a.testBit k then 1 else 0) := by
  rw [n_shr ha hk, n_and1]
  congr 1
  rw [Nat.testBit_eq_decide_div_mod_eq, Nat.shiftRight_eq_div_pow]
  by_cases h : a / 2 ^ k % 2 = 1
  · rw [h]; rfl
  · have h2 : a / 2 ^ k % 2 = 0 := by omega
    rw [h2]; rfl
def pI (P : Prop) [Decidable P] : Int32 := if P then nI 1 else nI 0
theorem p_t {P : Prop} [Decidable P] {β : Type} {g : β} (h : P) : some (nI 1, g) = some (pI P, g) := by unfold pI; rw [if_pos h]
theorem p_f {P : Prop} [Decidable P] {β : Type} {g : β} (h : ¬ P) : some (nI 0, g) = some (pI P, g) := by unfold pI; rw [if_neg h]
theorem p_0 {P : Prop} [Decidable P] : (pI P = nI 0) = ¬ P := by
  unfold pI
  by_cases h : P
  · rw [if_pos h]; exact propext ⟨fun e => absurd e (by decide), fun e => absurd h e⟩
  · rw [if_neg h]; exact propext ⟨fun _ => h, fun _ => rfl⟩
theorem p_1 {P : Prop} [Decidable P] : (pI P = nI 1) = P := by
  unfold pI
  by_cases h : P
  · rw [if_pos h]; exact propext ⟨fun _ => h, fun _ => rfl⟩
  · rw [if_neg h]; exact propext ⟨fun e => absurd e (by decide), fun e => absurd e h⟩
theorem p_01 {P : Prop} [Decidable P] : (pI P = nI 0 ∨ pI P = nI 1) = True := by
  rw [p_0, p_1]; exact eq_true (by by_cases h : P; exact Or.inr h; exact Or.inl h)
/-- an argument, as it comes -/
theorem x_lt {x : Int32} {n : Nat} (hn : n < 2147483648) : (x < nI n) = (x.toInt < (n : Int)) := by rw [Int32.lt_iff_toInt_lt, n_ti hn]
theorem x_ge {x : Int32} {n : Nat} (hn : n < 2147483648) : (nI n ≤ x) = ((n : Int) ≤ x.toInt) := by rw [Int32.le_iff_toInt_le, n_ti hn]
theorem x_gt {x : Int32} {n : Nat} (hn : n < 2147483648) : (nI n < x) = ((n : Int) < x.toInt) := by rw [Int32.lt_iff_toInt_lt, n_ti hn]
theorem x_le {x : Int32} {n : Nat} (hn : n < 2147483648) : (x ≤ nI n) = (x.toInt ≤ (n : Int)) := by rw [Int32.le_iff_toInt_le, n_ti hn]
theorem x_eq {x : Int32} {n : Nat} (hn : n < 2147483648) : (x = nI n) = (x.toInt = (n : Int)) :=
  propext ⟨fun h => by rw [h, n_ti hn], fun h => Int32.toInt.inj (by rw [h, n_ti hn])⟩
theorem x_eq' {x : Int32} {n : Nat} (hn : n < 2147483648) : (nI n = x) = (x.toInt = (n : Int)) := by
  rw [← x_eq hn]; exact propext ⟨Eq.symm, Eq.symm⟩
theorem x_of {x : Int32} (h : 0 ≤ x.toInt) : ∃ n : Nat, n < 2147483648 ∧ x = nI n ∧ (n : Int) = x.toInt := by
  have h2 := Int32.toInt_lt x
  refine ⟨x.toInt.toNat, by omega, ?_, by omega⟩
  rw [x_eq (by omega)]; omega
theorem x_m1 : (-nI 1).toInt = -1 := by decide
theorem m_eq {a : Nat} (ha : a < 2147483648) : (nI a = -nI 1) = False := by
  refine eq_false (fun h => ?_)
  have h2 := congrArg Int32.toInt h
  rw [n_ti ha, x_m1] at h2; omega
/-! stores -/
def fI (V : Nat → Nat) : Nat → Int32 := fun k => nI (V k)
theorem fI_ap (V : Nat → Nat) (k : Nat) : fI V k = nI (V k) := rfl
def uN (V : Nat → Nat) (k x : Nat) : Nat → Nat := fun j => if j = k then x else V j
theorem uN_s (V : Nat → Nat) (k x : Nat) : uN V k x k = x := if_pos rfl
theorem uN_n {V : Nat → Nat} {k x j : Nat} (h : j ≠ k) : uN V k x j = V j := if_neg h
theorem upd_fI (V : Nat → Nat) (k x : Nat) : upd (fI V) k (nI x) = fI (uN V k x) := by
  funext j; unfold upd fI uN; by_cases h : j = k
  · rw [if_pos h, if_pos h]
  · rw [if_neg h, if_neg h]
theorem gz_let_eq {α β : Type} (x : α) (f : α → Option β) : gz_let x f = f x := rfl
theorem wi_wa (g : gz_S) (j k : Nat) (v : Int32) : gz_wi g j k v = gz_wa g j (upd (g.1 j) k v) := by
  unfold gz_wi gz_wa
  refine Prod.ext ?_ rfl
  funext i; by_cases h : i = j
  · subst h; simp
  · simp [h]
theorem wa_at (g : gz_S) (j : Nat) (f : Nat → Int32) : (gz_wa g j f).1 j = f := if_pos rfl
theorem wa_ne {g : gz_S} {j i : Nat} {f : Nat → Int32} (h : i ≠ j) : (gz_wa g j f).1 i = g.1 i := if_neg h
theorem wa_2 (g : gz_S) (j : Nat) (f : Nat → Int32) : (gz_wa g j f).2 = g.2 := rfl
theorem wa_wa (g : gz_S) (j : Nat) (f f' : Nat → Int32) : gz_wa (gz_wa g j f) j f' = gz_wa g j f' := by
  unfold gz_wa
  refine Prod.ext ?_ rfl
  funext i; by_cases h : i = j
  · simp [h]
  · simp [h]
/-- what may be another: the rows of S alone -/
def Fr (S : Nat → Prop) (g g' : gz_S) : Prop := (∀ j, ¬ S j → g'.1 j = g.1 j) ∧ g'.2 = g.2
theorem Fr.rf {S : Nat → Prop} {g : gz_S} : Fr S g g := ⟨fun _ _ => rfl, rfl⟩
theorem Fr.tr {S : Nat → Prop} {g g' g'' : gz_S} (h : Fr S g g') (h' : Fr S g' g'') : Fr S g g'' :=
  ⟨fun j hj => (h'.1 j hj).trans (h.1 j hj), h'.2.trans h.2⟩
theorem Fr.wa {S : Nat → Prop} {g g' : gz_S} {j : Nat} {f : Nat → Int32} (h : Fr S g g') (hj : S j) : Fr S g (gz_wa g' j f) :=
  ⟨fun i hi => by rw [wa_ne (fun e => hi (by rw [e]; exact hj))]; exact h.1 i hi, h.2⟩
theorem Fr.wi {S : Nat → Prop} {g g' : gz_S} {j k : Nat} {v : Int32} (h : Fr S g g') (hj : S j) : Fr S g (gz_wi g' j k v) := by
  rw [wi_wa]; exact h.wa hj
theorem Fr.mo {S S' : Nat → Prop} {g g' : gz_S} (h : Fr S g g') (hs : ∀ j, S j → S' j) : Fr S' g g' :=
  ⟨fun j hj => h.1 j (fun e => hj (hs j e)), h.2⟩
/-! loops -/
theorem lp {G R : Type} (L : Nat → Nat → G → Option R) (I : Nat → G → Prop) (N : Nat) (Q : Option R → Prop)
    (h1 : ∀ f i g, i < N → I i g → Q (L (f + 1) i g) ∨ ∃ g', L (f + 1) i g = L f (i + 1) g' ∧ I (i + 1) g')
    (h2 : ∀ f g, I N g → Q (L (f + 1) N g)) : ∀ f i g, i ≤ N → N - i < f → I i g → Q (L f i g) := by
  intro f
  induction f with
  | zero => intro i g _ h; omega
  | succ f ih =>
    intro i g hi hf hI
    by_cases h : i = N
    · subst h; exact h2 f g hI
    · rcases h1 f i g (by omega) hI with hq | ⟨g', he, hI'⟩
      · exact hq
      · rw [he]; exact ih (i + 1) g' (by omega) (by omega) hI'
/-- i turns -/
def it {S : Type} (b : Nat → S → S) : Nat → S → S
  | 0, s => s
  | n + 1, s => b n (it b n s)
