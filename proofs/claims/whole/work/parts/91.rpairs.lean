/-! pairs that meet -/
def mB (b01 b02 b03 b12 b13 b23 : Bool) (k : Nat) : Bool := if k = 1 then b01 else if k = 2 then b02 else if k = 3 then b03 else if k = 6 then b12 else if k = 7 then b13 else if k = 11 then b23 else false
abbrev t3 : Type := Nat × Nat × Nat
def st3 (m : Nat → Bool) (a b : Nat) (s : t3) : t3 := if m (4 * a + b) then (s.1 ||| (2 ^ a ||| 2 ^ b), s.2.1 + 1, s.2.2 ||| 2 ^ (4 * a + b)) else s
def inn (m : Nat → Bool) (a n : Nat) (s : t3) : t3 := it (fun k s => st3 m a (a + 1 + k) s) n s
def out3 (m : Nat → Bool) (N n : Nat) : t3 := it (fun a s => inn m a (N - (a + 1)) s) n (0, 0, 0)
def Mf (m : Nat → Bool) (i j : Nat) : Bool := if i < j then m (4 * i + j) else m (4 * j + i)
def cs3 (m : Nat → Bool) (N i : Nat) : Nat := it (fun j a => if j ≠ i ∧ Mf m i j = true then a + 1 else a) N 0
def all3 (m : Nat → Bool) (N : Nat) : Nat := it (fun i a => a + cs3 m N i) N 0
def fct (N : Nat) (m : Nat → Bool) : Bool := decide ((out3 m N N).2.1 = all3 m N / 2) && ((List.range N).all (fun i => (out3 m N N).1.testBit i == decide (0 < cs3 m N i)) &&
  ((List.range N).all (fun b => (List.range b).all (fun a => (out3 m N N).2.2.testBit (4 * a + b) == m (4 * a + b))) && (decide ((out3 m N N).1 < 16) && (decide ((out3 m N N).2.1 ≤ 6) && decide ((out3 m N N).2.2 < 65536)))))
theorem fct_1 : ∀ N, N < 5 → ∀ b01 b02 b03 b12 b13 b23 : Bool, fct N (mB b01 b02 b03 b12 b13 b23) = true := by decide +kernel
abbrev mt (U : Nat → Nat) (a b : Nat) : Prop := U (42 + a) = 0 ∧ U (42 + b) = 0 ∧ U (30 + a) = U (30 + b)
def mU (U : Nat → Nat) : Nat → Bool := mB (decide (mt U 0 1)) (decide (mt U 0 2)) (decide (mt U 0 3)) (decide (mt U 1 2)) (decide (mt U 1 3)) (decide (mt U 2 3))
theorem mU_eq {U : Nat → Nat} {a b : Nat} (h : a < b) (hb : b < 4) : mU U (4 * a + b) = decide (mt U a b) := by
  have : (a = 0 ∧ b = 1) ∨ (a = 0 ∧ b = 2) ∨ (a = 0 ∧ b = 3) ∨ (a = 1 ∧ b = 2) ∨ (a = 1 ∧ b = 3) ∨ (a = 2 ∧ b = 3) := by omega
  rcases this with ⟨rfl, rfl⟩ | ⟨rfl, rfl⟩ | ⟨rfl, rfl⟩ | ⟨rfl, rfl⟩ | ⟨rfl, rfl⟩ | ⟨rfl, rfl⟩ <;> rfl
theorem Mf_eq {U : Nat → Nat} {i j : Nat} (h : j ≠ i) (hi : i < 4) (hj : j < 4) : (Mf (mU U) i j = true) = mt U i j := by
  unfold Mf
  by_cases c : i < j
  · rw [if_pos c, mU_eq c hj, decide_eq_true_eq]
  · rw [if_neg c, mU_eq (by omega) hi, decide_eq_true_eq]
    exact propext ⟨fun h => ⟨h.2.1, h.1, h.2.2.symm⟩, fun h => ⟨h.2.1, h.1, h.2.2.symm⟩⟩
theorem fct_u {U : Nat → Nat} {N : Nat} (hN : N < 5) : (out3 (mU U) N N).2.1 = all3 (mU U) N / 2 ∧ (∀ i, i < N → (out3 (mU U) N N).1.testBit i = decide (0 < cs3 (mU U) N i)) ∧ (∀ a b, a < b → b < N → (out3 (mU U) N N).2.2.testBit (4 * a + b) = mU U (4 * a + b)) ∧ (out3 (mU U) N N).1 < 16 ∧ (out3 (mU U) N N).2.1 ≤ 6 ∧ (out3 (mU U) N N).2.2 < 65536 := by
  have h : fct N (mU U) = true := fct_1 N hN _ _ _ _ _ _
  unfold fct at h
  simp only [Bool.and_eq_true, decide_eq_true_eq, List.all_eq_true, List.mem_range, beq_iff_eq] at h
  exact ⟨h.1, h.2.1, fun a b hab hb => h.2.2.1 b hb a hab, h.2.2.2⟩
/-- how many others are on a goer's cell -/
theorem cs_cnt {U : Nat → Nat} {i : Nat} (hi : i < 4) : ∀ n, n ≤ 4 → U (42 + i) = 0 → it (fun j a => if sOn U (U (30 + i)) j then a + 1 else a) n 0 = it (fun j a => if j ≠ i ∧ Mf (mU U) i j = true then a + 1 else a) n 0 + if i < n then 1 else 0 := by
  intro n
  induction n with
  | zero => intro _ _; rfl
  | succ n ih =>
    intro hn h0
    have h1 := ih (by omega) h0
    show (if sOn U (U (30 + i)) n then it (fun j a => if sOn U (U (30 + i)) j then a + 1 else a) n 0 + 1 else it (fun j a => if sOn U (U (30 + i)) j then a + 1 else a) n 0) = (if n ≠ i ∧ Mf (mU U) i n = true then it (fun j a => if j ≠ i ∧ Mf (mU U) i j = true then a + 1 else a) n 0 + 1 else it (fun j a => if j ≠ i ∧ Mf (mU U) i j = true then a + 1 else a) n 0) + if i < n + 1 then 1 else 0
    rw [h1]
    by_cases c : n = i
    · subst c
      rw [if_pos (show sOn U (U (30 + n)) n from ⟨h0, rfl⟩), if_neg (show ¬ (n ≠ n ∧ Mf (mU U) n n = true) from fun hh => hh.1 rfl), if_neg (Nat.lt_irrefl n), if_pos (Nat.lt_succ_self n)]
    · have e : sOn U (U (30 + i)) n = (n ≠ i ∧ Mf (mU U) i n = true) := by
        rw [Mf_eq c hi (by omega)]
        exact propext ⟨fun h => ⟨c, h0, h.1, h.2.symm⟩, fun h => ⟨h.2.2.1, h.2.2.2.symm⟩⟩
      have e2 : (if i < n + 1 then 1 else 0) = (if i < n then 1 else 0) := by
        by_cases ci : i < n
        · rw [if_pos ci, if_pos (by omega)]
        · rw [if_neg ci, if_neg (by omega)]
      rw [e2]
      by_cases c2 : sOn U (U (30 + i)) n
      · rw [if_pos c2, if_pos (show n ≠ i ∧ Mf (mU U) i n = true by rw [← e]; exact c2)]; omega
      · rw [if_neg c2, if_neg (show ¬ (n ≠ i ∧ Mf (mU U) i n = true) by rw [← e]; exact c2)]
theorem cs_zero {U : Nat → Nat} {i : Nat} (hi : i < 4) (h0 : ¬ U (42 + i) = 0) : ∀ n, n ≤ 4 → it (fun j a => if j ≠ i ∧ Mf (mU U) i j = true then a + 1 else a) n 0 = 0 := by
  intro n
  induction n with
  | zero => intro _; rfl
  | succ n ih =>
    intro hn
    show (if n ≠ i ∧ Mf (mU U) i n = true then it (fun j a => if j ≠ i ∧ Mf (mU U) i j = true then a + 1 else a) n 0 + 1 else it (fun j a => if j ≠ i ∧ Mf (mU U) i j = true then a + 1 else a) n 0) = 0
    rw [if_neg, ih (by omega)]
    intro hh
    have := hh.2
    rw [Mf_eq hh.1 hi (by omega)] at this
    exact h0 this.1
theorem cs_s {U : Nat → Nat} {i : Nat} (hi : i < U 60) (h60 : U 60 ≤ 4) (h0 : U (42 + i) = 0) : sCnt U (U (30 + i)) = cs3 (mU U) (U 60) i + 1 := by
  have := cs_cnt (U := U) (i := i) (by omega) (U 60) h60 h0
  rw [if_pos hi] at this
  exact this
theorem pairs_all {U : Nat → Nat} (h60 : U 60 ≤ 4) : ∀ n, n ≤ U 60 → sPairs U n = it (fun i a => a + cs3 (mU U) (U 60) i) n 0 := by
  intro n
  induction n with
  | zero => intro _; rfl
  | succ n ih =>
    intro hn
    rw [sPairs_s, ih (by omega)]
    show _ = it (fun i a => a + cs3 (mU U) (U 60) i) n 0 + cs3 (mU U) (U 60) n
    by_cases c : U (42 + n) = 0
    · rw [if_pos c, cs_s (by omega) h60 c]; omega
    · rw [if_neg c]
      have : cs3 (mU U) (U 60) n = 0 := cs_zero (by omega) c (U 60) h60
      omega
theorem many_eq {U : Nat → Nat} (h60 : U 60 ≤ 4) : (out3 (mU U) (U 60) (U 60)).2.1 = sPairs U (U 60) / 2 := by
  rw [pairs_all h60 (U 60) (Nat.le_refl _)]; exact (fct_u (by omega)).1
theorem turned_eq {U : Nat → Nat} (h60 : U 60 ≤ 4) {i : Nat} (hi : i < U 60) : ((out3 (mU U) (U 60) (U 60)).1.testBit i = true) = (U (42 + i) = 0 ∧ 1 < sCnt U (U (30 + i))) := by
  rw [(fct_u (U := U) (N := U 60) (by omega)).2.1 i hi, decide_eq_true_eq]
  by_cases c : U (42 + i) = 0
  · rw [cs_s hi h60 c]; exact propext (by omega)
  · have : cs3 (mU U) (U 60) i = 0 := cs_zero (by omega) c (U 60) h60
    rw [this]; exact propext ⟨fun h => absurd h (Nat.lt_irrefl _), fun h => absurd h.1 c⟩
def tn (U : Nat → Nat) (t n : Nat) : Nat → Nat := fun k => if 34 ≤ k ∧ k < 34 + n ∧ t.testBit (k - 34) = true then (U k + 2) % 4 else U k
theorem tn_0 {U : Nat → Nat} {t : Nat} : tn U t 0 = U := by
  funext k; unfold tn; exact if_neg (fun h => by omega)
theorem tn_y {U : Nat → Nat} {t n : Nat} (h : t.testBit n = true) : uN (tn U t n) (34 + n) ((U (34 + n) + 2) % 4) = tn U t (n + 1) := by
  funext k
  unfold uN tn
  by_cases c : k = 34 + n
  · subst c
    rw [if_pos rfl, if_pos ⟨by omega, by omega, by rw [show 34 + n - 34 = n by omega]; exact h⟩]
  · rw [if_neg c]
    by_cases c2 : 34 ≤ k ∧ k < 34 + n ∧ t.testBit (k - 34) = true
    · rw [if_pos c2, if_pos ⟨c2.1, by omega, c2.2.2⟩]
    · rw [if_neg c2, if_neg (fun hh => c2 ⟨hh.1, by omega, hh.2.2⟩)]
theorem tn_n {U : Nat → Nat} {t n : Nat} (h : ¬ t.testBit n = true) : tn U t n = tn U t (n + 1) := by
  funext k
  unfold tn
  by_cases c2 : 34 ≤ k ∧ k < 34 + n ∧ t.testBit (k - 34) = true
  · rw [if_pos c2, if_pos ⟨c2.1, by omega, c2.2.2⟩]
  · rw [if_neg c2, if_neg]
    intro hh
    by_cases c : k = 34 + n
    · subst c
      have := hh.2.2
      rw [show 34 + n - 34 = n by omega] at this
      exact h this
    · exact c2 ⟨hh.1, by omega, hh.2.2⟩
theorem tn_turned {U : Nat → Nat} (h60 : U 60 ≤ 4) : tn U (out3 (mU U) (U 60) (U 60)).1 (U 60) = sTurned U (U 60) := by
  funext k
  unfold tn sTurned
  by_cases c : 34 ≤ k ∧ k < 34 + U 60
  · have := turned_eq h60 (i := k - 34) (by omega)
    by_cases c2 : (out3 (mU U) (U 60) (U 60)).1.testBit (k - 34) = true
    · rw [if_pos ⟨c.1, c.2, c2⟩]
      rw [this] at c2
      rw [if_pos ⟨c.1, c.2, c2.1, c2.2⟩]
    · rw [if_neg (fun hh => c2 hh.2.2)]
      rw [this] at c2
      rw [if_neg (fun hh => c2 ⟨hh.2.2.1, hh.2.2.2⟩)]
  · rw [if_neg (fun hh => c ⟨hh.1, hh.2.1⟩), if_neg (fun hh => c ⟨hh.1, hh.2.1⟩)]
section RW
variable {g : gz_S} {w : Nat} {V U : Nat → Nat} {B : Nat} {La : gz_L} {Ls : List (List Nat)} {cur : Option Nat}
theorem inn_s (m : Nat → Bool) (a n : Nat) (s : t3) : inn m a (n + 1) s = st3 m a (a + 1 + n) (inn m a n s) := rfl
theorem r_pass98 (hw : isW w) (hW : Wf B U) {a : Nat} (ha : a < U 60) (K : Int32 → Int32 → Int32 → gz_S → Option (Int32 × gz_S)) (s : t3) (h : CX g w U Ls cur) (h38 : g.1 39 38 = nI s.2.2) :
    ∃ g', fX12_passes_98 La w K gz_FU (nI s.1) (nI s.2.1) (nI a) (nI (a + 1)) g = K (nI (inn (mU U) a (U 60 - (a + 1)) s).1) (nI (inn (mU U) a (U 60 - (a + 1)) s).2.1) (nI a) g' ∧ RGp w g g' ∧ CX g' w U Ls cur ∧ g'.1 39 38 = nI (inn (mU U) a (U 60 - (a + 1)) s).2.2 ∧ g'.1 39 39 = g.1 39 39 := by
  have h60 := hW.2.2.2.1.2
  refine lp (fun f n (x : t3 × gz_S) => fX12_passes_98 La w K f (nI x.1.1) (nI x.1.2.1) (nI a) (nI (a + 1 + n)) x.2)
    (fun n x => x.1 = inn (mU U) a n s ∧ RGp w g x.2 ∧ CX x.2 w U Ls cur ∧ x.2.1 39 38 = nI x.1.2.2 ∧ x.2.1 39 39 = g.1 39 39) (U 60 - (a + 1))
    (fun q => ∃ g', q = K (nI (inn (mU U) a (U 60 - (a + 1)) s).1) (nI (inn (mU U) a (U 60 - (a + 1)) s).2.1) (nI a) g' ∧ RGp w g g' ∧ CX g' w U Ls cur ∧ g'.1 39 38 = nI (inn (mU U) a (U 60 - (a + 1)) s).2.2 ∧ g'.1 39 39 = g.1 39 39) ?_ ?_ gz_FU 0 (s, g) (by omega) (by unfold gz_FU; omega) ⟨rfl, RGp.z0, h, h38, rfl⟩
  · intro f n ⟨x, g1⟩ hn ⟨q1, q2, q3, q4, q5⟩
    have q1 : x = inn (mU U) a n s := q1
    have q2 : RGp w g g1 := q2
    have q3 : CX g1 w U Ls cur := q3
    have q4 : g1.1 39 38 = nI x.2.2 := q4
    have q5 : g1.1 39 39 = g.1 39 39 := q5
    have hb : a + 1 + n < U 60 := by omega
    have hm := mU_eq (U := U) (a := a) (b := a + 1 + n) (by omega) (by omega)
    have e30a : g1.1 w (30 + 4 * a) = nI (U (30 + a)) := (q3.at0 (i := a) (by omega)).1
    have e30b : g1.1 w (30 + 4 * (a + 1 + n)) = nI (U (30 + (a + 1 + n))) := (q3.at0 (i := a + 1 + n) (by omega)).1
    have b1 := hW.1 (30 + a)
    have b2 := hW.1 (30 + (a + 1 + n))
    show (∃ g', fX12_passes_98 La w K (f + 1) (nI x.1) (nI x.2.1) (nI a) (nI (a + 1 + n)) g1 = _ ∧ _) ∨ ∃ y, fX12_passes_98 La w K (f + 1) (nI x.1) (nI x.2.1) (nI a) (nI (a + 1 + n)) g1 = _ ∧ _
    refine Or.inr ?_
    have hx : ∀ Q : Option (Int32 × gz_S), (if pI (U (42 + a) = 0) = 0 then fX12_passes_98 La w K f (nI x.1) (nI x.2.1) (nI a) (nI (a + 1 + n + 1)) g1 else if pI (U (42 + (a + 1 + n)) = 0) = 0 then fX12_passes_98 La w K f (nI x.1) (nI x.2.1) (nI a) (nI (a + 1 + n + 1)) g1 else if nI (U (30 + a)) = nI (U (30 + (a + 1 + n))) then fX12_passes_98 La w K f (nI (x.1 ||| (2 ^ a ||| 2 ^ (a + 1 + n)))) (nI (x.2.1 + 1)) (nI a) (nI (a + 1 + n + 1)) (gz_wi g1 39 38 (nI (x.2.2 ||| 2 ^ (4 * a + (a + 1 + n))))) else fX12_passes_98 La w K f (nI x.1) (nI x.2.1) (nI a) (nI (a + 1 + n + 1)) g1) = Q →
        fX12_passes_98 La w K (f + 1) (nI x.1) (nI x.2.1) (nI a) (nI (a + 1 + n)) g1 = Q := by
      intro Q hQ
      rw [fX12_passes_98, if_neg (show ¬ g1.1 39 27 ≤ nI (a + 1 + n) by rw [q3.2.1.2.2.1, n_le (by omega) (by omega)]; omega), r_does q3.1 hW.1 (by omega), Option.bind_some]
      unfold fX12_passes_182
      rw [gz_let_eq, show nI (a + 1 + n) + (1 : Int32) = nI (a + 1 + n + 1) from n_add _ _, r_does q3.1 hW.1 (by omega), Option.bind_some, gz_let_eq]
      have e4 : (4 : Int32) * nI a + nI (a + 1 + n) = nI (4 * a + (a + 1 + n)) := by rw [show (4 : Int32) * nI a = nI (4 * a) from n_mul 4 a, n_add]
      have s1 : (1 : Int32) <<< (nI a &&& 31) = nI (2 ^ a) := n_shl1 (by omega)
      have s2 : (1 : Int32) <<< (nI (a + 1 + n) &&& 31) = nI (2 ^ (a + 1 + n)) := n_shl1 (by omega)
      have s3 : (1 : Int32) <<< (nI (4 * a + (a + 1 + n)) &&& 31) = nI (2 ^ (4 * a + (a + 1 + n))) := n_shl1 (by omega)
      simp only [ix_0, e4, s1, s2, s3, q4, n_or, gz_let_eq, show nI x.2.1 + (1 : Int32) = nI (x.2.1 + 1) from n_add _ _, n_cl (show 30 + 4 * a < 2147483648 by omega), n_cl (show 30 + 4 * (a + 1 + n) < 2147483648 by omega), e30a, e30b]
      rw [if_pos (n_okP (a := 30 + 4 * a) (n := 231) (by omega) (by omega)), if_pos (n_okP (a := 30 + 4 * (a + 1 + n)) (n := 231) (by omega) (by omega))]
      exact hQ
    have hinn : inn (mU U) a (n + 1) s = st3 (mU U) a (a + 1 + n) x := by rw [inn_s, ← q1]
    have e1 : a + 1 + n + 1 = a + 1 + (n + 1) := by omega
    by_cases c : mt U a (a + 1 + n)
    · refine ⟨((x.1 ||| (2 ^ a ||| 2 ^ (a + 1 + n)), x.2.1 + 1, x.2.2 ||| 2 ^ (4 * a + (a + 1 + n))), gz_wi g1 39 38 (nI (x.2.2 ||| 2 ^ (4 * a + (a + 1 + n))))), hx _ ?_, ?_, q2.f hw (by omega), q3.f hw (by omega), wi_ss, (wi_sn (by omega)).trans q5⟩
      · rw [if_neg (pI1 c.1), if_neg (pI1 c.2.1), if_pos (by rw [c.2.2]), e1]
      · rw [hinn]; unfold st3; rw [hm, if_pos (by rw [decide_eq_true_eq]; exact c)]
    · refine ⟨(x, g1), hx _ ?_, ?_, q2, q3, q4, q5⟩
      · rw [e1]
        by_cases c1 : U (42 + a) = 0
        · rw [if_neg (pI1 c1)]
          by_cases c2 : U (42 + (a + 1 + n)) = 0
          · rw [if_neg (pI1 c2), if_neg (by rw [n_eq (by omega) (by omega)]; exact fun hh => c ⟨c1, c2, hh⟩)]
          · rw [if_pos (pI0 c2)]
        · rw [if_pos (pI0 c1)]
      · rw [hinn]; unfold st3; rw [hm, if_neg (by rw [decide_eq_true_eq]; exact c)]
  · intro f ⟨x, g1⟩ ⟨q1, q2, q3, q4, q5⟩
    have q1 : x = inn (mU U) a (U 60 - (a + 1)) s := q1
    have q3 : CX g1 w U Ls cur := q3
    subst q1
    refine ⟨g1, ?_, q2, q3, q4, q5⟩
    show fX12_passes_98 La w K (f + 1) _ _ (nI a) (nI (a + 1 + (U 60 - (a + 1)))) g1 = _
    rw [fX12_passes_98]
    exact if_pos (by rw [q3.2.1.2.2.1, n_le (by omega) (by omega)]; omega)
theorem out_s (m : Nat → Bool) (N n : Nat) : out3 m N (n + 1) = inn m n (N - (n + 1)) (out3 m N n) := rfl
theorem r_pass83 (hw : isW w) (hW : Wf B U) (K : Int32 → Int32 → gz_S → Option (Int32 × gz_S)) (h : CX g w U Ls cur) (h38 : g.1 39 38 = nI 0) :
    ∃ g', fX12_passes_83 La w K gz_FU (nI 0) (nI 0) 0 g = K (nI (out3 (mU U) (U 60) (U 60)).1) (nI (out3 (mU U) (U 60) (U 60)).2.1) g' ∧ RGp w g g' ∧ CX g' w U Ls cur ∧ g'.1 39 38 = nI (out3 (mU U) (U 60) (U 60)).2.2 ∧ g'.1 39 39 = g.1 39 39 := by
  have h60 := hW.2.2.2.1.2
  refine lp (fun f n (x : t3 × gz_S) => fX12_passes_83 La w K f (nI x.1.1) (nI x.1.2.1) (nI n) x.2)
    (fun n x => x.1 = out3 (mU U) (U 60) n ∧ RGp w g x.2 ∧ CX x.2 w U Ls cur ∧ x.2.1 39 38 = nI x.1.2.2 ∧ x.2.1 39 39 = g.1 39 39) (U 60)
    (fun q => ∃ g', q = K (nI (out3 (mU U) (U 60) (U 60)).1) (nI (out3 (mU U) (U 60) (U 60)).2.1) g' ∧ RGp w g g' ∧ CX g' w U Ls cur ∧ g'.1 39 38 = nI (out3 (mU U) (U 60) (U 60)).2.2 ∧ g'.1 39 39 = g.1 39 39) ?_ ?_ gz_FU 0 ((0, 0, 0), g) (by omega) (by unfold gz_FU; omega) ⟨rfl, RGp.z0, h, h38, rfl⟩
  · intro f n ⟨x, g1⟩ hn ⟨q1, q2, q3, q4, q5⟩
    have q1 : x = out3 (mU U) (U 60) n := q1
    have q2 : RGp w g g1 := q2
    have q3 : CX g1 w U Ls cur := q3
    have q4 : g1.1 39 38 = nI x.2.2 := q4
    have q5 : g1.1 39 39 = g.1 39 39 := q5
    obtain ⟨g2, u1, u2, u3, u4, u5⟩ := r_pass98 (La := La) hw hW hn (fun (x2 : Int32) (x3 : Int32) (x4 : Int32) g => gz_let (x4 + 1) (fun y188 => fX12_passes_83 La w K f x2 x3 y188 g)) x q3 q4
    refine Or.inr ⟨(inn (mU U) n (U 60 - (n + 1)) x, g2), ?_, ?_, q2.tr u2, u3, u4, u5.trans q5⟩
    · show fX12_passes_83 La w K (f + 1) (nI x.1) (nI x.2.1) (nI n) g1 = _
      rw [fX12_passes_83, if_neg (show ¬ g1.1 39 27 ≤ nI n by rw [q3.2.1.2.2.1, n_le (by omega) (by omega)]; omega), gz_let_eq, show nI n + (1 : Int32) = nI (n + 1) from n_add _ _, u1, gz_let_eq, show nI n + (1 : Int32) = nI (n + 1) from n_add _ _]
    · show inn (mU U) n (U 60 - (n + 1)) x = _
      rw [q1, out_s]
  · intro f ⟨x, g1⟩ ⟨q1, q2, q3, q4, q5⟩
    have q1 : x = out3 (mU U) (U 60) (U 60) := q1
    have q3 : CX g1 w U Ls cur := q3
    subst q1
    refine ⟨g1, ?_, q2, q3, q4, q5⟩
    show fX12_passes_83 La w K (f + 1) _ _ (nI (U 60)) g1 = _
    rw [fX12_passes_83]
    exact if_pos (by rw [q3.2.1.2.2.1, n_le (by omega) (by omega)]; omega)
theorem r_pass197 (hw : isW w) (hW : Wf B U) (K : Int32 → gz_S → Option (Int32 × gz_S)) {t : Nat} (ht : t < 16) (x3 : Int32) (h : CX g w U Ls cur) :
    ∃ g', fX12_passes_197 La w K gz_FU (nI t) x3 0 g = K x3 g' ∧ RG w g g' ∧ CX g' w (tn U t (U 60)) Ls cur := by
  have h60 := hW.2.2.2.1.2
  have n60 : ∀ n, n ≤ 4 → tn U t n 60 = U 60 := fun n hn => if_neg (fun hh => by omega)
  refine lp (fun f n g1 => fX12_passes_197 La w K f (nI t) x3 (nI n) g1) (fun n g1 => RG w g g1 ∧ CX g1 w (tn U t n) Ls cur) (U 60)
    (fun q => ∃ g', q = K x3 g' ∧ RG w g g' ∧ CX g' w (tn U t (U 60)) Ls cur) ?_ ?_ gz_FU 0 g (by omega) (by unfold gz_FU; omega) ⟨RG.z0, by rw [tn_0]; exact h⟩
  · intro f n g1 hn ⟨q1, q2⟩
    have c27 : g1.1 39 27 = nI (U 60) := by rw [q2.2.1.2.2.1, n60 n (by omega)]
    have e1 := (q2.at0 (i := n) (by omega)).2.1
    have e34 : tn U t n (34 + n) = U (34 + n) := if_neg (fun hh => by omega)
    rw [e34] at e1
    have b34 := hW.1 (34 + n)
    refine Or.inr ?_
    show ∃ g', fX12_passes_197 La w K (f + 1) (nI t) x3 (nI n) g1 = _ ∧ _
    rw [fX12_passes_197, if_neg (show ¬ g1.1 39 27 ≤ nI n by rw [c27, n_le (by omega) (by omega)]; omega), r_has (by omega) (by omega), Option.bind_some]
    unfold fX12_passes_241
    by_cases c : t.testBit n = true
    · refine ⟨gz_wi g1 w (30 + 4 * n + 1) (nI ((U (34 + n) + 2) % 4)), ?_, q1.up hw (by omega), ?_⟩
      · refine (if_neg (pI1 c)).trans ?_
        rw [ix_0]
        simp only [show nI (30 + 4 * n) + (1 : Int32) = nI (30 + 4 * n + 1) from n_add _ _, n_cl (show 30 + 4 * n + 1 < 2147483648 by omega), e1, gz_let_eq, show nI (U (34 + n)) + (2 : Int32) = nI (U (34 + n) + 2) from n_add _ _, show nI n + (1 : Int32) = nI (n + 1) from n_add _ _]
        rw [if_pos (n_okP (by omega) (by omega)), if_pos (n_okP (by omega) (by omega)), show nI (U (34 + n) + 2) - nI (U (34 + n) + 2) / 4 * 4 = nI ((U (34 + n) + 2) % 4) from n_mod (a := U (34 + n) + 2) (b := 4) (by omega) (by omega)]
      · rw [← tn_y c]
        exact q2.up hw (by omega) (rp_1 (by omega))
    · refine ⟨g1, ?_, q1, ?_⟩
      · refine (if_pos (pI0 c)).trans ?_
        rw [gz_let_eq, show nI n + (1 : Int32) = nI (n + 1) from n_add _ _]
      · rw [← tn_n c]; exact q2
  · intro f g1 ⟨q1, q2⟩
    refine ⟨g1, ?_, q1, q2⟩
    show fX12_passes_197 La w K (f + 1) (nI t) x3 (nI (U 60)) g1 = _
    rw [fX12_passes_197]
    exact if_pos (by rw [q2.2.1.2.2.1, n60 _ h60, n_le (by omega) (by omega)]; omega)
/-- an hour but for the log -/
theorem r_passes (hw : isW w) (h : CX g w V Ls cur) (hp : RKp g V) (hW : Wf B V) (hB : B < 700000) :
    ∃ g', fX12_passes La w g = some (nI (sMet (sTof Ls cur) V), g') ∧ RGp w g g' ∧ CX g' w (sHour (sTof Ls cur) V) Ls cur ∧ g'.1 39 39 = nI (sEnd (sTof Ls cur) V (V 60)) ∧
      ∃ p, g'.1 39 38 = nI p ∧ p < 65536 ∧ ∀ a b, a < b → b < V 60 → p.testBit (4 * a + b) = decide (mt (sAll (sTof Ls cur) V (V 60)) a b) := by
  have h60 := hW.2.2.2.1.2
  have hT := sTof_lt (Ls := Ls) (cur := cur)
  have hfx := sAll_fix (T := sTof Ls cur) (V := V) (n := V 60) h60
  have hWU := sAll_wf hT hW (by omega) (V 60) (Nat.le_refl _)
  have e60 : sAll (sTof Ls cur) V (V 60) 60 = V 60 := hfx 60 (by omega)
  have e47 : sAll (sTof Ls cur) V (V 60) 47 = V 47 := hfx 47 (by omega)
  have e49 : sAll (sTof Ls cur) V (V 60) 49 = V 49 := hfx 49 (by omega)
  have h0 : CX (gz_wi (gz_wi g 39 38 0) 39 39 0) w V Ls cur := (h.f hw (by omega)).f hw (by omega)
  have G0 : RGp w g (gz_wi (gz_wi g 39 38 0) 39 39 0) := (RGp.z0.f hw (by omega)).f hw (by omega)
  have hp0 : RKp (gz_wi (gz_wi g 39 38 0) 39 39 0) V := hp.fr G0.1 (by omega)
  obtain ⟨g1, u1, u2, u3, u4, u5⟩ := r_pass17 (La := La) hw h0 hp0 hW (by omega) (fun (x2 : Int32) (x3 : Int32) g => fX12_passes_83 La w (fun (x2 : Int32) (x3 : Int32) g => fX12_passes_197 La w (fun (x3 : Int32) g => (fJ9_min_7cf53 La 9999 ((g.1 w 47) + x3) g).bind (fun q259 => gz_let (gz_wi q259.2 w 47 q259.1) (fun g262 => gz_let (gz_wi g262 w 49 ((g262.1 w 49) + 1)) (fun g270 => some (x3, g270))))) gz_FU x2 x3 0 g) gz_FU x2 x3 0 g) 0 0 rfl
  obtain ⟨g2, v1, v2, v3, v4, v5⟩ := r_pass83 (La := La) hw hWU (fun (x2 : Int32) (x3 : Int32) g => fX12_passes_197 La w (fun (x3 : Int32) g => (fJ9_min_7cf53 La 9999 ((g.1 w 47) + x3) g).bind (fun q259 => gz_let (gz_wi q259.2 w 47 q259.1) (fun g262 => gz_let (gz_wi g262 w 49 ((g262.1 w 49) + 1)) (fun g270 => some (x3, g270))))) gz_FU x2 x3 0 g) u3 (u5.trans rfl)
  have hf := fct_u (U := sAll (sTof Ls cur) V (V 60)) (N := sAll (sTof Ls cur) V (V 60) 60) (by omega)
  obtain ⟨g3, w1, w2, w3⟩ := r_pass197 (La := La) hw hWU (fun (x3 : Int32) g => (fJ9_min_7cf53 La 9999 ((g.1 w 47) + x3) g).bind (fun q259 => gz_let (gz_wi q259.2 w 47 q259.1) (fun g262 => gz_let (gz_wi g262 w 49 ((g262.1 w 49) + 1)) (fun g270 => some (x3, g270))))) hf.2.2.2.1 (nI (out3 (mU (sAll (sTof Ls cur) V (V 60))) (sAll (sTof Ls cur) V (V 60) 60) (sAll (sTof Ls cur) V (V 60) 60)).2.1) v3
  rw [tn_turned (by omega)] at w3
  have hmany := many_eq (U := sAll (sTof Ls cur) V (V 60)) (by omega)
  have hmet : sMet (sTof Ls cur) V = sPairs (sAll (sTof Ls cur) V (V 60)) (V 60) / 2 := rfl
  rw [e60] at hmany hf v4 w3
  rw [← hmet] at hmany
  have hle := sMet_le (T := sTof Ls cur) (V := V) h60
  have k47 := w3.at46 (k := 47) (by omega)
  rw [sTurned_n (by omega) (by omega), e47] at k47
  have b47 := hW.2.2.2.2.2.1
  have b49 := hW.2.2.2.2.2.2.2.1
  have w4 := w3.up hw (k := 47) (j := 47) (x := min 9999 (V 47 + sMet (sTof Ls cur) V)) (by omega) (rp_n (by omega))
  have k49 := w4.at46 (k := 49) (by omega)
  rw [uN_n (by omega), sTurned_n (by omega) (by omega), e49] at k49
  have w5 := w4.up hw (k := 49) (j := 49) (x := V 49 + 1) (by omega) (rp_n (by omega))
  refine ⟨gz_wi (gz_wi g3 w 47 (nI (min 9999 (V 47 + sMet (sTof Ls cur) V)))) w 49 (nI (V 49 + 1)), ?_, (((G0.tr u2).tr v2).tr w2.p).tr ((RGp.z0.up hw (by omega)).up hw (by omega)), w5, ?_, ?_⟩
  · unfold fX12_passes
    rw [gz_let_eq, gz_let_eq, u1]
    refine v1.trans ?_
    refine w1.trans ?_
    rw [e60, hmany, k47, n_add]
    show (fJ9_min_7cf53 La (nI 9999) (nI (V 47 + sMet (sTof Ls cur) V)) g3).bind _ = _
    rw [c_min (by omega) (by omega), Option.bind_some, gz_let_eq, k49, show nI (V 49) + (1 : Int32) = nI (V 49 + 1) from n_add _ _, gz_let_eq]
  · rw [wi_no (by omega), wi_no (by omega), w2.1.2.1 39 (by omega), v5]; exact u4
  · refine ⟨(out3 (mU (sAll (sTof Ls cur) V (V 60))) (V 60) (V 60)).2.2, ?_, hf.2.2.2.2.2, fun a b hab hb => ?_⟩
    · rw [wi_no (by omega), wi_no (by omega), w2.1.2.1 38 (by omega)]; exact v4
    · rw [hf.2.2.1 a b hab hb]; exact mU_eq hab (by omega)
end RW
