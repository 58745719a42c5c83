/-! a law that was read, and what it is worth -/
def ExL (La : gz_L) (lt : Nat → Int) (c : List Int32) (d : Option Int) : Prop := ∀ w (K : Int32 → gz_S → Option (Int32 × gz_S)) f g, Hs La w lt g → At g w 0 c → c.length ≤ La.2.2 (w + 1) →
  ∃ g', Fr (fun j => j = 25) g g' ∧ (∀ x, d = some x → Bd6 x ∧ fX3_worth_8 La w K (f + c.length) (nI 0) (nI 0) (nI 0) g = K (nI 1) g' ∧ g'.1 25 0 = iI x) ∧
    (d = none → fX3_worth_8 La w K (f + c.length) (nI 0) (nI 0) (nI 0) g = fX3_worth_8 La w K f (nI 0) (nI 0) (nI c.length) g')
abbrev pD : Type := List Int32 × ((Nat → Int) → Option Int)
def dC (acc : pD) (c : pK) : pD := (acc.1 ++ c.1 ++ [-22], fun e => match acc.2 e with | some x => some x | none => if c.2.1 e = 1 then some (c.2.2 e) else none)
theorem ExL.nil {La : gz_L} {lt : Nat → Int} : ExL La lt [] none := fun _ _ _ g _ _ _ => ⟨g, Fr.rf, (fun x h => by cases h), fun _ => rfl⟩
theorem ExL.step {La : gz_L} {lt : Nat → Int} {acc : pD} {c : pK} (h : ExL La lt acc.1 (acc.2 lt)) (hc : SemC La lt c) : ExL La lt (dC acc c).1 ((dC acc c).2 lt) := by
  intro w K f g hH hA hN
  have hcode : (dC acc c).1 = acc.1 ++ (c.1 ++ [-nI 22]) := by unfold dC; simp; rfl
  have hlen : (dC acc c).1.length = acc.1.length + c.1.length + 1 := by rw [hcode, List.length_append, List.length_append, List.length_singleton]; omega
  have hden : (dC acc c).2 lt = match acc.2 lt with | some x => some x | none => if c.2.1 lt = 1 then some (c.2.2 lt) else none := rfl
  rw [hlen] at hN ⊢
  rw [hcode] at hA
  obtain ⟨a1, a2⟩ := hA.app
  rw [Nat.zero_add] at a2
  obtain ⟨g1, r1, r2, r3⟩ := h w K (f + c.1.length + 1) g hH a1 (by omega)
  rw [show f + (acc.1.length + c.1.length + 1) = f + c.1.length + 1 + acc.1.length by omega]
  cases hd : acc.2 lt with
  | some x =>
    rw [hd] at hden
    have hden : (dC acc c).2 lt = some x := hden
    rw [hden]
    refine ⟨g1, r1, fun y hy => ?_, fun e => by cases e⟩
    cases hy
    exact r2 x hd
  | none =>
    rw [hd] at hden
    have hden : (dC acc c).2 lt = if c.2.1 lt = 1 then some (c.2.2 lt) else none := hden
    have h1 := r3 hd
    obtain ⟨g2, s1, s2, s3⟩ := hc.2.2 w K f acc.1.length 0 g1 (hH.fr r1) (a2.fr r1 hH.2.1) (by omega) (Nat.zero_le _)
    rw [hden]
    by_cases h2 : c.2.1 lt = 1
    · rw [if_pos h2]
      refine ⟨g2, r1.tr s1, fun y hy => ?_, fun e => by cases e⟩
      cases hy
      obtain ⟨t1, t2⟩ := s2 h2
      exact ⟨hc.1, h1.trans t1, t2⟩
    · rw [if_neg h2]
      refine ⟨g2, r1.tr s1, (fun y hy => by cases hy), fun _ => ?_⟩
      rw [h1, s3 h2]
theorem pLaw_eq (b : Nat → Nat) (len n p : Nat) (acc : pD) : pLaw b len (n + 1) p acc = if sg b len p = some 121 then (if sg b len (nx b len (p + 1)) = some 58 then (match pClause b len (nx b len (nx b len (p + 1) + 1)) with | (q, none) => (q, none) | (q, some c) => if sg b len q = none then (q, some (dC acc c)) else if sg b len q = some 59 then pLaw b len n (nx b len (q + 1)) (dC acc c) else (q, none)) else (nx b len (p + 1), none)) else (p, none) := by
  show (if sg b len p = some 121 then (if sg b len (nx b len (p + 1)) = some 58 then (match pClause b len (nx b len (nx b len (p + 1) + 1)) with | (q, none) => (q, none) | (q, some (c, i, v)) => if sg b len q = none then (q, some (acc.1 ++ c ++ [-22], fun e => match acc.2 e with | some x => some x | none => if i e = 1 then some (v e) else none)) else if sg b len q = some 59 then pLaw b len n (nx b len (q + 1)) (acc.1 ++ c ++ [-22], fun e => match acc.2 e with | some x => some x | none => if i e = 1 then some (v e) else none) else (q, none)) else (nx b len (p + 1), none)) else (p, none)) = _
  cases pClause b len (nx b len (nx b len (p + 1) + 1)) with
  | mk q o =>
    cases o with
    | none => rfl
    | some c => obtain ⟨c, i, v⟩ := c; rfl
theorem pLaw_sem {La : gz_L} {lt : Nat → Int} {b : Nat → Nat} {len : Nat} (hlt : LtOk lt) : ∀ n p acc, p ≤ len → ExL La lt acc.1 (acc.2 lt) → ∀ d, (pLaw b len n p acc).2 = some d → ExL La lt d.1 (d.2 lt) := by
  intro n
  induction n with
  | zero => intro p acc _ _ d h; cases h
  | succ n ih =>
    intro p acc hp hacc d
    rw [pLaw_eq]
    by_cases h121 : sg b len p = some 121
    · rw [if_pos h121]
      have hl1 := (sg_lt h121).1
      have hx1 := nx_le (b := b) (show p + 1 ≤ len by omega)
      by_cases h58 : sg b len (nx b len (p + 1)) = some 58
      · rw [if_pos h58]
        have hl2 := (sg_lt h58).1
        have hx2 := nx_le (b := b) (show nx b len (p + 1) + 1 ≤ len by omega)
        have hs := pClause_sem (La := La) (b := b) hlt hx2.2
        have hg := pClause_good (b := b) hx2.2
        cases hc : pClause b len (nx b len (nx b len (p + 1) + 1)) with
        | mk q o =>
          rw [hc] at hs hg
          cases o with
          | none => intro h; cases h
          | some c =>
            show (if sg b len q = none then ((q, some (dC acc c)) : Nat × Option pD) else if sg b len q = some 59 then pLaw b len n (nx b len (q + 1)) (dC acc c) else (q, none)).2 = some d → _
            have hst := hacc.step (hs c rfl)
            by_cases hz : sg b len q = none
            · rw [if_pos hz]; intro h; cases h; exact hst
            · rw [if_neg hz]
              by_cases h59 : sg b len q = some 59
              · rw [if_pos h59]
                have hl3 := (sg_lt h59).1
                have hx3 := nx_le (b := b) (show q + 1 ≤ len by omega)
                exact ih (nx b len (q + 1)) (dC acc c) hx3.2 hst d
              · rw [if_neg h59]; intro h; cases h
      · rw [if_neg h58]; intro h; cases h
    · rw [if_neg h121]; intro h; cases h
/-- the letters -/
def ltF (b a r p n h : Nat) : Nat → Int := fun k => (([b, a, r, p, n, h] : List Nat).getD k 0 : Nat)
def lawV (d : (Nat → Int) → Option Int) (b a r p n h : Nat) : Int := (d (ltF b a r p n h)).getD 0
def lawT (d : (Nat → Int) → Option Int) : Nat → Nat → Nat → Nat → Nat → Nat → Nat := fun b a r p n h => (lawV d b a r p n h % 4).toNat
theorem i_msb (x : Int32) : x.toBitVec.msb = decide (x.toInt < 0) := BitVec.msb_eq_toInt
theorem c_fmod4 {La : gz_L} {g : gz_S} {z : Int} (hz : Bd6 z) : fJ9_floorMod_7cf53 La (iI z) (nI 4) g = some (nI (z % 4).toNat, g) := by
  have h1 := hz.1
  have h2 := hz.2
  have e4 : nI 4 = iI 4 := rfl
  have hd : iI z / nI 4 = iI (z.tdiv 4) := by
    rw [e4]
    exact (Int32.ofInt_tdiv (by have : Int32.minValue.toInt = -2147483648 := rfl; omega) (by have : Int32.maxValue.toInt = 2147483647 := rfl; omega) (by decide) (by decide)).symm
  have hr : iI z - iI z / nI 4 * nI 4 = iI (z - z.tdiv 4 * 4) := by
    rw [hd, e4]
    unfold iI
    rw [← Int32.ofInt_mul, ← Int32.ofInt_sub]
  have hx : (0 ≤ iI z ^^^ nI 4) = (0 ≤ z) := by
    have hm : (iI z ^^^ nI 4).toBitVec.msb = decide (z < 0) := by
      rw [Int32.toBitVec_xor, BitVec.msb_xor, i_msb, i_msb, iI_ti (by omega), n_ti (by omega)]
      have : decide (((4 : Nat) : Int) < 0) = false := by decide
      rw [this, Bool.xor_false]
    rw [i_msb] at hm
    have hm2 : (iI z ^^^ nI 4).toInt < 0 ↔ z < 0 := by
      constructor
      · intro h; have := decide_eq_true h; rw [hm] at this; exact of_decide_eq_true this
      · intro h; have := decide_eq_true h; rw [← hm] at this; exact of_decide_eq_true this
    rw [Int32.le_iff_toInt_le, Int32.toInt_zero]
    exact propext (by omega)
  have hne : ¬ nI 4 = 0 := by decide
  unfold fJ9_floorMod_7cf53
  rw [if_pos hne, gz_let_eq, hr]
  simp only [hx]
  by_cases h0 : 0 ≤ z
  · rw [if_pos h0]
    obtain ⟨n, rfl⟩ : ∃ n : Nat, z = n := ⟨z.toNat, by omega⟩
    have : (n : Int).tdiv 4 = ((n / 4 : Nat) : Int) := rfl
    rw [this, ← iI_n]
    congr 2
    congr 1
    omega
  · rw [if_neg h0]
    obtain ⟨n, rfl⟩ : ∃ n : Nat, z = -(n : Int) := ⟨(-z).toNat, by omega⟩
    have ht : (-(n : Int)).tdiv 4 = -((n / 4 : Nat) : Int) := by rw [Int.neg_tdiv]; rfl
    rw [ht]
    have e0 : (iI (-(n : Int) - -((n / 4 : Nat) : Int) * 4) = 0) = (-(n : Int) - -((n / 4 : Nat) : Int) * 4 = 0) := by
      have : (0 : Int32) = iI 0 := rfl
      rw [this, iI_eq (by omega) (by omega)]
    simp only [e0]
    by_cases h3 : -(n : Int) - -((n / 4 : Nat) : Int) * 4 = 0
    · rw [if_pos h3, h3]
      have : (-(n : Int) % 4).toNat = 0 := by omega
      rw [this]; rfl
    · rw [if_neg h3, e4]
      have e5 : iI (-(n : Int) - -((n / 4 : Nat) : Int) * 4) + iI 4 = iI (-(n : Int) - -((n / 4 : Nat) : Int) * 4 + 4) := (Int32.ofInt_add _ _).symm
      rw [e5, ← iI_n]
      congr 2
      congr 1
      omega
/-- the class's law object holds what was read -/
def LwR (La : gz_L) (g : gz_S) (e : Nat) (d : pD) : Prop := La.2.2 (e + 1) = d.1.length ∧ d.1.length ≤ 240 ∧ At g e 0 d.1 ∧ ∀ La' lt, LtOk lt → ExL La' lt d.1 (d.2 lt)
theorem c_worth {La : gz_L} {g : gz_S} {e : Nat} {d : pD} {lt : Nat → Int} (hlt : LtOk lt) (he : 100 ≤ e) (h : LwR La g e d) (hl : ∀ k, k < 6 → g.1 24 k = iI (lt k)) : ∃ st, fX3_worth La e g = some (iI ((d.2 lt).getD 0), gz_wa g 25 st) ∧ Bd6 ((d.2 lt).getD 0) := by
  obtain ⟨h1, h2, h3, h4⟩ := h
  have hH : Hs La e lt g := ⟨by omega, he, fun k hk => ⟨hl k hk, hlt k hk⟩⟩
  have hfu : gz_FU = (99999 - d.1.length + 1) + d.1.length := by unfold gz_FU; omega
  have wa : ∀ g', Fr (fun j => j = 25) g g' → g' = gz_wa g 25 (g'.1 25) := by
    intro g' hF
    refine Prod.ext ?_ hF.2
    funext j
    by_cases hj : j = 25
    · subst hj; exact (wa_at _ _ _).symm
    · rw [wa_ne hj]; exact hF.1 j hj
  obtain ⟨g', r1, r2, r3⟩ := h4 La lt hlt e (fun (x3 : Int32) g => if gz_ok (x3 - 1) 240 then some (g.1 25 (Int32.toNatClampNeg (x3 - 1)), g) else none) (99999 - d.1.length + 1) g hH h3 (by omega)
  refine ⟨g'.1 25, ?_, ?_⟩
  · unfold fX3_worth
    rw [hfu, ← wa g' r1]
    cases hd : d.2 lt with
    | some x =>
      obtain ⟨k1, k2, k3⟩ := r2 x hd
      have e1 : nI 1 - 1 = nI 0 := by decide
      refine k2.trans ?_
      show (if gz_ok (nI 1 - 1) 240 then some (g'.1 25 (Int32.toNatClampNeg (nI 1 - 1)), g') else none) = _
      rw [e1, if_pos (n_okP (by omega) (by omega)), n_cl (by omega), k3]; rfl
    | none =>
      refine (r3 hd).trans ?_
      have a0 : Int32.ofNat (La.2.2 (e + 1)) ≤ nI d.1.length := by
        show nI (La.2.2 (e + 1)) ≤ nI d.1.length
        rw [n_le (by omega) (by omega)]; omega
      rw [fX3_worth_8, if_pos a0]; rfl
  · cases hd : d.2 lt with
    | some x => exact (r2 x hd).1
    | none => show Bd6 0; unfold Bd6; omega
theorem ltF_ok {b a r p n h : Nat} (hb : b < 4) (ha : a < 4) (hr : r < 4) (hp : p < 5) (hn : n < 100) (hh : h < 24) : LtOk (ltF b a r p n h) := by
  intro k hk
  unfold ltF
  match k, hk with
  | 0, _ => simp [List.getD]; omega
  | 1, _ => simp [List.getD]; omega
  | 2, _ => simp [List.getD]; omega
  | 3, _ => simp [List.getD]; omega
  | 4, _ => simp [List.getD]; omega
  | 5, _ => simp [List.getD]; omega
theorem LW.law {La : gz_L} {g : gz_S} {e : Nat} {d : pD} (h0 : g.2.2 0 = some e) (hl : gz_lw La e) (h : LwR La g e d) : LW La g (some (lawT d.2)) := by
  refine ⟨fun b a r p n h => ?_, e, h0, hl, fun g1 h1 b a r p n hh hb ha hr hp hn hhh l0 l1 l2 l3 l4 l5 => ?_⟩
  · unfold lawT; omega
  · have hok := ltF_ok hb ha hr hp hn hhh
    have hR : LwR La g1 e d := ⟨h.1, h.2.1, fun k hk => by rw [h1]; exact h.2.2.1 k hk, h.2.2.2⟩
    obtain ⟨st, k1, k2⟩ := c_worth (La := La) hok hl.1 hR (fun k hk => by
      unfold ltF
      match k, hk with
      | 0, _ => rw [l0]; exact (iI_n b).symm
      | 1, _ => rw [l1]; exact (iI_n a).symm
      | 2, _ => rw [l2]; exact (iI_n r).symm
      | 3, _ => rw [l3]; exact (iI_n p).symm
      | 4, _ => rw [l4]; exact (iI_n n).symm
      | 5, _ => rw [l5]; exact (iI_n hh).symm)
    exact ⟨_, st, k1, fun g2 => c_fmod4 k2⟩
