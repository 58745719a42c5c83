/-! the reference reads sums -/
theorem sb_lo : ∀ n, n < 128 → sb n = nI n := by decide +kernel
theorem ltr_i {c i : Nat} (h : ltr c = some i) : i < 6 ∧ (tx 211).getD i 0 = c ∧ c < 128 ∧ ¬ c = 91 ∧ ¬ (48 ≤ c ∧ c ≤ 57) := by
  unfold ltr at h
  repeat' split at h
  all_goals first
    | (cases h; subst_vars; exact ⟨by omega, rfl, by omega, by omega, by omega⟩)
    | cases h
section RS
variable {g : gz_S} {e o : Nat} {b : Nat → Nat} {len : Nat} {lt : Nat → Int} {r a : Nat} {La : gz_L}
abbrev pT0 : Int32 → Prop := fun _ => True
theorem pI0 {P : Prop} [Decidable P] (h : ¬ P) : pI P = 0 := by show pI P = nI 0; rw [p_0]; exact h
theorem pI1 {P : Prop} [Decidable P] (h : P) : ¬ pI P = 0 := by show ¬ pI P = nI 0; rw [p_0]; exact fun hn => hn h
theorem RdN.nt {q : Option (Int32 × gz_S)} {x : Int32} {g' : gz_S} {p : Nat} (hq : q = some (x, g')) (hF : Fq g g') (hf : g'.1 39 11 = nI p) (hp : p ≤ 240) : RdN q g e o b len lt r pT0 (p, none) :=
  ⟨x, g', hq, hF, Or.inl ⟨rfl, trivial, hf, hp⟩⟩
theorem r_digits {F : gz_S → Option (Int32 × gz_S)} {k : gz_S → Option (Int32 × gz_S)} : ∀ n f a v g, n ≤ 4 → n < f → RS g e o b len lt r a →
    fX12_atom_90 La F k f (nI v) (nI (4 - n)) g = if dg b len (numV b len n a v).1 then k (rs g (numV b len n a v).1) else some (nI (numV b len n a v).2, rs g (numV b len n a v).1) := by
  intro n
  induction n with
  | zero =>
    intro f a v g h4 hf h
    obtain ⟨f, rfl⟩ : ∃ f', f = f' + 1 := ⟨f - 1, by omega⟩
    rw [fX12_atom_90, r_isDigitS h, Option.bind_some]
    show _ = if dg b len a then k (rs g a) else some (nI v, rs g a)
    rw [rs_id h.1.2.2.2.2.1]
    by_cases hd : dg b len a
    · rw [if_pos hd]
      refine (if_neg ?_).trans ((if_pos h.2.1).trans (if_pos rfl))
      show ¬ pI _ = nI 0
      rw [p_0]; exact fun hn => hn hd
    · rw [if_neg hd]
      refine if_pos ?_
      show pI _ = nI 0
      rw [p_0]; exact hd
  | succ n ih =>
    intro f a v g h4 hf h
    obtain ⟨f, rfl⟩ : ∃ f', f = f' + 1 := ⟨f - 1, by omega⟩
    rw [fX12_atom_90, r_isDigitS h, Option.bind_some]
    by_cases hd : dg b len a
    · have hnum : numV b len (n + 1) a v = numV b len n (a + 1) (v * 10 + (b a - 48)) := by
        show (if dg b len a then _ else _) = _
        rw [if_pos hd]
      have hgo := ih f (a + 1) (v * 10 + (b a - 48)) (rs g (a + 1)) (by omega) (by omega) (h.st (by omega))
      rw [hnum, ← rs_rs g (a + 1), ← hgo]
      refine (if_neg ?_).trans ((if_pos h.2.1).trans ((if_neg ?_).trans ?_))
      · show ¬ pI _ = nI 0
        rw [p_0]; exact fun hn => hn hd
      · show ¬ nI (4 - (n + 1)) = nI 4
        rw [n_eq (by omega) (by omega)]; omega
      obtain ⟨h1, h2, h3, h4', h5, h6, h7, h8, h9⟩ := h.1
      have hl := gz_ln_e h2
      have hb := (h9 a hd.1).1
      rw [sb_lo _ (by omega)] at hb
      have ev : ((10 : Int32) * nI v + g.1 e (o + a)) - 48 = nI (v * 10 + (b a - 48)) := by
        rw [hb, show (10 : Int32) = nI 10 from rfl, show (48 : Int32) = nI 48 from rfl, n_mul, n_add, n_sub (by omega)]
        congr 1; omega
      have ex : nI (4 - (n + 1)) + (1 : Int32) = nI (4 - n) := by
        rw [show (1 : Int32) = nI 1 from rfl, n_add]; congr 1; omega
      simp (disch := omega) only [h1, gz_on, h2, ↓reduceIte, h3, h5, n_add, n_ok, n_cl, gz_let_eq, ev, ex]
      rw [show (1 : Int32) = nI 1 from rfl, n_add, wi_rs]
    · have hnum : numV b len (n + 1) a v = (a, v) := by
        show (if dg b len a then _ else _) = _
        rw [if_neg hd]
      rw [hnum]
      show _ = if dg b len a then k (rs g a) else some (nI v, rs g a)
      rw [rs_id h.1.2.2.2.2.1, if_neg hd]
      refine if_pos ?_
      show pI _ = nI 0
      rw [p_0]; exact hd
theorem r_atomF {F : gz_S → Option (Int32 × gz_S)} (h : RS g e o b len lt r a) (hd : ¬ dg b len a) :
    ((fX12_isDigit La g).bind (fun q75 => if q75.1 = 0 then (fX12_fails La q75.2).bind (fun q82 => fX12_atom_86 La F q82.2) else fX12_atom_86 La F q75.2)) = some (nI 0, rf g a) := by
  have h5 : RT (rf g a) e o b len a := by
    have := h.1.wf (k := 11) (x := nI a) (by omega)
    rw [wi_wa] at this; exact this
  rw [r_isDigitS h, Option.bind_some]
  refine (if_pos ?_).trans ?_
  · show pI _ = nI 0
    rw [p_0]; exact hd
  rw [r_failsS h, Option.bind_some]
  show fX12_atom_90 La F _ (99999 + 1) 0 0 (rf g a) = _
  rw [fX12_atom_90, r_isDigit h5, Option.bind_some]
  refine if_pos ?_
  show pI _ = nI 0
  rw [p_0]; exact hd
theorem r_atomD {F : gz_S → Option (Int32 × gz_S)} (h : RS g e o b len lt r a) (hd : dg b len a) :
    ((fX12_isDigit La g).bind (fun q75 => if q75.1 = 0 then (fX12_fails La q75.2).bind (fun q82 => fX12_atom_86 La F q82.2) else fX12_atom_86 La F q75.2)) =
      if dg b len (numV b len 4 a 0).1 then some (nI 0, rf (rs g (numV b len 4 a 0).1) (numV b len 4 a 0).1) else some (nI (numV b len 4 a 0).2, rs g (numV b len 4 a 0).1) := by
  have hgo := r_digits (La := La) (F := F) (k := fun g => (fX12_fails La g).bind (fun q111 => some (0, q111.2))) 4 gz_FU a 0 g (by omega) (by unfold gz_FU; omega) h
  have hle := numV_le (b := b) (len := len) 4 a 0 h.le.1
  have hf := r_failsS (La := La) (h.st hle.2)
  rw [r_isDigitS h, Option.bind_some]
  refine (if_neg ?_).trans (Eq.trans (show fX12_atom_86 La F g = _ from hgo) ?_)
  · show ¬ pI _ = nI 0
    rw [p_0]; exact fun hn => hn hd
  by_cases c : dg b len (numV b len 4 a 0).1
  · rw [if_pos c, if_pos c]
    show (fX12_fails La (rs g _)).bind _ = _
    rw [hf]; rfl
  · rw [if_neg c, if_neg c]
def SubR (La : gz_L) (b : Nat → Nat) (len : Nat) (e o : Nat) (lt : Nat → Int) (r : Nat) (F : gz_S → Option (Int32 × gz_S)) : Prop :=
  ∀ r', r = r' + 1 → ∀ g a, RS g e o b len lt r' a → RdN (F g) g e o b len lt r' pT0 (pSum b len r' (nx b len a))
theorem pAt_rec (b : Nat → Nat) (len r p : Nat) : ∃ rec, pAt b len r p = pAtom b len rec p ∧ (rec = none → r = 0) ∧ ∀ f, rec = some f → ∃ r', r = r' + 1 ∧ f = pSum b len r' := by
  cases r with
  | zero => exact ⟨none, rfl, fun _ => rfl, fun f h => by cases h⟩
  | succ r => exact ⟨some (pSum b len r), rfl, fun h => (by cases h), fun f h => by cases h; exact ⟨r, rfl, rfl⟩⟩
theorem pAtom_none {b : Nat → Nat} {len : Nat} {rec : Option (Nat → pR)} {p : Nat} (h : sg b len p = none) : pAtom b len rec p = (p, none) := by
  unfold pAtom; rw [h]
def pAtomS (b : Nat → Nat) (len : Nat) (rec : Option (Nat → pR)) (p c : Nat) : pR :=
  if 48 ≤ c ∧ c ≤ 57 then
      (if dg b len (numV b len 4 p 0).1 then ((numV b len 4 p 0).1, none) else (nx b len (numV b len 4 p 0).1, some ([nI (numV b len 4 p 0).2], fun _ => ((numV b len 4 p 0).2 : Int))))
    else if c = 91 then
      (match rec with
        | none => (p, none)
        | some f => match f (nx b len (p + 1)) with
          | (q, none) => (q, none)
          | (q, some cv) => if sg b len q = some 93 then (nx b len (q + 1), some cv) else (q, none))
    else match ltr c with
      | none => (p, none)
      | some i => (nx b len (p + 1), some ([-nI (1 + i)], fun e => e i))
theorem pAtom_some {b : Nat → Nat} {len : Nat} {rec : Option (Nat → pR)} {p c : Nat} (h : sg b len p = some c) : pAtom b len rec p = pAtomS b len rec p c := by
  unfold pAtom; rw [h]; rfl
theorem r_atom {F : gz_S → Option (Int32 × gz_S)} (hF : SubR La b len e o lt r F) (h : RS g e o b len lt r a) : RdN (fX12_atom La F g) g e o b len lt r pT0 (pAt b len r (nx b len a)) := by
  have hx := nx_le (b := b) h.le.1
  have h240 := h.le.2
  have hS := h.st hx.2
  have F0 : Fq g (rs g (nx b len a)) := Fq.z0.rs
  have hnx : nx b len (nx b len a) = nx b len a := nx_nx
  unfold fX12_atom
  rw [r_lookS h, Option.bind_some]
  generalize nx b len a = p at *
  generalize rs g p = g1 at *
  refine RdN.of ?_ F0
  obtain ⟨rec, e1, e2, e3⟩ := pAt_rec b len r p
  rw [e1]
  cases hs : sg b len p with
  | none =>
    have hA := r_isAmong (La := La) (g := g1) (w := 211) (by omega) (o := none) (fun c hc => by cases hc)
    rw [pAtom_none hs]
    have hq : ∀ q, q = some (nI 0, rf g1 p) → RdN q g1 e o b len lt r pT0 (p, none) := fun q hq => RdN.nt hq Fq.z0.rF (rf_11 _ _) (by omega)
    refine hq _ ?_
    show (fX12_isAmong La 211 (oI none) g1).bind _ = _
    rw [hA, Option.bind_some]
    refine (if_pos (show pI ((none : Option Nat).bind (fun c => sp (tx 211) c 0) ≠ none) = 0 from pI0 (fun hn => hn rfl))).trans ?_
    refine (if_neg (show ¬ oI none = (91 : Int32) by decide)).trans ?_
    exact r_atomF hS (fun hd => by unfold sg at hs; rw [if_pos hd.1] at hs; cases hs)
  | some c =>
    have hc := h.sgc hs
    have hlt := sg_lt hs
    have hA := r_isAmong (La := La) (g := g1) (w := 211) (by omega) (o := some c) (fun c' hc' => by cases hc'; exact hc)
    rw [show ((some c).bind (fun c => sp (tx 211) c 0)) = ltr c from sp_ltr c] at hA
    rw [pAtom_some hs]
    unfold pAtomS
    have hg : ∀ s, (RdN ((fX12_isAmong La 211 (oI (some c)) g1).bind (fun q8 => if q8.1 = 0 then if oI (some c) = 91 then (fX12_goesIn La q8.2).bind (fun q38 => if q38.1 = 0 then some (0, q38.2) else (F q38.2).bind (fun q47 => (fX12_takes La 93 q47.2).bind (fun q54 => if q54.1 = 0 then some (0, q54.2) else gz_let (gz_wi q54.2 39 12 ((q54.2.1 39 12) - 1)) (fun g69 => some (q47.1, g69))))) else (fX12_isDigit La q8.2).bind (fun q75 => if q75.1 = 0 then (fX12_fails La q75.2).bind (fun q82 => fX12_atom_86 La F q82.2) else fX12_atom_86 La F q75.2) else gz_let (gz_wi q8.2 39 10 ((q8.2.1 39 10) + 1)) (fun g21 => if gz_ok (oI (some c)) 128 then some (g21.1 43 (Int32.toNatClampNeg (oI (some c))), g21) else none))) g1 e o b len lt r pT0 s) → (RdN ((fX12_isAmong La 211 (oI (some c), g1).1 (oI (some c), g1).2).bind (fun q8 => if q8.1 = 0 then if (oI (some c), g1).1 = 91 then (fX12_goesIn La q8.2).bind (fun q38 => if q38.1 = 0 then some (0, q38.2) else (F q38.2).bind (fun q47 => (fX12_takes La 93 q47.2).bind (fun q54 => if q54.1 = 0 then some (0, q54.2) else gz_let (gz_wi q54.2 39 12 ((q54.2.1 39 12) - 1)) (fun g69 => some (q47.1, g69))))) else (fX12_isDigit La q8.2).bind (fun q75 => if q75.1 = 0 then (fX12_fails La q75.2).bind (fun q82 => fX12_atom_86 La F q82.2) else fX12_atom_86 La F q75.2) else gz_let (gz_wi q8.2 39 10 ((q8.2.1 39 10) + 1)) (fun g21 => if gz_ok (oI (some c), g1).1 128 then some (g21.1 43 (Int32.toNatClampNeg (oI (some c), g1).1), g21) else none))) g1 e o b len lt r pT0 s) := fun s hh => hh
    refine hg _ ?_
    rw [hA, Option.bind_some]
    dsimp only
    have e91 : (oI (some c) = 91) = (c = 91) := by show (nI c = nI 91) = _; exact n_eq (by omega) (by omega)
    by_cases hd : 48 ≤ c ∧ c ≤ 57
    · have hdg : dg b len p := ⟨hlt.1, by omega, by omega⟩
      have hln : ltr c = none := by
        cases hl : ltr c with
        | none => rfl
        | some i => exact absurd hd (ltr_i hl).2.2.2.2
      rw [if_pos hd, if_pos (pI0 (fun hn => hn hln)), if_neg (by rw [e91]; omega)]
      show RdN ((fX12_isDigit La g1).bind _) _ _ _ _ _ _ _ _ _
      rw [r_atomD hS hdg]
      have hle := numV_le (b := b) (len := len) 4 p 0 hx.2
      by_cases c2 : dg b len (numV b len 4 p 0).1
      · rw [if_pos c2, if_pos c2]
        exact RdN.nt rfl (Fq.z0.rs.rF) (rf_11 _ _) (by omega)
      · rw [if_neg c2, if_neg c2]
        exact RdN.yes rfl Fq.z0.rs (iI_n _).symm (hS.st hle.2) rfl
    · rw [if_neg hd]
      by_cases h91 : c = 91
      · have hln : ltr c = none := by
          cases hl : ltr c with
          | none => rfl
          | some i => exact absurd h91 (ltr_i hl).2.2.2.1
        rw [if_pos h91, if_pos (pI0 (fun hn => hn hln)), if_pos (by rw [e91]; exact h91)]
        cases rec with
        | none =>
          have hr0 := e2 rfl
          subst hr0
          show RdN ((fX12_goesIn La g1).bind _) _ _ _ _ _ _ _ _ _
          rw [r_goesIn0 hS, Option.bind_some]
          exact RdN.nt rfl (Fq.z0.rF) (rf_11 _ _) (by omega)
        | some f =>
          obtain ⟨r', hr, hf⟩ := e3 f rfl
          subst hf
          have hS1 := hS
          rw [hr] at hS1
          obtain ⟨q1, q2, q3⟩ := r_goesIn1 (La := La) hS1 hlt.1
          have hgo := hF r' hr _ _ q2
          show RdN ((fX12_goesIn La g1).bind _) _ _ _ _ _ _ _ _ (match pSum b len r' (nx b len (p + 1)) with
            | (q, none) => (q, none)
            | (q, some cv) => if sg b len q = some 93 then (nx b len (q + 1), some cv) else (q, none))
          rw [q1, Option.bind_some]
          refine RdN.of ?_ q3
          refine Eq.subst (motive := fun z => RdN z _ _ _ _ _ _ _ _ _) (if_neg (show ¬ nI 1 = (0 : Int32) by decide)).symm ?_
          generalize rs (gz_wi g1 39 12 (nI (6 - r'))) (p + 1) = g2 at *
          obtain ⟨x, g3, r1, r2, r3⟩ := hgo
          show RdN ((F g2).bind _) _ _ _ _ _ _ _ _ _
          rw [r1, Option.bind_some]
          rcases hp : pSum b len r' (nx b len (p + 1)) with ⟨q, oc⟩
          rw [hp] at r3
          rcases r3 with ⟨t1, t2, t3, t4⟩ | ⟨cv, a', t1, t2, t3, t4⟩
          · have t1 : oc = none := t1
            subst t1
            have t3 : g3.1 39 11 = nI q := t3
            have t4 : q ≤ 240 := t4
            show RdN ((fX12_takes La 93 g3).bind _) _ _ _ _ _ _ _ _ (q, none)
            rw [r_takesA t4 t3, Option.bind_some]
            exact RdN.nt rfl r2 t3 t4
          · have t1 : oc = some cv := t1
            subst t1
            have t3 : nx b len a' = q := t3
            show RdN ((fX12_takes La (nI 93) g3).bind _) _ _ _ _ _ _ _ _ (if sg b len q = some 93 then (nx b len (q + 1), some cv) else (q, none))
            have hy := nx_le (b := b) t4.le.1
            rw [r_takesS t4 (by omega), t3]
            rw [t3] at hy
            by_cases c3 : sg b len q = some 93
            · have hl3 := sg_lt c3
              rw [if_pos c3, if_pos c3, Option.bind_some]
              have hS4 := (t4.st (p := q + 1) (by omega)).dp (r' := r) h.2.2.2.1
              refine RdN.yes (g' := gz_wi (rs g3 (q + 1)) 39 12 (nI (6 - r))) (x := x) ?_ (r2.rs.wi (by omega)) t2 hS4 rfl
              have hdp := (t4.st (p := q + 1) (by omega)).2.2.1
              have h6 := h.2.2.2.1
              have edp : (rs g3 (q + 1)).1 39 12 - 1 = nI (6 - r) := by
                rw [hdp, show (1 : Int32) = nI 1 from rfl, n_sub (by omega)]; congr 1; omega
              show (if nI 1 = (0 : Int32) then _ else gz_let (gz_wi (rs g3 (q + 1)) 39 12 ((rs g3 (q + 1)).1 39 12 - 1)) _) = _
              rw [if_neg (by decide), gz_let_eq, edp]
            · rw [if_neg c3, if_neg c3, Option.bind_some]
              exact RdN.nt rfl (r2.rs.rF) (rf_11 _ _) (by omega)
      · rw [if_neg h91]
        cases hl : ltr c with
        | none =>
          rw [if_pos (pI0 (P := (none : Option Nat) ≠ none) (fun hn => hn rfl)), if_neg (by rw [e91]; exact h91)]
          show RdN ((fX12_isDigit La g1).bind _) _ _ _ _ _ _ _ _ (p, none)
          rw [r_atomF hS (fun hdd => hd (by have := hdd.2; rw [hlt.2] at this; exact this))]
          exact RdN.nt rfl (Fq.z0.rF) (rf_11 _ _) (by omega)
        | some i =>
          have hi := ltr_i hl
          rw [if_neg (pI1 (P := some i ≠ none) (fun hh => by cases hh))]
          have hS2 := hS.st (p := p + 1) (by omega)
          have hv := hS2.2.2.2.2 i hi.1
          rw [hi.2.1] at hv
          refine RdN.yes (g' := rs g1 (p + 1)) (x := iI (lt i)) (cv := ([-nI (1 + i)], fun e => e i)) ?_ Fq.z0.rs rfl hS2 rfl
          show gz_let (gz_wi g1 39 10 (g1.1 39 10 + 1)) _ = _
          rw [hS.1.2.2.2.2.1, show nI p + (1 : Int32) = nI (p + 1) from n_add p 1, wi_rs, gz_let_eq]
          show (if gz_ok (nI c) 128 then some ((rs g1 (p + 1)).1 43 (Int32.toNatClampNeg (nI c)), rs g1 (p + 1)) else none) = _
          rw [if_pos (n_okP (by omega) (by omega)), n_cl (by omega), hv]
end RS
