/-! call way -/
section RW
variable {g : gz_S} {V W U : Nat → Nat} {B : Nat} {La : gz_L} {Ls : List (List Nat)} {cur : Option Nat}
def uF (f : Nat → Option Nat) (e : Nat) (x : Option Nat) : Nat → Option Nat := fun j => if j = e then x else f j
def Mid (V : Nat → Nat) (dry a n c d : Nat) (f : Nat → Option Nat) : Prop :=
  (∀ e k, dst V dry a n e = some k → f e = some k) ∧ (∀ e, dst V dry a n e = none → f e = none ∨ f e = some (n + 1)) ∧
  (∀ e, dst V dry a n e = none → (f e = some (n + 1) ↔ dry.testBit e = true ∧ ∃ c' d', (c' < c ∨ c' = c ∧ d' < d) ∧ d' < 4 ∧ dst V dry a n c' = some n ∧ sBes V c' d' = some e))
theorem Mid.z {dry a n : Nat} : Mid V dry a n 0 0 (dst V dry a n) :=
  ⟨fun e k h => h, fun e h => Or.inl h, fun e h => ⟨fun h1 => by (rw [h] at h1; cases h1), fun ⟨_, c', d', h2, _⟩ => by omega⟩⟩
theorem Mid.fin {dry a n : Nat} {f : Nat → Option Nat} (h : Mid V dry a n (V 58 * V 59) 0 f) (e : Nat) : f e = dst V dry a (n + 1) e := by
  obtain ⟨m1, m2, m3⟩ := h
  rw [dst_s]
  cases hd : dst V dry a n e with
  | some k => exact m1 e k hd
  | none =>
    show f e = if _ then some (n + 1) else none
    by_cases c : (sRch V dry (n + 1) (2 ^ a)).testBit e = true
    · rw [if_pos c]
      obtain ⟨h1, c', d', h2, h3, h4, h5⟩ := (dst_nx hd).mp c
      exact (m3 e hd).mpr ⟨h1, c', d', Or.inl h2, h3, h4, h5⟩
    · rw [if_neg c]
      rcases m2 e hd with hh | hh
      · exact hh
      · exfalso
        obtain ⟨h1, c', d', h2, h3, h4, h5⟩ := (m3 e hd).mp hh
        exact c ((dst_nx hd).mpr ⟨h1, c', d', by omega, h3, h4, h5⟩)
theorem Mid.nx {dry a n c : Nat} {f : Nat → Option Nat} (h : Mid V dry a n c 4 f) : Mid V dry a n (c + 1) 0 f := by
  obtain ⟨m1, m2, m3⟩ := h
  refine ⟨m1, m2, fun e he => (m3 e he).trans ⟨?_, ?_⟩⟩
  · rintro ⟨h1, c', d', h2, h3, h4, h5⟩; exact ⟨h1, c', d', by omega, h3, h4, h5⟩
  · rintro ⟨h1, c', d', h2, h3, h4, h5⟩; exact ⟨h1, c', d', by omega, h3, h4, h5⟩
theorem Mid.sk {dry a n c : Nat} {f : Nat → Option Nat} (h : Mid V dry a n c 0 f) (hc : ¬ dst V dry a n c = some n) : Mid V dry a n (c + 1) 0 f := by
  obtain ⟨m1, m2, m3⟩ := h
  refine ⟨m1, m2, fun e he => (m3 e he).trans ⟨?_, ?_⟩⟩
  · rintro ⟨h1, c', d', h2, h3, h4, h5⟩; exact ⟨h1, c', d', by omega, h3, h4, h5⟩
  · rintro ⟨h1, c', d', h2, h3, h4, h5⟩
    refine ⟨h1, c', d', ?_, h3, h4, h5⟩
    by_cases cc : c' = c
    · subst cc; exact absurd h4 hc
    · omega
theorem Mid.no {dry a n c d : Nat} {f : Nat → Option Nat} (h : Mid V dry a n c d f) (hd : d < 4) (hx : ∀ e, sBes V c d = some e → f e = none → ¬ dry.testBit e = true) : Mid V dry a n c (d + 1) f := by
  obtain ⟨m1, m2, m3⟩ := h
  refine ⟨m1, m2, fun e he => ⟨fun hh => ?_, ?_⟩⟩
  · obtain ⟨h1, c', d', h2, h3, h4, h5⟩ := (m3 e he).mp hh
    exact ⟨h1, c', d', by omega, h3, h4, h5⟩
  · rintro ⟨h1, c', d', h2, h3, h4, h5⟩
    by_cases cc : c' = c ∧ d' = d
    · obtain ⟨rfl, rfl⟩ := cc
      rcases m2 e he with hh | hh
      · exact absurd h1 (hx e h5 hh)
      · exact hh
    · exact (m3 e he).mpr ⟨h1, c', d', by omega, h3, h4, h5⟩
theorem Mid.yes {dry a n c d e : Nat} {f : Nat → Option Nat} (h : Mid V dry a n c d f) (hd : d < 4) (hb : sBes V c d = some e) (hf : f e = none) (hy : dry.testBit e = true) (hc : dst V dry a n c = some n) : Mid V dry a n c (d + 1) (uF f e (some (n + 1))) := by
  obtain ⟨m1, m2, m3⟩ := h
  have hn : dst V dry a n e = none := by
    cases hh : dst V dry a n e with
    | none => rfl
    | some k => rw [m1 e k hh] at hf; cases hf
  refine ⟨fun j k hj => ?_, fun j hj => ?_, fun j hj => ?_⟩
  · have : j ≠ e := fun hh => by rw [hh, hn] at hj; cases hj
    unfold uF; rw [if_neg this]; exact m1 j k hj
  · unfold uF
    by_cases ce : j = e
    · rw [if_pos ce]; exact Or.inr rfl
    · rw [if_neg ce]; exact m2 j hj
  · unfold uF
    by_cases ce : j = e
    · subst ce
      rw [if_pos rfl]
      exact ⟨fun _ => ⟨hy, c, d, Or.inr ⟨rfl, by omega⟩, hd, hc, hb⟩, fun _ => rfl⟩
    · rw [if_neg ce, m3 j hj]
      constructor
      · rintro ⟨h1, c', d', h2, h3, h4, h5⟩; exact ⟨h1, c', d', by omega, h3, h4, h5⟩
      · rintro ⟨h1, c', d', h2, h3, h4, h5⟩
        refine ⟨h1, c', d', ?_, h3, h4, h5⟩
        by_cases cc : c' = c ∧ d' = d
        · obtain ⟨rfl, rfl⟩ := cc
          rw [hb] at h5
          exact absurd (by injection h5 with h5; exact h5.symm) ce
        · omega
theorem r_isDry (h : CX g 53 V Ls cur) (hW : Wf B V) {c : Nat} (hc : c < 30) : fX12_isDry La (nI c) g = some (pI (sDryP V c), g) := by
  have hB := hW.1 c
  have h3 : g.1 53 c = nI (V c) := by have := h.1 c (by omega); rw [rp_c hc] at this; exact this
  unfold fX12_isDry
  rw [if_pos (n_okP (by omega) (by omega)), n_cl (by omega), h3]
  by_cases c1 : V c = 1
  · rw [if_pos (by rw [c1]; rfl)]; exact p_f (fun hh => hh.1 c1)
  · rw [if_neg (show ¬ nI (V c) = 1 by show ¬ _ = nI 1; rw [n_eq (by omega) (by omega)]; exact c1), r_isUnder h.1 h.2.1 hW hc, Option.bind_some]
    by_cases c2 : sUnd V c
    · exact (if_neg (pI1 c2)).trans (p_f (fun hh => hh.2 c2))
    · exact (if_pos (pI0 c2)).trans (p_t ⟨c1, c2⟩)
abbrev F8 (g z : gz_S) : Prop := Fz (fun _ => False) (fun j => j = 58) g z
theorem F8.y {z : gz_S} (h : F8 g z) : Fy KQ SQ g z := (Fz.y h).mo (fun k hk => hk.elim) (fun j hj => by have := hj; omega)
theorem CX.f8 {z : gz_S} (h : CX g 53 V Ls cur) (hF : F8 g z) : CX z 53 V Ls cur := h.q hF.y (h.2.2.fr (Fz.y hF) id id (by omega) (by omega) (by omega) (by omega) (by omega))
def dstO (V : Nat → Nat) (a n e : Nat) : Option Nat := if (sDry V (V 58 * V 59)).testBit a then dst V (sDry V (V 58 * V 59)) a n e else none
theorem r_goSteps (h : CX g 53 V Ls cur) (hW : Wf B V) {a : Nat} (ha : a < V 58 * V 59) :
    ∃ g', fX12_goSteps La (nI a) g = some g' ∧ F8 g g' ∧ ∀ e, e < 30 → g'.1 58 e = oI (dstO V a 30 e) := by
  have c30 := hW.cells
  unfold fX12_goSteps
  generalize hK : (fun (x1 : Int32) g => (fX12_isDry La x1 g).bind (fun q23 => if q23.1 = 0 then some q23.2 else if gz_ok x1 30 then gz_let (gz_wi q23.2 58 (Int32.toNatClampNeg x1) 0) (fun g36 => fX12_goSteps_39 La gz_FU 0 g36) else none)) = K21
  refine lp (fun f k z => fX12_goSteps_2 La K21 f (nI a) (nI k) z) (fun k z => F8 g z ∧ ∀ e, e < k → z.1 58 e = -1) 30
    (fun q => ∃ g', q = some g' ∧ F8 g g' ∧ ∀ e, e < 30 → g'.1 58 e = oI (dstO V a 30 e)) ?_ ?_ gz_FU 0 g (by omega) (by unfold gz_FU; omega) ⟨Fz.z0, fun e he => absurd he (Nat.not_lt_zero _)⟩
  · intro f k z hk ⟨q1, q2⟩
    refine Or.inr ⟨gz_wi z 58 k (-1), ?_, q1.s (by omega) rfl, fun e he => ?_⟩
    · rw [fX12_goSteps_2, if_neg (show ¬ (30 : Int32) ≤ nI k by show ¬ nI 30 ≤ nI k; rw [n_le (by omega) (by omega)]; omega), if_pos (n_okP (by omega) (by omega)), gz_let_eq, n_cl (by omega), gz_let_eq, show nI k + (1 : Int32) = nI (k + 1) from n_add _ _]
    · by_cases c : e = k
      · rw [c, wi_ss]
      · rw [wi_sn c]; exact q2 e (by omega)
  · intro f z ⟨q1, q2⟩
    rw [fX12_goSteps_2, if_pos (show (30 : Int32) ≤ nI 30 by decide), ← hK]
    show ∃ g', (fX12_isDry La (nI a) z).bind _ = _ ∧ _
    rw [r_isDry (h.f8 q1) hW (by omega), Option.bind_some]
    have hdt : (sDry V (V 58 * V 59)).testBit a = true ↔ sDryP V a := by rw [dry_t]; exact ⟨fun hh => hh.2, fun hh => ⟨ha, hh⟩⟩
    by_cases cd : sDryP V a
    · refine ex_q (if_neg (pI1 cd)) ?_
      rw [if_pos (n_okP (by omega) (by omega)), gz_let_eq, n_cl (by omega)]
      have ed : ∀ n e, dstO V a n e = dst V (sDry V (V 58 * V 59)) a n e := fun n e => if_pos (hdt.mpr cd)
      generalize hdry : sDry V (V 58 * V 59) = dry at *
      refine lp (fun f n z => fX12_goSteps_39 La f (nI n) z) (fun n z => F8 g z ∧ ∀ e, e < 30 → z.1 58 e = oI (dst V dry a n e)) 30
        (fun q => ∃ g', q = some g' ∧ F8 g g' ∧ ∀ e, e < 30 → g'.1 58 e = oI (dstO V a 30 e)) ?_ ?_ gz_FU 0 _ (by omega) (by unfold gz_FU; omega) ⟨q1.s (by omega) rfl, fun e he => ?_⟩
      · intro f n z hn ⟨p1, p2⟩
        rw [fX12_goSteps_39, if_neg (show ¬ (30 : Int32) ≤ nI n by show ¬ nI 30 ≤ nI n; rw [n_le (by omega) (by omega)]; omega)]
        generalize hK2 : (fun (x2 : Int32) g => gz_let (x2 + 1) (fun y134 => fX12_goSteps_39 La f y134 g)) = K134
        refine lp (fun f2 c z => fX12_goSteps_47 La K134 f2 (nI n) (nI c) z) (fun c z => F8 g z ∧ ∃ F, (∀ e, e < 30 → z.1 58 e = oI (F e)) ∧ Mid V dry a n c 0 F) (V 58 * V 59)
          (fun q => (∃ g', q = some g' ∧ F8 g g' ∧ ∀ e, e < 30 → g'.1 58 e = oI (dstO V a 30 e)) ∨ ∃ g', q = fX12_goSteps_39 La f (nI (n + 1)) g' ∧ F8 g g' ∧ ∀ e, e < 30 → g'.1 58 e = oI (dst V dry a (n + 1) e)) ?_ ?_ gz_FU 0 z (by omega) (by unfold gz_FU; omega) ⟨p1, _, p2, Mid.z⟩
        · intro f2 c z hc ⟨m1, F, m2, m3⟩
          have X := h.f8 m1
          have small : ∀ e k, F e = some k → k < 100 := by
            intro e k hk
            cases hd : dst V dry a n e with
            | some j => have := m3.1 e j hd; rw [hk] at this; have h2 := (ff_lt hd).1; have : k = j := by injection this
                        omega
            | none => rcases m3.2.1 e hd with hh | hh
                      · rw [hk] at hh; cases hh
                      · rw [hk] at hh; have : k = n + 1 := by injection hh
                        omega
          have up : fX12_goSteps_128 La (fX12_goSteps_47 La K134 f2) (nI n) (nI c) = fX12_goSteps_47 La K134 f2 (nI n) (nI (c + 1)) := by
            funext z'; unfold fX12_goSteps_128; rw [gz_let_eq, show nI c + (1 : Int32) = nI (c + 1) from n_add _ _]
          refine Or.inr ?_
          rw [fX12_goSteps_47, r_cells X hW, Option.bind_some, if_neg (show ¬ nI (V 58 * V 59) ≤ nI c by rw [n_le (by omega) (by omega)]; omega), if_pos (n_okP (by omega) (by omega)), n_cl (by omega)]
          have hFc : (z.1 58 c = nI n) ↔ dst V dry a n c = some n := by
            rw [m2 c (by omega), oI_eq (by omega) (fun k hk => by have := small c k hk; omega)]
            constructor
            · intro hh
              cases hd : dst V dry a n c with
              | some j => have := m3.1 c j hd; rw [hh] at this; exact this.symm
              | none => rcases m3.2.1 c hd with h5 | h5
                        · rw [hh] at h5; cases h5
                        · rw [hh] at h5; have : n = n + 1 := by injection h5
                          omega
            · intro hh; exact m3.1 c n hh
          by_cases cn : dst V dry a n c = some n
          · rw [if_pos (hFc.mpr cn)]
            refine lp (fun f3 d z => fX12_goSteps_71 La (fX12_goSteps_128 La (fX12_goSteps_47 La K134 f2)) f3 (nI n) (nI c) (nI d) z) (fun d z => F8 g z ∧ ∃ F, (∀ e, e < 30 → z.1 58 e = oI (F e)) ∧ Mid V dry a n c d F) 4
              (fun q => ∃ g', q = fX12_goSteps_47 La K134 f2 (nI n) (nI (c + 1)) g' ∧ F8 g g' ∧ ∃ F, (∀ e, e < 30 → g'.1 58 e = oI (F e)) ∧ Mid V dry a n (c + 1) 0 F) ?_ ?_ gz_FU 0 z (by omega) (by unfold gz_FU; omega) ⟨m1, F, m2, m3⟩
            · intro f3 d z hd ⟨r1, F, r2, r3⟩
              have X := h.f8 r1
              have nx : ∀ z', fX12_goSteps_122 La (fX12_goSteps_71 La (fX12_goSteps_128 La (fX12_goSteps_47 La K134 f2)) f3) (nI n) (nI c) (nI d) z' = fX12_goSteps_71 La (fX12_goSteps_128 La (fX12_goSteps_47 La K134 f2)) f3 (nI n) (nI c) (nI (d + 1)) z' := by
                intro z'; unfold fX12_goSteps_122; rw [gz_let_eq, show nI d + (1 : Int32) = nI (d + 1) from n_add _ _]
              refine Or.inr ?_
              rw [fX12_goSteps_71, if_neg (show ¬ (4 : Int32) ≤ nI d by show ¬ nI 4 ≤ nI d; rw [n_le (by omega) (by omega)]; omega), r_nextCell X.2.1 hW hc hd, Option.bind_some]
              cases hb : sBes V c d with
              | none =>
                refine ⟨z, ?_, r1, F, r2, r3.no hd (fun e he => by rw [hb] at he; cases he)⟩
                rw [if_pos (show oI none = -1 from rfl)]; exact nx z
              | some e =>
                have he := sBes_lt hW.2.1 hc hb
                show ∃ g', (if nI e = -1 then _ else if gz_ok (nI e) 30 then if z.1 58 (nI e).toNatClampNeg = -1 then (fX12_isDry La (nI e) z).bind _ else _ else none) = _ ∧ _
                rw [if_neg (show ¬ nI e = -1 by show ¬ nI e = -nI 1; rw [m_eq (by omega)]; exact id), if_pos (n_okP (by omega) (by omega)), n_cl (by omega)]
                have hFe : (z.1 58 e = -1) = (F e = none) := by
                  rw [r2 e (by omega)]
                  exact oI_m (fun k hk => by
                    cases hq : dst V dry a n e with
                    | some j => have := r3.1 e j hq; rw [hk] at this; have h2 := (ff_lt hq).1; have : k = j := by injection this
                                omega
                    | none => rcases r3.2.1 e hq with hh | hh
                              · rw [hk] at hh; cases hh
                              · rw [hk] at hh; have : k = n + 1 := by injection hh
                                omega)
                have hde : dry.testBit e = true ↔ sDryP V e := by rw [← hdry, dry_t]; exact ⟨fun hh => hh.2, fun hh => ⟨he, hh⟩⟩
                by_cases fe : F e = none
                · rw [if_pos (hFe.mpr fe), r_isDry X hW (by omega), Option.bind_some]
                  by_cases de : sDryP V e
                  · refine ⟨gz_wi z 58 e (nI (n + 1)), ?_, r1.s (by omega) rfl, uF F e (some (n + 1)), fun j hj => ?_, r3.yes hd hb fe (hde.mpr de) cn⟩
                    · refine (if_neg (pI1 de)).trans ?_
                      show (if gz_ok (nI e) 30 then gz_let (gz_wi z 58 (nI e).toNatClampNeg (nI n + 1)) _ else none) = _
                      rw [if_pos (n_okP (by omega) (by omega)), gz_let_eq, n_cl (by omega), show nI n + (1 : Int32) = nI (n + 1) from n_add _ _]
                      exact nx _
                    · unfold uF
                      by_cases cj : j = e
                      · rw [if_pos cj, cj, wi_ss]; rfl
                      · rw [if_neg cj, wi_sn cj]; exact r2 j hj
                  · refine ⟨z, ?_, r1, F, r2, r3.no hd (fun e' he' _ hh => ?_)⟩
                    · exact (if_pos (pI0 de)).trans (nx z)
                    · rw [hb] at he'
                      have : e = e' := by injection he'
                      subst this; exact de (hde.mp hh)
                · refine ⟨z, ?_, r1, F, r2, r3.no hd (fun e' he' hf _ => ?_)⟩
                  · rw [if_neg (fun hh => fe (hFe.mp hh))]; exact nx z
                  · rw [hb] at he'
                    have : e = e' := by injection he'
                    subst this; exact fe hf
            · intro f3 z ⟨r1, F, r2, r3⟩
              refine ⟨z, ?_, r1, F, r2, r3.nx⟩
              rw [fX12_goSteps_71, if_pos (show (4 : Int32) ≤ nI 4 by decide), up]
          · refine ⟨z, ?_, m1, F, m2, m3.sk cn⟩
            rw [if_neg (fun hh => cn (hFc.mp hh)), up]
        · intro f2 z ⟨m1, F, m2, m3⟩
          refine Or.inr ⟨z, ?_, m1, fun e he => by rw [m2 e he, m3.fin e]⟩
          rw [fX12_goSteps_47, r_cells (h.f8 m1) hW, Option.bind_some, if_pos (show nI (V 58 * V 59) ≤ nI (V 58 * V 59) by rw [n_le (by omega) (by omega)]; omega), ← hK2]
          show gz_let (nI n + 1) _ = _
          rw [gz_let_eq, show nI n + (1 : Int32) = nI (n + 1) from n_add _ _]
      · intro f z ⟨p1, p2⟩
        refine ⟨z, ?_, p1, fun e he => by rw [p2 e he, ed]⟩
        rw [fX12_goSteps_39]; exact if_pos (by decide)
      · show _ = oI (if (2 ^ a).testBit e then some 0 else none)
        rw [Nat.testBit_two_pow]
        by_cases ce : e = a
        · rw [ce, wi_ss, if_pos (decide_eq_true rfl)]; rfl
        · rw [wi_sn ce, q2 e he, if_neg (by rw [decide_eq_false (fun hh => ce hh.symm)]; decide)]; rfl
    · refine ⟨z, if_pos (pI0 cd), q1, fun e he => ?_⟩
      rw [q2 e he]
      unfold dstO
      rw [if_neg (fun hh => cd (hdt.mp hh))]; rfl
end RW
section ST
variable {La : gz_L} {g : gz_S} {l : List Nat} {Ls : List (List Nat)} {Es : List (List eS)} {cur : Option Nat} {lv : Nat} {V V0 : Nat → Nat} {a : Nat} {K : Nat → Nat → Nat} {Lg : Nat → Nat} {him : Nat} {IV ILg : Nat → Nat} {s : sS} {B : Nat}
theorem w_way (hw : WR La g B) (x y : Int32) : CallOk La (fX11_way La x y) (fX12_way La x y) g B := by
  obtain ⟨l, Ls, Es, cur, lv, V, V0, a, K, Lg, him, IV, ILg, s, hC, hR, hI⟩ := hw
  have hg4 := hI.g4
  have hc30 := hI.c30
  by_cases yes : (0 ≤ x.toInt ∧ x.toInt < ((V 58 * V 59 : Nat) : Int)) ∧ 0 ≤ y.toInt ∧ y.toInt < ((V 58 * V 59 : Nat) : Int)
  · obtain ⟨y1, y2⟩ := yes
    obtain ⟨i, i1, rfl, i3⟩ := x_of (x := x) y1.1
    obtain ⟨c, c1, rfl, c3⟩ := x_of (x := y) y2.1
    have h0 : ¬ V 60 = 0 := fun h0 => by have := hI.c0 h0; omega
    obtain ⟨hW, h49, _⟩ := hI.2.2.1 h0
    have hi : i < V 58 * V 59 := by omega
    have hc : c < V 58 * V 59 := by omega
    obtain ⟨hR0, F0⟩ := hR.f0
    obtain ⟨hcx, hkp⟩ := hR0.cx hI h0
    obtain ⟨g2, v1, v2, v3⟩ := r_goSteps (La := La) hcx hW hi
    have hF : Fy KQ SQ g g2 := hR.f0q.tr v2.y
    have k1 : fX11_way La (nI i) (nI c) g = some (oI (sFew V i c), g) := by
      unfold fX11_way
      rw [c_hasCellW hC hI, Option.bind_some]
      refine (if_neg (pI1 y1)).trans ?_
      rw [c_hasCellW hC hI, Option.bind_some]
      refine (if_neg (pI1 y2)).trans ?_
      rw [c_fewestSteps (w := 6) hC.2.1 hW (by omega) (by omega), Option.bind_some]
    have k2 : fX12_way La (nI i) (nI c) g = some (oI (sFew V i c), g2) := by
      unfold fX12_way
      rw [gz_let_eq, hR0.isCell hI, Option.bind_some]
      refine (if_neg (pI1 y1)).trans ?_
      rw [hR0.isCell hI, Option.bind_some]
      refine (if_neg (pI1 y2)).trans ?_
      rw [v1, Option.bind_some]
      refine (if_pos (n_okP (by omega) (by omega))).trans ?_
      rw [n_cl (by omega), v3 c (by omega), sFew_dst (by omega) hc30]; rfl
    exact CallOk.of k1 k2 hC (FR.y hF (fun j hj => by have := hj; omega)) (hR.sp hF (hcx.f8 v2).2.2) hI
  · refine CallOk.no (v := -1) ?_ ?_ hC hR hI
    · unfold fX11_way
      rw [c_hasCellW hC hI, Option.bind_some]
      by_cases q1 : 0 ≤ x.toInt ∧ x.toInt < ((V 58 * V 59 : Nat) : Int)
      · refine (if_neg (pI1 q1)).trans ?_
        rw [c_hasCellW hC hI, Option.bind_some]
        exact if_pos (pI0 (fun q2 => yes ⟨q1, q2⟩))
      · exact if_pos (pI0 q1)
    · unfold fX12_way
      rw [gz_let_eq, hR.f0.1.isCell hI, Option.bind_some]
      by_cases q1 : 0 ≤ x.toInt ∧ x.toInt < ((V 58 * V 59 : Nat) : Int)
      · refine (if_neg (pI1 q1)).trans ?_
        rw [hR.f0.1.isCell hI, Option.bind_some]
        exact if_pos (pI0 (fun q2 => yes ⟨q1, q2⟩))
      · exact if_pos (pI0 q1)
end ST
