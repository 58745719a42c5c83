/-! the reference reads units, clauses, laws -/
section RS
variable {g : gz_S} {e o : Nat} {b : Nat → Nat} {len : Nat} {lt : Nat → Int} {r a : Nat} {La : gz_L}
theorem RdN.chk {q : Option (Int32 × gz_S)} {s : pR} (hs : pS (SemB La lt) s) (h : RdN q g e o b len lt r pB s) : RdN (q.bind (fun q => if q.1 = 0 ∨ q.1 = 1 then some (q.1, q.2) else none)) g e o b len lt r pB s := by
  obtain ⟨x, g', r1, r2, r3⟩ := h
  rw [r1, Option.bind_some]
  refine ⟨x, g', ?_, r2, r3⟩
  refine if_pos (show pB x from ?_)
  rcases r3 with ⟨_, t2, _, _⟩ | ⟨cv2, a', t1, t2, _, _⟩
  · exact t2
  · rw [t2]; exact pB_i (hs cv2 t1).2
theorem pSC_semS (hlt : LtOk lt) {p : Nat} (hp : p ≤ len) : pS (SemB La lt) (pSC b len r p) := pSC_sem hlt hp
theorem r_unit {F : gz_S → Option (Int32 × gz_S)} (hlt : LtOk lt) (hF : ∀ r', r = r' + 1 → SubUR La b len e o lt r' F) (h : RS g e o b len lt r a) : RdN (fX12_unit La F g) g e o b len lt r pB (pUnit b len r (nx b len a)) := by
  have hx := nx_le (b := b) h.le.1
  have h240 := h.le.2
  have hS := h.st hx.2
  have hnx : nx b len (nx b len a) = nx b len a := nx_nx
  unfold fX12_unit
  rw [r_lookS h, Option.bind_some]
  refine RdN.of (g1 := rs g (nx b len a)) ?_ Fq.z0.rs
  generalize nx b len a = p at *
  generalize rs g p = g1 at *
  show RdN (if oI (sg b len p) = nI 33 then (fX12_goesIn La g1).bind (fun q12 => if q12.1 = 0 then some (0, q12.2) else (F q12.2).bind (fun q21 => gz_let (gz_wi q21.2 39 12 ((q21.2.1 39 12) - 1)) (fun g32 => if q21.1 = 0 then some (1, g32) else some (0, g32)))) else if oI (sg b len p) = nI 40 then (fX12_goesIn La g1).bind (fun q52 => if q52.1 = 0 then some (0, q52.2) else (fX12_condition La F 0 0 q52.2).bind (fun q63 => (fX12_takes La 41 q63.2).bind (fun q70 => if q70.1 = 0 then some (0, q70.2) else gz_let (gz_wi q70.2 39 12 ((q70.2.1 39 12) - 1)) (fun g85 => if q63.1 = 0 ∨ q63.1 = 1 then some (q63.1, g85) else none)))) else (fX12_compares La 0 0 g1).bind (fun q93 => if q93.1 = 0 ∨ q93.1 = 1 then some (q93.1, q93.2) else none)) _ _ _ _ _ _ _ _ _
  simp only [hS.oc (c := 33) (by omega), hS.oc (c := 40) (by omega)]
  have hsc : RdN ((fX12_compares La 0 0 g1).bind (fun q93 => if q93.1 = 0 ∨ q93.1 = 1 then some (q93.1, q93.2) else none)) g1 e o b len lt r pB (pSC b len r p) := by
    have := r_compares0 (La := La) (y := 0) hlt hS
    rw [hnx] at this
    exact RdN.chk (La := La) (pSC_sem hlt hx.2) this
  cases r with
  | zero =>
    unfold pUnit
    by_cases c1 : sg b len p = some 33
    · rw [if_pos c1, if_pos (Or.inl c1), r_goesIn0 hS, Option.bind_some]
      exact RdN.no rfl (Fq.z0.rF) (Or.inl rfl) (rf_11 _ _) (by omega)
    · rw [if_neg c1]
      by_cases c2 : sg b len p = some 40
      · rw [if_pos c2, if_pos (Or.inr c2), r_goesIn0 hS, Option.bind_some]
        exact RdN.no rfl (Fq.z0.rF) (Or.inl rfl) (rf_11 _ _) (by omega)
      · rw [if_neg c2, if_neg (fun hh => by rcases hh with hh | hh; exact c1 hh; exact c2 hh)]
        exact hsc
  | succ r =>
    unfold pUnit
    have h6 := h.2.2.2.1
    have hFr := hF r rfl
    by_cases c1 : sg b len p = some 33
    · rw [if_pos c1, if_pos c1]
      have hpl := (sg_lt c1).1
      have hy := nx_le (b := b) (show p + 1 ≤ len by omega)
      obtain ⟨q1, q2, q3⟩ := r_goesIn1 (La := La) hS hpl
      rw [q1, Option.bind_some]
      refine RdN.of (g1 := rs (gz_wi g1 39 12 (nI (6 - r))) (p + 1)) ?_ q3
      generalize rs (gz_wi g1 39 12 (nI (6 - r))) (p + 1) = g2 at *
      have hgo := hFr _ _ q2
      have hsem := pUnit_sem (La := La) (b := b) hlt r _ hy.2
      obtain ⟨x, g3, r1, r2, r3⟩ := hgo
      have hq : ∀ s, RdN (if x = 0 then some ((1 : Int32), gz_wi g3 39 12 ((g3.1 39 12) - 1)) else some (0, gz_wi g3 39 12 ((g3.1 39 12) - 1))) g2 e o b len lt (r + 1) pB s → RdN (if (nI 1, g2).1 = 0 then some ((0 : Int32), (nI 1, g2).2) else (F (nI 1, g2).2).bind (fun q21 => gz_let (gz_wi q21.2 39 12 ((q21.2.1 39 12) - 1)) (fun g32 => if q21.1 = 0 then some (1, g32) else some (0, g32)))) g2 e o b len lt (r + 1) pB s := by
        intro s hh
        rw [if_neg (show ¬ nI 1 = (0 : Int32) by decide)]
        show RdN ((F g2).bind _) _ _ _ _ _ _ _ _ _
        rw [r1, Option.bind_some]
        exact hh
      refine hq _ ?_
      rcases hp : pUnit b len r (nx b len (p + 1)) with ⟨q, oc⟩
      rw [hp] at r3 hsem
      rcases r3 with ⟨t1, t2, t3, t4⟩ | ⟨cv2, a', t1, t2, t3, t4⟩
      · have t1 : oc = none := t1
        subst t1
        have t3 : g3.1 39 11 = nI q := t3
        have e3 : (gz_wi g3 39 12 ((g3.1 39 12) - 1)).1 39 11 = nI q := by rw [wi_wa, wa_at]; exact (if_neg (by omega)).trans t3
        by_cases c2 : x = 0
        · rw [if_pos c2]
          exact RdN.no rfl (r2.wi (by omega)) (Or.inr rfl) e3 t4
        · rw [if_neg c2]
          exact RdN.no rfl (r2.wi (by omega)) (Or.inl rfl) e3 t4
      · have t1 : oc = some cv2 := t1
        subst t1
        have t3 : nx b len a' = q := t3
        subst t3
        have hs2 := hsem cv2 rfl
        have hS4 := t4.dp (r' := r + 1) h6
        have edp : g3.1 39 12 - 1 = nI (6 - (r + 1)) := by
          rw [t4.2.2.1, show (1 : Int32) = nI 1 from rfl, n_sub (by omega)]; congr 1
        rw [edp, t2]
        show RdN _ _ _ _ _ _ _ _ _ (nx b len a', some (cv2.1 ++ [-20], fun e => 1 - cv2.2 e))
        rcases hs2.2 with c3 | c3
        · rw [c3, if_pos (by rfl)]
          exact RdN.yes rfl (r2.wi (by omega)) (by show (1 : Int32) = iI (1 - cv2.2 lt); rw [c3]; rfl) hS4 rfl
        · rw [c3, if_neg (by decide)]
          exact RdN.yes rfl (r2.wi (by omega)) (by show (0 : Int32) = iI (1 - cv2.2 lt); rw [c3]; rfl) hS4 rfl
    · rw [if_neg c1, if_neg c1]
      by_cases c2 : sg b len p = some 40
      · rw [if_pos c2, if_pos c2]
        have hpl := (sg_lt c2).1
        have hy := nx_le (b := b) (show p + 1 ≤ len by omega)
        obtain ⟨q1, q2, q3⟩ := r_goesIn1 (La := La) hS hpl
        rw [q1, Option.bind_some]
        refine RdN.of (g1 := rs (gz_wi g1 39 12 (nI (6 - r))) (p + 1)) ?_ q3
        generalize rs (gz_wi g1 39 12 (nI (6 - r))) (p + 1) = g2 at *
        have hgo := r_cond0 (La := La) (y := 0) hlt hFr q2
        have hug := pUnit_good (b := b) r _ hy.2
        have hsem := pCondL_sem (La := La) (lt := lt) (b := b) (len := len) (U := pUnit b len r) (fun p hp => pUnit_good r p hp) (fun p hp => pUnit_sem hlt r p hp) (len + 1) (pUnit b len r (nx b len (p + 1))) none hug.2.1 (pUnit_sem hlt r _ hy.2) (fun cv h => by cases h)
        obtain ⟨x, g3, r1, r2, r3⟩ := hgo
        refine Eq.subst (motive := fun z => RdN z _ _ _ _ _ _ _ _ _) (if_neg (show ¬ (nI 1, g2).1 = (0 : Int32) by show ¬ nI 1 = nI 0; decide)).symm ?_
        show RdN ((fX12_condition La F 0 0 g2).bind _) _ _ _ _ _ _ _ _ _
        rw [r1, Option.bind_some]
        rcases hp : pCondL b len (pUnit b len r) (len + 1) (pUnit b len r (nx b len (p + 1))) none with ⟨q, oc⟩
        rw [hp] at r3 hsem
        rcases r3 with ⟨t1, t2, t3, t4⟩ | ⟨cv2, a', t1, t2, t3, t4⟩
        · have t1 : oc = none := t1
          subst t1
          have t3 : g3.1 39 11 = nI q := t3
          have t4 : q ≤ 240 := t4
          show RdN ((fX12_takes La 41 g3).bind _) _ _ _ _ _ _ _ _ (q, none)
          rw [r_takesA t4 t3, Option.bind_some]
          exact RdN.no rfl r2 (Or.inl rfl) t3 t4
        · have t1 : oc = some cv2 := t1
          subst t1
          have t3 : nx b len a' = q := t3
          have hs2 := hsem cv2 rfl
          show RdN ((fX12_takes La (nI 41) g3).bind _) _ _ _ _ _ _ _ _ (if sg b len q = some 41 then (nx b len (q + 1), some cv2) else (q, none))
          have hz := nx_le (b := b) t4.le.1
          rw [r_takesS t4 (by omega), t3]
          rw [t3] at hz
          by_cases c3 : sg b len q = some 41
          · have hl3 := sg_lt c3
            rw [if_pos c3, if_pos c3, Option.bind_some]
            have hS4 := (t4.st (p := q + 1) (by omega)).dp (r' := r + 1) h6
            refine RdN.yes (g' := gz_wi (rs g3 (q + 1)) 39 12 (nI (6 - (r + 1)))) (x := x) ?_ (r2.rs.wi (by omega)) t2 hS4 rfl
            have hdp := (t4.st (p := q + 1) (by omega)).2.2.1
            have edp : (rs g3 (q + 1)).1 39 12 - 1 = nI (6 - (r + 1)) := by
              rw [hdp, show (1 : Int32) = nI 1 from rfl, n_sub (by omega)]; congr 1
            have hbx : pB x := by rw [t2]; exact pB_i hs2.2
            show (if nI 1 = (0 : Int32) then _ else gz_let (gz_wi (rs g3 (q + 1)) 39 12 ((rs g3 (q + 1)).1 39 12 - 1)) _) = _
            rw [if_neg (by decide), gz_let_eq, edp]
            exact if_pos hbx
          · rw [if_neg c3, if_neg c3, Option.bind_some]
            exact RdN.no rfl (r2.rs.rF) (Or.inl rfl) (rf_11 _ _) (by omega)
      · rw [if_neg c2, if_neg c2]
        exact hsc
theorem r_unitD (hlt : LtOk lt) : ∀ r D, r < D → SubUR La b len e o lt r (fX12_unitD La D) := by
  intro r
  induction r with
  | zero =>
    intro D hD g a h
    obtain ⟨D, rfl⟩ : ∃ D', D = D' + 1 := ⟨D - 1, by omega⟩
    exact r_unit hlt (fun r' hr => by omega) h
  | succ r ih =>
    intro D hD g a h
    obtain ⟨D, rfl⟩ : ∃ D', D = D' + 1 := ⟨D - 1, by omega⟩
    refine r_unit hlt (fun r' hr => ?_) h
    have e : r' = r := by omega
    subst e
    exact ih D (by omega)
/-! clauses -/
def FdR (g : gz_S) (d : Option Int) : Prop := g.1 39 13 = nI 121 ∧ g.1 39 17 = (if d = none then nI 0 else nI 1) ∧ g.1 39 14 = iI (d.getD 0)
def Fk (g g' : gz_S) : Prop := Fr (fun j => j = 39) g g' ∧ ∀ k, ¬ (k = 10 ∨ k = 11 ∨ k = 12 ∨ k = 14 ∨ k = 17) → g'.1 39 k = g.1 39 k
theorem Fk.rf {g : gz_S} : Fk g g := ⟨Fr.rf, fun _ _ => rfl⟩
theorem Fk.tr {g g' g'' : gz_S} (h : Fk g g') (h' : Fk g' g'') : Fk g g'' := ⟨h.1.tr h'.1, fun k hk => (h'.2 k hk).trans (h.2 k hk)⟩
theorem Fq.k {g g' : gz_S} (h : Fq g g') : Fk g g' := ⟨h.1, fun k hk => h.2 k (by omega)⟩
theorem Fq.d {g g' : gz_S} {d : Option Int} (h : Fq g g') (hd : FdR g d) : FdR g' d := ⟨by rw [h.2 13 (by omega)]; exact hd.1, by rw [h.2 17 (by omega)]; exact hd.2.1, by rw [h.2 14 (by omega)]; exact hd.2.2⟩
def nD (d : Option Int) (i v : Int) : Option Int := match d with
  | some x => some x
  | none => if i = 1 then some v else none
def RdCl (q : Option gz_S) (g : gz_S) (e o : Nat) (b : Nat → Nat) (len : Nat) (lt : Nat → Int) (d : Option Int) (s : pC) : Prop :=
  ∃ g', q = some g' ∧ Fk g g' ∧ ((s.2 = none ∧ g'.1 39 11 = nI s.1 ∧ s.1 ≤ 240) ∨ ∃ c a', s.2 = some c ∧ nx b len a' = s.1 ∧ RS g' e o b len lt 6 a' ∧ FdR g' (nD d (c.2.1 lt) (c.2.2 lt)))
theorem RdCl.no {q : Option gz_S} {g' : gz_S} {d : Option Int} {p : Nat} (hq : q = some g') (hF : Fk g g') (hf : g'.1 39 11 = nI p) (hp : p ≤ 240) : RdCl q g e o b len lt d (p, none) := ⟨g', hq, hF, Or.inl ⟨rfl, hf, hp⟩⟩
theorem RdCl.of {q : Option gz_S} {g1 : gz_S} {d : Option Int} {s : pC} (h : RdCl q g1 e o b len lt d s) (hF : Fk g g1) : RdCl q g e o b len lt d s := by
  obtain ⟨g', h1, h2, h3⟩ := h
  exact ⟨g', h1, hF.tr h2, h3⟩
theorem RS.w {k : Nat} {x : Int32} (h : RS g e o b len lt r a) (hk : k ≠ 8 ∧ k ≠ 9 ∧ k ≠ 10 ∧ k ≠ 11 ∧ k ≠ 12) : RS (gz_wi g 39 k x) e o b len lt r a := by
  refine ⟨h.1.wf (by omega), ?_, ?_, h.2.2.2.1, fun j hj => ?_⟩
  · rw [wi_wa, wa_at]; exact (if_neg (by omega)).trans h.2.1
  · rw [wi_wa, wa_at]; exact (if_neg (by omega)).trans h.2.2.1
  · rw [wi_wa, wa_ne (by omega)]; exact h.2.2.2.2 j hj
theorem r_134 {d : Option Int} {i v : Int} (h : RS g e o b len lt r a) (hd : FdR g d) (hi : i = 0 ∨ i = 1) : ∃ g', fX12_clause_134 La (nI 121) (iI i) (iI v) g = some g' ∧ Fk g g' ∧ RS g' e o b len lt r a ∧ FdR g' (nD d i v) := by
  unfold fX12_clause_134
  rw [if_pos h.ne1]
  obtain ⟨d1, d2, d3⟩ := hd
  cases d with
  | some x =>
    rw [if_neg (fun hh => by cases hh)] at d2
    have e0 : ¬ g.1 39 17 = 0 := by rw [d2]; decide
    rw [if_neg e0]
    refine ⟨g, rfl, Fk.rf, h, d1, ?_, d3⟩
    rw [d2]; exact (if_neg (fun hh => by cases hh)).symm
  | none =>
    rw [if_pos rfl] at d2
    have e0 : g.1 39 17 = 0 := d2
    rw [if_pos e0, if_pos d1.symm]
    rcases hi with rfl | rfl
    · rw [if_pos (by rfl)]
      exact ⟨g, rfl, Fk.rf, h, d1, d2, d3⟩
    · rw [if_neg (by decide), gz_let_eq, gz_let_eq]
      refine ⟨_, rfl, ⟨(Fr.wi (S := fun j => j = 39) Fr.rf rfl).wi rfl, fun k hk => ?_⟩, (h.w (by omega)).w (by omega), ?_, ?_, ?_⟩
      · rw [wi_wa, wa_at, wi_wa]
        refine (if_neg (by omega)).trans ?_
        rw [wa_at]; exact if_neg (by omega)
      · rw [wi_wa, wa_at, wi_wa]
        refine (if_neg (by omega)).trans ?_
        rw [wa_at]; exact (if_neg (by omega)).trans d1
      · rw [wi_wa, wa_at, wi_wa]
        refine (if_neg (by omega)).trans ?_
        rw [wa_at]; exact if_pos rfl
      · rw [wi_wa, wa_at]; exact if_pos rfl
theorem r_thenS {d : Option Int} {q : Option (Int32 × gz_S)} {s : pR} (hlt : LtOk lt) (hl : s.1 ≤ len) (hs : pS (SemB La lt) s) (hd : FdR g d) (hq : RdN q g e o b len lt 6 pB s) :
    RdCl (q.bind (fun q67 => (fX12_takes La 63 q67.2).bind (fun q74 => if q74.1 = 0 then some q74.2 else (fX12_sumT La q74.2).bind (fun q82 => fX12_clause_134 La (nI 121) q67.1 q82.1 q82.2)))) g e o b len lt d (pThen b len s) := by
  obtain ⟨x, g1, r1, r2, r3⟩ := hq
  rw [r1, Option.bind_some]
  refine RdCl.of (g1 := g1) ?_ r2.k
  unfold pThen
  rcases s with ⟨q, oc⟩
  rcases r3 with ⟨t1, t2, t3, t4⟩ | ⟨cv, a', t1, t2, t3, t4⟩
  · have t1 : oc = none := t1
    subst t1
    have t3 : g1.1 39 11 = nI q := t3
    have t4 : q ≤ 240 := t4
    show RdCl ((fX12_takes La 63 g1).bind _) _ _ _ _ _ _ _ (q, none)
    rw [r_takesA t4 t3, Option.bind_some]
    exact RdCl.no rfl Fk.rf t3 t4
  · have t1 : oc = some cv := t1
    subst t1
    have t3 : nx b len a' = q := t3
    have hb := (hs cv rfl).2
    have h240 := t4.le.2
    show RdCl ((fX12_takes La (nI 63) g1).bind _) _ _ _ _ _ _ _ (if sg b len q = some 63 then (match pSum b len 6 (nx b len (q + 1)) with | (q2, none) => (q2, none) | (q2, some cv2) => (q2, some (cv.1 ++ [-21] ++ cv2.1, cv.2, cv2.2))) else (q, none))
    have hz := nx_le (b := b) t4.le.1
    rw [r_takesS t4 (by omega), t3]
    rw [t3] at hz
    by_cases c3 : sg b len q = some 63
    · have hl3 := sg_lt c3
      have hS2 := t4.st (p := q + 1) (by omega)
      have hy := nx_le (b := b) (show q + 1 ≤ len by omega)
      rw [if_pos c3, if_pos c3, Option.bind_some]
      obtain ⟨y, g3, s1, s2, s3⟩ := r_sumT (La := La) hlt hS2
      refine RdCl.of (g1 := g3) ?_ ((Fq.z0.rs).tr s2).k
      show RdCl (if nI 1 = (0 : Int32) then some (rs g1 (q + 1)) else (fX12_sumT La (rs g1 (q + 1))).bind (fun q82 => fX12_clause_134 La (nI 121) x q82.1 q82.2)) _ _ _ _ _ _ _ _
      rw [if_neg (by decide), s1, Option.bind_some]
      rcases hp : pSum b len 6 (nx b len (q + 1)) with ⟨q2, oc2⟩
      rw [hp] at s3
      rcases s3 with ⟨u1, u2, u3, u4⟩ | ⟨cv2, a2, u1, u2, u3, u4⟩
      · have u1 : oc2 = none := u1
        subst u1
        refine RdCl.no (g' := g3) ?_ Fk.rf u3 u4
        show fX12_clause_134 La (nI 121) x y g3 = _
        unfold fX12_clause_134
        exact if_neg (fault_ne u4 u3)
      · have u1 : oc2 = some cv2 := u1
        subst u1
        have hd3 : FdR g3 d := ((r2.tr Fq.z0.rs).tr s2).d hd
        obtain ⟨g4, v1, v2, v3, v4⟩ := r_134 (La := La) (i := cv.2 lt) (v := cv2.2 lt) u4 hd3 hb
        refine ⟨g4, ?_, v2, Or.inr ⟨(cv.1 ++ [-21] ++ cv2.1, cv.2, cv2.2), a2, rfl, u3, v3, v4⟩⟩
        show fX12_clause_134 La (nI 121) x y g3 = _
        rw [t2, u2]; exact v1
    · rw [if_neg c3, if_neg c3, Option.bind_some]
      exact RdCl.no rfl (Fq.z0.rs.rF).k (rf_11 _ _) (by omega)
/-- a clause with its y and : -/
def pCl0 (b : Nat → Nat) (len p : Nat) : pC :=
  if sg b len p = some 121 then (if sg b len (nx b len (p + 1)) = some 58 then pClause b len (nx b len (nx b len (p + 1) + 1)) else (nx b len (p + 1), none)) else (p, none)
theorem r_clause {d : Option Int} (hlt : LtOk lt) (h : RS g e o b len lt 6 a) (hd : FdR g d) : RdCl (fX12_clause La g) g e o b len lt d (pCl0 b len (nx b len a)) := by
  have hx := nx_le (b := b) h.le.1
  have h240 := h.le.2
  have hS := h.st hx.2
  have hd1 : FdR (rs g (nx b len a)) d := (Fq.z0 (g := g)).rs.d hd
  unfold fX12_clause
  rw [r_lookS h, Option.bind_some]
  refine RdCl.of (g1 := rs g (nx b len a)) ?_ Fq.z0.rs.k
  generalize nx b len a = p at *
  generalize rs g p = g1 at *
  have hA := r_isAmong (La := La) (g := g1) (w := 210) (by omega) (o := sg b len p) (fun c hc => h.sgc hc)
  have hsp : ((sg b len p).bind (fun c => sp (tx 210) c 0) ≠ none) = (sg b len p = some 121) := by
    cases sg b len p with
    | none => exact propext ⟨fun hh => absurd rfl hh, fun hh => by cases hh⟩
    | some c =>
      show ((if 121 = c then some 0 else none) ≠ none) = _
      by_cases c1 : 121 = c
      · rw [if_pos c1, c1]; exact propext ⟨fun _ => rfl, fun _ hh => by cases hh⟩
      · rw [if_neg c1]; exact propext ⟨fun hh => absurd rfl hh, fun hh => absurd (Option.some.inj hh).symm c1⟩
  unfold pCl0
  show RdCl ((fX12_isAmong La 210 (oI (sg b len p)) g1).bind _) _ _ _ _ _ _ _ _
  rw [hA, Option.bind_some]
  by_cases c1 : sg b len p = some 121
  · have hpl := (sg_lt c1).1
    rw [if_neg (by show ¬ pI _ = nI 0; rw [p_0, hsp]; exact fun hn => hn c1), if_pos c1]
    have hS2 := hS.st (p := p + 1) (by omega)
    have hy := nx_le (b := b) (show p + 1 ≤ len by omega)
    show RdCl (gz_let (gz_wi g1 39 10 ((g1.1 39 10) + 1)) _) _ _ _ _ _ _ _ _
    rw [hS.1.2.2.2.2.1, show nI p + (1 : Int32) = nI (p + 1) from n_add p 1, wi_rs, gz_let_eq, show (58 : Int32) = nI 58 from rfl, r_takesS hS2 (by omega)]
    have hdR : FdR (rs g1 (p + 1)) d := (Fq.z0 (g := g1)).rs.d hd1
    by_cases c2 : sg b len (nx b len (p + 1)) = some 58
    · have hl2 := (sg_lt c2).1
      rw [if_pos c2, if_pos c2, Option.bind_some]
      have hS3 := hS2.st (p := nx b len (p + 1) + 1) (by omega)
      rw [rs_rs] at hS3
      have hz := nx_le (b := b) (show nx b len (p + 1) + 1 ≤ len by omega)
      have hd3 : FdR (rs g1 (nx b len (p + 1) + 1)) d := (Fq.z0 (g := g1)).rs.d hd1
      refine RdCl.of (g1 := rs g1 (nx b len (p + 1) + 1)) ?_ Fq.z0.rs.k
      show RdCl (if nI 1 = (0 : Int32) then _ else (fX12_look La (rs (rs g1 (p + 1)) (nx b len (p + 1) + 1))).bind _) _ _ _ _ _ _ _ _
      rw [if_neg (by decide), rs_rs, r_lookS hS3, Option.bind_some]
      generalize nx b len (p + 1) + 1 = p3 at *
      have hS4 := hS3.st hz.2
      have hd4 : FdR (rs (rs g1 p3) (nx b len p3)) d := (Fq.z0 (g := rs g1 p3)).rs.d hd3
      have hnx4 : nx b len (nx b len p3) = nx b len p3 := nx_nx
      refine RdCl.of (g1 := rs (rs g1 p3) (nx b len p3)) ?_ Fq.z0.rs.k
      generalize nx b len p3 = p4 at *
      generalize rs (rs g1 p3) p4 = g4 at *
      have e121 : oI (sg b len p) = nI 121 := by rw [c1]; rfl
      show RdCl (if oI (sg b len p4) = nI 33 then fX12_clause_64 La (oI (sg b len p)) g4 else if oI (sg b len p4) = nI 40 then fX12_clause_64 La (oI (sg b len p)) g4 else (fX12_sumT La g4).bind (fun q90 => if (q90.2.1 39 11) = (-1) then (fX12_look La q90.2).bind (fun q103 => (fX12_isSign La q103.1 q103.2).bind (fun q106 => if q106.1 = 0 then fX12_clause_134 La (oI (sg b len p)) 1 q90.1 q106.2 else (fX12_condition La (fX12_unitD La 12) 1 q90.1 q106.2).bind (fun q115 => (fX12_takes La 63 q115.2).bind (fun q122 => if q122.1 = 0 then some q122.2 else (fX12_sumT La q122.2).bind (fun q130 => fX12_clause_134 La (oI (sg b len p)) q115.1 q130.1 q130.2))))) else fX12_clause_134 La (oI (sg b len p)) 1 q90.1 q90.2)) _ _ _ _ _ _ _ _
      rw [e121]
      simp only [hS4.oc (c := 33) (by omega), hS4.oc (c := 40) (by omega)]
      have h64 : RdCl (fX12_clause_64 La (nI 121) g4) g4 e o b len lt d (pThen b len (pCond b len (pUnit b len 6 p4))) := by
        have hc0 := r_cond0 (La := La) (y := 0) hlt (r_unitD hlt 6 12 (by omega)) hS4
        rw [hnx4] at hc0
        have hug := pUnit_good (b := b) 6 _ hz.2
        have hsem := pCondL_sem (La := La) (lt := lt) (b := b) (len := len) (U := pUnit b len 6) (fun p hp => pUnit_good 6 p hp) (fun p hp => pUnit_sem hlt 6 p hp) (len + 1) (pUnit b len 6 p4) none hug.2.1 (pUnit_sem hlt 6 _ hz.2) (fun cv h => by cases h)
        have hgd := pCondL_good (b := b) (len := len) (U := pUnit b len 6) (fun p hp => pUnit_good 6 p hp) (len + 1) p4 (pUnit b len 6 p4) none hug (by have := hug.1; omega)
        exact r_thenS hlt hgd.2.1 hsem hd4 hc0
      unfold pClause
      by_cases c3 : sg b len p4 = some 33
      · rw [if_pos c3, if_pos (Or.inl c3)]; exact h64
      · rw [if_neg c3]
        by_cases c4 : sg b len p4 = some 40
        · rw [if_pos c4, if_pos (Or.inr c4)]; exact h64
        · rw [if_neg c4, if_neg (fun hh => by rcases hh with hh | hh; exact c3 hh; exact c4 hh)]
          have hsum := r_sumT (La := La) hlt hS4
          have hsem := pSum_sem (La := La) (b := b) hlt 6 _ hz.2
          rw [hnx4] at hsum
          obtain ⟨x, g5, r1, r2, r3⟩ := hsum
          rw [r1, Option.bind_some]
          refine RdCl.of (g1 := g5) ?_ r2.k
          have hd5 : FdR g5 d := r2.d hd4
          rcases hp : pSum b len 6 p4 with ⟨q, oc⟩
          rw [hp] at r3 hsem
          rcases r3 with ⟨t1, t2, t3, t4⟩ | ⟨cv, a5, t1, t2, t3, t4⟩
          · have t1 : oc = none := t1
            subst t1
            refine RdCl.no (g' := g5) ?_ Fk.rf t3 t4
            refine (if_neg (fault_ne t4 t3)).trans ?_
            show fX12_clause_134 La (nI 121) 1 x g5 = _
            unfold fX12_clause_134
            exact if_neg (fault_ne t4 t3)
          · have t1 : oc = some cv := t1
            subst t1
            have t3 : nx b len a5 = q := t3
            subst t3
            have hv := hsem cv rfl
            have hw := nx_le (b := b) t4.le.1
            have hS6 := t4.st hw.2
            have hd6 : FdR (rs g5 (nx b len a5)) d := (Fq.z0 (g := g5)).rs.d hd5
            have hnx6 : nx b len (nx b len a5) = nx b len a5 := nx_nx
            refine Eq.subst (motive := fun z => RdCl z _ _ _ _ _ _ _ _) (if_pos t4.ne1).symm ?_
            show RdCl ((fX12_look La g5).bind (fun q103 => (fX12_isSign La q103.1 q103.2).bind (fun q106 => if q106.1 = 0 then fX12_clause_134 La (nI 121) 1 x q106.2 else (fX12_condition La (fX12_unitD La 12) 1 x q106.2).bind (fun q115 => (fX12_takes La 63 q115.2).bind (fun q122 => if q122.1 = 0 then some q122.2 else (fX12_sumT La q122.2).bind (fun q130 => fX12_clause_134 La (nI 121) q115.1 q130.1 q130.2)))))) g5 e o b len lt d (match opC (sg b len (nx b len a5)) with
                | none => (nx b len a5, some (cv.1, fun _ => 1, cv.2))
                | some _ => pThen b len (pCond b len (pCmp b len 6 (nx b len a5) cv)))
            rw [r_lookS t4, Option.bind_some]
            refine RdCl.of (g1 := rs g5 (nx b len a5)) ?_ Fq.z0.rs.k
            generalize nx b len a5 = p6 at *
            generalize rs g5 p6 = g6 at *
            show RdCl ((fX12_isSign La (oI (sg b len p6)) g6).bind _) _ _ _ _ _ _ _ _
            rw [r_isSign hS6, Option.bind_some]
            cases ho : opC (sg b len p6) with
            | none =>
              obtain ⟨g7, v1, v2, v3, v4⟩ := r_134 (La := La) (i := 1) (v := cv.2 lt) hS6 hd6 (Or.inr rfl)
              refine ⟨g7, ?_, v2, Or.inr ⟨(cv.1, fun _ => 1, cv.2), p6, rfl, hnx6, v3, v4⟩⟩
              refine (if_pos (show pI ((none : Option Int32) ≠ none) = 0 from pI0 (fun hn => hn rfl))).trans ?_
              rw [t2]; exact v1
            | some op =>
              refine Eq.subst (motive := fun z => RdCl z _ _ _ _ _ _ _ _) (if_neg (show ¬ pI (some op ≠ none) = 0 from pI1 (fun hh => by cases hh))).symm ?_
              have hc1 := r_cond1 (La := La) hlt (r_unitD hlt 6 12 (by omega)) hS6 hv
              rw [hnx6] at hc1
              have hug := pCmp_good (b := b) (len := len) (r := 6) (p := p6) (cv := cv) hw.2
              have hcs := pCmp_sem (La := La) (lt := lt) (b := b) (len := len) (r := 6) (p := p6) (cv := cv) hlt hw.2 hv
              have hsem2 := pCondL_sem (La := La) (lt := lt) (b := b) (len := len) (U := pUnit b len 6) (fun p hp => pUnit_good 6 p hp) (fun p hp => pUnit_sem hlt 6 p hp) (len + 1) (pCmp b len 6 p6 cv) none hug.2.1 hcs (fun cv h => by cases h)
              have hgd := pCondL_good (b := b) (len := len) (U := pUnit b len 6) (fun p hp => pUnit_good 6 p hp) (len + 1) p6 (pCmp b len 6 p6 cv) none hug (by have := hug.1; omega)
              show RdCl ((fX12_condition La (fX12_unitD La 12) 1 x g6).bind _) _ _ _ _ _ _ _ _
              rw [t2]
              exact r_thenS hlt hgd.2.1 hsem2 hd6 hc1
    · rw [if_neg c2, if_neg c2, Option.bind_some]
      exact RdCl.no rfl (Fq.z0.rs.rs.rF).k (rf_11 _ _) (by omega)
  · rw [if_pos (by show pI _ = nI 0; rw [p_0, hsp]; exact c1), if_neg c1]
    refine RdCl.no (g' := rf g1 p) ?_ Fq.z0.rF.k (rf_11 _ _) (by omega)
    show (fX12_fails La g1).bind _ = _
    rw [r_failsS hS, Option.bind_some]
end RS
