/-! the reference goes through a law -/
def pL7 (b : Nat → Nat) (len n q : Nat) (acc : pD) : Nat × Option pD := if sg b len q = none then (q, some acc) else if sg b len q = some 59 then pLaw b len n (nx b len (q + 1)) acc else (q, none)
theorem pLaw_s {b : Nat → Nat} {len n p : Nat} {acc : pD} : pLaw b len (n + 1) p acc = match pCl0 b len p with
    | (q, none) => (q, none)
    | (q, some c) => pL7 b len n q (dC acc c) := by
  rw [pLaw_eq]
  unfold pCl0
  by_cases c1 : sg b len p = some 121
  · rw [if_pos c1, if_pos c1]
    by_cases c2 : sg b len (nx b len (p + 1)) = some 58
    · rw [if_pos c2, if_pos c2]
      rcases pClause b len (nx b len (nx b len (p + 1) + 1)) with ⟨q, _ | c⟩ <;> rfl
    · rw [if_neg c2, if_neg c2]
  · rw [if_neg c1, if_neg c1]
theorem pCl0_lt {b : Nat → Nat} {len p q : Nat} {c : pK} (h : pCl0 b len p = (q, some c)) : p < q ∧ q ≤ len := by
  unfold pCl0 at h
  by_cases c1 : sg b len p = some 121
  · rw [if_pos c1] at h
    have hl1 := (sg_lt c1).1
    have hx1 := nx_le (b := b) (show p + 1 ≤ len by omega)
    by_cases c2 : sg b len (nx b len (p + 1)) = some 58
    · rw [if_pos c2] at h
      have hl2 := (sg_lt c2).1
      have hx2 := nx_le (b := b) (show nx b len (p + 1) + 1 ≤ len by omega)
      have hg := pClause_good (b := b) hx2.2
      rw [h] at hg
      have h1 : nx b len (nx b len (p + 1) + 1) ≤ q := hg.1
      have h2 : q ≤ len := hg.2.1
      omega
    · rw [if_neg c2] at h; cases h
  · rw [if_neg c1] at h; cases h
section RS
variable {g : gz_S} {e o : Nat} {b : Nat → Nat} {len : Nat} {lt : Nat → Int} {r a : Nat} {La : gz_L}
def RdL (q : Option gz_S) (g : gz_S) (lt : Nat → Int) (s : Nat × Option pD) : Prop :=
  ∃ g', q = some g' ∧ Fk g g' ∧ ((s.2 = none ∧ g'.1 39 11 = nI s.1) ∨ ∃ d, s.2 = some d ∧ g'.1 39 11 = -nI 1 ∧ g'.1 39 14 = iI ((d.2 lt).getD 0))
theorem RdL.of {q : Option gz_S} {g1 : gz_S} {s : Nat × Option pD} (h : RdL q g1 lt s) (hF : Fk g g1) : RdL q g lt s := by
  obtain ⟨g', h1, h2, h3⟩ := h
  exact ⟨g', h1, hF.tr h2, h3⟩
theorem r_66 (h : RS g e o b len lt 6 a) {acc : pD} (hd : FdR g (acc.2 lt)) (hn : nx b len a = a) (hc : ¬ sg b len a = some 59) {n w1 : Nat} : RdL (fX12_goThrough_66 La w1 g) g lt (pL7 b len n a acc) := by
  unfold fX12_goThrough_66 pL7
  rw [if_pos h.ne1, r_lookP h hn, Option.bind_some]
  cases hs : sg b len a with
  | none =>
    rw [if_pos rfl]
    exact ⟨g, if_pos rfl, Fk.rf, Or.inr ⟨acc, rfl, h.2.1, hd.2.2⟩⟩
  | some c =>
    have hc2 := h.sgc hs
    rw [hs] at hc
    rw [if_neg (show ¬ (some c : Option Nat) = none from fun hh => by cases hh), if_neg hc]
    refine ⟨rf g a, ?_, Fq.z0.rF.k, Or.inl ⟨rfl, rf_11 _ _⟩⟩
    refine (if_neg ?_).trans ?_
    · show ¬ nI c = -1
      rw [show (-1 : Int32) = -nI 1 from rfl, m_eq (by omega)]; exact id
    · show (fX12_fails La g).bind _ = _
      rw [r_failsS h, Option.bind_some]
theorem r_gT32 {w1 : Nat} (hlt : LtOk lt) : ∀ n f a acc g, RS g e o b len lt 6 a → FdR g (acc.2 lt) → len - nx b len a < n + 1 → n + 1 < f → RdL (fX12_goThrough_32 La w1 (fX12_goThrough_66 La w1) f g) g lt (pL7 b len n (nx b len a) acc) := by
  intro n
  induction n with
  | zero =>
    intro f a acc g h hd hn hf
    obtain ⟨f, rfl⟩ : ∃ f', f = f' + 1 := ⟨f - 1, by omega⟩
    have hx := nx_le (b := b) h.le.1
    have hS := h.st hx.2
    have hnx : nx b len (nx b len a) = nx b len a := nx_nx
    have hd1 : FdR (rs g (nx b len a)) (acc.2 lt) := (Fq.z0 (g := g)).rs.d hd
    rw [fX12_goThrough_32, if_pos h.ne1, r_lookS h, Option.bind_some]
    refine RdL.of (g1 := rs g (nx b len a)) ?_ Fq.z0.rs.k
    generalize nx b len a = p at *
    generalize rs g p = g1 at *
    have hsn : ¬ sg b len p = some 59 := by unfold sg; rw [if_neg (by omega)]; exact fun hh => by cases hh
    refine Eq.subst (motive := fun z => RdL z _ _ _) (if_neg (show ¬ oI (sg b len p) = nI 59 by rw [hS.oc (by omega)]; exact hsn)).symm ?_
    exact r_66 hS hd1 hnx hsn
  | succ n ih =>
    intro f a acc g h hd hn hf
    obtain ⟨f, rfl⟩ : ∃ f', f = f' + 1 := ⟨f - 1, by omega⟩
    obtain ⟨f, rfl⟩ : ∃ f', f = f' + 1 := ⟨f - 1, by omega⟩
    have hx := nx_le (b := b) h.le.1
    have hS := h.st hx.2
    have hnx : nx b len (nx b len a) = nx b len a := nx_nx
    have hd1 : FdR (rs g (nx b len a)) (acc.2 lt) := (Fq.z0 (g := g)).rs.d hd
    rw [fX12_goThrough_32, if_pos h.ne1, r_lookS h, Option.bind_some]
    refine RdL.of (g1 := rs g (nx b len a)) ?_ Fq.z0.rs.k
    generalize nx b len a = p at *
    generalize rs g p = g1 at *
    by_cases hsn : sg b len p = some 59
    · have hpl := (sg_lt hsn).1
      refine Eq.subst (motive := fun z => RdL z _ _ _) (if_pos (show oI (sg b len p) = nI 59 by rw [hS.oc (by omega)]; exact hsn)).symm ?_
      show RdL (gz_let (gz_wi g1 39 10 ((g1.1 39 10) + 1)) (fun g56 => (fX12_clause La g56).bind (fun q60 => fX12_goThrough_32 La w1 (fX12_goThrough_66 La w1) (f + 1) q60))) _ _ _
      have hS2 := hS.st (p := p + 1) (by omega)
      have hd2 : FdR (rs g1 (p + 1)) (acc.2 lt) := (Fq.z0 (g := g1)).rs.d hd1
      rw [hS.1.2.2.2.2.1, show nI p + (1 : Int32) = nI (p + 1) from n_add p 1, wi_rs, gz_let_eq]
      refine RdL.of (g1 := rs g1 (p + 1)) ?_ Fq.z0.rs.k
      have hy := nx_le (b := b) (show p + 1 ≤ len by omega)
      have hcl := r_clause (La := La) hlt hS2 hd2
      obtain ⟨g3, r1, r2, r3⟩ := hcl
      rw [r1, Option.bind_some]
      refine RdL.of (g1 := g3) ?_ r2
      unfold pL7
      rw [hsn, if_neg (fun hh => by cases hh), if_pos rfl, pLaw_s]
      rcases hp : pCl0 b len (nx b len (p + 1)) with ⟨q, oc⟩
      rw [hp] at r3
      rcases r3 with ⟨t1, t3, t4⟩ | ⟨c, a', t1, t3, t4, t5⟩
      · have t1 : oc = none := t1
        subst t1
        refine ⟨g3, ?_, Fk.rf, Or.inl ⟨rfl, t3⟩⟩
        rw [fX12_goThrough_32, if_neg (fault_ne t4 t3)]
        unfold fX12_goThrough_66
        exact if_neg (fault_ne t4 t3)
      · have t1 : oc = some c := t1
        subst t1
        have t3 : nx b len a' = q := t3
        subst t3
        have hlt2 := pCl0_lt hp
        exact ih (f + 1) a' (dC acc c) g3 t4 t5 (by omega) (by omega)
    · refine Eq.subst (motive := fun z => RdL z _ _ _) (if_neg (show ¬ oI (sg b len p) = nI 59 by rw [hS.oc (by omega)]; exact hsn)).symm ?_
      exact r_66 hS hd1 hnx hsn
/-- the class's law stays; the text stays among the first cells -/
def Tq (g g' : gz_S) : Prop := g'.2.2 0 = g.2.2 0 ∧ ((g.2.2 1).getD 0 < 100 → (g'.2.2 1).getD 0 < 100)
theorem Tq.rf {g : gz_S} : Tq g g := ⟨rfl, id⟩
theorem Tq.of {g g' : gz_S} (h : g'.2.2 = g.2.2) : Tq g g' := ⟨by rw [h], fun k => by rw [h]; exact k⟩
theorem Tq.ww {g g' : gz_S} (h : g'.2 = g.2) : Tq g g' := Tq.of (by rw [h])
theorem Tq.trans {g g' g'' : gz_S} (h' : Tq g' g'') (h : Tq g g') : Tq g g'' := ⟨h'.1.trans h.1, fun k => h'.2 (h.2 k)⟩
/-- frames of a reading -/
def Fs (S : Nat → Prop) (g g' : gz_S) : Prop := (∀ j, j ≠ 39 → ¬ S j → g'.1 j = g.1 j) ∧ (∀ k, ¬ (8 ≤ k ∧ k ≤ 14 ∨ k = 17) → g'.1 39 k = g.1 39 k) ∧ g'.2.1 = g.2.1 ∧ Tq g g'
theorem Fs.tr {S : Nat → Prop} {g g' g'' : gz_S} (h : Fs S g g') (h' : Fs S g' g'') : Fs S g g'' :=
  ⟨fun j hj hs => (h'.1 j hj hs).trans (h.1 j hj hs), fun k hk => (h'.2.1 k hk).trans (h.2.1 k hk), h'.2.2.1.trans h.2.2.1, h'.2.2.2.trans h.2.2.2⟩
theorem Fk.s {S : Nat → Prop} {g g' : gz_S} (h : Fk g g') : Fs S g g' := ⟨fun j hj _ => h.1.1 j hj, fun k hk => h.2 k (by omega), by rw [h.1.2], Tq.ww h.1.2⟩
theorem Fs.wi {S : Nat → Prop} {g g' : gz_S} {k : Nat} {x : Int32} (h : Fs S g g') (hk : 8 ≤ k ∧ k ≤ 14 ∨ k = 17) : Fs S g (gz_wi g' 39 k x) :=
  ⟨fun j hj hs => by rw [wi_wa, wa_ne hj]; exact h.1 j hj hs, fun j hj => by rw [wi_wa, wa_at]; exact (if_neg (by omega)).trans (h.2.1 j hj), h.2.2.1, h.2.2.2⟩
def Byt (g : gz_S) (e o : Nat) (b : Nat → Nat) (len : Nat) : Prop := (e = 40 ∨ e = 41) ∧ len ≤ 240 ∧ o + len ≤ gz_ln e ∧ ∀ k, k < len → g.1 e (o + k) = sb (b k) ∧ b k < 256
theorem r_starts {S : Nat → Prop} (hb : Byt g e o b len) : ∃ g', fX12_starts La e (nI o) (nI len) g = some g' ∧ RT g' e o b len 0 ∧ g'.1 39 11 = -nI 1 ∧ Fs S g g' := by
  obtain ⟨h1, h2, h3, h4⟩ := hb
  have hne : e ≠ 39 := by rcases h1 with rfl | rfl <;> omega
  unfold fX12_starts
  rw [gz_let_eq, gz_let_eq, gz_let_eq, gz_let_eq, gz_let_eq]
  refine ⟨_, rfl, ⟨rfl, h1, ?_, ?_, ?_, Nat.zero_le _, h2, h3, fun k hk => ?_⟩, ?_, ?_⟩
  · rfl
  · rfl
  · rfl
  · have : (gz_wi (gz_wi (gz_wi (gz_wi (gz_wd g 1 (some e)) 39 8 (nI o)) 39 9 (nI len)) 39 10 0) 39 11 (-1)).1 e = g.1 e := by
      rw [wi_wa, wa_ne hne, wi_wa, wa_ne hne, wi_wa, wa_ne hne, wi_wa, wa_ne hne]; rfl
    rw [this]; exact h4 k hk
  · rfl
  · have h0 : Fs S g (gz_wd g 1 (some e)) := ⟨fun _ _ _ => rfl, fun _ _ => rfl, rfl, rfl, fun _ => by show e < 100; rcases h1 with rfl | rfl <;> omega⟩
    exact (((h0.wi (by omega)).wi (by omega)).wi (by omega)).wi (by omega)
theorem r_goThrough {S : Nat → Prop} (hlt : LtOk lt) (hL : LL g lt) (hb : Byt g e o b len) : ∃ g', fX12_goThrough La e (nI o) (nI len) g = some g' ∧ Fs S g g' ∧ ((pLawT b len).2 = none → g'.1 39 11 = nI (pLawT b len).1) ∧ ∀ d, (pLawT b len).2 = some d → g'.1 39 11 = -nI 1 ∧ g'.1 39 14 = iI ((d.2 lt).getD 0) := by
  obtain ⟨g1, s1, s2, s3, s4⟩ := r_starts (La := La) (S := S) hb
  have h240 := hb.2.1
  unfold fX12_goThrough
  rw [s1, Option.bind_some, gz_let_eq, gz_let_eq, gz_let_eq, gz_let_eq]
  have s5 : Fs S g (gz_wi (gz_wi (gz_wi (gz_wi g1 39 13 121) 39 12 0) 39 17 0) 39 14 0) := (((s4.wi (by omega)).wi (by omega)).wi (by omega)).wi (by omega)
  have hS : RS (gz_wi (gz_wi (gz_wi (gz_wi g1 39 13 121) 39 12 0) 39 17 0) 39 14 0) e o b len lt 6 0 := by
    refine ⟨(((s2.wf (by omega)).wf (by omega)).wf (by omega)).wf (by omega), ?_, rfl, by omega, fun k hk => ?_⟩
    · exact s3
    · rw [wi_wa, wa_ne (by omega), wi_wa, wa_ne (by omega), wi_wa, wa_ne (by omega), wi_wa, wa_ne (by omega)]
      have : g1.1 43 = g.1 43 ∨ True := Or.inr trivial
      have e43 : g1.1 43 = g.1 43 := by
        obtain ⟨g1', s1', _, _, s4'⟩ := r_starts (La := La) (S := fun _ => False) hb
        rw [s1] at s1'
        cases s1'
        exact s4'.1 43 (by omega) id
      rw [e43]; exact hL k hk
  have hd : FdR (gz_wi (gz_wi (gz_wi (gz_wi g1 39 13 121) 39 12 0) 39 17 0) 39 14 0) ((([], fun _ => none) : pD).2 lt) := ⟨rfl, rfl, rfl⟩
  generalize (gz_wi (gz_wi (gz_wi (gz_wi g1 39 13 121) 39 12 0) 39 17 0) 39 14 0) = g2 at *
  have hcl := r_clause (La := La) hlt hS hd
  obtain ⟨g3, r1, r2, r3⟩ := hcl
  rw [r1, Option.bind_some]
  have main : RdL (fX12_goThrough_32 La e (fX12_goThrough_66 La e) gz_FU g3) g3 lt (pLawT b len) := by
    unfold pLawT
    rw [pLaw_s]
    rcases hp : pCl0 b len (nx b len 0) with ⟨q, oc⟩
    rw [hp] at r3
    rcases r3 with ⟨t1, t3, t4⟩ | ⟨c, a', t1, t3, t4, t5⟩
    · have t1 : oc = none := t1
      subst t1
      refine ⟨g3, ?_, Fk.rf, Or.inl ⟨rfl, t3⟩⟩
      show fX12_goThrough_32 La e (fX12_goThrough_66 La e) (99999 + 1) g3 = _
      rw [fX12_goThrough_32, if_neg (fault_ne t4 t3)]
      unfold fX12_goThrough_66
      exact if_neg (fault_ne t4 t3)
    · have t1 : oc = some c := t1
      subst t1
      have t3 : nx b len a' = q := t3
      subst t3
      have hlt2 := pCl0_lt hp
      exact r_gT32 hlt len gz_FU a' (dC ([], fun _ => none) c) g3 t4 t5 (by omega) (by unfold gz_FU; omega)
  obtain ⟨g4, u1, u2, u3⟩ := main
  refine ⟨g4, u1, (s5.tr r2.s).tr u2.s, fun hn => ?_, fun d hds => ?_⟩
  · rcases u3 with ⟨_, v2⟩ | ⟨d, v1, _⟩
    · exact v2
    · rw [hn] at v1; cases v1
  · rcases u3 with ⟨v1, _⟩ | ⟨d', v1, v2, v3⟩
    · rw [hds] at v1; cases v1
    · rw [hds] at v1; cases v1; exact ⟨v2, v3⟩
end RS
