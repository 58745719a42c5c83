/-! the reference reads whole evenings -/
def EvP (A : Nat → Int32) (o : Nat) (l : List eS) : Prop := ∀ i s, l[i]? = some s → A (o + 3 * i) = nI s.1 ∧ A (o + 3 * i + 1) = oI s.2.1 ∧ A (o + 3 * i + 2) = oI s.2.2
section RP
variable {g : gz_S} {e o : Nat} {b : Nat → Nat} {len a : Nat} {La : gz_L}
def RdPl (q : Option gz_S) (g : gz_S) (n : Nat) (s : Nat × Option (List eS)) : Prop :=
  ∃ g', q = some g' ∧ Fz KE SE g g' ∧ (∀ j, j < 192 + 3 * n → g'.1 51 j = g.1 51 j) ∧ (∀ j, j ≠ 4 → g'.1 52 j = g.1 52 j) ∧
    ((s.2 = none ∧ g'.1 39 11 = nI s.1) ∨ ∃ l, s.2 = some l ∧ g'.1 39 11 = -nI 1 ∧ EvP (g'.1 51) (192 + 3 * n) l ∧ g'.1 52 4 = nI (n + l.length) ∧ n + l.length ≤ 16)
def rk91 (La : gz_L) : Int32 → gz_S → Option gz_S := fun (x1 : Int32) g => gz_let (gz_wi g 52 4 x1) (fun g97 => (fX12_look La g97).bind (fun q99 => if q99.1 = (-1) then some q99.2 else (fX12_fails La q99.2).bind (fun q107 => some q107.2)))
def rk68 (La : gz_L) : gz_S → Option gz_S := fun g => (fX12_fails La g).bind (fun q69 => some q69.2)
theorem pEv_s {n p : Nat} : pEv b len (n + 1) p = match (pStp b len p).2 with
    | none => ((pStp b len p).1, none)
    | some s => if sg b len (nx b len (pStp b len p).1) = none then (nx b len (pStp b len p).1, some [s]) else if n = 0 then (nx b len (pStp b len p).1, none) else
      if sg b len (nx b len (pStp b len p).1) = some 59 then ((pEv b len n (nx b len (pStp b len p).1 + 1)).1, (pEv b len n (nx b len (pStp b len p).1 + 1)).2.map (s :: ·)) else (nx b len (pStp b len p).1, none) := rfl
theorem r_plan17 : ∀ m n f a g, n + m + 1 = 16 → RP g e o b len a → m + 1 < f → RdPl (fX12_readPlan_17 La (rk91 La) (rk68 La) f (nI n) 1 g) g n (pEv b len (m + 1) a) := by
  intro m
  induction m with
  | zero =>
    intro n f a g hn h hf
    obtain ⟨f, rfl⟩ : ∃ f', f = f' + 1 := ⟨f - 1, by omega⟩
    obtain ⟨f, rfl⟩ : ∃ f', f = f' + 1 := ⟨f - 1, by omega⟩
    have erow : ((3 : Int32) * ((64 : Int32) + nI n)) = nI (192 + 3 * n) := by
      rw [show (3 : Int32) = nI 3 from rfl, show (64 : Int32) = nI 64 from rfl, n_add, n_mul]; congr 1; omega
    obtain ⟨g1, r1, r2, r3, r3', r4⟩ := r_readStep (La := La) h (row := 192 + 3 * n) (by omega)
    rw [fX12_readPlan_17, if_neg (by decide), erow, r1, Option.bind_some, pEv_s]
    rcases r4 with ⟨t1, t2, t3⟩ | ⟨x, t1, t2, t3, t4, t5⟩
    · rw [t1]
      exact ⟨g1, if_neg (fault_ne t3 t2), r2, fun j hj => r3 j (by omega), fun j _ => by rw [r3'], Or.inl ⟨rfl, t2⟩⟩
    · rw [t1]
      generalize (pStp b len a).1 = q at *
      have h240 := t2.le
      have hx := nx_le (b := b) t2.le.1
      have hS := t2.st hx.2
      have hnx : nx b len (nx b len q) = nx b len q := nx_nx
      have hf1 : g1.1 39 11 = -1 := t2.2
      rw [if_pos hf1, gz_let_eq, show nI n + (1 : Int32) = nI (n + 1) from n_add _ _, r_lookR t2, Option.bind_some]
      have F2 : Fz KE SE g (rs g1 (nx b len q)) := r2.r (Or.inl rfl)
      have x51 : (rs g1 (nx b len q)).1 51 = g1.1 51 := rs_n (by omega)
      have x52 : (rs g1 (nx b len q)).1 52 = g.1 52 := (rs_n (by omega)).trans r3'
      generalize nx b len q = p at *
      rw [← x51] at r3 t3 t4 t5
      generalize rs g1 p = g2 at *
      by_cases c1 : sg b len p = some 59
      · refine Eq.subst (motive := fun z => RdPl z _ _ _) (if_pos (show oI (sg b len p) = (59 : Int32) by rw [c1]; rfl)).symm ?_
        show RdPl (fX12_readPlan_57 La (fX12_readPlan_17 La (rk91 La) (rk68 La) (f + 1)) (rk68 La) (nI (n + 1)) 1 g2) _ _ (if sg b len p = none then (p, some [x]) else if 0 = 0 then (p, none) else _)
        rw [if_neg (show ¬ sg b len p = none by rw [c1]; exact fun hh => by cases hh), if_pos rfl]
        unfold fX12_readPlan_57
        rw [if_neg (by decide), if_pos (show nI (n + 1) = (16 : Int32) by rw [show n = 15 by omega]; rfl)]
        refine ⟨rf g2 p, ?_, F2.f (Or.inr rfl), fun j hj => ?_, fun j _ => ?_, Or.inl ⟨rfl, rf_11 _ _⟩⟩
        · unfold rk68; rw [r_failsR hS, Option.bind_some]
        · rw [show (rf g2 p).1 51 = g2.1 51 from wa_ne (by omega)]; exact r3 j (by omega)
        · rw [show (rf g2 p).1 52 = g2.1 52 from wa_ne (by omega), x52]
      · refine Eq.subst (motive := fun z => RdPl z _ _ _) (if_neg (show ¬ oI (sg b len p) = (59 : Int32) by show ¬ oI (sg b len p) = nI 59; rw [hS.oc (by omega)]; exact c1)).symm ?_
        show RdPl (fX12_readPlan_57 La (fX12_readPlan_17 La (rk91 La) (rk68 La) (f + 1)) (rk68 La) (nI (n + 1)) 0 g2) _ _ (if sg b len p = none then (p, some [x]) else if 0 = 0 then (p, none) else _)
        unfold fX12_readPlan_57 fX12_readPlan_74
        rw [if_pos rfl, if_pos rfl, fX12_readPlan_17, if_pos rfl]
        unfold rk91
        have hS2 := hS.ws (j := 52) (k := 4) (x := nI (n + 1)) (by omega)
        have F3 : Fz KE SE g (gz_wi g2 52 4 (nI (n + 1))) := F2.s (by omega) (Or.inr rfl)
        have y51 : (gz_wi g2 52 4 (nI (n + 1))).1 51 = g2.1 51 := wi_no (by omega)
        have y52 : ∀ j, j ≠ 4 → (gz_wi g2 52 4 (nI (n + 1))).1 52 j = g.1 52 j := fun j hj => by rw [wi_sn hj, x52]
        have z52 : (gz_wi g2 52 4 (nI (n + 1))).1 52 4 = nI (n + 1) := wi_ss
        rw [gz_let_eq]
        generalize gz_wi g2 52 4 (nI (n + 1)) = g3 at *
        have hL : fX12_look La g3 = some (oI (sg b len p), g3) := by
          have := r_lookR (La := La) hS2
          rw [hnx, rs_id hS2.ta] at this; exact this
        rw [hL, Option.bind_some]
        cases hs : sg b len p with
        | none =>
          rw [if_pos rfl]
          refine ⟨g3, if_pos (show oI none = (-1 : Int32) from rfl), F3, fun j hj => by rw [y51]; exact r3 j (by omega), y52, Or.inr ⟨[x], rfl, hS2.2, ?_, z52, by show n + 1 ≤ 16; omega⟩⟩
          intro i s hi
          cases i with
          | zero =>
            cases hi
            rw [y51]; exact ⟨t3, t4, t5⟩
          | succ i => cases hi
        | some c =>
          have hc := hS.sgc hs
          rw [if_neg (show ¬ (some c : Option Nat) = none from fun hh => by cases hh), if_pos rfl]
          refine ⟨rf g3 p, ?_, F3.f (Or.inr rfl), fun j hj => ?_, fun j hj => ?_, Or.inl ⟨rfl, rf_11 _ _⟩⟩
          · refine (if_neg (show ¬ nI c = -1 by rw [show (-1 : Int32) = -nI 1 from rfl, m_eq (by omega)]; exact id)).trans ?_
            show (fX12_fails La g3).bind _ = _
            rw [r_failsR hS2, Option.bind_some]
          · rw [show (rf g3 p).1 51 = g3.1 51 from wa_ne (by omega), y51]; exact r3 j (by omega)
          · rw [show (rf g3 p).1 52 = g3.1 52 from wa_ne (by omega)]; exact y52 j hj
  | succ m ih =>
    intro n f a g hn h hf
    obtain ⟨f, rfl⟩ : ∃ f', f = f' + 1 := ⟨f - 1, by omega⟩
    obtain ⟨f, rfl⟩ : ∃ f', f = f' + 1 := ⟨f - 1, by omega⟩
    have erow : ((3 : Int32) * ((64 : Int32) + nI n)) = nI (192 + 3 * n) := by
      rw [show (3 : Int32) = nI 3 from rfl, show (64 : Int32) = nI 64 from rfl, n_add, n_mul]; congr 1; omega
    obtain ⟨g1, r1, r2, r3, r3', r4⟩ := r_readStep (La := La) h (row := 192 + 3 * n) (by omega)
    rw [fX12_readPlan_17, if_neg (by decide), erow, r1, Option.bind_some, pEv_s]
    rcases r4 with ⟨t1, t2, t3⟩ | ⟨x, t1, t2, t3, t4, t5⟩
    · rw [t1]
      exact ⟨g1, if_neg (fault_ne t3 t2), r2, fun j hj => r3 j (by omega), fun j _ => by rw [r3'], Or.inl ⟨rfl, t2⟩⟩
    · rw [t1]
      generalize (pStp b len a).1 = q at *
      have h240 := t2.le
      have hx := nx_le (b := b) t2.le.1
      have hS := t2.st hx.2
      have hnx : nx b len (nx b len q) = nx b len q := nx_nx
      have hf1 : g1.1 39 11 = -1 := t2.2
      rw [if_pos hf1, gz_let_eq, show nI n + (1 : Int32) = nI (n + 1) from n_add _ _, r_lookR t2, Option.bind_some]
      have F2 : Fz KE SE g (rs g1 (nx b len q)) := r2.r (Or.inl rfl)
      have x51 : (rs g1 (nx b len q)).1 51 = g1.1 51 := rs_n (by omega)
      have x52 : (rs g1 (nx b len q)).1 52 = g.1 52 := (rs_n (by omega)).trans r3'
      generalize nx b len q = p at *
      rw [← x51] at r3 t3 t4 t5
      generalize rs g1 p = g2 at *
      by_cases c1 : sg b len p = some 59
      · have hpl := (sg_lt c1).1
        refine Eq.subst (motive := fun z => RdPl z _ _ _) (if_pos (show oI (sg b len p) = (59 : Int32) by rw [c1]; rfl)).symm ?_
        show RdPl (fX12_readPlan_57 La (fX12_readPlan_17 La (rk91 La) (rk68 La) (f + 1)) (rk68 La) (nI (n + 1)) 1 g2) _ _ (if sg b len p = none then (p, some [x]) else if m + 1 = 0 then (p, none) else if sg b len p = some 59 then ((pEv b len (m + 1) (p + 1)).1, (pEv b len (m + 1) (p + 1)).2.map (x :: ·)) else (p, none))
        rw [if_neg (show ¬ sg b len p = none by rw [c1]; exact fun hh => by cases hh), if_neg (by omega), if_pos c1]
        unfold fX12_readPlan_57 fX12_readPlan_74
        rw [if_neg (by decide), if_neg (show ¬ nI (n + 1) = (16 : Int32) by show ¬ nI (n + 1) = nI 16; rw [n_eq (by omega) (by omega)]; omega), if_neg (by decide), r_step1 hS hpl, gz_let_eq]
        have hS2 := hS.st (p := p + 1) (by omega)
        have F3 : Fz KE SE g (rs g2 (p + 1)) := F2.r (Or.inl rfl)
        have y51 : (rs g2 (p + 1)).1 51 = g2.1 51 := rs_n (by omega)
        have y52 : (rs g2 (p + 1)).1 52 = g.1 52 := (rs_n (by omega)).trans x52
        generalize rs g2 (p + 1) = g3 at *
        obtain ⟨g4, u1, u2, u3, u4, u5⟩ := ih (n + 1) (f + 1) (p + 1) g3 (by omega) hS2 (by omega)
        refine ⟨g4, u1, F3.tr u2, fun j hj => by rw [u3 j (by omega), y51]; exact r3 j (by omega), fun j hj => by rw [u4 j hj, y52], ?_⟩
        rcases u5 with ⟨v1, v2⟩ | ⟨l, v1, v2, v3, v4, v5⟩
        · exact Or.inl ⟨by show Option.map _ _ = none; rw [v1]; rfl, v2⟩
        · refine Or.inr ⟨x :: l, by show Option.map _ _ = _; rw [v1]; rfl, v2, ?_, ?_, by rw [List.length_cons]; omega⟩
          · intro i s hi
            cases i with
            | zero =>
              cases hi
              rw [Nat.mul_zero, Nat.add_zero, u3 _ (by omega), u3 _ (by omega), u3 _ (by omega), y51]
              exact ⟨t3, t4, t5⟩
            | succ i =>
              have hi : l[i]? = some s := hi
              have := v3 i s hi
              rw [show 192 + 3 * n + 3 * (i + 1) = 192 + 3 * (n + 1) + 3 * i by omega]
              exact this
          · rw [v4, List.length_cons]; congr 1; omega
      · refine Eq.subst (motive := fun z => RdPl z _ _ _) (if_neg (show ¬ oI (sg b len p) = (59 : Int32) by show ¬ oI (sg b len p) = nI 59; rw [hS.oc (by omega)]; exact c1)).symm ?_
        show RdPl (fX12_readPlan_57 La (fX12_readPlan_17 La (rk91 La) (rk68 La) (f + 1)) (rk68 La) (nI (n + 1)) 0 g2) _ _ (if sg b len p = none then (p, some [x]) else if m + 1 = 0 then (p, none) else if sg b len p = some 59 then ((pEv b len (m + 1) (p + 1)).1, (pEv b len (m + 1) (p + 1)).2.map (x :: ·)) else (p, none))
        unfold fX12_readPlan_57 fX12_readPlan_74
        rw [if_pos rfl, if_pos rfl, fX12_readPlan_17, if_pos rfl]
        unfold rk91
        have hS2 := hS.ws (j := 52) (k := 4) (x := nI (n + 1)) (by omega)
        have F3 : Fz KE SE g (gz_wi g2 52 4 (nI (n + 1))) := F2.s (by omega) (Or.inr rfl)
        have y51 : (gz_wi g2 52 4 (nI (n + 1))).1 51 = g2.1 51 := wi_no (by omega)
        have y52 : ∀ j, j ≠ 4 → (gz_wi g2 52 4 (nI (n + 1))).1 52 j = g.1 52 j := fun j hj => by rw [wi_sn hj, x52]
        have z52 : (gz_wi g2 52 4 (nI (n + 1))).1 52 4 = nI (n + 1) := wi_ss
        rw [gz_let_eq]
        generalize gz_wi g2 52 4 (nI (n + 1)) = g3 at *
        have hL : fX12_look La g3 = some (oI (sg b len p), g3) := by
          have := r_lookR (La := La) hS2
          rw [hnx, rs_id hS2.ta] at this; exact this
        rw [hL, Option.bind_some, if_neg c1, if_neg (show ¬ m + 1 = 0 by omega)]
        cases hs : sg b len p with
        | none =>
          rw [if_pos rfl]
          refine ⟨g3, if_pos (show oI none = (-1 : Int32) from rfl), F3, fun j hj => by rw [y51]; exact r3 j (by omega), y52, Or.inr ⟨[x], rfl, hS2.2, ?_, z52, by show n + 1 ≤ 16; omega⟩⟩
          intro i s hi
          cases i with
          | zero =>
            cases hi
            rw [y51]; exact ⟨t3, t4, t5⟩
          | succ i => cases hi
        | some c =>
          have hc := hS.sgc hs
          rw [if_neg (show ¬ (some c : Option Nat) = none from fun hh => by cases hh)]
          refine ⟨rf g3 p, ?_, F3.f (Or.inr rfl), fun j hj => ?_, fun j hj => ?_, Or.inl ⟨rfl, rf_11 _ _⟩⟩
          · refine (if_neg (show ¬ nI c = -1 by rw [show (-1 : Int32) = -nI 1 from rfl, m_eq (by omega)]; exact id)).trans ?_
            show (fX12_fails La g3).bind _ = _
            rw [r_failsR hS2, Option.bind_some]
          · rw [show (rf g3 p).1 51 = g3.1 51 from wa_ne (by omega), y51]; exact r3 j (by omega)
          · rw [show (rf g3 p).1 52 = g3.1 52 from wa_ne (by omega)]; exact y52 j hj
theorem Fz.fs {K S : Nat → Prop} {g g' : gz_S} (h : Fz K S g g') (hk : ∀ k, K k → 8 ≤ k ∧ k ≤ 14 ∨ k = 17) : Fs S g g' :=
  ⟨h.1, fun k hn => h.2.1 k (fun hh => hn (hk k hh)), by rw [h.2.2], Tq.ww h.2.2⟩
theorem r_readPlan (hb : Byt g 40 0 b len) (hl : g.1 39 6 = nI len) : ∃ g', fX12_readPlan La g = some g' ∧ Fs SE g g' ∧ (∀ j, j < 192 → g'.1 51 j = g.1 51 j) ∧ (∀ j, j ≠ 4 → g'.1 52 j = g.1 52 j) ∧
    ((pEv b len 16 0).2 = none → g'.1 39 11 = nI (pEv b len 16 0).1) ∧ ∀ l, (pEv b len 16 0).2 = some l → g'.1 39 11 = -nI 1 ∧ EvP (g'.1 51) 192 l ∧ g'.1 52 4 = nI l.length ∧ l.length ≤ 16 := by
  obtain ⟨g1, s1, s2, s3, s4⟩ := r_starts (La := La) (S := fun _ => False) hb
  obtain ⟨g2, u1, u2, u3, u4, u5⟩ := r_plan17 (La := La) 15 0 gz_FU 0 g1 (by omega) ⟨s2, s3⟩ (by unfold gz_FU; omega)
  have e51 : g1.1 51 = g.1 51 := s4.1 51 (by omega) id
  have e52 : g1.1 52 = g.1 52 := s4.1 52 (by omega) id
  refine ⟨g2, ?_, ?_, fun j hj => by rw [u3 j (by omega), e51], fun j hj => by rw [u4 j hj, e52], fun hn => ?_, fun l hs => ?_⟩
  · unfold fX12_readPlan
    rw [hl]
    show (fX12_starts La 40 (nI 0) (nI len) g).bind _ = _
    rw [s1, Option.bind_some]
    exact u1
  · have s4' : Fs SE g g1 := ⟨fun j hj _ => s4.1 j hj id, s4.2⟩
    exact s4'.tr (u2.fs (fun k hk => by omega))
  · rcases u5 with ⟨_, v2⟩ | ⟨l, v1, _⟩
    · exact v2
    · rw [hn] at v1; cases v1
  · rcases u5 with ⟨v1, _⟩ | ⟨l', v1, v2, v3, v4, v5⟩
    · rw [hs] at v1; cases v1
    · rw [hs] at v1; cases v1
      exact ⟨v2, v3, by rw [v4, Nat.zero_add], by omega⟩
end RP
