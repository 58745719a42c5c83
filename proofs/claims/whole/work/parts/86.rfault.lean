/-! the reference: a shore from its first byte; fault -/
abbrev KF : Nat → Prop := fun k => k = 0 ∨ (8 ≤ k ∧ k ≤ 14) ∨ k = 17 ∨ k = 28 ∨ k = 29 ∨ k = 31
abbrev SF : Nat → Prop := fun j => j = 45 ∨ j = 47 ∨ j = 49 ∨ j = 50 ∨ j = 51 ∨ j = 52
/-- frames of fault: fields KF, rows SF, the text -/
def Ff (g g' : gz_S) : Prop := (∀ j, j ≠ 39 → ¬ SF j → g'.1 j = g.1 j) ∧ (∀ k, ¬ KF k → g'.1 39 k = g.1 39 k) ∧ (∀ j, j < 192 → g'.1 51 j = g.1 51 j) ∧ (∀ j, j ≠ 4 → g'.1 52 j = g.1 52 j) ∧ g'.2.1 = g.2.1 ∧ Tq g g'
theorem Ff.z0 {g : gz_S} : Ff g g := ⟨fun _ _ _ => rfl, fun _ _ => rfl, fun _ _ => rfl, fun _ _ => rfl, rfl, Tq.rf⟩
theorem Ff.tr {g g' g'' : gz_S} (h : Ff g g') (h' : Ff g' g'') : Ff g g'' :=
  ⟨fun j hj hs => (h'.1 j hj hs).trans (h.1 j hj hs), fun k hk => (h'.2.1 k hk).trans (h.2.1 k hk), fun j hj => (h'.2.2.1 j hj).trans (h.2.2.1 j hj), fun j hj => (h'.2.2.2.1 j hj).trans (h.2.2.2.1 j hj), h'.2.2.2.2.1.trans h.2.2.2.2.1, h'.2.2.2.2.2.trans h.2.2.2.2.2⟩
section RP
variable {g : gz_S} {e o : Nat} {b : Nat → Nat} {len a : Nat} {La : gz_L} {s : SH}
theorem r_readShore (hb : Byt g 40 0 b len) (hl : g.1 39 6 = nI len) : ∃ g', fX12_readShore La g = some g' ∧ Ff g g' ∧
    ((pSh b len 11 sh0 0).2 = none → g'.1 39 11 = nI (pSh b len 11 sh0 0).1) ∧ ∀ S, (pSh b len 11 sh0 0).2 = some S → g'.1 39 11 = -nI 1 ∧ CSR g' S := by
  obtain ⟨g1, s1, s2, s3, s4⟩ := r_starts (La := La) (S := fun _ => False) hb
  have h1 : RP g1 40 0 b len 0 := ⟨s2, s3⟩
  have h2 := ((h1.wf (k := 28) (x := 0) (by omega)).wf (k := 29) (x := 0) (by omega)).wf (k := 31) (x := 0) (by omega)
  have F2 : Fz KS SS g1 (gz_wi (gz_wi (gz_wi g1 39 28 0) 39 29 0) 39 31 0) := ((Fz.z0.w (by omega)).w (by omega)).w (by omega)
  have v28 : (gz_wi (gz_wi (gz_wi g1 39 28 0) 39 29 0) 39 31 0).1 39 28 = nI 0 := rfl
  have v29 : (gz_wi (gz_wi (gz_wi g1 39 28 0) 39 29 0) 39 31 0).1 39 29 = nI 0 := rfl
  have v31 : (gz_wi (gz_wi (gz_wi g1 39 28 0) 39 29 0) 39 31 0).1 39 31 = nI 0 := rfl
  have main : RdSh (fX12_readShore_30 La (fun g => fX12_readShore_55 La (fun g => fX12_readShore_76 La (fX12_readShore_132 La) gz_FU 1 g) gz_FU 0 g) gz_FU 0 (gz_wi (gz_wi (gz_wi g1 39 28 0) 39 29 0) 39 31 0)) g1 (pSh b len 11 sh0 0) := by
    generalize gz_wi (gz_wi (gz_wi g1 39 28 0) 39 29 0) 39 31 0 = g2 at *
    refine lp (fun f i g3 => fX12_readShore_30 La (fun g => fX12_readShore_55 La (fun g => fX12_readShore_76 La (fX12_readShore_132 La) gz_FU 1 g) gz_FU 0 g) f (nI i) g3)
      (fun i g3 => RP g3 40 0 b len 0 ∧ Fz KS SS g1 g3 ∧ Fz (fun _ => False) (fun j => j = 45) g2 g3 ∧ ∀ i', i' < i → g3.1 45 i' = nI (tS (i' * 4 + 3))) 4
      (fun q => RdSh q g1 (pSh b len 11 sh0 0)) ?_ ?_ gz_FU 0 g2 (by omega) (by unfold gz_FU; omega) ⟨h2, F2, Fz.z0, fun i' hi' => absurd hi' (Nat.not_lt_zero _)⟩
    · intro f i g3 hi ⟨k1, k2, k3, k4⟩
      obtain ⟨l1, l2, l3, l4, l5, l6⟩ := kd_least (La := La) (g := g3) (kd := 115) (w4 := 212) (t := tS) (Or.inl ⟨rfl, rfl, rfl⟩) i hi
      refine Or.inr ⟨gz_wi g3 45 i (nI (tS (i * 4 + 3))), ?_, k1.ws (by omega), k2.s (by omega) (by omega), k3.s (by omega) rfl, fun i' hi' => ?_⟩
      · show fX12_readShore_30 La _ (f + 1) (nI i) g3 = _
        rw [fX12_readShore_30, if_neg (show ¬ (4 : Int32) ≤ nI i by show ¬ nI 4 ≤ nI i; rw [n_le (by omega) (by omega)]; omega)]
        show (fX12_usual La (nI 115) (nI i) g3).bind _ = _
        rw [l3, Option.bind_some]
        refine (if_pos (n_okP (by omega) (by omega))).trans ?_
        rw [n_cl (by omega), gz_let_eq, gz_let_eq, show nI i + (1 : Int32) = nI (i + 1) from n_add _ _]
      · by_cases c : i' = i
        · rw [c, wi_ss]
        · rw [wi_sn (by omega)]; exact k4 i' (by omega)
    · intro f g3 ⟨k1, k2, k3, k4⟩
      show RdSh (fX12_readShore_30 La _ (f + 1) (nI 4) g3) _ _
      rw [fX12_readShore_30, if_pos (show (4 : Int32) ≤ nI 4 by decide)]
      refine lp (fun f i g4 => fX12_readShore_55 La (fun g => fX12_readShore_76 La (fX12_readShore_132 La) gz_FU 1 g) f (nI i) g4)
        (fun i g4 => RP g4 40 0 b len 0 ∧ Fz KS SS g1 g4 ∧ Fz (fun _ => False) (fun j => j = 49) g3 g4 ∧ ∀ i', i' < i → g4.1 49 i' = nI 0) 30
        (fun q => RdSh q g1 (pSh b len 11 sh0 0)) ?_ ?_ gz_FU 0 g3 (by omega) (by unfold gz_FU; omega) ⟨k1, k2, Fz.z0, fun i' hi' => absurd hi' (Nat.not_lt_zero _)⟩
      · intro f i g4 hi ⟨q1, q2, q3, q4⟩
        refine Or.inr ⟨gz_wi g4 49 i (nI 0), ?_, q1.ws (by omega), q2.s (by omega) (by omega), q3.s (by omega) rfl, fun i' hi' => ?_⟩
        · show fX12_readShore_55 La _ (f + 1) (nI i) g4 = _
          rw [fX12_readShore_55, if_neg (show ¬ (30 : Int32) ≤ nI i by show ¬ nI 30 ≤ nI i; rw [n_le (by omega) (by omega)]; omega), if_pos (n_okP (by omega) (by omega)), n_cl (by omega), gz_let_eq, gz_let_eq, show nI i + (1 : Int32) = nI (i + 1) from n_add _ _]
          rfl
        · by_cases c : i' = i
          · rw [c, wi_ss]
          · rw [wi_sn (by omega)]; exact q4 i' (by omega)
      · intro f g4 ⟨q1, q2, q3, q4⟩
        show RdSh (fX12_readShore_55 La _ (f + 1) (nI 30) g4) _ _
        rw [fX12_readShore_55, if_pos (show (30 : Int32) ≤ nI 30 by decide)]
        have hC : CSR g4 sh0 := by
          refine ⟨?_, ⟨?_, Nat.zero_le _⟩, ⟨?_, Nat.zero_le _⟩, fun i hi => ⟨?_, ?_⟩, fun i hi => absurd hi (Nat.not_lt_zero _), fun j hj => ⟨q4 j hj, Nat.zero_le _⟩, fun j hj => absurd hj (by show ¬ j < 4 * 0; omega)⟩
          · rw [q3.2.1 31 id, k3.2.1 31 id, v31]; rfl
          · rw [q3.2.1 29 id, k3.2.1 29 id, v29]; rfl
          · rw [q3.2.1 28 id, k3.2.1 28 id, v28]; rfl
          · rw [q3.1 45 (by omega) (by omega)]; exact k4 i hi
          · exact (kd_least (La := La) (g := g4) (kd := 115) (w4 := 212) (t := tS) (Or.inl ⟨rfl, rfl, rfl⟩) i hi).2.2.2.2.2
        exact RdSh.of (r_shore76 (La := La) 11 gz_FU 0 g4 sh0 rfl (by unfold gz_FU; omega) q1 hC sh0_ok) q2
  obtain ⟨g5, u1, u2, u3⟩ := main
  refine ⟨g5, ?_, ?_, fun hn => ?_, fun S hs => ?_⟩
  · unfold fX12_readShore
    rw [hl]
    show (fX12_starts La 40 (nI 0) (nI len) g).bind _ = _
    rw [s1, Option.bind_some, gz_let_eq, gz_let_eq, gz_let_eq]
    exact u1
  · refine ⟨fun j hj hs => ?_, fun k hk => ?_, fun j hj => ?_, fun j hj => ?_, ?_, ?_⟩
    · rw [u2.1 j hj (by omega), s4.1 j hj id]
    · rw [u2.2.1 k (by omega), s4.2.1 k (by omega)]
    · rw [u2.1 51 (by omega) (by omega), s4.1 51 (by omega) id]
    · rw [u2.1 52 (by omega) (by omega), s4.1 52 (by omega) id]
    · rw [u2.2.2, s4.2.2.1]
    · exact (Tq.ww u2.2.2).trans s4.2.2.2
  · rcases u3 with ⟨_, v⟩ | ⟨S, v, _⟩
    · exact v
    · rw [hn] at v; cases v
  · rcases u3 with ⟨v, _⟩ | ⟨S', v1, v2, v3⟩
    · rw [hs] at v; cases v
    · rw [hs] at v1; cases v1; exact ⟨v2, v3⟩
theorem RTP.byt {l : List Nat} (h : RTP g l) : Byt g 40 0 (tb l) l.length := ⟨Or.inl rfl, h.2.1, by have := h.2.1; show 0 + l.length ≤ 240; omega, fun k hk => by rw [Nat.zero_add]; exact h.2.2 k hk⟩
theorem RTP.ff {g' : gz_S} {l : List Nat} (h : RTP g l) (hF : Ff g g') : RTP g' l := by
  unfold RTP; rw [hF.2.1 6 (by omega), hF.1 40 (by omega) (by omega)]; exact h
/-- fault: the same answer as the class's; and what stands behind it where there is none -/
theorem r_fault {l : List Nat} {lt : Nat → Int} (hlt : LtOk lt) (hL : LL g lt) (h : RTP g l) (x : Int32) : ∃ g', fX12_fault La x g = some (ft l x, g') ∧ Ff g g' ∧
    (∀ S, x = 0 → (pSh (tb l) l.length 11 sh0 0).2 = some S → CSR g' S) ∧ (∀ E, x = 2 → (pEv (tb l) l.length 16 0).2 = some E → EvP (g'.1 51) 192 E ∧ g'.1 52 4 = nI E.length ∧ E.length ≤ 16) := by
  have F0 : Ff g (gz_wi g 39 0 0) := ⟨fun j hj _ => wi_no hj, fun k hk => wi_sn (by omega), fun j _ => by rw [wi_no (by omega)], fun j _ => by rw [wi_no (by omega)], rfl, Tq.of rfl⟩
  have h0 := h.ff F0
  have hL0 : LL (gz_wi g 39 0 0) lt := fun k hk => by rw [wi_no (by omega)]; exact hL k hk
  unfold fX12_fault
  rw [gz_let_eq]
  generalize gz_wi g 39 0 0 = g0 at *
  rw [x_l x, show (0 : Int64) = Int64.ofInt 0 from rfl, show (2 : Int64) = Int64.ofInt 2 from rfl]
  have hb1 := Int32.toInt_lt x
  have hb2 := Int32.le_toInt x
  rw [r_isInZ (by omega) (by omega) (by omega), Option.bind_some]
  have e0 : (x = 0) = (x.toInt = 0) := x_eq (n := 0) (by omega)
  have e1 : (x = 1) = (x.toInt = 1) := x_eq (n := 1) (by omega)
  have e2 : (x = 2) = (x.toInt = 2) := x_eq (n := 2) (by omega)
  by_cases x0 : x = 0
  · subst x0
    have hft : ft l 0 = if (pSh (tb l) l.length 11 sh0 0).2 = none then nI (pSh (tb l) l.length 11 sh0 0).1 else -nI 1 := if_pos rfl
    rw [hft]
    obtain ⟨g1, r1, r2, r3, r4⟩ := r_readShore (La := La) h0.byt h0.1
    refine ⟨g1, ?_, F0.tr r2, fun S _ hS => (r4 S hS).2, fun E hh => absurd hh (by decide)⟩
    refine (if_neg (pI1 (P := (0 : Int) ≤ (0 : Int32).toInt ∧ (0 : Int32).toInt ≤ 2) (by decide))).trans ((if_pos rfl).trans ?_)
    rw [r1, Option.bind_some]
    unfold fX12_fault_28 fX12_fault_46
    rw [if_neg (by decide), if_neg (by decide)]
    cases hs : (pSh (tb l) l.length 11 sh0 0).2 with
    | none => rw [if_pos rfl, r3 hs]
    | some S => rw [if_neg (fun hh => by cases hh), (r4 S hs).1]
  · by_cases x1 : x = 1
    · subst x1
      have hft : ft l 1 = if (pLawT (tb l) l.length).2 = none then nI (pLawT (tb l) l.length).1 else -nI 1 := (if_neg (by decide)).trans (if_pos rfl)
      rw [hft]
      obtain ⟨g1, r1, r2, r3, r4⟩ := r_goThrough (La := La) (S := S0) hlt hL0 h0.byt
      have F1 : Ff g0 g1 := ⟨fun j hj _ => r2.1 j hj id, fun k hk => r2.2.1 k (by omega), fun j _ => by rw [r2.1 51 (by omega) id], fun j _ => by rw [r2.1 52 (by omega) id], r2.2.2.1, r2.2.2.2⟩
      refine ⟨g1, ?_, F0.tr F1, fun S hh => absurd hh (by decide), fun E hh => absurd hh (by decide)⟩
      refine (if_neg (pI1 (P := (0 : Int) ≤ (1 : Int32).toInt ∧ (1 : Int32).toInt ≤ 2) (by decide))).trans ((if_neg (show ¬ (1 : Int32) = 0 by decide)).trans ?_)
      unfold fX12_fault_28 fX12_fault_46
      rw [if_pos rfl, show g0.1 39 6 = nI l.length from h0.1]
      show (fX12_goThrough La 40 (nI 0) (nI l.length) g0).bind _ = _
      rw [r1, Option.bind_some, if_neg (by decide)]
      cases hs : (pLawT (tb l) l.length).2 with
      | none => rw [if_pos rfl, r3 hs]
      | some S => rw [if_neg (fun hh => by cases hh), (r4 S hs).1]
    · by_cases x2 : x = 2
      · subst x2
        have hft : ft l 2 = if (pEv (tb l) l.length 16 0).2 = none then nI (pEv (tb l) l.length 16 0).1 else -nI 1 := (if_neg (by decide)).trans ((if_neg (by decide)).trans (if_pos rfl))
        rw [hft]
        obtain ⟨g1, r1, r2, r3, r4, r5, r6⟩ := r_readPlan (La := La) h0.byt h0.1
        have F1 : Ff g0 g1 := ⟨fun j hj hs => r2.1 j hj (by omega), fun k hk => r2.2.1 k (by omega), r3, r4, r2.2.2.1, r2.2.2.2⟩
        refine ⟨g1, ?_, F0.tr F1, fun S hh => absurd hh (by decide), fun E _ hE => (r6 E hE).2⟩
        refine (if_neg (pI1 (P := (0 : Int) ≤ (2 : Int32).toInt ∧ (2 : Int32).toInt ≤ 2) (by decide))).trans ((if_neg (show ¬ (2 : Int32) = 0 by decide)).trans ?_)
        unfold fX12_fault_28 fX12_fault_46
        rw [if_neg (by decide), if_pos rfl, r1, Option.bind_some]
        cases hs : (pEv (tb l) l.length 16 0).2 with
        | none => rw [if_pos rfl, r5 hs]
        | some S => rw [if_neg (fun hh => by cases hh), (r6 S hs).1]
      · have hft : ft l x = -nI 2 := (if_neg x0).trans ((if_neg x1).trans (if_neg x2))
        rw [hft]
        refine ⟨g0, ?_, F0, fun S hh => absurd hh x0, fun E hh => absurd hh x2⟩
        refine (if_pos (pI0 (fun hh => ?_))).trans rfl
        rw [e0] at x0
        rw [e1] at x1
        rw [e2] at x2
        omega
end RP
