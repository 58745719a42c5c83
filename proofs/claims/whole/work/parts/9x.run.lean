/-! evenings: the run, pure and both sides' loops -/
section US
variable {V : Nat → Nat} {T : sT} {e : sE} {B : Nat}
def rR (T : sT) (V : Nat → Nat) (e : sE) (k : Nat) : (Nat → Nat) × Nat := it (fun i s => if e.2.1 i = 0 then (sHour T s.1, s.2 + sMet T s.1) else (sDo s.1 e i, s.2)) k (V, 0)
theorem rR_s (T : sT) (V : Nat → Nat) (e : sE) (k : Nat) : rR T V e (k + 1) = if e.2.1 k = 0 then (sHour T (rR T V e k).1, (rR T V e k).2 + sMet T (rR T V e k).1) else (sDo (rR T V e k).1 e k, (rR T V e k).2) := rfl
theorem sDo_ok {W : Nat → Nat} (hW : Wf B W) {i : Nat} (hwl : sWell (e.2.1 i) (e.2.2.1 i) (e.2.2.2 i)) (h0 : ¬ e.2.1 i = 0) (hm : sMay W e i) : Wf B (sDo W e i) ∧ (∀ k, 49 ≤ k → sDo W e i k = W k) := by
  have h60 := hW.2.2.2.1
  unfold sDo
  have hm : sMay1 W (e.2.1 i) ((e.2.2.1 i).getD 0) ((e.2.2.2 i).getD 0) := hm
  rcases hwl with ⟨w0, _, _⟩ | ⟨w1, x, y, f1, f2, hx, hy⟩ | ⟨w2, x, f1, hx, f2⟩ | ⟨w3, x, f1, hx, f2⟩
  · exact absurd w0 h0
  · rw [w1, f1, f2] at hm ⊢
    have hm : x < W 60 ∧ y < 4 ∧ ¬ W (W (54 + x)) = 1 ∧ 3 ≤ W 48 := sMay1_1.mp hm
    exact ⟨sPay_wf hW hm.1 hm.2.1, fun k hk => sPay_fix (i := x) (l := y) (by omega) hk⟩
  · rw [w2, f1] at hm ⊢
    have hm : 0 < W 60 ∧ x ≤ 5 ∧ (x < W 46 ∨ W 46 < x) := sMay1_2.mp hm
    exact ⟨wf_up1 hW (Or.inl ⟨rfl, hm.2.1⟩), fun k hk => uN_n (by omega)⟩
  · rw [w3, f1] at hm ⊢
    exact ⟨sSweep_wf hW, fun k hk => sSweep_fix h60.2 hk⟩
/-- behind k steps that could all be taken -/
def Rdy (T : sT) (V : Nat → Nat) (e : sE) (k : Nat) : Prop := ∀ j, j < k → sMay (rR T V e j).1 e j
theorem rR_ok (hT : TLt T) (hW : Wf B V) (hwl : ∀ i, i < e.1 → sWell (e.2.1 i) (e.2.2.1 i) (e.2.2.2 i)) : ∀ k, k ≤ e.1 → B + 20 * k < 800000 → Rdy T V e k → Wf (B + 20 * k) (rR T V e k).1 ∧ (∀ j, 50 ≤ j → (rR T V e k).1 j = V j) ∧ (rR T V e k).2 ≤ 100 * k := by
  intro k
  induction k with
  | zero => intro _ _ _; exact ⟨hW, fun _ _ => rfl, Nat.le_refl _⟩
  | succ k ih =>
    intro hk hB hr
    obtain ⟨i1, i2, i3⟩ := ih (by omega) (by omega) (fun j hj => hr j (by omega))
    have h60 := i1.2.2.2.1.2
    rw [rR_s]
    by_cases c : e.2.1 k = 0
    · rw [if_pos c]
      have hm := sMet_le (T := T) (V := (rR T V e k).1) h60
      exact ⟨(sHour_wf hT i1 (by omega)).mo (by omega), fun j hj => (sHour_fix h60 (by omega)).trans (i2 j hj), by show (rR T V e k).2 + _ ≤ _; omega⟩
    · rw [if_neg c]
      obtain ⟨d1, d2⟩ := sDo_ok i1 (hwl k (by omega)) c (hr k (by omega))
      exact ⟨d1.mo (by omega), fun j hj => (d2 j (by omega)).trans (i2 j hj), by show (rR T V e k).2 ≤ _; omega⟩
/-- where it stops, and what the run answers -/
def vRun (T : sT) (V : Nat → Nat) (e : sE) (w k : Nat) : Int32 := if w = 0 then (if k = e.1 then -1 else nI k) else nI (rR T V e k).2
def RStp (T : sT) (V : Nat → Nat) (e : sE) (k : Nat) : Prop := k ≤ e.1 ∧ Rdy T V e k ∧ (k < e.1 → ¬ sMay (rR T V e k).1 e k)
theorem stp_ex (T : sT) (V : Nat → Nat) (e : sE) : ∃ k, RStp T V e k := by
  have key : ∀ n, n ≤ e.1 → (∃ k, k < n ∧ RStp T V e k) ∨ Rdy T V e n := by
    intro n
    induction n with
    | zero => intro _; exact Or.inr (fun j hj => absurd hj (Nat.not_lt_zero _))
    | succ n ih =>
      intro hn
      rcases ih (by omega) with ⟨k, hk, hs⟩ | hr
      · exact Or.inl ⟨k, by omega, hs⟩
      · by_cases c : sMay (rR T V e n).1 e n
        · refine Or.inr (fun j hj => ?_)
          by_cases cj : j = n
          · subst cj; exact c
          · exact hr j (by omega)
        · exact Or.inl ⟨n, by omega, by omega, hr, fun _ => c⟩
  rcases key e.1 (Nat.le_refl _) with ⟨k, _, hs⟩ | hr
  · exact ⟨k, hs⟩
  · exact ⟨e.1, Nat.le_refl _, hr, fun h => absurd h (Nat.lt_irrefl _)⟩
end US
section C2
variable {La : gz_L} {g : gz_S} {V : Nat → Nat} {B : Nat} {T : sT} {e : sE}
/-- the class's run -/
theorem c_run50 (h : CF La g V T B) (hB : B < 400000) {E : Nat} (hE : 110 ≤ E) (hev : EvR La g E e) {w k : Nat} (hw : w ≤ 1) (hs : RStp T V e k) (h7 : ∃ g0, g0 = gz_wa g 23 (fI V)) :
    ∃ g', fX11_run_50 La E (fun (x2 : Int32) (x4 : Int32) g => if x2 = 0 then some ((-1), g) else some (x4, g)) (fun (x2 : Int32) (x4 : Int32) (x5 : Int32) g => if x2 = 0 then some (x5, g) else some (x4, g)) gz_FU (nI w) 0 0 (gz_wa g 23 (fI V)) = some (vRun T V e w k, g') ∧ FS g g' := by
  obtain ⟨hv, hW, hz, hL, hsp⟩ := h
  obtain ⟨s1, s2, s3⟩ := hs
  have he16 := hev.2.1
  have hwl : ∀ i, i < e.1 → sWell (e.2.1 i) (e.2.2.1 i) (e.2.2.2 i) := fun i hi => (hev.2.2.2 i hi).2.2.2
  have w0 : (nI w = 0) = (w = 0) := n_eq (b := 0) (by omega) (by omega)
  have ok := rR_ok (T := T) hL.lt hW hwl
  refine lp (fun f i z => fX11_run_50 La E (fun (x2 : Int32) (x4 : Int32) g => if x2 = 0 then some ((-1), g) else some (x4, g)) (fun (x2 : Int32) (x4 : Int32) (x5 : Int32) g => if x2 = 0 then some (x5, g) else some (x4, g)) f (nI w) (nI (rR T V e i).2) (nI i) z) (fun i z => Fr (WF 7) g z ∧ z.1 23 = fI (rR T V e i).1) k
    (fun r => ∃ g', r = some (vRun T V e w k, g') ∧ FS g g') ?_ ?_ gz_FU 0 _ (by omega) (by unfold gz_FU; omega) ⟨Fr.rf.wa (Or.inr (Or.inr (Or.inr rfl))), wa_at _ _ _⟩
  · intro f i z hi ⟨q1, q2⟩
    obtain ⟨i1, i2, i3⟩ := ok i (by omega) (by omega) (fun j hj => s2 j (by omega))
    have hez : EvR La z E e := hev.fr q1 (by omega) (by omega)
    have hm := s2 i hi
    refine Or.inr ?_
    rw [fX11_run_50, hez.2.2.1, if_neg (show ¬ nI e.1 ≤ nI i by rw [n_le (by omega) (by omega)]; omega)]
    rw [show fX0_mayBe La E (nI i) 7 z = some (pI (sMay (rR T V e i).1 e i), z) from c_mayBe (w2 := 7) hez (by omega) q2 i1, Option.bind_some]
    refine ex_q (if_neg (pI1 hm)) ?_
    rw [c_isHour hez (by omega), Option.bind_some]
    have nx : ∀ (x4 : Int32) z', fX11_run_122 La E (fX11_run_50 La E (fun (x2 : Int32) (x4 : Int32) g => if x2 = 0 then some ((-1), g) else some (x4, g)) (fun (x2 : Int32) (x4 : Int32) (x5 : Int32) g => if x2 = 0 then some (x5, g) else some (x4, g)) f) (nI w) x4 (nI i) z' = fX11_run_50 La E (fun (x2 : Int32) (x4 : Int32) g => if x2 = 0 then some ((-1), g) else some (x4, g)) (fun (x2 : Int32) (x4 : Int32) (x5 : Int32) g => if x2 = 0 then some (x5, g) else some (x4, g)) f (nI w) x4 (nI (i + 1)) z' := by
      intro x4 z'; unfold fX11_run_122; rw [gz_let_eq, show nI i + (1 : Int32) = nI (i + 1) from n_add _ _]
    by_cases c : e.2.1 i = 0
    · obtain ⟨g2, u1, u2, u3, _⟩ := c_hr (La := La) hL q1 q2 i1 (by omega)
      refine ⟨g2, (if_neg (pI1 c)).trans ?_, u2, ?_⟩
      · rw [u1, Option.bind_some, gz_let_eq, nx]
        show fX11_run_50 La E _ _ f (nI w) (nI (rR T V e i).2 + nI (sMet T (rR T V e i).1)) (nI (i + 1)) g2 = _
        rw [n_add, rR_s, if_pos c]
      · rw [u3, rR_s, if_pos c]
    · refine ⟨gz_wa z 23 (fI (sDo (rR T V e i).1 e i)), (if_pos (pI0 c)).trans ?_, q1.wa (Or.inr (Or.inr (Or.inr rfl))), ?_⟩
      · rw [show fX0_doByHand La E (nI i) 7 z = some (gz_wa z 23 (fI (sDo (rR T V e i).1 e i))) from c_doByHand (w2 := 7) sc7 hez (by omega) q2 i1 hm c, Option.bind_some, nx, rR_s, if_neg c]
      · rw [wa_at, rR_s, if_neg c]
  · intro f z ⟨q1, q2⟩
    obtain ⟨i1, i2, i3⟩ := ok k s1 (by omega) s2
    have hez : EvR La z E e := hev.fr q1 (by omega) (by omega)
    have hfs : FS g z := ⟨q1, _, q2, fun j hj => by rw [i2 j (by omega)]; exact hz j hj⟩
    refine ⟨z, ?_, hfs⟩
    rw [fX11_run_50, hez.2.2.1]
    unfold vRun
    by_cases c : k = e.1
    · rw [if_pos (show nI e.1 ≤ nI k by rw [n_le (by omega) (by omega)]; omega), if_pos c]
      by_cases c0 : w = 0
      · rw [if_pos c0]; exact if_pos (w0 ▸ c0)
      · rw [if_neg c0]; exact if_neg (w0 ▸ c0)
    · rw [if_neg (show ¬ nI e.1 ≤ nI k by rw [n_le (by omega) (by omega)]; omega), if_neg c, show fX0_mayBe La E (nI k) 7 z = some (pI (sMay (rR T V e k).1 e k), z) from c_mayBe (w2 := 7) hez (by omega) q2 i1, Option.bind_some]
      refine (if_pos (pI0 (s3 (by omega)))).trans ?_
      by_cases c0 : w = 0
      · rw [if_pos c0]; exact if_pos (w0 ▸ c0)
      · rw [if_neg c0]; exact if_neg (w0 ▸ c0)
end C2
