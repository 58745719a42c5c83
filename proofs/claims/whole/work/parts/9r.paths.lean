/-! the reference's paths of one goer alone -/
section RW
variable {g : gz_S} {V V0 W U : Nat → Nat} {B : Nat} {La : gz_L} {Ls : List (List Nat)} {cur : Option Nat} {S : SH} {w i : Nat}
def U0 (V0 : Nat → Nat) (i q : Nat) : Nat → Nat := uN (uN V0 (34 + i) (q % 4)) (50 + i) (q / 4 + 1)
theorem CX.m50 {x j : Nat} (h : CX g w V Ls cur) (h60 : V 60 ≤ 4) (hj : 50 ≤ j ∧ j < 54) : CX g w (uN V j x) Ls cur :=
  ⟨fun k hk => by rw [uN_n (by omega)]; exact h.1 k hk, h.2.1.mo (fun k hk => uN_n (by omega)) h60, h.2.2⟩
theorem U0_wf {q : Nat} (h : Wf B V0) (hi : i < 4) (hq : q < 16) : Wf B (U0 V0 i q) := by
  have w1 : Wf B (uN V0 (34 + i) (q % 4)) := h.up (by omega) (by omega) (by omega) (by omega) (by omega) (by omega) (by omega) (by omega) (by omega) (by omega) (by omega) (by omega) (by omega)
  exact w1.up (by omega) (by omega) (by omega) (by omega) (by omega) (by omega) (by omega) (by omega) (by omega) (by omega) (by omega) (by omega) (by omega)
theorem rU_fix {T : sT} (hi : i < 4) : ∀ n k, k < 30 ∨ k = 46 ∨ k = 47 ∨ k = 48 ∨ 50 ≤ k → rU T i U n k = U k := by
  intro n
  induction n with
  | zero => intro k _; rfl
  | succ n ih => intro k hk; rw [rU_s, uN_n (by omega), sGoer_fix hi k (by omega)]; exact ih k hk
theorem rU_wf {T : sT} (hT : TLt T) (hW : Wf B U) (hi : i < U 60) : ∀ n, B + 5 * n < 800000 → Wf (B + 5 * n) (rU T i U n) := by
  intro n
  have h4 : i < 4 := by have := hW.2.2.2.1.2; omega
  induction n with
  | zero => intro _; exact hW
  | succ n ih =>
    intro hn
    have h1 := ih (by omega)
    have k60 : rU T i U n 60 = U 60 := rU_fix h4 n 60 (by omega)
    have h2 := (sGoer_wf hT h1 (by omega) (i := i) (by omega)).mo (show B + 5 * n + 4 ≤ B + 5 * (n + 1) by omega)
    have b49 := h1.2.2.2.2.2.2.2.1
    rw [rU_s]
    exact h2.up (by omega) (by omega) (by omega) (by omega) (by omega) (by omega) (by omega) (by omega) (by omega) (by omega) (by omega) (by omega) (by omega)
theorem r_paths (hcx : RK g V0 ∧ RLw g Ls cur) (h : TldS g S) (hb : ShB S) (hA : sAgr S) (hV : V0 = shV S) (hW : Wf B V0) (hB : B < 400000) (hi : i < V0 60) :
    ∃ g', fX12_laysPaths La (nI i) g = some g' ∧ Fy KQ SQ g g' ∧ RLw g' Ls cur ∧ ∀ q, q < 16 → ∀ k, k < 31 → g'.1 60 (31 * q + k) = nI (rU (sTof Ls cur) i (U0 V0 i q) k (30 + i)) := by
  have h60 := hW.2.2.2.1.2
  have h4 : i < 4 := by omega
  have hT := sTof_lt (Ls := Ls) (cur := cur)
  have tld : ∀ z, Fy KQ SQ g z → TldS z S := fun z hz => by
    unfold TldS
    rw [hz.1 44 (by omega) (by omega), hz.1 46 (by omega) (by omega), hz.1 48 (by omega) (by omega), hz.2.1 27 (by omega)]; exact h
  unfold fX12_laysPaths
  refine lp (fun f p z => fX12_laysPaths_2 La f (nI i) (nI (p + 1)) z) (fun p z => Fy KQ SQ g z ∧ RLw z Ls cur ∧ ∀ q, q < 4 * p → ∀ k, k < 31 → z.1 60 (31 * q + k) = nI (rU (sTof Ls cur) i (U0 V0 i q) k (30 + i))) 4
    (fun r => ∃ g', r = some g' ∧ Fy KQ SQ g g' ∧ RLw g' Ls cur ∧ ∀ q, q < 16 → ∀ k, k < 31 → g'.1 60 (31 * q + k) = nI (rU (sTof Ls cur) i (U0 V0 i q) k (30 + i))) ?_ ?_ gz_FU 0 g (by omega) (by unfold gz_FU; omega) ⟨Fy.z0, hcx.2, fun q hq => absurd hq (by omega)⟩
  · intro f p z hp ⟨q1, q2, q3⟩
    rw [fX12_laysPaths_2, if_neg (show ¬ (4 : Int32) < nI (p + 1) by show ¬ nI 4 < nI (p + 1); rw [n_lt (by omega) (by omega)]; omega)]
    generalize hK : (fun (x1 : Int32) (x2 : Int32) g => gz_let (x2 + 1) (fun y112 => fX12_laysPaths_2 La f x1 y112 g)) = K112
    refine lp (fun f2 x z => fX12_laysPaths_9 La K112 f2 (nI i) (nI (p + 1)) (nI x) z) (fun x z => Fy KQ SQ g z ∧ RLw z Ls cur ∧ ∀ q, q < 4 * p + x → ∀ k, k < 31 → z.1 60 (31 * q + k) = nI (rU (sTof Ls cur) i (U0 V0 i q) k (30 + i))) 4
      (fun r => (∃ g', r = some g' ∧ Fy KQ SQ g g' ∧ RLw g' Ls cur ∧ ∀ q, q < 16 → ∀ k, k < 31 → g'.1 60 (31 * q + k) = nI (rU (sTof Ls cur) i (U0 V0 i q) k (30 + i))) ∨ ∃ g', r = fX12_laysPaths_2 La f (nI i) (nI (p + 1 + 1)) g' ∧ Fy KQ SQ g g' ∧ RLw g' Ls cur ∧ ∀ q, q < 4 * (p + 1) → ∀ k, k < 31 → g'.1 60 (31 * q + k) = nI (rU (sTof Ls cur) i (U0 V0 i q) k (30 + i))) ?_ ?_ gz_FU 0 z (by omega) (by unfold gz_FU; omega) ⟨q1, q2, q3⟩
    · intro f2 x z hx ⟨m1, m2, m3⟩
      refine Or.inr ?_
      obtain ⟨g2, v1, v2, v3, _⟩ := r_lays (La := La) (Or.inr rfl) (tld z m1) hb hA
      have v2y : Fy KQ SQ z g2 := (Fz.y v2).mo (fun k hk => hk.elim) (fun j hj => by have := hj; omega)
      have F2 := m1.tr v2y
      have x2 : CX g2 54 V0 Ls cur := ⟨by rw [hV]; exact v3, hcx.1.fr F2 (by omega) (by omega) (by omega), m2.fr (Fz.y v2) id id (by omega) (by omega) (by omega) (by omega) (by omega)⟩
      have x3 := (x2.up (Or.inr rfl) (k := 34 + i) (x := x) (by omega) (rp_1 h4)).m50 (x := p + 1) (j := 50 + i) (by rw [uN_n (by omega)]; exact h60) (by omega)
      have eU : uN (uN V0 (34 + i) x) (50 + i) (p + 1) = U0 V0 i (4 * p + x) := by
        unfold U0; rw [show (4 * p + x) % 4 = x by omega, show (4 * p + x) / 4 = p by omega]
      rw [eU] at x3
      have F3 : Fy KQ SQ g (gz_wi g2 54 (30 + 4 * i + 1) (nI x)) := F2.s (by omega) (by omega)
      have hWU := U0_wf (i := i) (q := 4 * p + x) hW h4 (by omega)
      have k60 : U0 V0 i (4 * p + x) 60 = V0 60 := by unfold U0; rw [uN_n (by omega), uN_n (by omega)]
      have m60 : ∀ k, (gz_wi g2 54 (30 + 4 * i + 1) (nI x)).1 60 k = z.1 60 k := fun k => by rw [wi_no (by omega), v2.1 60 (by omega) (by omega)]
      rw [fX12_laysPaths_9, if_neg (show ¬ (4 : Int32) ≤ nI x by show ¬ nI 4 ≤ nI x; rw [n_le (by omega) (by omega)]; omega), v1, Option.bind_some, ix_0, show nI (30 + 4 * i) + (1 : Int32) = nI (30 + 4 * i + 1) from n_add _ 1, if_pos (n_okP (by omega) (by omega)), gz_let_eq, n_cl (by omega), gz_let_eq, show nI (p + 1) - (1 : Int32) = nI p from n_sub (a := p + 1) (b := 1) (by omega), show (4 : Int32) * nI p = nI (4 * p) from n_mul 4 p, n_add, show (31 : Int32) * nI (4 * p + x) = nI (31 * (4 * p + x)) from n_mul 31 _]
      generalize hq : 4 * p + x = q at *
      generalize gz_wi g2 54 (30 + 4 * i + 1) (nI x) = g3 at *
      have m3' : ∀ q', q' < q → ∀ k, k < 31 → g3.1 60 (31 * q' + k) = nI (rU (sTof Ls cur) i (U0 V0 i q') k (30 + i)) := fun q' hq' k hk => by rw [m60]; exact m3 q' hq' k hk
      generalize hK2 : (fun (x1 : Int32) (x2 : Int32) (x3 : Int32) g => gz_let (x3 + 1) (fun y106 => fX12_laysPaths_9 La K112 f2 x1 x2 y106 g)) = K106
      refine lp (fun f3 t z => fX12_laysPaths_51 La K106 f3 (nI i) (nI (p + 1)) (nI x) (nI (31 * q)) (nI t) z) (fun t z => Fy KQ SQ g z ∧ CX z 54 (rU (sTof Ls cur) i (U0 V0 i q) t) Ls cur ∧ (∀ q', q' < q → ∀ k, k < 31 → z.1 60 (31 * q' + k) = nI (rU (sTof Ls cur) i (U0 V0 i q') k (30 + i))) ∧ ∀ k, k < t → z.1 60 (31 * q + k) = nI (rU (sTof Ls cur) i (U0 V0 i q) k (30 + i))) 31
        (fun r => ∃ g', r = fX12_laysPaths_9 La K112 f2 (nI i) (nI (p + 1)) (nI (x + 1)) g' ∧ Fy KQ SQ g g' ∧ RLw g' Ls cur ∧ ∀ q', q' < 4 * p + (x + 1) → ∀ k, k < 31 → g'.1 60 (31 * q' + k) = nI (rU (sTof Ls cur) i (U0 V0 i q') k (30 + i))) ?_ ?_ gz_FU 0 g3 (by omega) (by unfold gz_FU; omega) ⟨F3, x3, m3', fun k hk => absurd hk (Nat.not_lt_zero _)⟩
      · intro f3 t z ht ⟨r1, r2, r3, r4⟩
        have hWt := rU_wf hT hWU (i := i) (by omega) t (by omega)
        have kt60 : rU (sTof Ls cur) i (U0 V0 i q) t 60 = V0 60 := (rU_fix h4 t 60 (by omega)).trans k60
        have kp : rU (sTof Ls cur) i (U0 V0 i q) t (50 + i) = p + 1 := by
          rw [rU_fix h4 t _ (by omega)]; unfold U0; rw [uN_s]; omega
        have b30 := (hWt.2.2.2.2.2.2.2.2.2.1 i h4).1
        have b49 := hWt.2.2.2.2.2.2.2.1
        have hcell : z.1 54 (30 + 4 * i) = nI (rU (sTof Ls cur) i (U0 V0 i q) t (30 + i)) := (r2.at0 (i := i) h4).1
        have Fz4 : Fy (fun _ => False) (fun j => j = 60) z (gz_wi z 60 (31 * q + t) (nI (rU (sTof Ls cur) i (U0 V0 i q) t (30 + i)))) := Fy.z0.s (by omega) rfl
        have F4 : Fy KQ SQ z (gz_wi z 60 (31 * q + t) (nI (rU (sTof Ls cur) i (U0 V0 i q) t (30 + i)))) := Fy.z0.s (by omega) (by omega)
        have x4 : CX (gz_wi z 60 (31 * q + t) (nI (rU (sTof Ls cur) i (U0 V0 i q) t (30 + i)))) 54 (rU (sTof Ls cur) i (U0 V0 i q) t) Ls cur :=
          ⟨r2.1.fr (by rw [Fz4.1 54 (by omega) (by omega)]), r2.2.1.fr F4 (by omega) (by omega) (by omega), r2.2.2.fr Fz4 id id (by omega) (by omega) (by omega) (by omega) (by omega)⟩
        obtain ⟨g5, s1, s2, s3⟩ := r_goesOn (La := La) (Or.inr rfl) x4 hWt (by omega) (i := i) (by omega)
        rw [kp] at s1
        have F5 : Fy KQ SQ (gz_wi z 60 (31 * q + t) (nI (rU (sTof Ls cur) i (U0 V0 i q) t (30 + i)))) g5 := s2.1.mo (fun k hk => by have := hk; omega) (fun j hj => by have := hj; omega)
        have e60 : g5.1 60 = (gz_wi z 60 (31 * q + t) (nI (rU (sTof Ls cur) i (U0 V0 i q) t (30 + i)))).1 60 := s2.1.1 60 (by omega) (by omega)
        have h49 : g5.1 54 49 = nI (rU (sTof Ls cur) i (U0 V0 i q) t 49) := by
          have := s3.1 49 (by omega)
          rw [rp_n (by omega), sGoer_fix h4 49 (by omega)] at this; exact this
        have x6 := s3.up (Or.inr rfl) (k := 49) (x := rU (sTof Ls cur) i (U0 V0 i q) t 49 + 1) (by omega) (rp_n (by omega))
        rw [← rU_s] at x6
        refine Or.inr ⟨gz_wi g5 54 49 (nI (rU (sTof Ls cur) i (U0 V0 i q) t 49 + 1)), ?_, (r1.tr (F4.tr F5)).s (by omega) (by omega), x6, fun q' hq' k hk => ?_, fun k hk => ?_⟩
        · rw [fX12_laysPaths_51, if_neg (show ¬ (30 : Int32) < nI t by show ¬ nI 30 < nI t; rw [n_lt (by omega) (by omega)]; omega), ix_0, n_add, if_pos (n_okP (by omega) (by omega)), if_pos (n_okP (by omega) (by omega)), gz_let_eq, n_cl (by omega), n_cl (by omega), hcell, s1, Option.bind_some, gz_let_eq, gz_let_eq, h49, show nI (rU (sTof Ls cur) i (U0 V0 i q) t 49) + (1 : Int32) = nI (rU (sTof Ls cur) i (U0 V0 i q) t 49 + 1) from n_add _ 1, show nI t + (1 : Int32) = nI (t + 1) from n_add _ _]
        · rw [wi_no (by omega), e60, wi_sn (by omega)]; exact r3 q' hq' k hk
        · rw [wi_no (by omega), e60]
          by_cases c : k = t
          · rw [c, wi_ss]
          · rw [wi_sn (by omega)]; exact r4 k (by omega)
      · intro f3 z ⟨r1, r2, r3, r4⟩
        refine ⟨z, ?_, r1, r2.2.2, fun q' hq' k hk => ?_⟩
        · rw [fX12_laysPaths_51, if_pos (show (30 : Int32) < nI 31 by decide), ← hK2]
          show gz_let (nI x + 1) _ = _
          rw [gz_let_eq, show nI x + (1 : Int32) = nI (x + 1) from n_add _ _]
        · by_cases c : q' = q
          · rw [c]; exact r4 k hk
          · exact r3 q' (by omega) k hk
    · intro f2 z ⟨m1, m2, m3⟩
      refine Or.inr ⟨z, ?_, m1, m2, fun q hq => m3 q (by omega)⟩
      rw [fX12_laysPaths_9, if_pos (show (4 : Int32) ≤ nI 4 by decide), ← hK]
      show gz_let (nI (p + 1) + 1) _ = _
      rw [gz_let_eq, show nI (p + 1) + (1 : Int32) = nI (p + 1 + 1) from n_add _ _]
  · intro f z ⟨q1, q2, q3⟩
    refine ⟨z, ?_, q1, q2, fun q hq => q3 q (by omega)⟩
    rw [fX12_laysPaths_2]; exact if_pos (by decide)
/-- they are the class's traces -/
theorem rU_tr {T : sT} {q k : Nat} (hT : TLt T) (hW : Wf B V0) (hB : B < 400000) (hi : i < V0 60) (hh : V0 (42 + i) = 0) (hq : q < 16) (hk : k < 31) : rU T i (U0 V0 i q) k (30 + i) = sTr T V0 i q k := by
  have h60 := hW.2.2.2.1.2
  have h4 : i < 4 := by omega
  have hWA := sAlone_wf hW h4 hq
  have a60 : sAlone V0 i q 60 = V0 60 := by unfold sAlone; rw [uN_n (by omega), uN_n (by omega)]; exact if_neg (by omega)
  have hag : Ag i (U0 V0 i q) (sAlone V0 i q) := by
    have base : Ag i V0 (sAl V0 i (V0 60)) := by
      intro k hk
      unfold sAl
      by_cases c : 42 ≤ k ∧ k < 42 + V0 60
      · rw [if_pos c]
        have : k = 42 + i := by unfold agK at hk; omega
        rw [if_pos this, this, hh]
      · rw [if_neg c]
    exact base.up.up
  have ho : ∀ j, j < sAlone V0 i q 60 → j ≠ i → ¬ sAlone V0 i q (42 + j) = 0 := by
    intro j hj hji
    rw [a60] at hj
    unfold sAlone
    rw [uN_n (by omega), uN_n (by omega)]
    unfold sAl
    rw [if_pos (by omega), if_neg (by omega)]; decide
  exact (rU_ag hT hag hWA (by omega) ho k (by omega)).1 (30 + i) (by unfold agK; omega)
end RW
