/-! call run -/
section RW
variable {g : gz_S} {V W U : Nat → Nat} {B : Nat} {La : gz_L} {Ls : List (List Nat)} {cur : Option Nat} {e : sE}
/-- the copy begins its log anew -/
theorem r_copy50 {g' : gz_S} (h : fX12_copy La g = some g') : g'.1 54 50 = 0 := by
  have key : ∃ z, fX12_copy La g = some z ∧ z.1 54 50 = 0 := by
    unfold fX12_copy
    refine lp (fun f i g1 => fX12_copy_2 La (fun g => gz_let (gz_wi g 54 50 0) (fun g24 => some g24)) f (nI i) g1) (fun i g1 => True) 50 (fun q => ∃ z, q = some z ∧ z.1 54 50 = 0) ?_ ?_ gz_FU 0 g (by omega) (by unfold gz_FU; omega) trivial
    · intro f i g1 hi _
      refine Or.inr ⟨gz_wi g1 54 i (g1.1 53 i), ?_, trivial⟩
      show fX12_copy_2 La _ (f + 1) (nI i) g1 = _
      rw [fX12_copy_2, if_neg (show ¬ (50 : Int32) ≤ nI i by show ¬ nI 50 ≤ nI i; rw [n_le (by omega) (by omega)]; omega), if_pos (n_okP (by omega) (by omega)), if_pos (n_okP (by omega) (by omega)), gz_let_eq, n_cl (by omega), gz_let_eq, show nI i + (1 : Int32) = nI (i + 1) from n_add _ _]
    · intro f g1 _
      refine ⟨gz_wi g1 54 50 0, ?_, wi_ss⟩
      show fX12_copy_2 La _ (f + 1) (nI 50) g1 = _
      rw [fX12_copy_2, if_pos (show (50 : Int32) ≤ nI 50 by decide), gz_let_eq]
  obtain ⟨z, h1, h2⟩ := key
  rw [h] at h1
  have : g' = z := by injection h1
  rw [this]; exact h2
def PlR (g : gz_S) (E : Nat) (e : sE) : Prop := E < 4 ∧ e.1 ≤ 16 ∧ g.1 52 E = nI e.1 ∧ ∀ i, i < e.1 → PlE g (48 * E + 3 * i) (e.2.1 i) (e.2.2.1 i) (e.2.2.2 i)
theorem PlR.fr {E : Nat} {K S : Nat → Prop} {g' : gz_S} (h : PlR g E e) (hF : Fy K S g g') (h1 : ¬ S 51) (h2 : ¬ S 52) : PlR g' E e := by
  unfold PlR PlE; rw [hF.1 51 (by omega) h1, hF.1 52 (by omega) h2]; exact h
theorem r_run50 (h : CX g 54 V Ls cur) (hp : RKp g V) (hW : Wf B V) (hB : B < 400000) {E : Nat} (hpl : PlR g E e) {w k : Nat} (hw : w ≤ 1) (hs : RStp (sTof Ls cur) V e k) (h50 : g.1 54 50 = 0) :
    ∃ g', fX12_run_50 La (fX12_run_106 La) gz_FU (nI E) (nI w) 0 0 g = some (vRun (sTof Ls cur) V e w k, g') ∧ Fy KQ SQ g g' ∧ RLw g' Ls cur := by
  obtain ⟨s1, s2, s3⟩ := hs
  have he16 := hpl.2.1
  have hT := sTof_lt (Ls := Ls) (cur := cur)
  have hwl : ∀ i, i < e.1 → sWell (e.2.1 i) (e.2.2.1 i) (e.2.2.2 i) := fun i hi => (hpl.2.2.2 i hi).1.2
  have ok := rR_ok (T := sTof Ls cur) hT hW hwl
  have ix : ∀ i, (3 : Int32) * (((16 : Int32) * nI E) + nI i) = nI (48 * E + 3 * i) := fun i => by
    rw [show (16 : Int32) * nI E = nI (16 * E) from n_mul 16 E, n_add, show (3 : Int32) * nI (16 * E + i) = nI (3 * (16 * E + i)) from n_mul 3 _, show 3 * (16 * E + i) = 48 * E + 3 * i by omega]
  refine lp (fun f i z => fX12_run_50 La (fX12_run_106 La) f (nI E) (nI w) (nI i) (nI (rR (sTof Ls cur) V e i).2) z) (fun i z => Fy KQ SQ g z ∧ CX z 54 (rR (sTof Ls cur) V e i).1 Ls cur ∧ RKp z (rR (sTof Ls cur) V e i).1 ∧ ∃ m, m ≤ i ∧ z.1 54 50 = nI m) k
    (fun r => ∃ g', r = some (vRun (sTof Ls cur) V e w k, g') ∧ Fy KQ SQ g g' ∧ RLw g' Ls cur) ?_ ?_ gz_FU 0 g (by omega) (by unfold gz_FU; omega) ⟨Fy.z0, h, hp, 0, Nat.le_refl _, h50⟩
  · intro f i z hi ⟨q1, q2, q3, m, q4, q5⟩
    obtain ⟨i1, i2, i3⟩ := ok i (by omega) (by omega) (fun j hj => s2 j (by omega))
    have hz := hpl.fr q1 (by omega) (by omega)
    have hE4 := hz.1
    have hple := hz.2.2.2 i (by omega)
    have hm := s2 i hi
    have h60 := i1.2.2.2.1.2
    refine Or.inr ?_
    rw [fX12_run_50, if_pos (n_okP (by omega) (by omega)), n_cl (by omega), hz.2.2.1, if_neg (show ¬ nI e.1 ≤ nI i by rw [n_le (by omega) (by omega)]; omega), ix, r_canStep q2 i1 (by omega) hple, Option.bind_some]
    refine ex_q (if_neg (pI1 hm)) ?_
    by_cases c : e.2.1 i = 0
    · obtain ⟨g2, u1, u2, u3, u4, u5⟩ := r_goHour54 (La := La) q2 q3 i1 (by omega) (k := m) (by omega) q5
      have e1 := rR_s (sTof Ls cur) V e i
      rw [if_pos c] at e1
      refine ⟨g2, ?_, q1.tr u2, by rw [e1]; exact u3, by rw [e1]; exact u4, m + 1, by omega, u5⟩
      rw [r_goPlan0 (by rw [c] at hple; exact hple), u1, Option.bind_some, Option.bind_some, gz_let_eq, gz_let_eq, show nI i + (1 : Int32) = nI (i + 1) from n_add _ _]
      show fX12_run_50 La _ f _ _ _ (nI (rR (sTof Ls cur) V e i).2 + nI (sMet (sTof Ls cur) (rR (sTof Ls cur) V e i).1)) g2 = _
      rw [n_add, e1]
    · obtain ⟨g2, u1, u2, u3⟩ := r_goPlan (La := La) (Or.inr rfl) q2 i1 hple c hm
      have e1 := rR_s (sTof Ls cur) V e i
      rw [if_neg c] at e1
      have F2 : Fy KQ SQ z g2 := u2.1.mo (fun k hk => by have := hk; omega) (fun j hj => by have := hj; omega)
      obtain ⟨d1, d2⟩ := sDo_ok i1 (hwl i (by omega)) c hm
      refine ⟨g2, ?_, q1.tr F2, by rw [e1]; exact u3, by rw [e1]; exact (q3.fr u2.1 (by omega)).mo (fun k hk => d2 k (by omega)) h60, m, by omega, (u2.2 50 (by omega)).trans q5⟩
      rw [u1, Option.bind_some, gz_let_eq, gz_let_eq, show nI i + (1 : Int32) = nI (i + 1) from n_add _ _, e1]
      show fX12_run_50 La _ f _ _ _ (nI (rR (sTof Ls cur) V e i).2 + nI 0) g2 = _
      rw [n_add]; rfl
  · intro f z ⟨q1, q2, q3, m, q4, q5⟩
    obtain ⟨i1, i2, i3⟩ := ok k s1 (by omega) s2
    have hz := hpl.fr q1 (by omega) (by omega)
    have hE4 := hz.1
    refine ⟨z, ?_, q1, q2.2.2⟩
    have fin : fX12_run_106 La (nI E) (nI w) (nI k) (nI (rR (sTof Ls cur) V e k).2) z = some (vRun (sTof Ls cur) V e w k, z) := by
      unfold fX12_run_106 vRun
      by_cases c0 : w = 0
      · rw [if_neg (show ¬ nI w = 1 by rw [c0]; decide), if_pos c0, if_pos (n_okP (by omega) (by omega)), n_cl (by omega), hz.2.2.1]
        by_cases c : k = e.1
        · rw [if_pos c, if_pos (by rw [c])]
        · rw [if_neg c, if_neg (by rw [n_eq (by omega) (by omega)]; exact c)]
      · rw [if_pos (show nI w = 1 by rw [show w = 1 by omega]; rfl), if_neg c0]
    rw [fX12_run_50, if_pos (n_okP (by omega) (by omega)), n_cl (by omega), hz.2.2.1]
    by_cases c : k = e.1
    · rw [if_pos (show nI e.1 ≤ nI k by rw [n_le (by omega) (by omega)]; omega)]; exact fin
    · rw [if_neg (show ¬ nI e.1 ≤ nI k by rw [n_le (by omega) (by omega)]; omega), ix, r_canStep q2 i1 (by omega) (hz.2.2.2 k (by omega)), Option.bind_some]
      exact (if_pos (pI0 (s3 (by omega)))).trans fin
end RW
