/-! an hour on the trial -/
section RW
variable {g : gz_S} {V W U : Nat → Nat} {B : Nat} {La : gz_L} {Ls : List (List Nat)} {cur : Option Nat}
theorem r_goHour54 (h : CX g 54 V Ls cur) (hp : RKp g V) (hW : Wf B V) (hB : B < 700000) {k : Nat} (hk : k < 60) (h50 : g.1 54 50 = nI k) :
    ∃ g', fX12_goHour La 54 g = some (nI (sMet (sTof Ls cur) V), g') ∧ Fy KQ SQ g g' ∧ CX g' 54 (sHour (sTof Ls cur) V) Ls cur ∧ RKp g' (sHour (sTof Ls cur) V) ∧ g'.1 54 50 = nI (k + 1) := by
  have h60 := hW.2.2.2.1.2
  obtain ⟨g1, u1, u2, u3, _⟩ := r_passes (La := La) (Or.inr rfl) h hp hW hB
  have F1 : Fy KQ SQ g g1 := u2.1.mo (fun k hk => by have := hk; omega) (fun j hj => by have := hj; omega)
  have k50 : g1.1 54 50 = nI k := (u2.2 50 (by omega)).trans h50
  have kp1 : RKp g1 (sHour (sTof Ls cur) V) := (hp.fr u2.1 (by omega)).mo (fun k hk => sHour_fix h60 (by omega)) h60
  generalize sHour (sTof Ls cur) V = U at *
  generalize nI (sMet (sTof Ls cur) V) = x2 at *
  unfold fX12_goHour
  rw [u1, Option.bind_some]
  refine ex_q (if_neg (by show ¬ g1.1 54 50 = nI 60; rw [k50, n_eq (by omega) (by omega)]; omega)) ?_
  unfold fX12_goHour_52
  rw [k50, show (3 : Int32) * nI k = nI (3 * k) from n_mul 3 k, show (51 : Int32) + nI (3 * k) = nI (51 + 3 * k) from n_add 51 _, gz_let_eq, if_pos (n_okP (by omega) (by omega)), gz_let_eq, n_cl (by omega), show nI (51 + 3 * k) + (1 : Int32) = nI (51 + 3 * k + 1) from n_add _ 1, if_pos (n_okP (by omega) (by omega)), gz_let_eq, n_cl (by omega), show nI (51 + 3 * k) + (2 : Int32) = nI (51 + 3 * k + 2) from n_add _ 2, if_pos (n_okP (by omega) (by omega)), gz_let_eq, n_cl (by omega), gz_let_eq]
  have up : ∀ (z : gz_S) (j : Nat) (x : Int32), 50 ≤ j → Fy KQ SQ g z → CX z 54 U Ls cur → RKp z U → Fy KQ SQ g (gz_wi z 54 j x) ∧ CX (gz_wi z 54 j x) 54 U Ls cur ∧ RKp (gz_wi z 54 j x) U := by
    intro z j x hj hz1 hz2 hz3
    have F : Fy KQ SQ z (gz_wi z 54 j x) := Fy.z0.s (by omega) (by omega)
    have F' : Fy (fun _ => False) (fun j => j = 54) z (gz_wi z 54 j x) := Fy.z0.s (by omega) rfl
    exact ⟨hz1.tr F, ⟨fun k hk => by rw [wi_sn (by have := rp_lt hk; omega)]; exact hz2.1 k hk, hz2.2.1.fr F (by omega) (by omega) (by omega), hz2.2.2.fr F' id id (by omega) (by omega) (by omega) (by omega) (by omega)⟩, hz3.fr F (by omega)⟩
  obtain ⟨a1, a2, a3⟩ := up g1 (51 + 3 * k) x2 (by omega) F1 u3 kp1
  obtain ⟨b1, b2, b3⟩ := up _ (51 + 3 * k + 1) ((gz_wi g1 54 (51 + 3 * k) x2).1 39 39) (by omega) a1 a2 a3
  obtain ⟨c1, c2, c3⟩ := up _ (51 + 3 * k + 2) ((gz_wi (gz_wi g1 54 (51 + 3 * k) x2) 54 (51 + 3 * k + 1) ((gz_wi g1 54 (51 + 3 * k) x2).1 39 39)).1 54 46) (by omega) b1 b2 b3
  have e50 : (gz_wi (gz_wi (gz_wi g1 54 (51 + 3 * k) x2) 54 (51 + 3 * k + 1) ((gz_wi g1 54 (51 + 3 * k) x2).1 39 39)) 54 (51 + 3 * k + 2) ((gz_wi (gz_wi g1 54 (51 + 3 * k) x2) 54 (51 + 3 * k + 1) ((gz_wi g1 54 (51 + 3 * k) x2).1 39 39)).1 54 46)).1 54 50 = nI k := by
    rw [wi_sn (by omega), wi_sn (by omega), wi_sn (by omega)]; exact k50
  generalize gz_wi (gz_wi (gz_wi g1 54 (51 + 3 * k) x2) 54 (51 + 3 * k + 1) ((gz_wi g1 54 (51 + 3 * k) x2).1 39 39)) 54 (51 + 3 * k + 2) ((gz_wi (gz_wi g1 54 (51 + 3 * k) x2) 54 (51 + 3 * k + 1) ((gz_wi g1 54 (51 + 3 * k) x2).1 39 39)).1 54 46) = g4 at *
  obtain ⟨d1, d2, d3⟩ := up g4 50 (g4.1 54 50 + 1) (by omega) c1 c2 c3
  refine ⟨_, rfl, d1, d2, d3, ?_⟩
  rw [wi_ss, e50]; exact n_add _ 1
end RW
