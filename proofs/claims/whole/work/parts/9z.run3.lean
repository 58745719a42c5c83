/-! call run: both -/
section ST
variable {La : gz_L} {g : gz_S} {l : List Nat} {Ls : List (List Nat)} {Es : List (List eS)} {cur : Option Nat} {lv : Nat} {V V0 : Nat → Nat} {a : Nat} {K : Nat → Nat → Nat} {Lg : Nat → Nat} {him : Nat} {IV ILg : Nat → Nat} {s : sS} {B : Nat}
theorem PlR.of {E : Nat} (hC : ClW La g l Ls Es cur lv V V0 a K Lg him IV ILg s) (hR : ReW g l Ls Es cur lv V V0 a K Lg him IV ILg s) (hE : E < Es.length) : PlR g E (eOf (Es.getD E [])) := by
  obtain ⟨t1, ⟨t2a, t2b, t2c, t2d⟩, t3, t4, t5, t6, t7, t8, t9, t10, t11⟩ := hC.1
  obtain ⟨p1, p2, p3⟩ := hR.1.2.2.1
  obtain ⟨q1, q2, q3⟩ := p3 E hE
  have hev := t11 E hE
  generalize Es.getD E [] = le at *
  refine ⟨by omega, q3, q2, fun i hi => ?_⟩
  have hi : i < le.length := hi
  have q3 : le.length ≤ 16 := q3
  obtain ⟨f1, f2, f3⟩ := q1 i _ (ev_at hi)
  exact ⟨⟨by omega, (hev.2.2.2 i hi).2.2.2⟩, f1, f2, f3⟩
theorem w_run (hw : WR La g B) (hB : B < 400000) (x x2 : Int32) : CallOk La (fX11_run La x x2) (fX12_run La x x2) g B := by
  obtain ⟨l, Ls, Es, cur, lv, V, V0, a, K, Lg, him, IV, ILg, s, hC, hR, hI⟩ := hw
  have hg4 := hI.g4
  have h21 := Int32.toInt_lt x2
  have h22 := Int32.le_toInt x2
  obtain ⟨t1, ⟨t2a, t2b, t2c, t2d⟩, t3, t4, t5, t6, t7, t8, t9, t10, t11⟩ := hC.1
  have ce := c_eveningOf (x := x) t4 t2b t2d
  by_cases y1 : 0 ≤ x.toInt ∧ x.toInt < (Es.length : Int)
  · obtain ⟨E, i1, rfl, i3⟩ := x_of (x := x) y1.1
    have hE : E < Es.length := by omega
    have hev := t11 E hE
    have hge : gz_ev La (110 + 2 * E) := ⟨by omega, by omega, by omega, by omega⟩
    have k1 : fX11_run La (nI E) x2 g = (if pI (0 < V 60) = 0 then some ((-1000000), g) else if x2 < 0 then some ((-1000000), g) else if x2 ≤ 1 then (fX6_copy La 7 6 g).bind (fun q41 => fX11_run_50 La (110 + 2 * E) (fun (x2 : Int32) (x4 : Int32) g => if x2 = 0 then some ((-1), g) else some (x4, g)) (fun (x2 : Int32) (x4 : Int32) (x5 : Int32) g => if x2 = 0 then some (x5, g) else some (x4, g)) gz_FU x2 0 0 q41) else some ((-1000000), g)) := by
      unfold fX11_run
      rw [ce, if_pos y1, Option.bind_some]
      show (if gz_ev La (110 + 2 * (nI E).toInt.toNat) then _ else none) = _
      rw [show (nI E).toInt.toNat = E by omega, if_pos hge, c_hasShore (w := 6) hC.2.1 hI.b, Option.bind_some]
    have k2 : ∀ z, ReW z l Ls Es cur lv V V0 a K Lg him IV ILg s → fX12_run La (nI E) x2 z = (if nI (V 60) = 0 then some ((-1000000), gz_wi z 39 0 0) else (fX12_isIn La (Int32.toInt64 x2) 0 1 (gz_wi z 39 0 0)).bind (fun q24 => if q24.1 = 0 then some ((-1000000), q24.2) else (fX12_copy La q24.2).bind (fun q42 => fX12_run_50 La (fX12_run_106 La) gz_FU (nI E) x2 0 0 q42))) := by
      intro z hz
      obtain ⟨hR0, F0⟩ := hz.f0
      obtain ⟨p1, p2, p3⟩ := hR0.1.2.2.1
      have rp := r_isPlan (La := La) (x := nI E) p1 p2
      have n27 := hR0.n27 hI
      unfold fX12_run
      rw [gz_let_eq, rp, Option.bind_some]
      refine (if_neg (pI1 y1)).trans ?_
      show (if (gz_wi z 39 0 0).1 39 27 = 0 then _ else _) = _
      rw [n27]
    by_cases h0 : V 60 = 0
    · exact CallOk.no (v := -1000000) (k1.trans (if_pos (pI0 (by omega)))) ((k2 g hR).trans (if_pos (by rw [h0]; rfl))) hC hR hI
    · have k1 := k1.trans (if_neg (pI1 (by omega)))
      have k2 := fun z hz => (k2 z hz).trans (if_neg (show ¬ nI (V 60) = 0 by show ¬ _ = nI 0; rw [n_eq (by omega) (by omega)]; exact h0))
      by_cases y2 : 0 ≤ x2.toInt ∧ x2.toInt ≤ 1
      · obtain ⟨w, w1, rfl, w3⟩ := x_of (x := x2) y2.1
        obtain ⟨hW, h49, _⟩ := hI.2.2.1 h0
        obtain ⟨k, hk⟩ := stp_ex (sTof Ls cur) V (eOf (Es.getD E []))
        have k1 := k1.trans ((if_neg (show ¬ nI w < nI 0 by rw [n_lt (by omega) (by omega)]; omega)).trans (if_pos (show nI w ≤ nI 1 by rw [n_le (by omega) (by omega)]; omega)))
        refine CallOk.q (v := vRun (sTof Ls cur) V (eOf (Es.getD E [])) w k) hC hR hI ?_ (fun g1 hR1 => ?_)
        · have hCF := hC.cf hW
          obtain ⟨g1, u1, u2⟩ := c_run50 (La := La) hCF hB (E := 110 + 2 * E) (by omega) hev (w := w) (by omega) hk ⟨_, rfl⟩
          refine ⟨g1, k1.trans ?_, u2⟩
          rw [c_spare (Or.inr rfl) hC.2.1 hC.2.2.2.2.1 hC.2.2.2.1, Option.bind_some]; exact u1
        · obtain ⟨hcx, hkp⟩ := hR1.f0.1.cx hI h0
          obtain ⟨g2, v1, v2, v3, v4⟩ := r_copy (La := La) hcx hkp
          have h50 := r_copy50 (La := La) v1
          have hF2 := hR1.f0q.tr v2
          -- the plan as the class holds it, in the reference's rows
          have hpl : PlR g1 E (eOf (Es.getD E [])) := by
            obtain ⟨p1, p2, p3⟩ := hR1.1.2.2.1
            obtain ⟨q1, q2, q3⟩ := p3 E hE
            refine ⟨by omega, q3, q2, fun i hi => ?_⟩
            have hi' : i < (Es.getD E []).length := hi
            obtain ⟨f1, f2, f3⟩ := q1 i _ (ev_at hi')
            exact ⟨⟨by omega, (hev.2.2.2 i hi).2.2.2⟩, f1, f2, f3⟩
          obtain ⟨g3, r1, r2, r3⟩ := r_run50 (La := La) v3 v4 hW hB (hpl.fr hF2 (by omega) (by omega)) (w := w) (by omega) hk h50
          refine ⟨g3, (k2 g1 hR1).trans ?_, hF2.tr r2, r3⟩
          rw [x_l, show (0 : Int64) = Int64.ofInt 0 from rfl, show (1 : Int64) = Int64.ofInt 1 from rfl, r_isInZ (by omega) (by omega) (by omega), Option.bind_some]
          refine (if_neg (pI1 y2)).trans ?_
          rw [v1, Option.bind_some]; exact r1
      · refine CallOk.no (v := -1000000) (k1.trans ?_) ((k2 g hR).trans ?_) hC hR hI
        · by_cases c : x2.toInt < 0
          · exact if_pos (show x2 < nI 0 by rw [x_lt (by omega)]; omega)
          · exact (if_neg (show ¬ x2 < nI 0 by rw [x_lt (by omega)]; omega)).trans (if_neg (show ¬ x2 ≤ nI 1 by rw [x_le (by omega)]; omega))
        · rw [x_l, show (0 : Int64) = Int64.ofInt 0 from rfl, show (1 : Int64) = Int64.ofInt 1 from rfl, r_isInZ (by omega) (by omega) (by omega), Option.bind_some]
          exact if_pos (pI0 y2)
  · refine CallOk.no (v := -1000000) ?_ ?_ hC hR hI
    · unfold fX11_run
      rw [ce, if_neg y1, Option.bind_some]; rfl
    · obtain ⟨hR0, F0⟩ := hR.f0
      obtain ⟨p1, p2, p3⟩ := hR0.1.2.2.1
      unfold fX12_run
      rw [gz_let_eq, r_isPlan p1 p2, Option.bind_some]
      exact if_pos (pI0 y1)
end ST
