/-! call all: both -/
section ST
variable {La : gz_L} {g : gz_S} {l : List Nat} {Ls : List (List Nat)} {Es : List (List eS)} {cur : Option Nat} {lv : Nat} {V V0 : Nat → Nat} {a : Nat} {K : Nat → Nat → Nat} {Lg : Nat → Nat} {him : Nat} {IV ILg : Nat → Nat} {s : sS} {B : Nat}
theorem w_all (hw : WR La g B) (x : Int32) : CallOk La (fX11_all La x) (fX12_all La x) g B := by
  obtain ⟨l, Ls, Es, cur, lv, V, V0, a, K, Lg, him, IV, ILg, s, hC, hR, hI⟩ := hw
  have hg4 := hI.g4
  have hc30 := hI.c30
  have hv : g.1 22 = fI V := hC.2.1
  obtain ⟨hR0, F0⟩ := hR.f0
  have n27 := hR0.n27 hI
  by_cases h0 : V 60 = 0
  · refine CallOk.no (v := -1) ?_ ?_ hC hR hI
    · unfold fX11_all
      rw [c_hasShore (w := 6) hv hI.b, Option.bind_some]
      exact if_pos (pI0 (by omega))
    · unfold fX12_all
      rw [gz_let_eq]
      exact if_pos (by rw [n27, h0]; rfl)
  · obtain ⟨hW, h49, _⟩ := hI.2.2.1 h0
    obtain ⟨hcx, hkp⟩ := hR0.cx hI h0
    have u1 : fX11_all La x g = (if x = 0 then (fX6_goerWithMost La 6 38 g).bind (fun q74 => some (q74.1, q74.2)) else if x = 1 then (fX6_goerWithMost La 6 50 g).bind (fun q84 => some (q84.1, q84.2)) else if x = 2 then (fX6_goersWith La 6 0 g).bind (fun q93 => some (q93.1, q93.2)) else if x = 3 then (fX6_goersWith La 6 1 g).bind (fun q102 => some (q102.1, q102.2)) else if x = 4 then (fX6_goersWith La 6 2 g).bind (fun q111 => some (q111.1, q111.2)) else if x = 5 then (fX6_dryCells La 6 g).bind (fun q119 => (fJ6_bitCount_0f7a4 La q119.1 q119.2).bind (fun q122 => some (q122.1, q122.2))) else if x = 6 then (fX6_dryParts La 6 g).bind (fun q130 => some (q130.1, q130.2)) else if x = 7 then (fX6_crowd La 6 g).bind (fun q138 => some (q138.1, q138.2)) else if x = 8 then (fX6_busyCells La 6 g).bind (fun q146 => some (q146.1, q146.2)) else if x = 9 then (fX6_faced La 6 g).bind (fun q154 => some (q154.1, q154.2)) else some ((-1), g)) := by
      unfold fX11_all
      rw [c_hasShore (w := 6) hv hI.b, Option.bind_some]
      exact if_neg (pI1 (by omega))
    generalize hg0 : gz_wi g 39 0 0 = g0 at *
    have u2 : fX12_all La x g = (if x = 0 then (fX12_greatest La x g0).bind (fun q70 => some (q70.1, q70.2)) else if x = 1 then (fX12_greatest La x g0).bind (fun q70 => some (q70.1, q70.2)) else if x = 2 then (fX12_thoseWho La (x - 2) g0).bind (fun q78 => some (q78.1, q78.2)) else if x = 3 then (fX12_thoseWho La (x - 2) g0).bind (fun q78 => some (q78.1, q78.2)) else if x = 4 then (fX12_thoseWho La (x - 2) g0).bind (fun q78 => some (q78.1, q78.2)) else if x = 5 then (fX12_dry La 0 g0).bind (fun q84 => some (q84.1, q84.2)) else if x = 6 then (fX12_dry La 1 g0).bind (fun q90 => some (q90.1, q90.2)) else if x = 7 then (fX12_crowd La g0).bind (fun q95 => some (q95.1, q95.2)) else if x = 8 then (fX12_busy La g0).bind (fun q100 => some (q100.1, q100.2)) else if x = 9 then (fX12_faced La g0).bind (fun q105 => some (q105.1, q105.2)) else some ((-1), g0)) := by
      unfold fX12_all
      rw [gz_let_eq, hg0]
      exact if_neg (show ¬ g0.1 39 27 = 0 by rw [n27]; show ¬ _ = nI 0; rw [n_eq (by omega) (by omega)]; exact h0)
    have same : ∀ v, fX11_all La x g = some (v, g) → fX12_all La x g = some (v, g0) → CallOk La (fX11_all La x) (fX12_all La x) g B := fun v k1 k2 => CallOk.no k1 (by rw [hg0]; exact k2) hC hR hI
    have eig : ∀ v g2, fX11_all La x g = some (v, g) → fX12_all La x g = some (v, g2) → F8 g0 g2 → CallOk La (fX11_all La x) (fX12_all La x) g B := by
      intro v g2 k1 k2 k3
      have hF : Fy KQ SQ g g2 := by have := hR.f0q; rw [hg0] at this; exact this.tr k3.y
      exact CallOk.of k1 k2 hC (FR.y hF (fun j hj => by have := hj; omega)) (hR.sp hF (hcx.f8 k3).2.2) hI
    by_cases c0 : x = 0
    · refine same (nI (sMost (fun i => V (38 + i)) (V 60))) ?_ ?_
      · rw [u1, if_pos c0, show (38 : Int32) = nI 38 from rfl, c_goerWithMost (w := 6) hv hI.b (by omega) (by omega), Option.bind_some]
      · rw [u2, if_pos c0, c0, show (0 : Int32) = nI 0 from rfl, r_greatest hcx hkp hW (by omega), Option.bind_some]; rfl
    rw [if_neg c0] at u1 u2
    by_cases c1 : x = 1
    · refine same (nI (sMost (fun i => V (50 + i)) (V 60))) ?_ ?_
      · rw [u1, if_pos c1, show (50 : Int32) = nI 50 from rfl, c_goerWithMost (w := 6) hv hI.b (by omega) (by omega), Option.bind_some]
      · rw [u2, if_pos c1, c1, show (1 : Int32) = nI 1 from rfl, r_greatest hcx hkp hW (by omega), Option.bind_some]; rfl
    rw [if_neg c1] at u1 u2
    by_cases c2 : x = 2
    · refine same (nI (sWith V 0 (V 60))) ?_ ?_
      · rw [u1, if_pos c2, show (0 : Int32) = nI 0 from rfl, c_goersWith (w := 6) hv hI.b hg4 (by omega), Option.bind_some]
      · rw [u2, if_pos c2, c2, show (2 : Int32) - 2 = nI 0 from rfl, r_thoseWho hcx hW (by omega), Option.bind_some]
    rw [if_neg c2] at u1 u2
    by_cases c3 : x = 3
    · refine same (nI (sWith V 1 (V 60))) ?_ ?_
      · rw [u1, if_pos c3, show (1 : Int32) = nI 1 from rfl, c_goersWith (w := 6) hv hI.b hg4 (by omega), Option.bind_some]
      · rw [u2, if_pos c3, c3, show (3 : Int32) - 2 = nI 1 from rfl, r_thoseWho hcx hW (by omega), Option.bind_some]
    rw [if_neg c3] at u1 u2
    by_cases c4 : x = 4
    · refine same (nI (sWith V 2 (V 60))) ?_ ?_
      · rw [u1, if_pos c4, show (2 : Int32) = nI 2 from rfl, c_goersWith (w := 6) hv hI.b hg4 (by omega), Option.bind_some]
      · rw [u2, if_pos c4, c4, show (4 : Int32) - 2 = nI 2 from rfl, r_thoseWho hcx hW (by omega), Option.bind_some]
    rw [if_neg c4] at u1 u2
    by_cases c5 : x = 5
    · obtain ⟨g2, v1, v2⟩ := r_dry (La := La) hcx hW (q := 0) (by omega)
      have hdl := sDry_lt (V := V) (n := V 58 * V 59) hc30
      have hup := pc_up (a := sDry V (V 58 * V 59)) (n := V 58 * V 59) (fun j hj => by
        cases hb : (sDry V (V 58 * V 59)).testBit j with
        | false => rfl
        | true => have := ((dry_t (V := V) _ _).mp hb).1; omega) (32 - V 58 * V 59)
      rw [show V 58 * V 59 + (32 - V 58 * V 59) = 32 by omega] at hup
      refine eig (nI (pc (V 58 * V 59) (sDry V (V 58 * V 59)))) g2 ?_ ?_ v2
      · rw [u1, if_pos c5, c_dryCells (w := 6) hv hW, Option.bind_some, c_bitCount hdl, Option.bind_some, hup]
      · rw [u2, if_pos c5, show (0 : Int32) = nI 0 from rfl, v1, Option.bind_some]; rfl
    rw [if_neg c5] at u1 u2
    by_cases c6 : x = 6
    · obtain ⟨g2, v1, v2⟩ := r_dry (La := La) hcx hW (q := 1) (by omega)
      refine eig (nI (sParts V (V 58 * V 59)).2) g2 ?_ ?_ v2
      · rw [u1, if_pos c6, c_dryParts (w := 6) hv hW, Option.bind_some]
      · rw [u2, if_pos c6, show (1 : Int32) = nI 1 from rfl, v1, Option.bind_some]; rfl
    rw [if_neg c6] at u1 u2
    by_cases c7 : x = 7
    · refine same (nI (sCrowd V (V 60))) ?_ ?_
      · rw [u1, if_pos c7, c_crowd (w := 6) hv hW, Option.bind_some]
      · rw [u2, if_pos c7, r_crowd hcx hW, Option.bind_some]
    rw [if_neg c7] at u1 u2
    by_cases c8 : x = 8
    · refine same (nI (sBusy V (V 60))) ?_ ?_
      · rw [u1, if_pos c8, c_busyCells (w := 6) hv hW, Option.bind_some]
      · rw [u2, if_pos c8, r_busy hcx hW, Option.bind_some]
    rw [if_neg c8] at u1 u2
    by_cases c9 : x = 9
    · refine same (nI (sFaced V (V 60))) ?_ ?_
      · rw [u1, if_pos c9, c_faced (w := 6) hv hW, Option.bind_some]
      · rw [u2, if_pos c9, r_faced hcx hW, Option.bind_some]
    rw [if_neg c9] at u1 u2
    exact same (-1) u1 u2
end ST
