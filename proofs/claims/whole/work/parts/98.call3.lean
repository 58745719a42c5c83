/-! calls: undo, image, back, log, shore, seen, count -/
section ST
variable {La : gz_L} {g : gz_S} {l : List Nat} {Ls : List (List Nat)} {Es : List (List eS)} {cur : Option Nat} {lv : Nat} {V V0 : Nat → Nat} {a : Nat} {K : Nat → Nat → Nat} {Lg : Nat → Nat} {him : Nat} {IV ILg : Nat → Nat} {s : sS} {B : Nat}
theorem r_undo26 {n : Nat} (hn : n < 40) (h41 : g.1 39 41 = nI n) : ∃ g', fX12_undo_26 La gz_FU 0 g = some (nI n, g') ∧ Fz (fun _ => False) (fun j => j = 53) g g' ∧ ∀ j, j < 231 → g'.1 53 j = g.1 57 (231 * n + j) := by
  refine lp (fun f i g1 => fX12_undo_26 La f (nI i) g1) (fun i g1 => Fz (fun _ => False) (fun j => j = 53) g g1 ∧ ∀ j, j < i → g1.1 53 j = g.1 57 (231 * n + j)) 231
    (fun q => ∃ g', q = some (nI n, g') ∧ Fz (fun _ => False) (fun j => j = 53) g g' ∧ ∀ j, j < 231 → g'.1 53 j = g.1 57 (231 * n + j)) ?_ ?_ gz_FU 0 g (by omega) (by unfold gz_FU; omega) ⟨Fz.z0, fun j hj => absurd hj (Nat.not_lt_zero _)⟩
  · intro f i g1 hi ⟨q1, q2⟩
    refine Or.inr ⟨gz_wi g1 53 i (g.1 57 (231 * n + i)), ?_, q1.s (by omega) rfl, fun j hj => ?_⟩
    · show fX12_undo_26 La (f + 1) (nI i) g1 = _
      have ei : (231 : Int32) * nI n + nI i = nI (231 * n + i) := by rw [show (231 : Int32) * nI n = nI (231 * n) from n_mul 231 n, n_add]
      rw [fX12_undo_26, if_neg (show ¬ (231 : Int32) ≤ nI i by show ¬ nI 231 ≤ nI i; rw [n_le (by omega) (by omega)]; omega), (q1.2.1 41 id).trans h41, ei, if_pos (n_okP (by omega) (by omega)), if_pos (n_okP (by omega) (by omega)), gz_let_eq, n_cl (by omega), n_cl (by omega), q1.1 57 (by omega) (by omega), gz_let_eq, show nI i + (1 : Int32) = nI (i + 1) from n_add _ _]
    · by_cases c : j = i
      · rw [c, wi_ss]
      · rw [wi_sn c]; exact q2 j (by omega)
  · intro f g1 ⟨q1, q2⟩
    refine ⟨g1, ?_, q1, q2⟩
    show fX12_undo_26 La (f + 1) (nI 231) g1 = _
    rw [fX12_undo_26, if_pos (show (231 : Int32) ≤ nI 231 by decide), (q1.2.1 41 id).trans h41]
theorem r_img16 (K1 : gz_S → Option (Int32 × gz_S)) : ∃ g', fX12_image_16 La K1 gz_FU 0 g = K1 g' ∧ Fz (fun _ => False) (fun j => j = 63) g g' ∧ ∀ j, j < 231 → g'.1 63 j = g.1 53 j := by
  refine lp (fun f i g1 => fX12_image_16 La K1 f (nI i) g1) (fun i g1 => Fz (fun _ => False) (fun j => j = 63) g g1 ∧ ∀ j, j < i → g1.1 63 j = g.1 53 j) 231
    (fun q => ∃ g', q = K1 g' ∧ Fz (fun _ => False) (fun j => j = 63) g g' ∧ ∀ j, j < 231 → g'.1 63 j = g.1 53 j) ?_ ?_ gz_FU 0 g (by omega) (by unfold gz_FU; omega) ⟨Fz.z0, fun j hj => absurd hj (Nat.not_lt_zero _)⟩
  · intro f i g1 hi ⟨q1, q2⟩
    refine Or.inr ⟨gz_wi g1 63 i (g.1 53 i), ?_, q1.s (by omega) rfl, fun j hj => ?_⟩
    · show fX12_image_16 La K1 (f + 1) (nI i) g1 = _
      rw [fX12_image_16, if_neg (show ¬ (231 : Int32) ≤ nI i by show ¬ nI 231 ≤ nI i; rw [n_le (by omega) (by omega)]; omega), if_pos (n_okP (by omega) (by omega)), if_pos (n_okP (by omega) (by omega)), gz_let_eq, n_cl (by omega), q1.1 53 (by omega) (by omega), gz_let_eq, show nI i + (1 : Int32) = nI (i + 1) from n_add _ _]
    · by_cases c : j = i
      · rw [c, wi_ss]
      · rw [wi_sn c]; exact q2 j (by omega)
  · intro f g1 ⟨q1, q2⟩
    refine ⟨g1, ?_, q1, q2⟩
    show fX12_image_16 La K1 (f + 1) (nI 231) g1 = _
    rw [fX12_image_16, if_pos (show (231 : Int32) ≤ nI 231 by decide)]
theorem r_back16 (K1 : gz_S → Option (Int32 × gz_S)) : ∃ g', fX12_back_16 La K1 gz_FU 0 g = K1 g' ∧ Fz (fun _ => False) (fun j => j = 53) g g' ∧ ∀ j, j < 231 → g'.1 53 j = g.1 63 j := by
  refine lp (fun f i g1 => fX12_back_16 La K1 f (nI i) g1) (fun i g1 => Fz (fun _ => False) (fun j => j = 53) g g1 ∧ ∀ j, j < i → g1.1 53 j = g.1 63 j) 231
    (fun q => ∃ g', q = K1 g' ∧ Fz (fun _ => False) (fun j => j = 53) g g' ∧ ∀ j, j < 231 → g'.1 53 j = g.1 63 j) ?_ ?_ gz_FU 0 g (by omega) (by unfold gz_FU; omega) ⟨Fz.z0, fun j hj => absurd hj (Nat.not_lt_zero _)⟩
  · intro f i g1 hi ⟨q1, q2⟩
    refine Or.inr ⟨gz_wi g1 53 i (g.1 63 i), ?_, q1.s (by omega) rfl, fun j hj => ?_⟩
    · show fX12_back_16 La K1 (f + 1) (nI i) g1 = _
      rw [fX12_back_16, if_neg (show ¬ (231 : Int32) ≤ nI i by show ¬ nI 231 ≤ nI i; rw [n_le (by omega) (by omega)]; omega), if_pos (n_okP (by omega) (by omega)), if_pos (n_okP (by omega) (by omega)), gz_let_eq, n_cl (by omega), q1.1 63 (by omega) (by omega), gz_let_eq, show nI i + (1 : Int32) = nI (i + 1) from n_add _ _]
    · by_cases c : j = i
      · rw [c, wi_ss]
      · rw [wi_sn c]; exact q2 j (by omega)
  · intro f g1 ⟨q1, q2⟩
    refine ⟨g1, ?_, q1, q2⟩
    show fX12_back_16 La K1 (f + 1) (nI 231) g1 = _
    rw [fX12_back_16, if_pos (show (231 : Int32) ≤ nI 231 by decide)]
theorem w_undo (hw : WR La g B) : CallOk La (fX11_undo La) (fX12_undo La) g B := by
  obtain ⟨l, Ls, Es, cur, lv, V, V0, a, K, Lg, him, IV, ILg, s, hC, hR, hI⟩ := hw
  have hcp := hC.2.2.2.2.2.2.1
  have h41 : (gz_wi g 39 0 0).1 39 41 = nI a := hR.f0.1.2.2.2.1.1
  have ha40 : a ≤ 40 := hcp.2.1
  by_cases ha : a = 0
  · refine CallOk.no (v := -1) ?_ ?_ hC hR hI
    · unfold fX11_undo
      rw [c_takeBack0 hcp ha, Option.bind_some]; exact if_pos rfl
    · unfold fX12_undo
      rw [gz_let_eq, if_pos (by rw [h41, ha]; rfl)]
  · have h0 : ¬ V 60 = 0 := fun h0 => ha (hI.2.1 h0).2.1
    obtain ⟨hW, h49, j3, j4⟩ := hI.2.2.1 h0
    obtain ⟨k1, k2⟩ := j3 0 (by omega)
    have kh := hcp.2.2.2.2.2.2.1
    have k50 : ∀ k, 50 ≤ k → K 0 k = V k := (kh.1 0 (by omega)).2.2
    obtain ⟨g1, u1, u2, u3, u4⟩ := c_takeBack (La := La) hC.2.1 hcp (by omega)
    have hC1 : ClW La g1 l Ls Es cur lv (K 0) V0 (a - 1) (fun i => K (i + 1)) Lg him IV ILg s := hC.acts u2 (fun j hj => by omega) u3 (fun k hk => by rw [k50 k (by omega)]; exact hC.2.2.2.2.1 k hk) u4
    have hR1 := (hR.fr (FC.of u2 (fun j hj => by omega))).f0
    have h41' := hR1.1.2.2.2.1.1
    have F2 : Fz (fun k => k = 41) (fun _ => False) (gz_wi g1 39 0 0) (gz_wi (gz_wi g1 39 0 0) 39 41 (nI (a - 1))) := Fz.z0.w rfl
    obtain ⟨g2, v1, v2, v3⟩ := r_undo26 (La := La) (g := gz_wi (gz_wi g1 39 0 0) 39 41 (nI (a - 1))) (n := a - 1) (by omega) wi_ss
    have F3 : Fz (fun k => k = 41) (fun j => j = 53) (gz_wi g1 39 0 0) g2 := (F2.mo (fun k hk => hk) (fun j hj => hj.elim)).tr (v2.mo (fun k hk => hk.elim) (fun j hj => hj))
    refine CallOk.of (v := nI (a - 1)) (g1 := g1) (g2 := g2) ?_ ?_ hC1 (hR1.2.tr (FR.z F3 (fun j hj => by omega))) ?_ ?_
    · unfold fX11_undo
      rw [u1, Option.bind_some]
      refine (if_neg (show ¬ nI 1 = (0 : Int32) by decide)).trans ?_
      show some (g1.1 9 0, g1) = _
      rw [u4.1]
    · unfold fX12_undo
      rw [gz_let_eq, if_neg (by rw [h41']; show ¬ _ = nI 0; rw [n_eq (by omega) (by omega)]; exact ha), h41', show nI a - (1 : Int32) = nI (a - 1) from n_sub (a := a) (b := 1) (by omega), gz_let_eq, v1]
    · have Fy3 : Fy KA SA (gz_wi g1 39 0 0) g2 := F3.y.mo (fun k hk => by have := hk; omega) (fun j hj => by have := hj; omega)
      have e57 : g2.1 57 = (gz_wi g1 39 0 0).1 57 := F3.1 57 (by omega) (by omega)
      refine hR1.1.acts Fy3 (hR1.1.1.2.1.fr F3.y (by omega) (by omega) (by omega) (by omega) (by omega) (by omega) (by omega)) ?_ ⟨?_, by omega, fun i hi => ?_⟩ ?_
      · refine (hR1.1.2.2.2.1.2.2 0 (by omega)).cg (fun j hj => ?_)
        rw [v3 j hj, F2.1 57 (by omega) id]
        rfl
      · rw [v2.2.1 41 id, wi_ss]
      · refine (hR1.1.2.2.2.1.2.2 (i + 1) (by omega)).cg (fun j hj => ?_)
        show g2.1 57 (231 * (a - 1 - 1 - i) + j) = (gz_wi g1 39 0 0).1 57 (231 * (a - 1 - (i + 1)) + j)
        rw [e57, show a - 1 - 1 - i = a - 1 - (i + 1) by omega]
      · rw [F3.2.1 50 (by omega), F3.1 63 (by omega) (by omega)]; exact hR1.1.2.2.2.2.1
    · refine ⟨fun k hk => (k50 k hk).trans (hI.1 k hk), fun hh => absurd ((k50 60 (by omega)).symm.trans hh) h0, fun _ => ⟨k1, k2, fun i hi => j3 (i + 1) (by omega), j4⟩, hI.2.2.2⟩
theorem w_image (hw : WR La g B) : CallOk La (fX11_image La) (fX12_image La) g B := by
  obtain ⟨l, Ls, Es, cur, lv, V, V0, a, K, Lg, him, IV, ILg, s, hC, hR, hI⟩ := hw
  have hg4 := hI.g4
  by_cases h0 : V 60 = 0
  · have h27 := hR.f0.1.n27 hI
    refine CallOk.no (v := -1) ?_ ?_ hC hR hI
    · unfold fX11_image
      rw [c_hasShore (w := 6) hC.2.1 hI.b, Option.bind_some]
      exact if_pos (pI0 (by omega))
    · unfold fX12_image
      rw [gz_let_eq, if_pos (by rw [h27, h0]; rfl)]
  · obtain ⟨hW, h49, j3, j4⟩ := hI.2.2.1 h0
    obtain ⟨g1, u1, u2, u3⟩ := c_keepImage (La := La) hC.2.1 hC.2.2.2.2.2.2.1
    have e22 : g1.1 22 = fI V := (u2.1 22 (by omega)).trans hC.2.1
    have hC1 : ClW La g1 l Ls Es cur lv V V0 a K Lg 1 V Lg s := hC.acts u2 (fun j hj => by omega) e22 hC.2.2.2.2.1 u3
    have hR1 := (hR.fr (FC.of u2 (fun j hj => by omega))).f0
    have h27 := hR1.1.n27 hI
    obtain ⟨g2, v1, v2, v3⟩ := r_img16 (La := La) (g := gz_wi g1 39 0 0) (fun g => gz_let (gz_wi g 39 50 1) (fun g43 => some (g43.1 53 49, g43)))
    have F3 : Fz (fun k => k = 50) (fun j => j = 63) (gz_wi g1 39 0 0) (gz_wi g2 39 50 1) := (v2.mo (fun k hk => hk.elim) (fun j hj => hj)).w rfl
    refine CallOk.of (v := nI (V 49)) (g1 := g1) (g2 := gz_wi g2 39 50 1) ?_ ?_ hC1 (hR1.2.tr (FR.z F3 (fun j hj => by omega))) ?_ ?_
    · unfold fX11_image
      rw [c_hasShore (w := 6) hC.2.1 hI.b, Option.bind_some]
      refine (if_neg (pI1 (by omega))).trans ?_
      rw [u1, Option.bind_some, e22, fI_ap]
    · unfold fX12_image
      rw [gz_let_eq, if_neg (by rw [h27]; show ¬ _ = nI 0; rw [n_eq (by omega) (by omega)]; exact h0), v1, gz_let_eq, F3.1 53 (by omega) (by omega), hR1.1.at46 (k := 49) (by omega)]
    · have Fy3 : Fy KA SA (gz_wi g1 39 0 0) (gz_wi g2 39 50 1) := F3.y.mo (fun k hk => by have := hk; omega) (fun j hj => by have := hj; omega)
      refine hR1.1.acts Fy3 (hR1.1.1.2.1.fr F3.y (by omega) (by omega) (by omega) (by omega) (by omega) (by omega) (by omega)) ?_ (hR1.1.2.2.2.1.fr F3.y (by omega) (by omega)) ⟨wi_ss, fun _ => ?_⟩
      · rw [F3.1 53 (by omega) (by omega)]; exact hR1.1.2.1
      · refine hR1.1.2.1.cg (fun j hj => ?_)
        rw [wi_no (by omega)]; exact v3 j hj
    · exact ⟨hI.1, fun hh => absurd hh h0, fun _ => ⟨hW, h49, j3, fun _ => ⟨hW, h49⟩⟩, hI.2.2.2.1, hI.2.2.2.1⟩
theorem w_back (hw : WR La g B) : CallOk La (fX11_back La) (fX12_back La) g B := by
  obtain ⟨l, Ls, Es, cur, lv, V, V0, a, K, Lg, him, IV, ILg, s, hC, hR, hI⟩ := hw
  have hcp := hC.2.2.2.2.2.2.1
  have h50 : (gz_wi g 39 0 0).1 39 50 = nI him := hR.f0.1.2.2.2.2.1.1
  have hm := hcp.2.2.2.1
  by_cases h1 : him = 1
  · subst h1
    have h0 : ¬ V 60 = 0 := fun h0 => by have := (hI.2.1 h0).2.2.1; omega
    obtain ⟨hW, h49, j3, j4⟩ := hI.2.2.1 h0
    obtain ⟨k1, k2⟩ := j4 rfl
    have k50 : ∀ k, 50 ≤ k → IV k = V k := (hcp.2.2.2.2.2.2.2.2 rfl).2.1
    obtain ⟨g1, u1, u2, u3, u4⟩ := c_bringBack (La := La) hC.2.1 hcp
    have hC1 : ClW La g1 l Ls Es cur lv IV V0 0 K ILg 1 IV ILg s := hC.acts u2 (fun j hj => by omega) u3 (fun k hk => by rw [k50 k (by omega)]; exact hC.2.2.2.2.1 k hk) u4
    have hR1 := (hR.fr (FC.of u2 (fun j hj => by omega))).f0
    have hi := hR1.1.2.2.2.2.1
    obtain ⟨g2, v1, v2, v3⟩ := r_back16 (La := La) (g := gz_wi g1 39 0 0) (fun g => gz_let (gz_wi g 39 41 0) (fun g43 => some (g43.1 53 49, g43)))
    have F3 : Fz (fun k => k = 41) (fun j => j = 53) (gz_wi g1 39 0 0) (gz_wi g2 39 41 0) := (v2.mo (fun k hk => hk.elim) (fun j hj => hj)).w rfl
    have hA : RowA ((gz_wi g2 39 41 0).1 53) IV ILg := (hi.2 rfl).cg (fun j hj => by rw [wi_no (by omega)]; exact v3 j hj)
    have e49 : (gz_wi g2 39 41 0).1 53 49 = nI (IV 49) := by
      have := hA.1 49 (by omega)
      rw [rp_n (by omega)] at this; exact this
    refine CallOk.of (v := nI (IV 49)) (g1 := g1) (g2 := gz_wi g2 39 41 0) ?_ ?_ hC1 (hR1.2.tr (FR.z F3 (fun j hj => by omega))) ?_ ?_
    · unfold fX11_back
      rw [u1, Option.bind_some]
      refine (if_neg (show ¬ nI 1 = (0 : Int32) by decide)).trans ?_
      show some (g1.1 22 49, g1) = _
      rw [u3, fI_ap]
    · unfold fX12_back
      rw [gz_let_eq, if_neg (by rw [hi.1]; decide), v1, gz_let_eq, e49]
    · have Fy3 : Fy KA SA (gz_wi g1 39 0 0) (gz_wi g2 39 41 0) := F3.y.mo (fun k hk => by have := hk; omega) (fun j hj => by have := hj; omega)
      refine hR1.1.acts Fy3 (hR1.1.1.2.1.fr F3.y (by omega) (by omega) (by omega) (by omega) (by omega) (by omega) (by omega)) hA ⟨wi_ss, by omega, fun i hi => absurd hi (Nat.not_lt_zero _)⟩ ?_
      rw [F3.2.1 50 (by omega), F3.1 63 (by omega) (by omega)]; exact hi
    · exact ⟨fun k hk => (k50 k hk).trans (hI.1 k hk), fun hh => absurd ((k50 60 (by omega)).symm.trans hh) h0, fun _ => ⟨k1, k2, fun i hi => absurd hi (Nat.not_lt_zero _), fun _ => ⟨k1, k2⟩⟩, hI.2.2.2.2, hI.2.2.2.2⟩
  · have hz : him = 0 := by omega
    subst hz
    refine CallOk.no (v := -1) ?_ ?_ hC hR hI
    · unfold fX11_back
      rw [c_bringBack0 hcp, Option.bind_some]; exact if_pos rfl
    · unfold fX12_back
      rw [gz_let_eq, if_pos (by rw [h50]; rfl)]
theorem w_log (hw : WR La g B) (x y : Int32) : CallOk La (fX11_log La x y) (fX12_log La x y) g B := by
  obtain ⟨l, Ls, Es, cur, lv, V, V0, a, K, Lg, him, IV, ILg, s, hC, hR, hI⟩ := hw
  have hx1 := Int32.toInt_lt x
  have hx2 := Int32.le_toInt x
  have hy1 := Int32.toInt_lt y
  have hy2 := Int32.le_toInt y
  have hA := hR.f0.1.2.1
  have h50 := hA.2.1
  have h49 : V 49 ≤ 9999 := by
    by_cases h0 : V 60 = 0
    · rw [(hI.2.1 h0).1]; exact Nat.zero_le _
    · exact (hI.2.2.1 h0).2.1
  have e1 : Int32.toInt64 (nI (min 60 (V 49)) - 1) = Int64.ofInt ((min 60 (V 49) : Nat) - 1) := by
    rw [x_l, show nI (min 60 (V 49)) - (1 : Int32) = nI (min 60 (V 49)) - nI 1 from rfl, i_sub (by rw [n_ti (by omega), n_ti (by omega)]; omega) (by rw [n_ti (by omega), n_ti (by omega)]; omega), n_ti (by omega), n_ti (by omega)]; rfl
  by_cases yes : (0 ≤ x.toInt ∧ x.toInt < (min 60 (V 49) : Nat)) ∧ 0 ≤ y.toInt ∧ y.toInt ≤ 2
  · obtain ⟨n, n1, rfl, n3⟩ := x_of (x := x) yes.1.1
    obtain ⟨m, m1, rfl, m3⟩ := x_of (x := y) yes.2.1
    have hcn := c_noted (La := La) (i := n) (w := m) hC.2.2.2.2.2.2.1 (by omega) (by omega) (by omega) (by omega) (hI.2.2.2.1 _)
    refine CallOk.of (v := nI (if m = 0 then Lg (V 49 - 1 - n) / 256 else if m = 1 then Lg (V 49 - 1 - n) / 16 % 16 else Lg (V 49 - 1 - n) % 16)) (g1 := g) (g2 := gz_wi g 39 0 0) ?_ ?_ hC hR.f0.2 hR.f0.1 hI
    · unfold fX11_log
      rw [if_neg (by show ¬ nI n < nI 0; rw [n_lt (by omega) (by omega)]; omega), c_logLength hC.2.1 hI.b, Option.bind_some]
      refine (if_neg (show ¬ nI (min 60 (V 49)) ≤ nI n by rw [n_le (by omega) (by omega)]; omega)).trans ((if_neg (show ¬ nI m < nI 0 by rw [n_lt (by omega) (by omega)]; omega)).trans ((if_pos (show nI m ≤ nI 2 by rw [n_le (by omega) (by omega)]; omega)).trans ?_))
      have e22 : g.1 22 = fI V := hC.2.1
      show (fX5_noted La ((g.1 22 49 - 1) - nI n) (nI m) g).bind _ = _
      rw [e22, fI_ap, show nI (V 49) - (1 : Int32) = nI (V 49 - 1) from n_sub (a := V 49) (b := 1) (by omega), n_sub (by omega), hcn, Option.bind_some]
    · unfold fX12_log
      rw [gz_let_eq, h50, e1, x_l, show (0 : Int64) = Int64.ofInt 0 from rfl, show (2 : Int64) = Int64.ofInt 2 from rfl, r_isInZ (by omega) (by omega) (by omega), Option.bind_some]
      refine (if_neg (pI1 (by omega))).trans ?_
      rw [x_l, r_isInZ (by omega) (by omega) (by omega), Option.bind_some]
      refine (if_neg (pI1 (by omega))).trans ?_
      have ho := hA.2.2 (min 60 (V 49) - 1 - n) (by omega)
      rw [show V 49 - min 60 (V 49) + (min 60 (V 49) - 1 - n) = V 49 - 1 - n by omega] at ho
      have ei : ((51 : Int32) + ((3 : Int32) * ((nI (min 60 (V 49)) - 1) - nI n))) + nI m = nI (51 + 3 * (min 60 (V 49) - 1 - n) + m) := by
        rw [show nI (min 60 (V 49)) - (1 : Int32) = nI (min 60 (V 49) - 1) from n_sub (a := min 60 (V 49)) (b := 1) (by omega), n_sub (by omega), show (3 : Int32) * nI (min 60 (V 49) - 1 - n) = nI (3 * (min 60 (V 49) - 1 - n)) from n_mul 3 _, show (51 : Int32) + nI (3 * (min 60 (V 49) - 1 - n)) = nI (51 + 3 * (min 60 (V 49) - 1 - n)) from n_add 51 _, n_add]
      show (if gz_ok (((51 : Int32) + ((3 : Int32) * (((gz_wi g 39 0 0).1 53 50 - 1) - nI n))) + nI m) 231 then some ((gz_wi g 39 0 0).1 53 (Int32.toNatClampNeg (((51 : Int32) + ((3 : Int32) * (((gz_wi g 39 0 0).1 53 50 - 1) - nI n))) + nI m)), gz_wi g 39 0 0) else none) = _
      rw [h50, ei, if_pos (n_okP (by omega) (by omega)), n_cl (by omega)]
      have hm : m = 0 ∨ m = 1 ∨ m = 2 := by omega
      rcases hm with rfl | rfl | rfl
      · rw [if_pos rfl, Nat.add_zero, ho.1]
      · rw [if_neg (by decide), if_pos rfl, ho.2.1]
      · rw [if_neg (by decide), if_neg (by decide), ho.2.2]
  · refine CallOk.no (v := -1) ?_ ?_ hC hR hI
    · unfold fX11_log
      by_cases q1 : x.toInt < 0
      · rw [if_pos (by show x < nI 0; rw [x_lt (by omega)]; omega)]
      · rw [if_neg (by show ¬ x < nI 0; rw [x_lt (by omega)]; omega), c_logLength hC.2.1 hI.b, Option.bind_some]
        by_cases q2 : ((min 60 (V 49) : Nat) : Int) ≤ x.toInt
        · exact if_pos (show nI (min 60 (V 49)) ≤ x by rw [x_ge (by omega)]; exact q2)
        · refine (if_neg (show ¬ nI (min 60 (V 49)) ≤ x by rw [x_ge (by omega)]; exact q2)).trans ?_
          by_cases q3 : y.toInt < 0
          · exact if_pos (by show y < nI 0; rw [x_lt (by omega)]; omega)
          · refine (if_neg (by show ¬ y < nI 0; rw [x_lt (by omega)]; omega)).trans (if_neg ?_)
            show ¬ y ≤ nI 2
            rw [x_le (by omega)]; omega
    · unfold fX12_log
      rw [gz_let_eq, h50, e1, x_l, show (0 : Int64) = Int64.ofInt 0 from rfl, show (2 : Int64) = Int64.ofInt 2 from rfl, r_isInZ (by omega) (by omega) (by omega), Option.bind_some]
      by_cases q1 : (0 : Int) ≤ x.toInt ∧ x.toInt ≤ ((min 60 (V 49) : Nat) - 1 : Int)
      · refine (if_neg (pI1 q1)).trans ?_
        rw [x_l, r_isInZ (by omega) (by omega) (by omega), Option.bind_some]
        exact if_pos (pI0 (by omega))
      · exact if_pos (pI0 q1)
end ST
