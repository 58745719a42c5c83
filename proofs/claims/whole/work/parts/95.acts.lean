/-! calls: hour, tide, give, undo, image, back, log -/
section ST
variable {La : gz_L} {g : gz_S} {l : List Nat} {Ls : List (List Nat)} {Es : List (List eS)} {cur : Option Nat} {lv : Nat} {V V0 : Nat → Nat} {a : Nat} {K : Nat → Nat → Nat} {Lg : Nat → Nat} {him : Nat} {IV ILg : Nat → Nat} {s : sS} {B : Nat}
theorem Fz.y {K S : Nat → Prop} {g' : gz_S} (h : Fz K S g g') : Fy K S g g' := ⟨h.1, h.2.1, by rw [h.2.2], Tq.ww h.2.2⟩
theorem ClW.acts {S : Nat → Prop} {g' : gz_S} {V' : Nat → Nat} {a' : Nat} {K' : Nat → Nat → Nat} {Lg' : Nat → Nat} {him' : Nat} {IV' ILg' : Nat → Nat} (h : ClW La g l Ls Es cur lv V V0 a K Lg him IV ILg s) (hF : Fr S g g') (hS : ∀ j, S j → j = 8 ∨ j = 9 ∨ j = 22 ∨ j = 24 ∨ j = 25 ∨ (26 ≤ j ∧ j < 30)) (h22 : g'.1 22 = fI V') (hz : Z61 V') (hcp : CP 0 g' V' a' K' Lg' him' IV' ILg') : ClW La g' l Ls Es cur lv V' V0 a' K' Lg' him' IV' ILg' s := by
  have e : ∀ j, ¬ (j = 8 ∨ j = 9 ∨ j = 22 ∨ j = 24 ∨ j = 25 ∨ (26 ≤ j ∧ j < 30)) → g'.1 j = g.1 j := fun j hj => hF.1 j (fun hh => hj (hS j hh))
  obtain ⟨c1, c2, c3, c4, c5, c6, c7, c8⟩ := h
  exact ⟨c1.cg (e 0 (by omega)) (e 1 (by omega)) (e 14 (by omega)) (Tq.ww hF.2) (fun j hj => e j (by omega)), h22, by rw [e 21 (by omega)]; exact c3, by rw [e 23 (by omega)]; exact c4, hz, c6, hcp, c8.cg (e 11 (by omega)) (e 33 (by omega)) (e 34 (by omega)) (e 35 (by omega))⟩
abbrev KA : Nat → Prop := fun k => k = 0 ∨ (8 ≤ k ∧ k ≤ 14 ∨ k = 17) ∨ k = 38 ∨ k = 39 ∨ k = 41 ∨ k = 50
abbrev SA : Nat → Prop := fun j => j = 43 ∨ j = 53 ∨ j = 54 ∨ j = 55 ∨ j = 56 ∨ j = 57 ∨ j = 63
theorem ReW.acts {g' : gz_S} {V' : Nat → Nat} {a' : Nat} {K' : Nat → Nat → Nat} {Lg' : Nat → Nat} {him' : Nat} {IV' ILg' : Nat → Nat} (h : ReW g l Ls Es cur lv V V0 a K Lg him IV ILg s) (hF : Fy KA SA g g') (hL : RLw g' Ls cur) (hA : RowA (g'.1 53) V' Lg') (hU : RU g' a' K' Lg') (hI : g'.1 39 50 = nI him' ∧ (him' = 1 → RowA (g'.1 63) IV' ILg')) : ReW g' l Ls Es cur lv V' V0 a' K' Lg' him' IV' ILg' s := by
  obtain ⟨⟨t1, t2, t3, t4⟩, c2, c3, c4, c5, c6, c7⟩ := h
  have e : ∀ j, j ≠ 39 → ¬ SA j → g'.1 j = g.1 j := hF.1
  have k : ∀ j, ¬ KA j → g'.1 39 j = g.1 39 j := hF.2.1
  refine ⟨⟨?_, hL, ?_, by rw [k 35 (by omega)]; exact t4⟩, hA, ?_, hU, hI, by rw [k 47 (by omega)]; exact c6, by rw [e 59 (by omega) (by omega)]; exact c7⟩
  · unfold RTP; rw [k 6 (by omega), e 40 (by omega) (by omega)]; exact t1
  · rw [k 30 (by omega), e 51 (by omega) (by omega), e 52 (by omega) (by omega)]; exact t3
  · unfold Tld; rw [k 27 (by omega), e 44 (by omega) (by omega), e 46 (by omega) (by omega), e 48 (by omega) (by omega)]; exact c3
theorem Inv.act {B' : Nat} {V' Lg' : Nat → Nat} (hI : Inv V V0 a K Lg him IV ILg s B) (h0 : ¬ V 60 = 0) (hB : B ≤ B') (hW : Wf B' V') (h49 : V' 49 ≤ 9999) (hV : ∀ k, 50 ≤ k → V' k = V k) (hL : ∀ h, okc (Lg' h)) : Inv V' V0 (min 40 (a + 1)) (kPush V K) Lg' him IV ILg s B' := by
  obtain ⟨i1, i2, i3, i4, i5⟩ := hI
  obtain ⟨j1, j2, j3, j4⟩ := i3 h0
  refine ⟨fun k hk => (hV k hk).trans (i1 k hk), fun hh => absurd ((hV 60 (by omega)).symm.trans hh) h0, fun _ => ⟨hW, h49, fun i hi => ?_, fun hh => ⟨(j4 hh).1.mo hB, (j4 hh).2⟩⟩, hL, i5⟩
  unfold kPush
  by_cases c : i = 0
  · rw [if_pos c]; exact ⟨j1.mo hB, j2⟩
  · rw [if_neg c]; exact ⟨(j3 (i - 1) (by omega)).1.mo hB, (j3 (i - 1) (by omega)).2⟩
theorem RU.lg {Lg' : Nat → Nat} (h : RU g a K Lg) (he : ∀ i, i < a → ∀ k, k < K i 49 → Lg' k = Lg k) : RU g a K Lg' := ⟨h.1, h.2.1, fun i hi => (h.2.2 i hi).lg (he i hi)⟩
theorem RU.fr {K0 S : Nat → Prop} {g' : gz_S} (h : RU g a K Lg) (hF : Fy K0 S g g') (h41 : ¬ K0 41) (h57 : ¬ S 57) : RU g' a K Lg := by
  unfold RU; rw [hF.2.1 41 h41, hF.1 57 (by omega) h57]; exact h
theorem CX.cg {K0 S : Nat → Prop} {g' : gz_S} (h : CX g 53 V Ls cur) (hF : Fy K0 S g g') (hS : ∀ j, S j → ¬ (j = 53 ∨ j = 44 ∨ j = 46 ∨ j = 41 ∨ j = 42 ∨ j = 43 ∨ j = 55 ∨ j = 56)) (hK : ∀ k, K0 k → ¬ (k = 27 ∨ k = 7 ∨ k = 34)) : CX g' 53 V Ls cur :=
  ⟨h.1.fr (hF.1 53 (by omega) (fun hh => hS _ hh (by omega))), h.2.1.fr hF (fun hh => hS _ hh (by omega)) (fun hh => hS _ hh (by omega)) (fun hh => hK _ hh (by omega)), h.2.2.fr hF (fun hh => hK _ hh (by omega)) (fun hh => hK _ hh (by omega)) (fun hh => hS _ hh (by omega)) (fun hh => hS _ hh (by omega)) (fun hh => hS _ hh (by omega)) (fun hh => hS _ hh (by omega)) (fun hh => hS _ hh (by omega))⟩
theorem okc_u {Lg : Nat → Nat} (h : ∀ x, okc (Lg x)) {k m e t : Nat} (hm : m < 9) (he : e < 16) (ht : t < 6) : ∀ x, okc (uN Lg k (m * 256 + e * 16 + t) x) := by
  intro x
  by_cases c : x = k
  · rw [c, uN_s]; exact ⟨m, e, t, hm, he, ht, rfl⟩
  · rw [uN_n c]; exact h x
theorem sEnd16 {T : sT} (h60 : V 60 ≤ 4) : sEnd T V (V 60) < 16 := by
  have h1 := sEnd_lt (T := T) (V := V) (V 60) h60
  have h2 : 2 ^ V 60 ≤ 2 ^ 4 := Nat.pow_le_pow_right (by omega) h60
  omega
abbrev hcode (T : sT) (V : Nat → Nat) : Nat := sMet T V * 256 + sEnd T V (V 60) * 16 + V 46
/-- the class lets an hour pass, the act kept -/
theorem c_passNow (h : ClW La g l Ls Es cur lv V V0 a K Lg him IV ILg s) (hW : Wf B V) (hB : B < 700000) (h49 : V 49 ≤ 9999) : ∃ g0 g', fX5_keep La 6 g = some g0 ∧ fX11_passNow La g0 = some (nI (sMet (sTof Ls cur) V), g') ∧ FC g g' ∧
    ClW La g' l Ls Es cur lv (sHour (sTof Ls cur) V) V0 (min 40 (a + 1)) (kPush V K) (uN Lg (V 49) (hcode (sTof Ls cur) V)) him IV ILg s := by
  have h60 := hW.2.2.2.1.2
  have h22 := h.2.1
  obtain ⟨g1, u1, u2, u3⟩ := c_keep (La := La) h22 h.2.2.2.2.2.2.1
  have hL1 : LW La g1 (sTof Ls cur) := h.1.lw.fr u2 (fun j hj => by omega)
  have hv1 : g1.1 (6 + 16) = fI V := by rw [u2.1 (6 + 16) (by omega)]; exact h22
  obtain ⟨g2, v1, v2, v3, v4, v5⟩ := c_passHour (La := La) (w := 6) (Or.inr (Or.inl rfl)) hv1 hW (by omega) hL1
  have e49 : sHour (sTof Ls cur) V 49 = V 49 + 1 := uN_s _ _ _
  have e46 : sHour (sTof Ls cur) V 46 = V 46 := sHour_fix h60 (by omega)
  have e50 : ∀ k, 50 ≤ k → sHour (sTof Ls cur) V k = V k := fun k hk => sHour_fix h60 (by omega)
  have cp2 := u3.fr v5 (fun j hj => by have := hj; omega)
  obtain ⟨g3, w1, w2, w3⟩ := c_note (La := La) (V' := sHour (sTof Ls cur) V) (m := sMet (sTof Ls cur) V) (e := sEnd (sTof Ls cur) V (V 60)) (t := V 46) cp2 e49 e50 (by omega) (by have := sMet_le (T := sTof Ls cur) (V := V) h60; omega) (sEnd16 h60) (by have := hW.2.2.2.2.1; omega)
  have v2' : g2.1 22 = fI (sHour (sTof Ls cur) V) := v2
  have F : Fr (fun j => j = 8 ∨ j = 9 ∨ j = 22 ∨ j = 24 ∨ j = 25 ∨ (26 ≤ j ∧ j < 30)) g g3 := ((u2.mo (fun j hj => by omega)).tr (v5.mo (fun j hj => by have := hj; omega))).tr (w2.mo (fun j hj => by omega))
  refine ⟨g1, g3, u1, ?_, FC.of F (fun j hj => by omega), h.acts F (fun j hj => hj) (by rw [w2.1 22 (by omega)]; exact v2') (fun k hk => by rw [e50 k (by omega)]; exact h.2.2.2.2.1 k hk) w3⟩
  unfold fX11_passNow
  rw [v1, Option.bind_some]
  show (fX5_note La (g2.1 22 49) (nI (sMet (sTof Ls cur) V)) (g2.1 8 1) (g2.1 22 46) g2).bind _ = _
  rw [v2', v4, fI_ap, fI_ap, e49, e46, w1, Option.bind_some]
/-- the reference likewise -/
theorem r_passNow (h : ReW g l Ls Es cur lv V V0 a K Lg him IV ILg s) (hI : Inv V V0 a K Lg him IV ILg s B) (h0 : ¬ V 60 = 0) (hB : B < 700000) (hK : ∀ i, i < min 40 (a + 1) → kPush V K i 49 ≤ V 49) : ∃ g0 g', fX12_remember La g = some g0 ∧ fX12_goHour La 53 g0 = some (nI (sMet (sTof Ls cur) V), g') ∧ FR g g' ∧
    ReW g' l Ls Es cur lv (sHour (sTof Ls cur) V) V0 (min 40 (a + 1)) (kPush V K) (uN Lg (V 49) (hcode (sTof Ls cur) V)) him IV ILg s := by
  obtain ⟨hcx, hkp⟩ := h.cx hI h0
  have hW := (hI.2.2.1 h0).1
  obtain ⟨g1, u1, u2, u3⟩ := r_remember (La := La) h.2.2.2.1 h.2.1
  have F1 := u2.y
  have hcx1 := hcx.cg F1 (fun j hj => by have := hj; omega) (fun k hk => by have := hk; omega)
  have hA1 : RowA (g1.1 53) V Lg := by rw [F1.1 53 (by omega) (by omega)]; exact h.2.1
  obtain ⟨g2, v1, v2, v3, v4⟩ := r_goHour (La := La) hcx1 (hkp.fr F1 (by omega)) hW hB hA1
  have F : Fy KA SA g g2 := (F1.mo (fun k hk => by have := hk; omega) (fun j hj => by have := hj; omega)).tr (v2.mo (fun k hk => by have := hk; omega) (fun j hj => by have := hj; omega))
  refine ⟨g1, g2, u1, v1, FR.y F (fun j hj => by have := hj; omega), h.acts F v3.2.2 v4 ?_ ?_⟩
  · exact (u3.fr v2 (by omega) (by omega)).lg (fun i hi k hk => uN_n (by have := hK i hi; omega))
  · rw [v2.2.1 50 (by omega), v2.1 63 (by omega) (by omega), F1.2.1 50 (by omega), F1.1 63 (by omega) (by omega)]; exact h.2.2.2.2.1
theorem ClW.kh (h : ClW La g l Ls Es cur lv V V0 a K Lg him IV ILg s) : ∀ i, i < min 40 (a + 1) → kPush V K i 49 ≤ V 49 := by
  intro i hi
  unfold kPush
  by_cases c : i = 0
  · rw [if_pos c]; exact Nat.le_refl _
  · rw [if_neg c]; exact (h.2.2.2.2.2.2.1.2.2.2.2.2.2.1.1 (i - 1) (by omega)).1
theorem w_hour (hw : WR La g B) (hB : B < 600000) : CallOk La (fX11_hour La) (fX12_hour La) g (B + 600) := by
  obtain ⟨l, Ls, Es, cur, lv, V, V0, a, K, Lg, him, IV, ILg, s, hC, hR, hI⟩ := hw
  have hI' := hI.mo (show B ≤ B + 600 by omega)
  have h27 := hR.f0.1.n27 hI
  have e49 := hR.f0.1.2.1.1 49 (by omega)
  rw [rp_n (by omega)] at e49
  by_cases h0 : V 60 = 0
  · refine CallOk.no (v := -1) ?_ ?_ hC hR hI'
    · unfold fX11_hour
      rw [c_mayPassHour (w := 6) hC.2.1 hI.b, Option.bind_some]
      exact if_pos (pI0 (by omega))
    · unfold fX12_hour
      rw [gz_let_eq, if_pos (by rw [h27, h0]; rfl)]
  obtain ⟨hW, h49, j3, j4⟩ := hI.2.2.1 h0
  have hg4 := hI.g4
  by_cases hl : V 49 < 9999
  · obtain ⟨g0, g1, u0, u1, u2, u3⟩ := c_passNow (La := La) hC hW (by omega) h49
    have hR1 := (hR.fr u2).f0
    obtain ⟨q0, q1, v0, v1, v2, v3⟩ := r_passNow (La := La) hR1.1 hI h0 (by omega) hC.kh
    refine CallOk.of (v := nI (sMet (sTof Ls cur) V)) ?_ ?_ u3 (hR1.2.tr v2) v3 ?_
    · unfold fX11_hour
      rw [c_mayPassHour (w := 6) hC.2.1 hI.b, Option.bind_some]
      refine (if_neg (pI1 (by omega))).trans ?_
      rw [u0, Option.bind_some, u1, Option.bind_some]
    · unfold fX12_hour
      have h27' := hR1.1.n27 hI
      have e49' := hR1.1.2.1.1 49 (by omega)
      rw [rp_n (by omega)] at e49'
      rw [gz_let_eq, if_neg (by rw [h27']; show ¬ _ = nI 0; rw [n_eq (by omega) (by omega)]; exact h0), if_neg (by rw [e49']; show ¬ _ = nI 9999; rw [n_eq (by omega) (by omega)]; omega), v0, Option.bind_some, v1, Option.bind_some]
    · exact hI.act h0 (by omega) ((sHour_wf sTof_lt hW (by omega)).mo (by omega)) (by show uN _ 49 (V 49 + 1) 49 ≤ 9999; rw [uN_s]; omega) (fun k hk => sHour_fix hg4 (by omega)) (okc_u hI.2.2.2.1 (by have := sMet_le (T := sTof Ls cur) (V := V) hg4; omega) (sEnd16 hg4) (by have := hW.2.2.2.2.1; omega))
  · refine CallOk.no (v := -1) ?_ ?_ hC hR hI'
    · unfold fX11_hour
      rw [c_mayPassHour (w := 6) hC.2.1 hI.b, Option.bind_some]
      exact if_pos (pI0 (by omega))
    · unfold fX12_hour
      rw [gz_let_eq, if_neg (by rw [h27]; show ¬ _ = nI 0; rw [n_eq (by omega) (by omega)]; exact h0), if_pos (by rw [e49, show V 49 = 9999 by omega]; rfl)]
end ST
