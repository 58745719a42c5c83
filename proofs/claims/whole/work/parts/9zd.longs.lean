/-! an hour with its act kept: the long fields stay -/
section ST
variable {La : gz_L} {g : gz_S} {l : List Nat} {Ls : List (List Nat)} {Es : List (List eS)} {cur : Option Nat} {lv : Nat} {V V0 : Nat → Nat} {a : Nat} {K : Nat → Nat → Nat} {Lg : Nat → Nat} {him : Nat} {IV ILg : Nat → Nat} {s : sS} {B : Nat}
theorem c_passNow2 (h : ClW La g l Ls Es cur lv V V0 a K Lg him IV ILg s) (hW : Wf B V) (hB : B < 700000) (h49 : V 49 ≤ 9999) : ∃ g0 g', (g'.2 = g.2 ∧ g0.2 = g.2) ∧ fX5_keep La 6 g = some g0 ∧ fX11_passNow La g0 = some (nI (sMet (sTof Ls cur) V), g') ∧ FC g g' ∧
    ClW La g' l Ls Es cur lv (sHour (sTof Ls cur) V) V0 (min 40 (a + 1)) (kPush V K) (uN Lg (V 49) (hcode (sTof Ls cur) V)) him IV ILg s := by
  have h60 := hW.2.2.2.1.2
  have h22 := h.2.1
  obtain ⟨g1, u1, u2, u3⟩ := c_keep (La := La) h22 h.2.2.2.2.2.2.1
  have hL1 : LW La g1 (sTof Ls cur) := h.1.lw.fr u2 (fun j hj => by omega)
  have hv1 : g1.1 (6 + 16) = fI V := by rw [u2.1 (6 + 16) (by omega)]; exact h22
  obtain ⟨g2, v1, v2, v3, v4, v5⟩ := c_passHour (La := La) (w := 6) (Or.inr (Or.inl rfl)) hv1 hW (by omega) hL1
  have e49 : sHour (sTof Ls cur) V 49 = V 49 + 1 := uN_s _ _ _
  have e46 : sHour (sTof Ls cur) V 46 = V 46 := sHour_fix h60 (by omega)
  have e50 : ∀ k, 50 ≤ k → sHour (sTof Ls cur) V k = V k := fun k hk => sHour_fix h60 (by omega)
  have cp2 := u3.fr v5 (fun j hj => by have := hj; omega)
  obtain ⟨g3, w1, w2, w3⟩ := c_note (La := La) (V' := sHour (sTof Ls cur) V) (m := sMet (sTof Ls cur) V) (e := sEnd (sTof Ls cur) V (V 60)) (t := V 46) cp2 e49 e50 (by omega) (by have := sMet_le (T := sTof Ls cur) (V := V) h60; omega) (sEnd16 h60) (by have := hW.2.2.2.2.1; omega)
  have v2' : g2.1 22 = fI (sHour (sTof Ls cur) V) := v2
  have F : Fr (fun j => j = 8 ∨ j = 9 ∨ j = 22 ∨ j = 24 ∨ j = 25 ∨ (26 ≤ j ∧ j < 30)) g g3 := ((u2.mo (fun j hj => by omega)).tr (v5.mo (fun j hj => by have := hj; omega))).tr (w2.mo (fun j hj => by omega))
  refine ⟨g1, g3, ⟨F.2, u2.2⟩, u1, ?_, FC.of F (fun j hj => by omega), h.acts F (fun j hj => hj) (by rw [w2.1 22 (by omega)]; exact v2') (fun k hk => by rw [e50 k (by omega)]; exact h.2.2.2.2.1 k hk) w3⟩
  unfold fX11_passNow
  rw [v1, Option.bind_some]
  show (fX5_note La (g2.1 22 49) (nI (sMet (sTof Ls cur) V)) (g2.1 8 1) (g2.1 22 46) g2).bind _ = _
  rw [v2', v4, fI_ap, fI_ap, e49, e46, w1, Option.bind_some]
theorem r_passNow2 (h : ReW g l Ls Es cur lv V V0 a K Lg him IV ILg s) (hI : Inv V V0 a K Lg him IV ILg s B) (h0 : ¬ V 60 = 0) (hB : B < 700000) (hK : ∀ i, i < min 40 (a + 1) → kPush V K i 49 ≤ V 49) : ∃ g0 g', (g'.2.1 = g.2.1 ∧ g0.2.1 = g.2.1) ∧ fX12_remember La g = some g0 ∧ fX12_goHour La 53 g0 = some (nI (sMet (sTof Ls cur) V), g') ∧ FR g g' ∧
    ReW g' l Ls Es cur lv (sHour (sTof Ls cur) V) V0 (min 40 (a + 1)) (kPush V K) (uN Lg (V 49) (hcode (sTof Ls cur) V)) him IV ILg s := by
  obtain ⟨hcx, hkp⟩ := h.cx hI h0
  have hW := (hI.2.2.1 h0).1
  obtain ⟨g1, u1, u2, u3⟩ := r_remember (La := La) h.2.2.2.1 h.2.1
  have F1 := u2.y
  have hcx1 := hcx.cg F1 (fun j hj => by have := hj; omega) (fun k hk => by have := hk; omega)
  have hA1 : RowA (g1.1 53) V Lg := by rw [F1.1 53 (by omega) (by omega)]; exact h.2.1
  obtain ⟨g2, v1, v2, v3, v4⟩ := r_goHour (La := La) hcx1 (hkp.fr F1 (by omega)) hW hB hA1
  have F : Fy KA SA g g2 := (F1.mo (fun k hk => by have := hk; omega) (fun j hj => by have := hj; omega)).tr (v2.mo (fun k hk => by have := hk; omega) (fun j hj => by have := hj; omega))
  refine ⟨g1, g2, ⟨F.2.2.1, F1.2.2.1⟩, u1, v1, FR.y F (fun j hj => by have := hj; omega), h.acts F v3.2.2 v4 ?_ ?_⟩
  · exact (u3.fr v2 (by omega) (by omega)).lg (fun i hi k hk => uN_n (by have := hK i hi; omega))
  · rw [v2.2.1 50 (by omega), v2.1 63 (by omega) (by omega), F1.2.1 50 (by omega), F1.1 63 (by omega) (by omega)]; exact h.2.2.2.2.1
end ST
