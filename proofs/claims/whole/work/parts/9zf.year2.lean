/-! a year of the class, a year of the reference -/
section ST
variable {La : gz_L} {g : gz_S} {l : List Nat} {Ls : List (List Nat)} {Es : List (List eS)} {cur : Option Nat} {lv : Nat} {V V0 : Nat → Nat} {a : Nat} {K : Nat → Nat → Nat} {Lg : Nat → Nat} {him : Nat} {IV ILg : Nat → Nat} {s : sS} {B : Nat} {w : Int64}
theorem c_year (h : ClW La g l Ls Es cur lv V V0 a K Lg him IV ILg s) (hW : Wf B V) (hB : B < 700000) (h49 : V 49 ≤ 9999) (hw : g.2.1 0 17 = w) {k49 : Int32 → Int32 → gz_S → Option (Int32 × gz_S)} {x1 x4 : Int32} : ∃ g0 g', fX5_keep La 6 g = some g0 ∧
    ((fX11_draw La 6 g0).bind (fun q78 => gz_let (gz_wi q78.2 22 46 q78.1) (fun g81 => (fX11_draw La 10 g81).bind (fun q85 => if (q85.2.1 0 16) ≤ q85.1 then fX11_years_153 La k49 x1 x4 q85.2 else (fX11_draw La (q85.2.1 22 60) q85.2).bind (fun q106 => (fX11_draw La 4 q106.2).bind (fun q113 => if gz_ok ((54 : Int32) + q106.1) 61 then (fX6_kind La 6 (q113.2.1 22 (Int32.toNatClampNeg ((54 : Int32) + q106.1))) q113.2).bind (fun q135 => if q135.1 = 1 then fX11_years_153 La k49 x1 x4 q135.2 else (fX6_begin La 6 q106.1 q113.1 q135.2).bind (fun q150 => fX11_years_153 La k49 x1 x4 q150)) else none)))))) = k49 x1 (x4 + 1) g' ∧
    FC g g' ∧ g'.2.1 0 17 = yG lv w ∧
    ClW La g' l Ls Es cur lv (sHour (sTof Ls cur) (yV lv w V)) V0 (min 40 (a + 1)) (kPush V K) (uN Lg (yV lv w V 49) (hcode (sTof Ls cur) (yV lv w V))) him IV ILg s := by
  have h60 := hW.2.2.2.1
  have h22 := h.2.1
  have t16 : g.1 0 16 = nI lv := h.1.2.2.2.2.2.2.2.1
  have tlv : lv ≤ 9 := h.1.2.2.2.2.2.2.2.2.1
  obtain ⟨g1, u1, u2, u3⟩ := c_keep (La := La) h22 h.2.2.2.2.2.2.1
  obtain ⟨g2, a1, a2, a3, a4, a5⟩ := c_yahead (La := La) (g := g1) (B := B) (lv := lv) (w := w) (by rw [u2.1 22 (by omega)]; exact h22) hW (by rw [u2.1 0 (by omega)]; exact t16) tlv (by rw [u2.2]; exact hw) (k49 := k49) (x1 := x1) (x4 := x4)
  have hW2 : Wf B (yV lv w V) := yV_wf hW
  have eV : ∀ k, k < 30 ∨ 47 ≤ k → yV lv w V k = V k := fun k hk => yV_fix h60 hk
  have cp2 : CP 1 g2 (yV lv w V) (min 40 (a + 1)) (kPush V K) Lg him IV ILg := u3.cgV (fun j hj => a3 j (by omega)) (fun k hk => eV k (by omega))
  have hL1 : LW La g1 (sTof Ls cur) := h.1.lw.fr u2 (fun j hj => by omega)
  have hL2 : LW La g2 (sTof Ls cur) := hL1.cg (by rw [a4]) (fun j hj => a3 j (by omega))
  generalize yV lv w V = U at *
  have h60' : U 60 ≤ 4 := hW2.2.2.2.1.2
  obtain ⟨g3, v1, v2, v3, v4, v5⟩ := c_passHour (La := La) (w := 6) (Or.inr (Or.inl rfl)) (show g2.1 (6 + 16) = fI U from a2) hW2 (by omega) hL2
  have e49 : sHour (sTof Ls cur) U 49 = U 49 + 1 := uN_s _ _ _
  have e46 : sHour (sTof Ls cur) U 46 = U 46 := sHour_fix h60' (by omega)
  have e50 : ∀ k, 50 ≤ k → sHour (sTof Ls cur) U k = U k := fun k hk => sHour_fix h60' (by omega)
  have u49 : U 49 = V 49 := eV 49 (by omega)
  have cp3 := cp2.fr v5 (fun j hj => by have := hj; omega)
  obtain ⟨g4, w1, w2, w3⟩ := c_note (La := La) (V' := sHour (sTof Ls cur) U) (m := sMet (sTof Ls cur) U) (e := sEnd (sTof Ls cur) U (U 60)) (t := U 46) cp3 e49 e50 (by omega) (by have := sMet_le (T := sTof Ls cur) (V := U) h60'; omega) (sEnd16 h60') (by have := hW2.2.2.2.2.1; omega)
  have v2' : g3.1 22 = fI (sHour (sTof Ls cur) U) := v2
  have e22' : g4.2.2 = g.2.2 := by rw [w2.2, v5.2, a4, u2.2]
  have F : Fr (fun j => j = 8 ∨ j = 9 ∨ j = 22 ∨ j = 24 ∨ j = 25 ∨ (26 ≤ j ∧ j < 30)) g (g4.1, g.2) :=
    ⟨fun j hj => by
      show g4.1 j = g.1 j
      rw [w2.1 j (by omega), v5.1 j (fun hh => hj (by have := hh; omega)), a3 j (by omega), u2.1 j (by omega)], rfl⟩
  have hC' : ClW La (g4.1, g.2) l Ls Es cur lv (sHour (sTof Ls cur) U) V0 (min 40 (a + 1)) (kPush V K) (uN Lg (U 49) (hcode (sTof Ls cur) U)) him IV ILg s :=
    h.acts F (fun j hj => hj) (by show g4.1 22 = _; rw [w2.1 22 (by omega)]; exact v2') (fun k hk => by rw [e50 k (by omega), eV k (by omega)]; exact h.2.2.2.2.1 k hk) w3
  refine ⟨g1, g4, u1, ?_, ⟨fun j h1 h2 => F.1 j (by omega), by rw [e22']⟩, ?_, hC'.fr ⟨fun j hj => rfl, Tq.of (by show g4.2.2 = g.2.2; exact e22')⟩⟩
  · rw [a1]
    unfold fX11_years_153 fX11_passNow
    rw [v1, Option.bind_some]
    show ((fX5_note La (g3.1 22 49) (nI (sMet (sTof Ls cur) U)) (g3.1 8 1) (g3.1 22 46) g3).bind _).bind _ = _
    rw [v2', v4, fI_ap, fI_ap, e49, e46, w1, Option.bind_some, Option.bind_some, gz_let_eq]
  · rw [w2.2, v5.2, a5]
theorem RG.lt {g1 g5 g6 : gz_S} (h0 : RG 53 g1 (g5.1, g1.2.1, g5.2.2)) (h : RG 53 g5 g6) : RG 53 g1 (g6.1, g1.2.1, g6.2.2) :=
  ⟨⟨fun j p q => (h.1.1 j p q).trans (h0.1.1 j p q), fun k p => (h.1.2.1 k p).trans (h0.1.2.1 k p), rfl, h.1.2.2.2.trans h0.1.2.2.2⟩, fun j p => (h.2 j p).trans (h0.2 j p)⟩
theorem RLw.c1 {g' : gz_S} (h : RLw g Ls cur) (h1 : g'.1 = g.1) : RLw g' Ls cur := by
  unfold RLw MI LL Byt at *
  rw [h1]; exact h
theorem CX.c1 {g' : gz_S} {w0 : Nat} (h : CX g w0 V Ls cur) (h1 : g'.1 = g.1) : CX g' w0 V Ls cur := by
  refine ⟨?_, ?_, h.2.2.c1 h1⟩
  · unfold RV; rw [h1]; exact h.1
  · unfold RK; rw [h1]; exact h.2.1
theorem RG.wl {z : gz_S} {j k : Nat} {v : Int64} (h : RG 53 g (z.1, g.2.1, z.2.2)) : RG 53 g ((gz_wl z j k v).1, g.2.1, (gz_wl z j k v).2.2) := h
theorem RG.wx {z : gz_S} {x : Int32} (h : RG 53 g (z.1, g.2.1, z.2.2)) : RG 53 g ((gz_wi z 53 46 x).1, g.2.1, (gz_wi z 53 46 x).2.2) := by
  have := h.up (Or.inl rfl) (k := 46) (x := x) (by omega)
  exact this
/-- the reference's draws -/
theorem r_yahead (hX : CX g 53 V Ls cur) (hW : Wf B V) (h35 : g.1 39 35 = nI lv) (hlv : lv ≤ 9) (hw : g.2.1 39 42 = w) {k49 : Int32 → Int32 → gz_S → Option (Int32 × gz_S)} {x1 x4 : Int32} : ∃ g',
    ((fX12_draw La 6 g).bind (fun q68 => gz_let (gz_wi q68.2 53 46 q68.1) (fun g71 => (fX12_draw La 10 g71).bind (fun q75 => if (q75.2.1 39 35) ≤ q75.1 then fX12_years_129 La k49 x1 x4 q75.2 else (fX12_draw La (q75.2.1 39 27) q75.2).bind (fun q90 => (fX12_draw La 4 q90.2).bind (fun q97 => (fX12_canBegin La 53 q90.1 q97.1 q97.2).bind (fun q111 => if q111.1 = 0 then fX12_years_129 La k49 x1 x4 q111.2 else (fX12_begins0 La 53 q90.1 q97.1 q111.2).bind (fun q126 => fX12_years_129 La k49 x1 x4 q126)))))))) = fX12_years_129 La k49 x1 x4 g' ∧
      CX g' 53 (yV lv w V) Ls cur ∧ RG 53 g (g'.1, g.2.1, g'.2.2) ∧ g'.2.1 39 42 = yG lv w := by
  have h60 := hW.2.2.2.1
  have h10 := dr_ltn (nxG (nxG w)) (n := 10) (by omega)
  have h6 := dr_ltn (nxG w) (n := 6) (by omega)
  have h1 : yI w V < V 60 := dr_ltn (nxG (nxG (nxG w))) (n := V 60) (by omega)
  have h4 : yL w < 4 := dr_ltn (nxG (nxG (nxG (nxG w)))) (n := 4) (by omega)
  have hX1 : CX (gz_wi (gz_wl g 39 42 (nxG w)) 53 46 (nI (dr (nxG w) 6))) 53 (yT w V) Ls cur := CX.up (g := gz_wl g 39 42 (nxG w)) (Or.inl rfl) (hX.c1 rfl) (k := 46) (j := 46) (by omega) (rp_n (by omega))
  have hG1 : RG 53 g ((gz_wi (gz_wl g 39 42 (nxG w)) 53 46 (nI (dr (nxG w) 6))).1, g.2.1, (gz_wi (gz_wl g 39 42 (nxG w)) 53 46 (nI (dr (nxG w) 6))).2.2) := RG.wx (RG.wl RG.z0)
  have ew : (gz_wi (gz_wl g 39 42 (nxG w)) 53 46 (nI (dr (nxG w) 6))).2.1 39 42 = nxG w := wl_at g 39 42 _
  have e35 : (gz_wi (gz_wl g 39 42 (nxG w)) 53 46 (nI (dr (nxG w) 6))).1 39 35 = nI lv := h35
  rw [show fX12_draw La 6 g = _ from r_drawW (n := 6) hw (by omega) (by omega), Option.bind_some, gz_let_eq]
  dsimp only
  rw [show fX12_draw La 10 _ = _ from r_drawW (n := 10) ew (by omega) (by omega), Option.bind_some]
  dsimp only
  have eg : (gz_wl (gz_wi (gz_wl g 39 42 (nxG w)) 53 46 (nI (dr (nxG w) 6))) 39 42 (nxG (nxG w))).2.1 39 42 = nxG (nxG w) := wl_at _ _ _ _
  have hX2 : CX (gz_wl (gz_wi (gz_wl g 39 42 (nxG w)) 53 46 (nI (dr (nxG w) 6))) 39 42 (nxG (nxG w))) 53 (yT w V) Ls cur := hX1.c1 rfl
  have hG2 : RG 53 g ((gz_wl (gz_wi (gz_wl g 39 42 (nxG w)) 53 46 (nI (dr (nxG w) 6))) 39 42 (nxG (nxG w))).1, g.2.1, (gz_wl (gz_wi (gz_wl g 39 42 (nxG w)) 53 46 (nI (dr (nxG w) 6))) 39 42 (nxG (nxG w))).2.2) := hG1.wl
  have e35' : (gz_wl (gz_wi (gz_wl g 39 42 (nxG w)) 53 46 (nI (dr (nxG w) 6))) 39 42 (nxG (nxG w))).1 39 35 = nI lv := e35
  rw [e35']
  generalize gz_wl (gz_wi (gz_wl g 39 42 (nxG w)) 53 46 (nI (dr (nxG w) 6))) 39 42 (nxG (nxG w)) = z at *
  have hWt : Wf B (yT w V) := wf_up1 hW (Or.inl ⟨rfl, by omega⟩)
  unfold yV yG
  by_cases c : dr (nxG (nxG w)) 10 < lv
  · have e27 : z.1 39 27 = nI (V 60) := by rw [hX2.2.1.2.2.1, yT_n (by omega)]
    rw [if_neg (show ¬ nI lv ≤ nI (dr (nxG (nxG w)) 10) by rw [n_le (by omega) (by omega)]; omega), if_pos c, if_pos c, e27, r_drawW (n := V 60) eg (by omega) (by omega), Option.bind_some]
    dsimp only
    rw [show fX12_draw La 4 _ = _ from r_drawW (n := 4) (wl_at z 39 42 _) (by omega) (by omega), Option.bind_some]
    dsimp only
    have hX3 : CX (gz_wl (gz_wl z 39 42 (nxG (nxG (nxG w)))) 39 42 (nxG (nxG (nxG (nxG w))))) 53 (yT w V) Ls cur := CX.c1 (hX2.c1 (g' := gz_wl z 39 42 (nxG (nxG (nxG w)))) rfl) rfl
    have hG3 : RG 53 g ((gz_wl (gz_wl z 39 42 (nxG (nxG (nxG w)))) 39 42 (nxG (nxG (nxG (nxG w))))).1, g.2.1, (gz_wl (gz_wl z 39 42 (nxG (nxG (nxG w)))) 39 42 (nxG (nxG (nxG (nxG w))))).2.2) := hG2.wl.wl
    have fg : (gz_wl (gz_wl z 39 42 (nxG (nxG (nxG w)))) 39 42 (nxG (nxG (nxG (nxG w))))).2.1 39 42 = nxG (nxG (nxG (nxG w))) := wl_at _ _ _ _
    generalize gz_wl (gz_wl z 39 42 (nxG (nxG (nxG w)))) 39 42 (nxG (nxG (nxG (nxG w)))) = y at *
    rw [r_canBegin hX3 hWt, Option.bind_some]
    dsimp only
    have ei : (nI (yI w V)).toInt = ((yI w V : Nat) : Int) := n_ti (by omega)
    have el : (nI (yL w)).toInt = ((yL w : Nat) : Int) := n_ti (by omega)
    rw [ei, el, Int.toNat_natCast, yT_n (k := 60) (by omega), yT_n (k := 54 + yI w V) (by omega)]
    by_cases d : yT w V (V (54 + yI w V)) = 1
    · rw [if_pos d]
      exact ⟨y, if_pos (pI0 (fun hh => hh.2.2 d)), hX3, hG3, fg⟩
    · rw [if_neg d]
      obtain ⟨y2, q1, q2, q3⟩ := r_begins0 (La := La) (Or.inl rfl) hX3 hWt (i := yI w V) (l := yL w) (by rw [yT_n (by omega)]; exact h1)
      refine ⟨y2, (if_neg (pI1 ⟨by omega, by omega, d⟩)).trans (by rw [q1, Option.bind_some]), q3, hG3.lt q2, ?_⟩
      rw [q2.1.2.2.1]; exact fg
  · rw [if_pos (show nI lv ≤ nI (dr (nxG (nxG w)) 10) by rw [n_le (by omega) (by omega)]; omega), if_neg c, if_neg c]
    exact ⟨z, rfl, hX2, hG2, eg⟩
theorem r_year (h : ReW g l Ls Es cur lv V V0 a K Lg him IV ILg s) (hI : Inv V V0 a K Lg him IV ILg s B) (h0 : ¬ V 60 = 0) (hB : B < 700000) (hlv : lv ≤ 9) (hK : ∀ i, i < min 40 (a + 1) → kPush V K i 49 ≤ V 49) (hw : g.2.1 39 42 = w) {k49 : Int32 → Int32 → gz_S → Option (Int32 × gz_S)} {x1 x4 : Int32} : ∃ g0 g', fX12_remember La g = some g0 ∧
    ((fX12_draw La 6 g0).bind (fun q68 => gz_let (gz_wi q68.2 53 46 q68.1) (fun g71 => (fX12_draw La 10 g71).bind (fun q75 => if (q75.2.1 39 35) ≤ q75.1 then fX12_years_129 La k49 x1 x4 q75.2 else (fX12_draw La (q75.2.1 39 27) q75.2).bind (fun q90 => (fX12_draw La 4 q90.2).bind (fun q97 => (fX12_canBegin La 53 q90.1 q97.1 q97.2).bind (fun q111 => if q111.1 = 0 then fX12_years_129 La k49 x1 x4 q111.2 else (fX12_begins0 La 53 q90.1 q97.1 q111.2).bind (fun q126 => fX12_years_129 La k49 x1 x4 q126)))))))) = k49 x1 (x4 + 1) g' ∧
    FR g g' ∧ g'.2.1 39 42 = yG lv w ∧
    ReW g' l Ls Es cur lv (sHour (sTof Ls cur) (yV lv w V)) V0 (min 40 (a + 1)) (kPush V K) (uN Lg (yV lv w V 49) (hcode (sTof Ls cur) (yV lv w V))) him IV ILg s := by
  obtain ⟨hcx, hkp⟩ := h.cx hI h0
  have hW := (hI.2.2.1 h0).1
  have h60 := hW.2.2.2.1
  have h35 : g.1 39 35 = nI lv := h.1.2.2.2
  obtain ⟨g1, u1, u2, u3⟩ := r_remember (La := La) h.2.2.2.1 h.2.1
  have F1 := u2.y
  have hcx1 := hcx.cg F1 (fun j hj => by have := hj; omega) (fun k hk => by have := hk; omega)
  have hA1 : RowA (g1.1 53) V Lg := by rw [F1.1 53 (by omega) (by omega)]; exact h.2.1
  obtain ⟨g2, a1, a2, a3, a4⟩ := r_yahead (La := La) (g := g1) (lv := lv) (w := w) hcx1 hW (by rw [F1.2.1 35 (by omega)]; exact h35) hlv (by rw [F1.2.2.1]; exact hw) (k49 := k49) (x1 := x1) (x4 := x4)
  have hW2 : Wf B (yV lv w V) := yV_wf hW
  have eV : ∀ k, k < 30 ∨ 47 ≤ k → yV lv w V k = V k := fun k hk => yV_fix h60 hk
  have hkp1 := hkp.fr F1 (by omega)
  have hkp2 : RKp g2 (yV lv w V) := RKp.mo (g := g2) (by have := hkp1.fr a3.1 (by omega); exact this) (fun k hk => eV k (by omega)) h60.2
  have hA2 : RowA (g2.1 53) (yV lv w V) Lg := hA1.act (eV 49 (by omega)) a2.1 a3.2
  generalize yV lv w V = U at *
  have u49 : U 49 = V 49 := eV 49 (by omega)
  obtain ⟨g3, v1, v2, v3, v4⟩ := r_goHour (La := La) a2 hkp2 hW2 hB hA2
  have Fa : Fy KA SA g (g2.1, g1.2.1, g2.2.2) := (F1.mo (fun k hk => by have := hk; omega) (fun j hj => by have := hj; omega)).tr (a3.1.mo (fun k hk => by have := hk; omega) (fun j hj => by have := hj; omega))
  have Fb : Fy KA SA g2 g3 := v2.mo (fun k hk => by have := hk; omega) (fun j hj => by have := hj; omega)
  have F : Fy KA SA g (g3.1, g.2.1, g3.2.2) := ⟨fun j p q => (Fb.1 j p q).trans (Fa.1 j p q), fun k p => (Fb.2.1 k p).trans (Fa.2.1 k p), rfl, Fb.2.2.2.trans Fa.2.2.2⟩
  have hU : RU (g3.1, g.2.1, g3.2.2) (min 40 (a + 1)) (kPush V K) Lg := by
    have q1 := u3.fr a3.1 (by omega) (by omega)
    have q2 : RU g2 (min 40 (a + 1)) (kPush V K) Lg := q1
    have q3 := q2.fr v2 (by omega) (by omega)
    exact q3
  have hR' : ReW (g3.1, g.2.1, g3.2.2) l Ls Es cur lv (sHour (sTof Ls cur) U) V0 (min 40 (a + 1)) (kPush V K) (uN Lg (U 49) (hcode (sTof Ls cur) U)) him IV ILg s := by
    refine h.acts F v3.2.2 v4 (hU.lg (fun i hi k hk => uN_n (by have := hK i hi; omega))) ?_
    show g3.1 39 50 = nI him ∧ (him = 1 → RowA (g3.1 63) IV ILg)
    rw [v2.2.1 50 (by omega), v2.1 63 (by omega) (by omega)]
    have p1 : g2.1 39 50 = g1.1 39 50 := a3.1.2.1 50 (by omega)
    have p2 : g2.1 63 = g1.1 63 := a3.1.1 63 (by omega) (by omega)
    rw [p1, p2, F1.2.1 50 (by omega), F1.1 63 (by omega) (by omega)]; exact h.2.2.2.2.1
  refine ⟨g1, g3, u1, ?_, ⟨fun j hj => (FR.y F (fun j hj => by have := hj; omega)).1 j hj, F.2.2.2⟩, ?_, hR'.fr ⟨fun j _ _ => rfl, rfl⟩⟩
  · rw [a1]
    unfold fX12_years_129
    rw [v1, Option.bind_some, gz_let_eq]
  · rw [v2.2.2.1]; exact a4
end ST
