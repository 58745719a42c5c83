/-! a year: what is ahead of its hour -/
def yT (w : Int64) (V : Nat → Nat) : Nat → Nat := uN V 46 (dr (nxG w) 6)
abbrev yI (w : Int64) (V : Nat → Nat) : Nat := dr (nxG (nxG (nxG w))) (V 60)
abbrev yL (w : Int64) : Nat := dr (nxG (nxG (nxG (nxG w)))) 4
def yV (lv : Nat) (w : Int64) (V : Nat → Nat) : Nat → Nat := if dr (nxG (nxG w)) 10 < lv then (if yT w V (V (54 + yI w V)) = 1 then yT w V else sBegin (yT w V) (yI w V) (yL w)) else yT w V
def yG (lv : Nat) (w : Int64) : Int64 := if dr (nxG (nxG w)) 10 < lv then nxG (nxG (nxG (nxG w))) else nxG (nxG w)
theorem dr_ltn (w : Int64) {n : Nat} (h : 0 < n) : dr w n < n := Nat.mod_lt _ h
theorem wl_at (g : gz_S) (j k : Nat) (v : Int64) : (gz_wl g j k v).2.1 j k = v := by unfold gz_wl; simp [vp_updL]
section YR
variable {La : gz_L} {g : gz_S} {V : Nat → Nat} {B lv : Nat} {w : Int64}
theorem yT_n {k : Nat} (h : k ≠ 46) : yT w V k = V k := uN_n h
theorem yV_fix (h : 1 ≤ V 60 ∧ V 60 ≤ 4) {k : Nat} (hk : k < 30 ∨ 47 ≤ k) : yV lv w V k = V k := by
  have h1 : yI w V < V 60 := dr_ltn (nxG (nxG (nxG w))) (n := V 60) (by omega)
  unfold yV
  split
  · split
    · exact yT_n (by omega)
    · rw [sBegin_fix (by omega) (by omega)]; exact yT_n (by omega)
  · exact yT_n (by omega)
theorem yV_wf (h : Wf B V) : Wf B (yV lv w V) := by
  have h60 := h.2.2.2.1
  have h6 := dr_ltn (nxG w) (n := 6) (by omega)
  have h1 : yI w V < V 60 := dr_ltn (nxG (nxG (nxG w))) (n := V 60) (by omega)
  have h4 : yL w < 4 := dr_ltn (nxG (nxG (nxG (nxG w)))) (n := 4) (by omega)
  have ht : Wf B (yT w V) := wf_up1 h (Or.inl ⟨rfl, by omega⟩)
  unfold yV
  split
  · split
    · exact ht
    · exact sBegin_wf ht (by rw [yT_n (by omega)]; exact h1) h4
  · exact ht
theorem c_drawW {n : Nat} (hw : g.2.1 0 17 = w) (h1 : 1 ≤ n) (h2 : n ≤ 1000) : fX11_draw La (nI n) g = some (nI (dr (nxG w) n), gz_wl g 0 17 (nxG w)) := by
  rw [← hw]; exact c_draw h1 h2
theorem r_drawW {n : Nat} (hw : g.2.1 39 42 = w) (h1 : 1 ≤ n) (h2 : n ≤ 1000) : fX12_draw La (nI n) g = some (nI (dr (nxG w) n), gz_wl g 39 42 (nxG w)) := by
  rw [← hw]; exact r_draw h1 h2
/-- the class's draws -/
theorem c_yahead (h22 : g.1 22 = fI V) (hW : Wf B V) (h16 : g.1 0 16 = nI lv) (hlv : lv ≤ 9) (hw : g.2.1 0 17 = w) {k49 : Int32 → Int32 → gz_S → Option (Int32 × gz_S)} {x1 x4 : Int32} : ∃ g',
    ((fX11_draw La 6 g).bind (fun q78 => gz_let (gz_wi q78.2 22 46 q78.1) (fun g81 => (fX11_draw La 10 g81).bind (fun q85 => if (q85.2.1 0 16) ≤ q85.1 then fX11_years_153 La k49 x1 x4 q85.2 else (fX11_draw La (q85.2.1 22 60) q85.2).bind (fun q106 => (fX11_draw La 4 q106.2).bind (fun q113 => if gz_ok ((54 : Int32) + q106.1) 61 then (fX6_kind La 6 (q113.2.1 22 (Int32.toNatClampNeg ((54 : Int32) + q106.1))) q113.2).bind (fun q135 => if q135.1 = 1 then fX11_years_153 La k49 x1 x4 q135.2 else (fX6_begin La 6 q106.1 q113.1 q135.2).bind (fun q150 => fX11_years_153 La k49 x1 x4 q150)) else none)))))) = fX11_years_153 La k49 x1 x4 g' ∧
      g'.1 22 = fI (yV lv w V) ∧ (∀ j, j ≠ 22 → g'.1 j = g.1 j) ∧ g'.2.2 = g.2.2 ∧ g'.2.1 0 17 = yG lv w := by
  have h60 := hW.2.2.2.1
  have h10 := dr_ltn (nxG (nxG w)) (n := 10) (by omega)
  have h6 := dr_ltn (nxG w) (n := 6) (by omega)
  have h1 : yI w V < V 60 := dr_ltn (nxG (nxG (nxG w))) (n := V 60) (by omega)
  have h4 : yL w < 4 := dr_ltn (nxG (nxG (nxG (nxG w)))) (n := 4) (by omega)
  have e81 : gz_wi (gz_wl g 0 17 (nxG w)) 22 46 (nI (dr (nxG w) 6)) = gz_wa (gz_wl g 0 17 (nxG w)) 22 (fI (yT w V)) := by
    rw [wi_wa]
    show gz_wa _ 22 (upd (g.1 22) 46 _) = _
    rw [h22, upd_fI]; rfl
  have ew : (gz_wa (gz_wl g 0 17 (nxG w)) 22 (fI (yT w V))).2.1 0 17 = nxG w := wl_at g 0 17 _
  rw [show fX11_draw La 6 g = _ from c_drawW (n := 6) hw (by omega) (by omega), Option.bind_some, gz_let_eq]
  dsimp only
  rw [e81, show fX11_draw La 10 _ = _ from c_drawW (n := 10) ew (by omega) (by omega), Option.bind_some]
  dsimp only
  have e22 : (gz_wl (gz_wa (gz_wl g 0 17 (nxG w)) 22 (fI (yT w V))) 0 17 (nxG (nxG w))).1 22 = fI (yT w V) := by
    show (gz_wa (gz_wl g 0 17 (nxG w)) 22 (fI (yT w V))).1 22 = _
    exact wa_at _ _ _
  have e16 : (gz_wl (gz_wa (gz_wl g 0 17 (nxG w)) 22 (fI (yT w V))) 0 17 (nxG (nxG w))).1 0 16 = nI lv := by
    show (gz_wa (gz_wl g 0 17 (nxG w)) 22 (fI (yT w V))).1 0 16 = _
    rw [wa_ne (by omega)]; exact h16
  have en : ∀ j, j ≠ 22 → (gz_wl (gz_wa (gz_wl g 0 17 (nxG w)) 22 (fI (yT w V))) 0 17 (nxG (nxG w))).1 j = g.1 j := fun j hj => by
    show (gz_wa (gz_wl g 0 17 (nxG w)) 22 (fI (yT w V))).1 j = _
    rw [wa_ne hj]; rfl
  have e2 : (gz_wl (gz_wa (gz_wl g 0 17 (nxG w)) 22 (fI (yT w V))) 0 17 (nxG (nxG w))).2.2 = g.2.2 := rfl
  have eg : (gz_wl (gz_wa (gz_wl g 0 17 (nxG w)) 22 (fI (yT w V))) 0 17 (nxG (nxG w))).2.1 0 17 = nxG (nxG w) := wl_at _ _ _ _
  rw [e16]
  generalize gz_wl (gz_wa (gz_wl g 0 17 (nxG w)) 22 (fI (yT w V))) 0 17 (nxG (nxG w)) = z at *
  unfold yV yG
  by_cases c : dr (nxG (nxG w)) 10 < lv
  · rw [if_neg (show ¬ nI lv ≤ nI (dr (nxG (nxG w)) 10) by rw [n_le (by omega) (by omega)]; omega), if_pos c, if_pos c, e22, fI_ap, yT_n (by omega), c_drawW (n := V 60) eg (by omega) (by omega), Option.bind_some]
    dsimp only
    rw [show fX11_draw La 4 _ = _ from c_drawW (n := 4) (wl_at z 0 17 _) (by omega) (by omega), Option.bind_some]
    dsimp only
    rw [show (54 : Int32) + nI (yI w V) = nI (54 + yI w V) from n_add 54 _, if_pos (n_okP (by omega) (by omega)), n_cl (by omega)]
    have f22 : (gz_wl (gz_wl z 0 17 (nxG (nxG (nxG w)))) 0 17 (nxG (nxG (nxG (nxG w))))).1 22 = fI (yT w V) := e22
    have fn : ∀ j, j ≠ 22 → (gz_wl (gz_wl z 0 17 (nxG (nxG (nxG w)))) 0 17 (nxG (nxG (nxG (nxG w))))).1 j = g.1 j := en
    have f2 : (gz_wl (gz_wl z 0 17 (nxG (nxG (nxG w)))) 0 17 (nxG (nxG (nxG (nxG w))))).2.2 = g.2.2 := e2
    have fg : (gz_wl (gz_wl z 0 17 (nxG (nxG (nxG w)))) 0 17 (nxG (nxG (nxG (nxG w))))).2.1 0 17 = nxG (nxG (nxG (nxG w))) := wl_at _ _ _ _
    generalize gz_wl (gz_wl z 0 17 (nxG (nxG (nxG w)))) 0 17 (nxG (nxG (nxG (nxG w)))) = y at *
    have b54 := (hW.2.2.2.2.2.2.2.2.2.1 (yI w V) (by omega)).2.2.2.2.2
    have bk := hW.1 (V (54 + yI w V))
    rw [f22, fI_ap, yT_n (by omega), show fX6_kind La 6 _ y = _ from c_kind (w := 6) f22 (c := V (54 + yI w V)) (by omega), Option.bind_some]
    dsimp only
    by_cases d : yT w V (V (54 + yI w V)) = 1
    · rw [if_pos d, if_pos (show nI (yT w V (V (54 + yI w V))) = 1 by rw [d]; rfl)]
      exact ⟨y, rfl, f22, fn, f2, fg⟩
    · rw [if_neg d, if_neg (show ¬ nI (yT w V (V (54 + yI w V))) = 1 by show ¬ nI _ = nI 1; rw [n_eq (by rw [yT_n (by omega)]; omega) (by omega)]; exact d), show fX6_begin La 6 _ _ y = _ from c_begin (w := 6) f22 (i := yI w V) (l := yL w) (by omega), Option.bind_some]
      exact ⟨gz_wa y 22 (fI (sBegin (yT w V) (yI w V) (yL w))), rfl, wa_at _ _ _, fun j hj => by rw [wa_ne hj]; exact fn j hj, f2, fg⟩
  · rw [if_pos (show nI lv ≤ nI (dr (nxG (nxG w)) 10) by rw [n_le (by omega) (by omega)]; omega), if_neg c, if_neg c]
    exact ⟨z, rfl, e22, en, e2, eg⟩
theorem CP.cgV {d : Nat} {g' : gz_S} {V' : Nat → Nat} {a : Nat} {K : Nat → Nat → Nat} {Lg : Nat → Nat} {him : Nat} {IV ILg : Nat → Nat} (h : CP d g V a K Lg him IV ILg) (he : ∀ j, j = 9 ∨ (26 ≤ j ∧ j < 30) → g'.1 j = g.1 j) (hV : ∀ k, 49 ≤ k → V' k = V k) : CP d g' V' a K Lg him IV ILg := by
  unfold CP kHrs at *
  rw [he 9 (by omega), he 26 (by omega), he 27 (by omega), he 28 (by omega), he 29 (by omega), hV 49 (by omega)]
  obtain ⟨h1, h2, h3, h4, h5, h6, h7, h8, h9⟩ := h
  exact ⟨h1, h2, h3, h4, h5, h6, ⟨fun i hi => ⟨(h7.1 i hi).1, (h7.1 i hi).2.1, fun k hk => by rw [hV k (by omega)]; exact (h7.1 i hi).2.2 k hk⟩, h7.2⟩, h8, fun hh => ⟨(h9 hh).1, fun k hk => by rw [hV k (by omega)]; exact (h9 hh).2.1 k hk, (h9 hh).2.2⟩⟩
theorem LW.cg {g' : gz_S} {T : sT} (h : LW La g T) (h2 : g'.2.2 0 = g.2.2 0) (hd : ∀ j, 64 ≤ j → g'.1 j = g.1 j) : LW La g' T := by
  cases T with
  | none => show g'.2.2 0 = none; rw [h2]; exact h
  | some t =>
    obtain ⟨ht, e, he, hl, hx⟩ := h
    exact ⟨ht, e, by rw [h2]; exact he, hl, fun g1 h1 => hx g1 (h1.trans (hd _ (by have := hl.1; omega)))⟩
end YR
