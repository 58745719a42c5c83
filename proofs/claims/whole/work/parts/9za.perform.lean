/-! call perform: what each step leaves -/
section ST
variable {La : gz_L} {g : gz_S} {l : List Nat} {Ls : List (List Nat)} {Es : List (List eS)} {cur : Option Nat} {lv : Nat} {V V0 : Nat → Nat} {a : Nat} {K : Nat → Nat → Nat} {Lg : Nat → Nat} {him : Nat} {IV ILg : Nat → Nat} {s : sS} {B : Nat} {e : sE}
/-- scene, how many are kept, the kept, the log -/
abbrev pT : Type := (Nat → Nat) × Nat × (Nat → Nat → Nat) × (Nat → Nat)
def pSt (T : sT) (e : sE) (p : pT) (i : Nat) : pT := (if e.2.1 i = 0 then sHour T p.1 else sDo p.1 e i, min 40 (p.2.1 + 1), kPush p.1 p.2.2.1, if e.2.1 i = 0 then uN p.2.2.2 (p.1 49) (hcode T p.1) else p.2.2.2)
theorem pSt_inv {p : pT} {i : Nat} (hI : Inv p.1 V0 p.2.1 p.2.2.1 p.2.2.2 him IV ILg s B) (h0 : ¬ p.1 60 = 0) (hT : TLt (sTof Ls cur)) (hB : B < 700000) (hwl : sWell (e.2.1 i) (e.2.2.1 i) (e.2.2.2 i)) (hm : sMay p.1 e i) :
    Inv (pSt (sTof Ls cur) e p i).1 V0 (pSt (sTof Ls cur) e p i).2.1 (pSt (sTof Ls cur) e p i).2.2.1 (pSt (sTof Ls cur) e p i).2.2.2 him IV ILg s (B + 20) ∧ ¬ (pSt (sTof Ls cur) e p i).1 60 = 0 := by
  obtain ⟨V, a, K, Lg⟩ := p
  obtain ⟨hW, h49, _⟩ := hI.2.2.1 h0
  have hg4 := hI.g4
  have hI : Inv V V0 a K Lg him IV ILg s B := hI
  have h0 : ¬ V 60 = 0 := h0
  have hW : Wf B V := hW
  have h49 : V 49 ≤ 9999 := h49
  have hg4 : V 60 ≤ 4 := hg4
  have e49 : sHour (sTof Ls cur) V 49 = V 49 + 1 := uN_s _ _ _
  unfold pSt
  by_cases c : e.2.1 i = 0
  · have hm' : sMay1 V (e.2.1 i) ((e.2.2.1 i).getD 0) ((e.2.2.2 i).getD 0) := hm
    rw [c] at hm'
    have hm' := sMay1_0.mp hm'
    rw [if_pos c, if_pos c]
    show Inv (sHour (sTof Ls cur) V) V0 (min 40 (a + 1)) (kPush V K) (uN Lg (V 49) (hcode (sTof Ls cur) V)) him IV ILg s (B + 20) ∧ ¬ sHour (sTof Ls cur) V 60 = 0
    exact ⟨hI.act h0 (by omega) (sHour_wf hT hW (by omega)) (by rw [e49]; omega) (fun k hk => sHour_fix (V := V) hg4 (by omega)) (okc_u hI.2.2.2.1 (by have := sMet_le (T := sTof Ls cur) (V := V) hg4; omega) (sEnd16 hg4) (by have := hW.2.2.2.2.1; omega)), by show ¬ sHour _ V 60 = 0; rw [sHour_fix hg4 (by omega)]; exact h0⟩
  · rw [if_neg c, if_neg c]
    obtain ⟨d1, d2⟩ := sDo_ok hW hwl c hm
    show Inv (sDo V e i) V0 (min 40 (a + 1)) (kPush V K) Lg him IV ILg s (B + 20) ∧ ¬ sDo V e i 60 = 0
    exact ⟨hI.act h0 (by omega) (d1.mo (by omega)) (by show sDo V e i 49 ≤ 9999; rw [d2 49 (by omega)]; exact h49) (fun k hk => d2 k (by omega)) hI.2.2.2.1, by show ¬ sDo V e i 60 = 0; rw [d2 60 (by omega)]; exact h0⟩
/-- one step of the class -/
theorem c_pstep {p : pT} {i E : Nat} (hC : ClW La g l Ls Es cur lv p.1 V0 p.2.1 p.2.2.1 p.2.2.2 him IV ILg s) (hI : Inv p.1 V0 p.2.1 p.2.2.1 p.2.2.2 him IV ILg s B) (h0 : ¬ p.1 60 = 0) (hB : B < 600000) (hev : ∀ g', FC g g' → ClT La g' l Ls Es cur lv → EvR La g' E e) (hi : i < e.1) (hm : sMay p.1 e i)
    {k24 : Int32 → gz_S → Option (Int32 × gz_S)} : ∃ g', ((fX5_keep La 6 g).bind (fun q54 => (fX0_isHour La E (nI i) q54).bind (fun q59 => if q59.1 = 0 then (fX0_doByHand La E (nI i) 6 q59.2).bind (fun q79 => fX11_perform_82 La E k24 (nI i) q79) else (fX11_passNow La q59.2).bind (fun q66 => fX11_perform_82 La E k24 (nI i) q66.2)))) = k24 (nI (i + 1)) g' ∧ FC g g' ∧
      ClW La g' l Ls Es cur lv (pSt (sTof Ls cur) e p i).1 V0 (pSt (sTof Ls cur) e p i).2.1 (pSt (sTof Ls cur) e p i).2.2.1 (pSt (sTof Ls cur) e p i).2.2.2 him IV ILg s := by
  obtain ⟨V, a, K, Lg⟩ := p
  obtain ⟨hW, h49, _⟩ := hI.2.2.1 h0
  have hg4 := hI.g4
  have hC : ClW La g l Ls Es cur lv V V0 a K Lg him IV ILg s := hC
  have hI : Inv V V0 a K Lg him IV ILg s B := hI
  have h0 : ¬ V 60 = 0 := h0
  have hW : Wf B V := hW
  have h49 : V 49 ≤ 9999 := h49
  have nx : ∀ z, fX11_perform_82 La E k24 (nI i) z = k24 (nI (i + 1)) z := fun z => by unfold fX11_perform_82; rw [gz_let_eq, show nI i + (1 : Int32) = nI (i + 1) from n_add _ _]
  -- behind keep the class still holds all but what is kept
  obtain ⟨gk, u1, u2, u3⟩ := c_keep (La := La) hC.2.1 hC.2.2.2.2.2.2.1
  have hfc : FC g gk := FC.of u2 (fun j hj => by omega)
  have hCk : ClT La gk l Ls Es cur lv := hC.1.cg (u2.1 0 (by omega)) (u2.1 1 (by omega)) (u2.1 14 (by omega)) (Tq.ww u2.2) (fun j hj => u2.1 j (by omega))
  have hek := hev gk hfc hCk
  have hvk : gk.1 (6 + 16) = fI V := by rw [u2.1 (6 + 16) (by omega)]; exact hC.2.1
  unfold pSt
  by_cases c : e.2.1 i = 0
  · obtain ⟨g0, g1, v1, v2, v3, v4⟩ := c_passNow (La := La) hC hW (by omega) h49
    have hgk : g0 = gk := by rw [u1] at v1; injection v1 with v1; exact v1.symm
    subst hgk
    refine ⟨g1, ?_, v3, by rw [if_pos c, if_pos c]; exact v4⟩
    rw [u1, Option.bind_some, c_isHour hek hi, Option.bind_some]
    refine (if_neg (pI1 c)).trans ?_
    rw [v2, Option.bind_some]; exact nx g1
  · obtain ⟨g0, v1, v2, v3⟩ := c_actK (La := La) hC
    have hgk : g0 = gk := by rw [u1] at v1; injection v1 with v1; exact v1.symm
    subst hgk
    obtain ⟨d1, d2⟩ := sDo_ok hW (hek.2.2.2 i hi).2.2.2 c hm
    obtain ⟨w1, w2⟩ := v3 (sDo V e i) d2
    refine ⟨_, ?_, w1, by rw [if_neg c, if_neg c]; exact w2⟩
    rw [u1, Option.bind_some, c_isHour hek hi, Option.bind_some]
    refine (if_pos (pI0 c)).trans ?_
    rw [show fX0_doByHand La E (nI i) 6 g0 = some (gz_wa g0 22 (fI (sDo V e i))) from c_doByHand (w2 := 6) (Or.inr (Or.inl rfl)) hek hi hvk hW hm c, Option.bind_some]; exact nx _
end ST
