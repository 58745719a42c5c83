/-! calls fits and ask: both -/
section ST
variable {La : gz_L} {g : gz_S} {l : List Nat} {Ls : List (List Nat)} {Es : List (List eS)} {cur : Option Nat} {lv : Nat} {V V0 : Nat → Nat} {a : Nat} {K : Nat → Nat → Nat} {Lg : Nat → Nat} {him : Nat} {IV ILg : Nat → Nat} {s : sS} {B : Nat}
theorem ReW.tld (h : ReW g l Ls Es cur lv V V0 a K Lg him IV ILg s) (h0 : ¬ V0 60 = 0) : ∃ S : SH, V0 = shV S ∧ ShB S ∧ sAgr S ∧ TldS g S := by
  rcases h.2.2.1 with hh | ⟨S, h1, h2, h3, h4, h5, h6, h7⟩
  · exact absurd hh.1 h0
  · exact ⟨S, h1, h2, h3, h4, h5, h6, h7⟩
theorem shV_0 {S : SH} {i : Nat} (hi : i < 4) : shV S (42 + i) = 0 := by
  unfold shV shW
  rw [if_neg (by omega), if_neg (by omega), if_neg (by omega), if_pos (by omega)]
theorem ClW.cg {S : SH} (h : ClW La g l Ls Es cur lv V V0 a K Lg him IV ILg s) (hW : Wf B V) (hV : V0 = shV S) (hb : ShB S) (hA : sAgr S) : CG La g V0 (sTof Ls cur) B :=
  ⟨h.2.2.1, by rw [hV]; exact (shV_wf hb hA).mo (Nat.zero_le _), h.2.2.2.2.2.1, (h.cf hW).2.2.2.1, h.2.2.2.1⟩
theorem FitS.of {S : SH} {B : Nat} {i : Nat} (hC : ClW La g l Ls Es cur lv V V0 a K Lg him IV ILg s) (hR : ReW g l Ls Es cur lv V V0 a K Lg him IV ILg s) (hV : V0 = shV S) (hb : ShB S) (hA : sAgr S) (hT : TldS g S) (hB : B < 400000) (hi : i < V0 60) :
    ∃ g', fX12_laysPaths La (nI i) g = some g' ∧ Fy KQ SQ g g' ∧ RLw g' Ls cur ∧ FitS g' (sTof Ls cur) V0 s i := by
  have hW : Wf B V0 := by rw [hV]; exact (shV_wf hb hA).mo (Nat.zero_le _)
  have h60 := hW.2.2.2.1
  have h4 : i < 4 := by omega
  have hL := sTof_lt (Ls := Ls) (cur := cur)
  obtain ⟨rk, _⟩ := Tld.rk (V := V0) hR.2.2.1 (fun k _ => rfl) (by omega)
  obtain ⟨g2, v1, v2, v3, v4⟩ := r_paths (La := La) (i := i) ⟨rk, hR.1.2.1⟩ hT hb hA hV hW hB hi
  have hs := hC.2.2.2.2.2.2.2
  obtain ⟨r1, r2⟩ := hR.2.2.2.2.2
  refine ⟨g2, v1, v2, v3, ⟨by rw [v2.2.1 47 (by omega)]; exact r1, hs.2.1, h4⟩, fun k hk => ?_, fun q hq k hk => ⟨?_, sTr_lt hL hW h4 hq (by omega)⟩⟩
  · rw [v2.1 59 (by omega) (by omega)]
    obtain ⟨e1, e2, e3⟩ := r2 k hk
    exact ⟨e1, e2, e3, (hs.2.2 k hk).2.2.2⟩
  · rw [v4 q hq k hk, rU_tr hL hW hB hi (by rw [hV]; exact shV_0 h4) hq hk]
theorem w_fits (hw : WR La g B) (hB : B < 400000) (x x2 : Int32) : CallOk La (fX11_fits La x x2) (fX12_fits La x x2) g B := by
  obtain ⟨l, Ls, Es, cur, lv, V, V0, a, K, Lg, him, IV, ILg, s, hC, hR, hI⟩ := hw
  have hg4 := hI.g4
  by_cases y1 : 0 ≤ x.toInt ∧ x.toInt < (V 60 : Int)
  · obtain ⟨i, i1, rfl, i3⟩ := x_of (x := x) y1.1
    have h0 : ¬ V 60 = 0 := fun h0 => by omega
    have hVV : V 60 = V0 60 := hI.1 60 (by omega)
    obtain ⟨hW, h49, _⟩ := hI.2.2.1 h0
    have hi : i < V0 60 := by omega
    obtain ⟨S, hV, hb, hA, _⟩ := hR.tld (by omega)
    have hbit := sFits_bit (T := sTof Ls cur) (V := V0) (s := s) (i := i) 16
    have hz : ∀ j, 16 ≤ j → (sFits (sTof Ls cur) V0 s i 16).testBit j = false := fun j hj => by
      cases hb : (sFits (sTof Ls cur) V0 s i 16).testBit j with
      | false => rfl
      | true => have := ((hbit j).mp hb).1; omega
    have hlt : sFits (sTof Ls cur) V0 s i 16 < 2 ^ 16 := Nat.lt_pow_two_of_testBit _ hz
    have hlt2 : sFits (sTof Ls cur) V0 s i 16 < 1073741824 := by omega
    have hup := pc_up hz 16
    rw [show 16 + 16 = 32 from rfl] at hup
    obtain ⟨g1, u1, u2, _⟩ := c_fitting (La := La) (hC.cg hW hV hb hA) hC.2.2.2.2.2.2.2 hB hi
    have hR1 := hR.fr (FC.of u2.1 (fun j hj => by have := hj; omega))
    have hC1 : ClW La g1 l Ls Es cur lv V V0 a K Lg him IV ILg s := hC.sp u2.1 (fun j hj => by have := hj; omega) u2.2
    have k1 : fX11_fits La (nI i) x2 g = some (rFv (sFits (sTof Ls cur) V0 s i 16) x2, g1) := by
      unfold fX11_fits rFv
      rw [c_hasGoerW hC hI, Option.bind_some]
      refine (if_neg (pI1 y1)).trans ?_
      rw [u1, Option.bind_some]
      by_cases c : x2 = -1
      · rw [if_pos c, if_pos c, c_bitCount hlt2, Option.bind_some, hup]
      · rw [if_neg c, if_neg c, c_fit hlt2, Option.bind_some]
    obtain ⟨hR0, F0⟩ := hR1.f0
    have hC0 : ClW La (gz_wi g1 39 0 0) l Ls Es cur lv V V0 a K Lg him IV ILg s := hC1.fr F0
    by_cases c : -1 ≤ x2.toInt
    · obtain ⟨S', hV', hb', hA', hT'⟩ := hR0.tld (by omega)
      obtain ⟨g2, v1, v2, v3, v4⟩ := FitS.of (i := i) hC0 hR0 hV' hb' hA' hT' hB hi
      have hF := hR1.f0q.tr v2
      refine CallOk.of k1 (g2 := g2) ?_ hC1 (FR.y hF (fun j hj => by have := hj; omega)) (hR1.sp hF v3) hI
      unfold fX12_fits
      rw [gz_let_eq, hR0.isGoer hI, Option.bind_some]
      refine (if_neg (pI1 y1)).trans ((if_pos (show (-1) ≤ x2 by rw [Int32.le_iff_toInt_le]; exact c)).trans ?_)
      rw [v1, Option.bind_some]
      exact r_fits v4
    · refine CallOk.of k1 (g2 := gz_wi g1 39 0 0) ?_ hC1 F0 hR0 hI
      unfold fX12_fits
      rw [gz_let_eq, hR0.isGoer hI, Option.bind_some]
      refine (if_neg (pI1 y1)).trans ((if_neg (show ¬ (-1) ≤ x2 by rw [Int32.le_iff_toInt_le]; exact c)).trans ?_)
      unfold rFv sNth
      rw [if_neg (show ¬ x2 = -1 from fun hh => c (by rw [hh]; decide)), if_pos (show x2.toInt < 0 by omega)]; rfl
  · refine CallOk.no (v := -1) ?_ ?_ hC hR hI
    · unfold fX11_fits
      rw [c_hasGoerW hC hI, Option.bind_some]
      exact if_pos (pI0 y1)
    · unfold fX12_fits
      rw [gz_let_eq, hR.f0.1.isGoer hI, Option.bind_some]
      exact if_pos (pI0 y1)
theorem w_ask (hw : WR La g B) (hB : B < 400000) (x : Int32) : CallOk La (fX11_ask La x) (fX12_ask La x) g B := by
  obtain ⟨l, Ls, Es, cur, lv, V, V0, a, K, Lg, him, IV, ILg, s, hC, hR, hI⟩ := hw
  have hg4 := hI.g4
  by_cases y1 : 0 ≤ x.toInt ∧ x.toInt < (V 60 : Int)
  · obtain ⟨i, i1, rfl, i3⟩ := x_of (x := x) y1.1
    have h0 : ¬ V 60 = 0 := fun h0 => by omega
    have hVV : V 60 = V0 60 := hI.1 60 (by omega)
    obtain ⟨hW, h49, _⟩ := hI.2.2.1 h0
    have hi : i < V0 60 := by omega
    obtain ⟨S, hV, hb, hA, _⟩ := hR.tld (by omega)
    have hbit := sFits_bit (T := sTof Ls cur) (V := V0) (s := s) (i := i) 16
    have hlt : sFits (sTof Ls cur) V0 s i 16 < 2 ^ 16 := Nat.lt_pow_two_of_testBit _ (fun j hj => by
      cases hb : (sFits (sTof Ls cur) V0 s i 16).testBit j with
      | false => rfl
      | true => have := ((hbit j).mp hb).1; omega)
    have hlt2 : sFits (sTof Ls cur) V0 s i 16 < 1073741824 := by omega
    have hW0 : Wf B V0 := by rw [hV]; exact (shV_wf hb hA).mo (Nat.zero_le _)
    have hL := sTof_lt (Ls := Ls) (cur := cur)
    obtain ⟨g1, u1, u2, u3⟩ := c_fitting (La := La) (hC.cg hW hV hb hA) hC.2.2.2.2.2.2.2 hB hi
    obtain ⟨g1', w1, w2⟩ := c_bestHour (La := La) (g := g1) (T := sTof Ls cur) (V := V0) (i := i) hlt2 (fun q k hq hk => sTr_lt hL hW0 (by omega) hq (by omega)) u3
    have hF1 : FC g g1' := (FC.of u2.1 (fun j hj => by have := hj; omega)).tr (FC.of w2 (fun j hj => by have := hj; omega))
    have hR1 := hR.fr hF1
    have hC0' : ClW La g1 l Ls Es cur lv V V0 a K Lg him IV ILg s := hC.sp u2.1 (fun j hj => by have := hj; omega) u2.2
    have hC1 : ClW La g1' l Ls Es cur lv V V0 a K Lg him IV ILg s := hC0'.sp w2 (fun j hj => by have := hj; omega) (by rw [w2.1 23 (by omega)]; exact u2.2)
    have k1 : fX11_ask La (nI i) g = some (oI (if sFits (sTof Ls cur) V0 s i 16 = 0 then none else (sBest (sTof Ls cur) V0 (sFits (sTof Ls cur) V0 s i 16) i 30).1), g1') := by
      unfold fX11_ask
      rw [c_hasGoerW hC hI, Option.bind_some]
      refine (if_neg (pI1 y1)).trans ?_
      rw [u1, Option.bind_some, w1, Option.bind_some]
    obtain ⟨hR0, F0⟩ := hR1.f0
    have hC0 : ClW La (gz_wi g1' 39 0 0) l Ls Es cur lv V V0 a K Lg him IV ILg s := hC1.fr F0
    obtain ⟨S', hV', hb', hA', hT'⟩ := hR0.tld (by omega)
    obtain ⟨g2, v1, v2, v3, v4⟩ := FitS.of (i := i) hC0 hR0 hV' hb' hA' hT' hB hi
    obtain ⟨g3, p1, p2⟩ := r_ask (La := La) v4
    have p2y : Fy KQ SQ g2 g3 := (Fz.y p2).mo (fun k hk => hk.elim) (fun j hj => by have := hj; omega)
    have hF := hR1.f0q.tr (v2.tr p2y)
    have hL3 : RLw g3 Ls cur := v3.fr (Fz.y p2) id id (by omega) (by omega) (by omega) (by omega) (by omega)
    refine CallOk.of k1 (g2 := g3) ?_ hC1 (FR.y hF (fun j hj => by have := hj; omega)) (hR1.sp hF hL3) hI
    unfold fX12_ask
    rw [gz_let_eq, hR0.isGoer hI, Option.bind_some]
    refine (if_neg (pI1 y1)).trans ?_
    rw [v1, Option.bind_some]
    exact p1
  · refine CallOk.no (v := -1) ?_ ?_ hC hR hI
    · unfold fX11_ask
      rw [c_hasGoerW hC hI, Option.bind_some]
      exact if_pos (pI0 y1)
    · unfold fX12_ask
      rw [gz_let_eq, hR.f0.1.isGoer hI, Option.bind_some]
      exact if_pos (pI0 y1)
end ST
