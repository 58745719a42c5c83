/-! call text: both -/
theorem sb_by : ∀ n, n < 256 → vp_nar .byte (sb n) = sb n := by decide +kernel
theorem gd_old {α : Type} {xs : List α} {x d : α} {i : Nat} (h : i < xs.length) : (xs ++ [x]).getD i d = xs.getD i d := by
  rw [List.getD_eq_getElem?_getD, List.getElem?_append_left h, List.getD_eq_getElem?_getD]
theorem gd_new {α : Type} {xs : List α} {x d : α} : (xs ++ [x]).getD xs.length d = x := by
  rw [List.getD_eq_getElem?_getD, List.getElem?_append_right (Nat.le_refl _), Nat.sub_self]; rfl
theorem shV_z {S : SH} : Z61 (shV S) := by
  intro k hk
  unfold shV shW
  rw [if_neg (by omega), if_neg (by omega), if_neg (by omega), if_neg (by omega), if_neg (by omega), if_neg (by omega), if_neg (by omega), if_neg (by omega), if_neg (by omega), if_neg (by omega), if_neg (by omega), if_neg (by omega), if_neg (by omega)]
section ST
variable {La : gz_L} {g : gz_S} {l : List Nat} {Ls : List (List Nat)} {Es : List (List eS)} {cur : Option Nat} {lv : Nat} {V V0 : Nat → Nat} {a : Nat} {K : Nat → Nat → Nat} {Lg : Nat → Nat} {him : Nat} {IV ILg : Nat → Nat} {s : sS} {B : Nat}
theorem ClW.fa {l' : List Nat} {g1 : gz_S} (hC : ClW La g l Ls Es cur lv V V0 a K Lg him IV ILg s) (u2 : Fr FA g g1) (u3 : TP g1 l') : ClW La g1 l' Ls Es cur lv V V0 a K Lg him IV ILg s := by
  have e : ∀ j, ¬ FA j → g1.1 j = g.1 j := u2.1
  obtain ⟨⟨t1, t2, t3, t4, t5, t6, t7, t8, t9, t10, t11⟩, c2, c3, c4, c5, c6, c7, c8⟩ := hC
  refine ⟨⟨u3, t2, by rw [e 0 (by omega)]; exact t3, by rw [e 0 (by omega)]; exact t4, by rw [e 0 (by omega)]; exact t5, t6, by rw [u2.2]; exact t7, by rw [e 0 (by omega)]; exact t8, t9, fun L hL => ?_, fun E hE => ?_⟩, by rw [e 22 (by omega)]; exact c2, by rw [e 21 (by omega)]; exact c3, by rw [e 23 (by omega)]; exact c4, c5, c6, c7.fr u2 (fun j hj => by have := hj; omega), c8.cg (e 11 (by omega)) (e 33 (by omega)) (e 34 (by omega)) (e 35 (by omega))⟩
  · obtain ⟨d, d1, d2⟩ := t10 L hL
    exact ⟨d, d1, d2.cg (e _ (by omega))⟩
  · exact (t11 E hE).cg (e _ (by omega)) (e _ (by omega))
theorem TextOk.no {La' : gz_L} {x : Int32} {g1 g2 : gz_S} (h1 : fX11_text La x g = some (-1, La, g1)) (hC1 : ClW La g1 l Ls Es cur lv V V0 a K Lg him IV ILg s) (h2 : fX12_text La x g1 = some (-1, g2)) (hF : FR g1 g2) (hR2 : ReW g2 l Ls Es cur lv V V0 a K Lg him IV ILg s) (hI : Inv V V0 a K Lg him IV ILg s B) : TextOk La x g B :=
  ⟨-1, La, g1, g2, h1, h2, l, Ls, Es, cur, lv, V, V0, a, K, Lg, him, IV, ILg, s, hC1.fr hF, hR2, hI⟩
/-- the reference, a text that fails -/
theorem r_t43n {x : Int32} (hR : ReW g l Ls Es cur lv V V0 a K Lg him IV ILg s) (hf : ¬ ft l x = -1) : ∃ g2, fX12_text_43 La x g = some (-1, g2) ∧ FR g g2 ∧ ReW g2 l Ls Es cur lv V V0 a K Lg him IV ILg s := by
  obtain ⟨lt, h1, h2⟩ := hR.1.2.1.2.2.2.1
  obtain ⟨g2, v1, v2, _⟩ := r_fault (La := La) h1 h2 hR.1.1 x
  refine ⟨g2, ?_, FR.f v2, hR.ff v2⟩
  unfold fX12_text_43
  rw [v1, Option.bind_some]
  exact if_neg hf
/-- what stays of the reference under a text taken -/
theorem ReT.keep {K0 S : Nat → Prop} {g' : gz_S} (h : ReT g l Ls Es cur lv) (hF : Fy K0 S g g') (hK : ∀ k, K0 k → ¬ (k = 7 ∨ k = 34 ∨ k = 30 ∨ k = 35)) (hS : ∀ j, S j → ¬ (j = 41 ∨ j = 42 ∨ j = 43 ∨ j = 55 ∨ j = 56 ∨ j = 51 ∨ j = 52)) :
    RLw g' Ls cur ∧ (g'.1 39 30 = nI Es.length ∧ Es.length ≤ 4 ∧ ∀ E, E < Es.length → EvP (g'.1 51) (48 * E) (Es.getD E []) ∧ g'.1 52 E = nI (Es.getD E []).length ∧ (Es.getD E []).length ≤ 16) ∧ g'.1 39 35 = nI lv := by
  obtain ⟨t1, t2, t3, t4⟩ := h
  refine ⟨t2.fr hF (fun hh => hK _ hh (by omega)) (fun hh => hK _ hh (by omega)) (fun hh => hS _ hh (by omega)) (fun hh => hS _ hh (by omega)) (fun hh => hS _ hh (by omega)) (fun hh => hS _ hh (by omega)) (fun hh => hS _ hh (by omega)), ?_, ?_⟩
  · rw [hF.2.1 30 (fun hh => hK _ hh (by omega)), hF.1 51 (by omega) (fun hh => hS _ hh (by omega)), hF.1 52 (by omega) (fun hh => hS _ hh (by omega))]; exact t3
  · rw [hF.2.1 35 (fun hh => hK _ hh (by omega))]; exact t4
theorem x_012 {x : Int32} : (pI ((0 : Int) ≤ x.toInt ∧ x.toInt ≤ 2) = 0) = ¬ (x = 0 ∨ x = 1 ∨ x = 2) := by
  rw [show (x = 0) = (x.toInt = 0) from x_eq (n := 0) (by omega), show (x = 1) = (x.toInt = 1) from x_eq (n := 1) (by omega), show (x = 2) = (x.toInt = 2) from x_eq (n := 2) (by omega)]
  show (pI _ = nI 0) = _
  rw [p_0]
  exact propext (by omega)
theorem r_text0 {x : Int32} : fX12_text La x g = (if ¬ (x = 0 ∨ x = 1 ∨ x = 2) then some (-1, gz_wi g 39 0 0) else if x = 1 then (if (gz_wi g 39 0 0).1 39 7 = 4 then some (-1, gz_wi g 39 0 0) else fX12_text_43 La x (gz_wi g 39 0 0)) else if x = 2 then (if (gz_wi g 39 0 0).1 39 30 = 4 then some (-1, gz_wi g 39 0 0) else fX12_text_43 La x (gz_wi g 39 0 0)) else fX12_text_43 La x (gz_wi g 39 0 0)) := by
  have hb1 := Int32.toInt_lt x
  have hb2 := Int32.le_toInt x
  unfold fX12_text
  rw [gz_let_eq, x_l x, show (0 : Int64) = Int64.ofInt 0 from rfl, show (2 : Int64) = Int64.ofInt 2 from rfl, r_isInZ (by omega) (by omega) (by omega), Option.bind_some]
  dsimp only
  by_cases c : x = 0 ∨ x = 1 ∨ x = 2
  · rw [if_neg (show ¬ ¬ (x = 0 ∨ x = 1 ∨ x = 2) from not_not_intro c), if_neg (show ¬ pI ((0 : Int) ≤ x.toInt ∧ x.toInt ≤ 2) = 0 by rw [x_012]; exact not_not_intro c)]
    unfold fX12_text_30
    by_cases c1 : x = 1
    · rw [if_pos c1, if_pos c1, if_neg (show ¬ x = 2 by rw [c1]; decide)]
    · rw [if_neg c1, if_neg c1]
  · rw [if_pos c, if_pos (show pI ((0 : Int) ≤ x.toInt ∧ x.toInt ≤ 2) = 0 by rw [x_012]; exact c)]
/-- the reference takes a shore -/
theorem r_t43s {S : SH} (hR : ReW g l Ls Es cur lv V V0 a K Lg him IV ILg s) (hs : (pSh (tb l) l.length 11 sh0 0).2 = some S) (hb : ShB S) (hA : sAgr S) :
    ∃ g2, fX12_text_43 La 0 g = some (nI (shV S 58 * shV S 59), g2) ∧ FR g g2 ∧ ReW g2 [] Ls Es cur lv (shV S) (shV S) 0 K Lg 0 IV ILg (0, s.2) := by
  obtain ⟨lt, h1, h2⟩ := hR.1.2.1.2.2.2.1
  obtain ⟨gf, v1, v2, v3, _⟩ := r_fault (La := La) h1 h2 hR.1.1 0
  have hft : ft l 0 = -1 := (if_pos rfl).trans (if_neg (by rw [hs]; exact fun hh => by cases hh))
  have hCS := v3 S rfl hs
  have hRf := hR.ff v2
  obtain ⟨z31, ⟨z29, z29'⟩, ⟨z28, z28'⟩, z45, z50, z49, z47⟩ := hCS
  -- the text is taken, the goers are counted
  have FA1 : Fz (fun k => k = 6 ∨ k = 27) (fun _ => False) gf (gz_wi (gz_wi gf 39 6 0) 39 27 (nI S.gn)) := (Fz.z0.w (Or.inl rfl)).w (Or.inr rfl)
  have e28 : (gz_wi gf 39 6 0).1 39 28 = nI S.gn := by rw [wi_sn (by omega)]; exact z28
  have e27 : (gz_wi (gz_wi gf 39 6 0) 39 27 (nI S.gn)).1 39 27 = nI S.gn := wi_ss
  have e6 : (gz_wi (gz_wi gf 39 6 0) 39 27 (nI S.gn)).1 39 6 = nI 0 := by rw [wi_sn (by omega)]; exact wi_ss
  have k43 : fX12_text_43 La 0 g = fX12_text_215 La (fun g => fX12_text_240 La (fun g => fX12_text_266 La (fun g => (fX12_lays La 53 g).bind (fun q295 => gz_let (gz_wi q295 39 47 0) (fun g300 => gz_let (gz_wi g300 39 41 0) (fun g305 => gz_let (gz_wi g305 39 50 0) (fun g310 => (fX12_cells La g310).bind (fun q314 => some (q314.1, q314.2))))))) gz_FU 0 g) gz_FU 0 g) gz_FU 0 (gz_wi (gz_wi gf 39 6 0) 39 27 (nI S.gn)) := by
    unfold fX12_text_43
    rw [v1, Option.bind_some]
    refine (if_pos hft).trans ?_
    rw [gz_let_eq, gz_let_eq, if_neg (by decide), if_neg (by decide), gz_let_eq, e28]
  generalize gz_wi (gz_wi gf 39 6 0) 39 27 (nI S.gn) = y0 at *
  obtain ⟨y1, a1, F1, a2⟩ := r_tx215 (La := La) (g := y0) (k := fun g => fX12_text_240 La (fun g => fX12_text_266 La (fun g => (fX12_lays La 53 g).bind (fun q295 => gz_let (gz_wi q295 39 47 0) (fun g300 => gz_let (gz_wi g300 39 41 0) (fun g305 => gz_let (gz_wi g305 39 50 0) (fun g310 => (fX12_cells La g310).bind (fun q314 => some (q314.1, q314.2))))))) gz_FU 0 g) gz_FU 0 g)
  obtain ⟨y2, b1, F2, b2⟩ := r_tx240 (La := La) (g := y1) (k := fun g => fX12_text_266 La (fun g => (fX12_lays La 53 g).bind (fun q295 => gz_let (gz_wi q295 39 47 0) (fun g300 => gz_let (gz_wi g300 39 41 0) (fun g305 => gz_let (gz_wi g305 39 50 0) (fun g310 => (fX12_cells La g310).bind (fun q314 => some (q314.1, q314.2))))))) gz_FU 0 g)
  obtain ⟨y3, d1, F3, d2⟩ := r_tx266 (La := La) (g := y2) (k := fun g => (fX12_lays La 53 g).bind (fun q295 => gz_let (gz_wi q295 39 47 0) (fun g300 => gz_let (gz_wi g300 39 41 0) (fun g305 => gz_let (gz_wi g305 39 50 0) (fun g310 => (fX12_cells La g310).bind (fun q314 => some (q314.1, q314.2)))))))
  have hT : TldS y3 S := by
    refine ⟨fun i hi => ?_, fun j hj => ?_, fun c hc => ?_, ?_⟩
    · rw [F3.1 44 (by omega) (by omega), F2.1 44 (by omega) (by omega), a2 i hi, FA1.1 45 (by omega) id]; exact (z45 i hi).1
    · rw [F3.1 46 (by omega) (by omega), b2 j (by omega), F1.1 47 (by omega) (by omega), FA1.1 47 (by omega) id]; exact (z47 j hj).1
    · rw [d2 c hc, F2.1 49 (by omega) (by omega), F1.1 49 (by omega) (by omega), FA1.1 49 (by omega) id]; exact (z49 c hc).1
    · rw [F3.2.1 27 id, F2.2.1 27 id, F1.2.1 27 id]; exact e27
  obtain ⟨y4, f1, F4, f2, f3⟩ := r_lays (La := La) (w := 53) (Or.inl rfl) hT hb hA
  have FF : Fz (fun k => k = 6 ∨ k = 27) (fun j => j = 44 ∨ j = 46 ∨ j = 48 ∨ j = 53) gf y4 := (((((FA1.mo (fun k hk => hk) (fun j hj => hj.elim)).tr (F1.mo (fun k hk => hk.elim) (fun j hj => Or.inl hj))).tr (F2.mo (fun k hk => hk.elim) (fun j hj => Or.inr (Or.inl hj)))).tr (F3.mo (fun k hk => hk.elim) (fun j hj => Or.inr (Or.inr (Or.inl hj))))).tr (F4.mo (fun k hk => hk.elim) (fun j hj => Or.inr (Or.inr (Or.inr hj)))))
  have y46 : y4.1 39 6 = nI 0 := by rw [F4.2.1 6 id, F3.2.1 6 id, F2.2.1 6 id, F1.2.1 6 id]; exact e6
  have hT4 : TldS y4 S := hT.fw (Or.inl rfl) F4
  have F5 : Fz (fun k => k = 47 ∨ k = 41 ∨ k = 50) (fun _ => False) y4 (gz_wi (gz_wi (gz_wi y4 39 47 0) 39 41 0) 39 50 0) := ((Fz.z0.w (Or.inl rfl)).w (Or.inr (Or.inl rfl))).w (Or.inr (Or.inr rfl))
  have w47 : (gz_wi (gz_wi (gz_wi y4 39 47 0) 39 41 0) 39 50 0).1 39 47 = nI 0 := by rw [wi_sn (by omega), wi_sn (by omega)]; exact wi_ss
  have w41 : (gz_wi (gz_wi (gz_wi y4 39 47 0) 39 41 0) 39 50 0).1 39 41 = nI 0 := by rw [wi_sn (by omega)]; exact wi_ss
  have w50 : (gz_wi (gz_wi (gz_wi y4 39 47 0) 39 41 0) 39 50 0).1 39 50 = nI 0 := wi_ss
  have kk : fX12_text_43 La 0 g = (fX12_cells La (gz_wi (gz_wi (gz_wi y4 39 47 0) 39 41 0) 39 50 0)).bind (fun q314 => some (q314.1, q314.2)) := by
    rw [k43, a1, b1, d1, f1, Option.bind_some, gz_let_eq, gz_let_eq, gz_let_eq]
  generalize gz_wi (gz_wi (gz_wi y4 39 47 0) 39 41 0) 39 50 0 = y5 at *
  have FE : Fz (fun k => k = 6 ∨ k = 27 ∨ k = 47 ∨ k = 41 ∨ k = 50) (fun j => j = 44 ∨ j = 46 ∨ j = 48 ∨ j = 53) gf y5 := (FF.mo (fun k hk => by omega) (fun j hj => hj)).tr (F5.mo (fun k hk => by omega) (fun j hj => hj.elim))
  have hT5 : TldS y5 S := by
    obtain ⟨q1, q2, q3, q4⟩ := hT4
    unfold TldS
    rw [F5.1 44 (by omega) id, F5.1 46 (by omega) id, F5.1 48 (by omega) id, F5.2.1 27 (by omega)]
    exact ⟨q1, q2, q3, q4⟩
  obtain ⟨m1, m2, m3⟩ := hRf.1.keep FE.y (fun k hk => by omega) (fun j hj => by omega)
  obtain ⟨p1, p2, p3, p4⟩ := shV_places (S := S)
  have hgn := hb.2.1
  refine ⟨y5, ?_, (FR.f v2).tr (FR.z FE (fun j hj => by omega)), ⟨⟨?_, Nat.zero_le _, fun k hk => absurd hk (Nat.not_lt_zero _)⟩, m1, m2, m3⟩, ?_, Or.inr ⟨S, rfl, hb, hA, hT5.1, hT5.2.1, hT5.2.2.1, hT5.2.2.2⟩, ⟨w41, Nat.zero_le _, fun i hi => absurd hi (Nat.not_lt_zero _)⟩, ⟨w50, fun hh => absurd hh (by decide)⟩, w47, fun k hk => absurd hk (Nat.not_lt_zero _)⟩
  · rw [kk]
    unfold fX12_cells
    have h1 : 1 ≤ S.gn := hA.1
    rw [hT5.2.2.2, if_neg (show ¬ nI S.gn = 0 by show ¬ nI _ = nI 0; rw [n_eq (by omega) (by omega)]; omega), hT5.1 0 (by omega), hT5.1 1 (by omega), n_mul, Option.bind_some, p1, p2]
  · rw [F5.2.1 6 (by omega)]; exact y46
  · have e49 : shV S 49 = 0 := rfl
    have e53 : y5.1 53 = y4.1 53 := F5.1 53 (by omega) id
    rw [e53]
    refine ⟨f2, ?_, fun k hk => ?_⟩
    · rw [e49, f3 50 (by omega) (by omega)]; rfl
    · rw [e49] at hk; exact absurd hk (by omega)
/-- the reference takes a law -/
theorem r_t43w {d : pD} (hR : ReW g l Ls Es cur lv V V0 a K Lg him IV ILg s) (hs : (pLawT (tb l) l.length).2 = some d) (hL : Ls.length < 4) :
    ∃ g2, fX12_text_43 La 1 g = some (nI Ls.length, g2) ∧ FR g g2 ∧ ReW g2 [] (Ls ++ [l]) Es cur lv V V0 a K Lg him IV ILg s := by
  obtain ⟨lt, h1, h2⟩ := hR.1.2.1.2.2.2.1
  obtain ⟨gf, v1, v2, _, _⟩ := r_fault (La := La) h1 h2 hR.1.1 1
  have hft : ft l 1 = -1 := (if_neg (by decide)).trans ((if_pos rfl).trans (if_neg (by rw [hs]; exact fun hh => by cases hh)))
  have hRf := hR.ff v2
  obtain ⟨⟨s1, ⟨⟨s2, s2'⟩, s2b, s2c, s2d, s2e, s2f⟩, s3, s4⟩, d2, d3, d4, d5, d6, d7⟩ := hRf
  have hlen := s1.2.1
  have F0 : Fz (fun k => k = 6) (fun _ => False) gf (gz_wi gf 39 6 0) := Fz.z0.w rfl
  have e7 : (gz_wi gf 39 6 0).1 39 7 = nI Ls.length := by rw [wi_sn (by omega)]; exact s2
  have e6 : (gz_wi gf 39 6 0).1 39 6 = nI 0 := wi_ss
  have k43 : fX12_text_43 La 1 g = fX12_text_71 La (fun (x2 : Int32) g => if gz_ok (g.1 39 7) 4 then gz_let (gz_wi g 42 (Int32.toNatClampNeg (g.1 39 7)) x2) (fun g112 => gz_let (gz_wi g112 39 7 ((g112.1 39 7) + 1)) (fun g120 => some ((g120.1 39 7) - 1, g120))) else none) gz_FU (nI l.length) 0 (gz_wi gf 39 6 0) := by
    unfold fX12_text_43
    rw [v1, Option.bind_some]
    refine (if_pos hft).trans ?_
    rw [gz_let_eq, gz_let_eq, if_pos rfl]
    dsimp only
    rw [s1.1]
  obtain ⟨y1, a1, F1, a2, a3⟩ := r_tx71 (La := La) (g := gz_wi gf 39 6 0) (n := l.length) (L := Ls.length) (by omega) hL e7 (k := fun (x2 : Int32) g => if gz_ok (g.1 39 7) 4 then gz_let (gz_wi g 42 (Int32.toNatClampNeg (g.1 39 7)) x2) (fun g112 => gz_let (gz_wi g112 39 7 ((g112.1 39 7) + 1)) (fun g120 => some ((g120.1 39 7) - 1, g120))) else none)
  have e7' : y1.1 39 7 = nI Ls.length := by rw [F1.2.1 7 id]; exact e7
  have e7'' : (gz_wi y1 42 Ls.length (nI l.length)).1 39 7 = nI Ls.length := by rw [wi_no (by omega)]; exact e7'
  have w7 : (gz_wi (gz_wi y1 42 Ls.length (nI l.length)) 39 7 (nI (Ls.length + 1))).1 39 7 = nI (Ls.length + 1) := wi_ss
  have kk : fX12_text_43 La 1 g = some (nI Ls.length, gz_wi (gz_wi y1 42 Ls.length (nI l.length)) 39 7 (nI (Ls.length + 1))) := by
    rw [k43, a1]
    rw [e7', if_pos (n_okP (by omega) (by omega)), n_cl (by omega), gz_let_eq, e7'', show nI Ls.length + (1 : Int32) = nI (Ls.length + 1) from n_add _ _, gz_let_eq, w7, show nI (Ls.length + 1) - (1 : Int32) = nI (Ls.length + 1 - 1) from n_sub (a := Ls.length + 1) (b := 1) (by omega), Nat.add_sub_cancel]
  have F2 : Fz (fun k => k = 7) (fun j => j = 42) y1 (gz_wi (gz_wi y1 42 Ls.length (nI l.length)) 39 7 (nI (Ls.length + 1))) := Fz.w (K := fun k => k = 7) (S := fun j => j = 42) (Fz.s (K := fun k => k = 7) (S := fun j => j = 42) Fz.z0 (show (42 : Nat) ≠ 39 by omega) rfl) rfl
  have w42 : ∀ i, (gz_wi (gz_wi y1 42 Ls.length (nI l.length)) 39 7 (nI (Ls.length + 1))).1 42 i = if i = Ls.length then nI l.length else gf.1 42 i := by
    intro i
    rw [wi_no (by omega)]
    by_cases c : i = Ls.length
    · rw [if_pos c, c, wi_ss]
    · rw [if_neg c, wi_sn c, F1.1 42 (by omega) (by omega), F0.1 42 (by omega) id]
  generalize gz_wi (gz_wi y1 42 Ls.length (nI l.length)) 39 7 (nI (Ls.length + 1)) = y2 at *
  have FE : Fz (fun k => k = 6 ∨ k = 7) (fun j => j = 41 ∨ j = 42) gf y2 := ((F0.mo (fun k hk => Or.inl hk) (fun j hj => hj.elim)).tr (F1.mo (fun k hk => hk.elim) (fun j hj => Or.inl hj))).tr (F2.mo (fun k hk => Or.inr hk) (fun j hj => Or.inr hj))
  have e41 : ∀ i, y2.1 41 i = y1.1 41 i := fun i => by rw [F2.1 41 (by omega) (by omega)]
  have f40 : (gz_wi gf 39 6 0).1 40 = gf.1 40 := F0.1 40 (by omega) id
  have f41 : (gz_wi gf 39 6 0).1 41 = gf.1 41 := F0.1 41 (by omega) id
  refine ⟨y2, kk, (FR.f v2).tr (FR.z FE (fun j hj => by omega)), ⟨⟨?_, Nat.zero_le _, fun k hk => absurd hk (Nat.not_lt_zero _)⟩, ⟨⟨?_, ?_⟩, fun L hL' => ?_, ?_, ?_, ?_, fun L hc => ?_⟩, ?_, ?_⟩, ?_, ?_, ?_, ?_, ?_, ?_⟩
  · rw [F2.2.1 6 (by omega), F1.2.1 6 id]; exact e6
  · rw [w7, List.length_append]; rfl
  · rw [List.length_append]; show Ls.length + 1 ≤ 4; omega
  · rw [List.length_append] at hL'
    have hL' : L < Ls.length + 1 := hL'
    by_cases c : L = Ls.length
    · subst c
      rw [gd_new]
      refine ⟨⟨Or.inr rfl, hlen, ?_, fun k hk => ?_⟩, ?_, d, hs⟩
      · show 240 * Ls.length + l.length ≤ 960; omega
      · obtain ⟨k1, k2⟩ := s1.2.2 k hk
        rw [e41, a2 k hk, f40, k1, sb_by _ k2]
        exact ⟨rfl, k2⟩
      · rw [w42, if_pos rfl]
    · obtain ⟨⟨b1, b2, b3, b4⟩, b5, b6⟩ := s2b L (by omega)
      rw [gd_old (by omega)]
      refine ⟨⟨b1, b2, b3, fun k hk => ?_⟩, ?_, b6⟩
      · rw [e41, a3 _ (by omega), f41]; exact b4 k hk
      · rw [w42, if_neg c]; exact b5
  · intro q hq
    rw [FE.1 55 (by omega) (by omega), FE.1 56 (by omega) (by omega)]
    rcases s2c q hq with h | ⟨L, b, aa, r, p, n, h, hL', hb, k1, k2⟩
    · exact Or.inl h
    · exact Or.inr ⟨L, b, aa, r, p, n, h, by rw [List.length_append]; show L < Ls.length + 1; omega, hb, k1, by rw [gd_old hL']; exact k2⟩
  · obtain ⟨lt', k1, k2⟩ := s2d
    exact ⟨lt', k1, fun k hk => by rw [FE.1 43 (by omega) (by omega)]; exact k2 k hk⟩
  · rw [FE.2.1 34 (by omega)]; exact s2e
  · rw [List.length_append]
    have := s2f L hc
    show L < Ls.length + 1; omega
  · rw [FE.2.1 30 (by omega), FE.1 51 (by omega) (by omega), FE.1 52 (by omega) (by omega)]; exact s3
  · rw [FE.2.1 35 (by omega)]; exact s4
  · rw [FE.1 53 (by omega) (by omega)]; exact d2
  · unfold Tld; rw [FE.2.1 27 (by omega), FE.1 44 (by omega) (by omega), FE.1 46 (by omega) (by omega), FE.1 48 (by omega) (by omega)]; exact d3
  · unfold RU; rw [FE.2.1 41 (by omega), FE.1 57 (by omega) (by omega)]; exact d4
  · rw [FE.2.1 50 (by omega), FE.1 63 (by omega) (by omega)]; exact d5
  · rw [FE.2.1 47 (by omega)]; exact d6
  · rw [FE.1 59 (by omega) (by omega)]; exact d7
/-- the reference takes an evening -/
theorem r_t43e {E : List eS} (hR : ReW g l Ls Es cur lv V V0 a K Lg him IV ILg s) (hs : (pEv (tb l) l.length 16 0).2 = some E) (hL : Es.length < 4) :
    ∃ g2, fX12_text_43 La 2 g = some (nI Es.length, g2) ∧ FR g g2 ∧ ReW g2 [] Ls (Es ++ [E]) cur lv V V0 a K Lg him IV ILg s := by
  obtain ⟨lt, h1, h2⟩ := hR.1.2.1.2.2.2.1
  obtain ⟨gf, v1, v2, _, v4⟩ := r_fault (La := La) h1 h2 hR.1.1 2
  have hft : ft l 2 = -1 := (if_neg (by decide)).trans ((if_neg (by decide)).trans ((if_pos rfl).trans (if_neg (by rw [hs]; exact fun hh => by cases hh))))
  obtain ⟨u1, u2, u3⟩ := v4 E rfl hs
  have hRf := hR.ff v2
  obtain ⟨⟨s1, s2, ⟨s3, s3', s3b⟩, s4⟩, d2, d3, d4, d5, d6, d7⟩ := hRf
  have F0 : Fz (fun k => k = 6) (fun _ => False) gf (gz_wi gf 39 6 0) := Fz.z0.w rfl
  have e30 : (gz_wi gf 39 6 0).1 39 30 = nI Es.length := by rw [wi_sn (by omega)]; exact s3
  have e6 : (gz_wi gf 39 6 0).1 39 6 = nI 0 := wi_ss
  have k43 : fX12_text_43 La 2 g = fX12_text_137 La (fun g => if gz_ok (g.1 39 30) 5 then gz_let (gz_wi g 52 (Int32.toNatClampNeg (g.1 39 30)) (g.1 52 4)) (fun g187 => gz_let (gz_wi g187 39 30 ((g187.1 39 30) + 1)) (fun g195 => some ((g195.1 39 30) - 1, g195))) else none) gz_FU 0 (gz_wi gf 39 6 0) := by
    unfold fX12_text_43
    rw [v1, Option.bind_some]
    refine (if_pos hft).trans ?_
    rw [gz_let_eq, gz_let_eq, if_neg (by decide), if_pos rfl]
  obtain ⟨y1, a1, F1, a2, a3⟩ := r_tx137 (La := La) (g := gz_wi gf 39 6 0) (n := Es.length) hL e30 (k := fun g => if gz_ok (g.1 39 30) 5 then gz_let (gz_wi g 52 (Int32.toNatClampNeg (g.1 39 30)) (g.1 52 4)) (fun g187 => gz_let (gz_wi g187 39 30 ((g187.1 39 30) + 1)) (fun g195 => some ((g195.1 39 30) - 1, g195))) else none)
  have e30' : y1.1 39 30 = nI Es.length := by rw [F1.2.1 30 id]; exact e30
  have e52 : y1.1 52 = gf.1 52 := by rw [F1.1 52 (by omega) (by omega), F0.1 52 (by omega) id]
  have e30'' : (gz_wi y1 52 Es.length (nI E.length)).1 39 30 = nI Es.length := by rw [wi_no (by omega)]; exact e30'
  have w30 : (gz_wi (gz_wi y1 52 Es.length (nI E.length)) 39 30 (nI (Es.length + 1))).1 39 30 = nI (Es.length + 1) := wi_ss
  have kk : fX12_text_43 La 2 g = some (nI Es.length, gz_wi (gz_wi y1 52 Es.length (nI E.length)) 39 30 (nI (Es.length + 1))) := by
    rw [k43, a1]
    rw [e30', if_pos (n_okP (by omega) (by omega)), n_cl (by omega), e52, u2, gz_let_eq, e30'', show nI Es.length + (1 : Int32) = nI (Es.length + 1) from n_add _ _, gz_let_eq, w30, show nI (Es.length + 1) - (1 : Int32) = nI (Es.length + 1 - 1) from n_sub (a := Es.length + 1) (b := 1) (by omega), Nat.add_sub_cancel]
  have F2 : Fz (fun k => k = 30) (fun j => j = 52) y1 (gz_wi (gz_wi y1 52 Es.length (nI E.length)) 39 30 (nI (Es.length + 1))) := Fz.w (K := fun k => k = 30) (S := fun j => j = 52) (Fz.s (K := fun k => k = 30) (S := fun j => j = 52) Fz.z0 (show (52 : Nat) ≠ 39 by omega) rfl) rfl
  have w52 : ∀ i, (gz_wi (gz_wi y1 52 Es.length (nI E.length)) 39 30 (nI (Es.length + 1))).1 52 i = if i = Es.length then nI E.length else gf.1 52 i := by
    intro i
    rw [wi_no (by omega)]
    by_cases c : i = Es.length
    · rw [if_pos c, c, wi_ss]
    · rw [if_neg c, wi_sn c, e52]
  generalize gz_wi (gz_wi y1 52 Es.length (nI E.length)) 39 30 (nI (Es.length + 1)) = y2 at *
  have FE : Fz (fun k => k = 6 ∨ k = 30) (fun j => j = 51 ∨ j = 52) gf y2 := ((F0.mo (fun k hk => Or.inl hk) (fun j hj => hj.elim)).tr (F1.mo (fun k hk => hk.elim) (fun j hj => Or.inl hj))).tr (F2.mo (fun k hk => Or.inr hk) (fun j hj => Or.inr hj))
  have e51 : y2.1 51 = y1.1 51 := F2.1 51 (by omega) (by omega)
  have f51 : (gz_wi gf 39 6 0).1 51 = gf.1 51 := F0.1 51 (by omega) id
  have hlt : ∀ (xs : List eS) i x, xs[i]? = some x → i < xs.length := fun xs i x h => (List.getElem?_eq_some_iff.mp h).1
  refine ⟨y2, kk, (FR.f v2).tr (FR.z FE (fun j hj => by omega)), ⟨⟨?_, Nat.zero_le _, fun k hk => absurd hk (Nat.not_lt_zero _)⟩, ?_, ⟨?_, ?_, fun q hq => ?_⟩, ?_⟩, ?_, ?_, ?_, ?_, ?_, ?_⟩
  · rw [F2.2.1 6 (by omega), F1.2.1 6 id]; exact e6
  · exact s2.fr FE.y (by omega) (by omega) (by omega) (by omega) (by omega) (by omega) (by omega)
  · rw [w30, List.length_append]; rfl
  · rw [List.length_append]; show Es.length + 1 ≤ 4; omega
  · rw [List.length_append] at hq
    have hq : q < Es.length + 1 := hq
    by_cases c : q = Es.length
    · subst c
      rw [gd_new, w52, if_pos rfl]
      refine ⟨fun i x hi => ?_, rfl, u3⟩
      have hi' := hlt _ _ _ hi
      rw [e51, Nat.add_assoc, Nat.add_assoc, a2 _ (by omega), a2 _ (by omega), a2 _ (by omega), f51, ← Nat.add_assoc, ← Nat.add_assoc]
      exact u1 i x hi
    · obtain ⟨q1, q2, q3⟩ := s3b q (by omega)
      rw [gd_old (by omega), w52, if_neg c]
      refine ⟨fun i x hi => ?_, q2, q3⟩
      have hi' := hlt _ _ _ hi
      rw [e51, a3 _ (by omega), a3 _ (by omega), a3 _ (by omega), f51]
      exact q1 i x hi
  · rw [FE.2.1 35 (by omega)]; exact s4
  · rw [FE.1 53 (by omega) (by omega)]; exact d2
  · unfold Tld; rw [FE.2.1 27 (by omega), FE.1 44 (by omega) (by omega), FE.1 46 (by omega) (by omega), FE.1 48 (by omega) (by omega)]; exact d3
  · unfold RU; rw [FE.2.1 41 (by omega), FE.1 57 (by omega) (by omega)]; exact d4
  · rw [FE.2.1 50 (by omega), FE.1 63 (by omega) (by omega)]; exact d5
  · rw [FE.2.1 47 (by omega)]; exact d6
  · rw [FE.1 59 (by omega) (by omega)]; exact d7
end ST
