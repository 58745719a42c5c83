/-! the whole state: class, reference, what holds of both -/
def eOf (l : List eS) : sE := (l.length, fun i => (l.getD i (0, none, none)).1, fun i => (l.getD i (0, none, none)).2.1, fun i => (l.getD i (0, none, none)).2.2)
def okc (x : Nat) : Prop := ∃ m e t, m < 9 ∧ e < 16 ∧ t < 6 ∧ x = m * 256 + e * 16 + t
section ST
variable (La : gz_L) (g : gz_S) (l : List Nat) (Ls : List (List Nat)) (Es : List (List eS)) (cur : Option Nat) (lv : Nat) (V V0 : Nat → Nat) (a : Nat) (K : Nat → Nat → Nat) (Lg : Nat → Nat) (him : Nat) (IV ILg : Nat → Nat) (s : sS)
def ClT : Prop := TP g l ∧ (La.1 = Ls.length ∧ La.2.1 = Es.length ∧ Ls.length ≤ 4 ∧ Es.length ≤ 4) ∧ g.1 0 13 = nI Ls.length ∧ g.1 0 14 = nI Es.length ∧ g.1 0 15 = oI cur ∧ (∀ L, cur = some L → L < Ls.length) ∧ (g.2.2 0 = cur.map (fun L => 100 + 2 * L) ∧ (g.2.2 1).getD 0 < 100) ∧ g.1 0 16 = nI lv ∧ lv ≤ 9 ∧
  (∀ L, L < Ls.length → ∃ d, (pLawT (tb (Ls.getD L [])) (Ls.getD L []).length).2 = some d ∧ LwR La g (100 + 2 * L) d) ∧ ∀ E, E < Es.length → EvR La g (110 + 2 * E) (eOf (Es.getD E []))
def ClW : Prop := ClT La g l Ls Es cur lv ∧ g.1 22 = fI V ∧ g.1 21 = fI V0 ∧ (∃ Vs, g.1 23 = fI Vs ∧ Z61 Vs) ∧ Z61 V ∧ Z61 V0 ∧ CP 0 g V a K Lg him IV ILg ∧ CS g s
def Tld : Prop := (V0 60 = 0 ∧ g.1 39 27 = nI 0) ∨ ∃ S : SH, V0 = shV S ∧ ShB S ∧ sAgr S ∧ (∀ i, i < 4 → g.1 44 i = nI (S.ru i)) ∧ (∀ j, j < 4 * S.gn → g.1 46 j = nI (S.go j)) ∧ (∀ c, c < 30 → g.1 48 c = nI (S.rk c)) ∧ g.1 39 27 = nI S.gn
def ReT : Prop := RTP g l ∧ RLw g Ls cur ∧ (g.1 39 30 = nI Es.length ∧ Es.length ≤ 4 ∧ ∀ E, E < Es.length → EvP (g.1 51) (48 * E) (Es.getD E []) ∧ g.1 52 E = nI (Es.getD E []).length ∧ (Es.getD E []).length ≤ 16) ∧ g.1 39 35 = nI lv
def ReW : Prop := ReT g l Ls Es cur lv ∧ RowA (g.1 53) V Lg ∧ Tld g V0 ∧ RU g a K Lg ∧ (g.1 39 50 = nI him ∧ (him = 1 → RowA (g.1 63) IV ILg)) ∧
  g.1 39 47 = nI s.1 ∧ ∀ k, k < s.1 → g.1 59 (3 * k) = nI (s.2.1 k) ∧ g.1 59 (3 * k + 1) = nI (s.2.2.1 k) ∧ g.1 59 (3 * k + 2) = nI (s.2.2.2 k)
def Inv (B : Nat) : Prop := (∀ k, 50 ≤ k → V k = V0 k) ∧ (V 60 = 0 → (V = fun _ => 0) ∧ a = 0 ∧ him = 0 ∧ s.1 = 0) ∧ (¬ V 60 = 0 → Wf B V ∧ V 49 ≤ 9999 ∧ (∀ i, i < a → Wf B (K i) ∧ K i 49 ≤ 9999) ∧ (him = 1 → Wf B IV ∧ IV 49 ≤ 9999)) ∧ (∀ h, okc (Lg h)) ∧ ∀ h, okc (ILg h)
end ST
/-- class and reference agree -/
def WR (La : gz_L) (g : gz_S) (B : Nat) : Prop := ∃ l Ls Es cur lv V V0 a K Lg him IV ILg s, ClW La g l Ls Es cur lv V V0 a K Lg him IV ILg s ∧ ReW g l Ls Es cur lv V V0 a K Lg him IV ILg s ∧ Inv V V0 a K Lg him IV ILg s B
def FC (g g' : gz_S) : Prop := (∀ j, 39 ≤ j → j < 64 → g'.1 j = g.1 j) ∧ g'.2.2 1 = g.2.2 1
def FR (g g' : gz_S) : Prop := (∀ j, ¬ (39 ≤ j ∧ j < 64) → g'.1 j = g.1 j) ∧ Tq g g'
def CallOk (La : gz_L) (F1 F2 : gz_S → Option (Int32 × gz_S)) (g : gz_S) (B : Nat) : Prop := ∃ v g1 g2, F1 g = some (v, g1) ∧ F2 g1 = some (v, g2) ∧ WR La g2 B
section ST
variable {La : gz_L} {g : gz_S} {l : List Nat} {Ls : List (List Nat)} {Es : List (List eS)} {cur : Option Nat} {lv : Nat} {V V0 : Nat → Nat} {a : Nat} {K : Nat → Nat → Nat} {Lg : Nat → Nat} {him : Nat} {IV ILg : Nat → Nat} {s : sS} {B : Nat}
theorem FC.of {S : Nat → Prop} {g' : gz_S} (h : Fr S g g') (hS : ∀ j, S j → j < 39 ∨ 64 ≤ j) : FC g g' := ⟨fun j h1 h2 => h.1 j (fun hh => by have := hS j hh; omega), by rw [h.2]⟩
theorem FR.y {K S : Nat → Prop} {g' : gz_S} (h : Fy K S g g') (hS : ∀ j, S j → 39 ≤ j ∧ j < 64) : FR g g' := ⟨fun j hj => h.1 j (by omega) (fun hh => hj (hS j hh)), h.2.2.2⟩
theorem FR.z {K S : Nat → Prop} {g' : gz_S} (h : Fz K S g g') (hS : ∀ j, S j → 39 ≤ j ∧ j < 64) : FR g g' := ⟨fun j hj => h.1 j (by omega) (fun hh => hj (hS j hh)), Tq.ww h.2.2⟩
theorem FR.f {g' : gz_S} (h : Ff g g') : FR g g' := ⟨fun j hj => h.1 j (by omega) (by omega), h.2.2.2.2.2⟩
theorem FR.o {S : Nat → Prop} {g' : gz_S} (h : Fr S g g') (hS : ∀ j, S j → 39 ≤ j ∧ j < 64) : FR g g' := ⟨fun j hj => h.1 j (fun hh => hj (hS j hh)), Tq.ww h.2⟩
theorem FR.tr {g' g'' : gz_S} (h : FR g g') (h' : FR g' g'') : FR g g'' := ⟨fun j hj => (h'.1 j hj).trans (h.1 j hj), h'.2.trans h.2⟩
theorem FC.tr {g' g'' : gz_S} (h : FC g g') (h' : FC g' g'') : FC g g'' := ⟨fun j h1 h2 => (h'.1 j h1 h2).trans (h.1 j h1 h2), h'.2.trans h.2⟩
theorem LwR.cg {g' : gz_S} {e : Nat} {d : pD} (h : LwR La g e d) (he : g'.1 (e + 1) = g.1 (e + 1)) : LwR La g' e d := ⟨h.1, h.2.1, fun k hk => by rw [he]; exact h.2.2.1 k hk, h.2.2.2⟩
theorem EvR.cg {g' : gz_S} {w : Nat} {e : sE} (h : EvR La g w e) (h1 : g'.1 w = g.1 w) (h2 : g'.1 (w + 1) = g.1 (w + 1)) : EvR La g' w e := by
  unfold EvR; rw [h1, h2]; exact h
theorem ClT.cg {g' : gz_S} (h : ClT La g l Ls Es cur lv) (h0 : g'.1 0 = g.1 0) (h1 : g'.1 1 = g.1 1) (h14 : g'.1 14 = g.1 14) (h2 : Tq g g') (hd : ∀ j, 100 ≤ j → g'.1 j = g.1 j) : ClT La g' l Ls Es cur lv := by
  obtain ⟨t1, t2, t3, t4, t5, t6, t7, t8, t9, t10, t11⟩ := h
  refine ⟨by unfold TP; rw [h1, h14]; exact t1, t2, by rw [h0]; exact t3, by rw [h0]; exact t4, by rw [h0]; exact t5, t6, ⟨by rw [h2.1]; exact t7.1, h2.2 t7.2⟩, by rw [h0]; exact t8, t9, fun L hL => ?_, fun E hE => ?_⟩
  · obtain ⟨d, d1, d2⟩ := t10 L hL
    exact ⟨d, d1, d2.cg (hd _ (by omega))⟩
  · exact (t11 E hE).cg (hd _ (by omega)) (hd _ (by omega))
theorem CS.cg {g' : gz_S} (h : CS g s) (h1 : g'.1 11 = g.1 11) (h2 : g'.1 33 = g.1 33) (h3 : g'.1 34 = g.1 34) (h4 : g'.1 35 = g.1 35) : CS g' s := by
  unfold CS; rw [h1, h2, h3, h4]; exact h
/-- other rows of the class: what it plays on -/
theorem ClW.sp {S : Nat → Prop} {g' : gz_S} (h : ClW La g l Ls Es cur lv V V0 a K Lg him IV ILg s) (hF : Fr S g g') (hS : ∀ j, S j → j = 2 ∨ j = 3 ∨ j = 4 ∨ (15 ≤ j ∧ j ≤ 20) ∨ j = 8 ∨ j = 10 ∨ j = 23 ∨ j = 24 ∨ j = 25 ∨ (30 ≤ j ∧ j ≤ 32) ∨ j = 36 ∨ j = 37) (hs : ∃ Vs, g'.1 23 = fI Vs ∧ Z61 Vs) : ClW La g' l Ls Es cur lv V V0 a K Lg him IV ILg s := by
  have e : ∀ j, ¬ (j = 2 ∨ j = 3 ∨ j = 4 ∨ (15 ≤ j ∧ j ≤ 20) ∨ j = 8 ∨ j = 10 ∨ j = 23 ∨ j = 24 ∨ j = 25 ∨ (30 ≤ j ∧ j ≤ 32) ∨ j = 36 ∨ j = 37) → g'.1 j = g.1 j := fun j hj => hF.1 j (fun hh => hj (hS j hh))
  obtain ⟨c1, c2, c3, c4, c5, c6, c7, c8⟩ := h
  exact ⟨c1.cg (e 0 (by omega)) (e 1 (by omega)) (e 14 (by omega)) (Tq.ww hF.2) (fun j hj => e j (by omega)), by rw [e 22 (by omega)]; exact c2, by rw [e 21 (by omega)]; exact c3, hs, c5, c6, c7.fr hF (fun j hj => by have := hS j hj; omega), c8.cg (e 11 (by omega)) (e 33 (by omega)) (e 34 (by omega)) (e 35 (by omega))⟩
theorem ClW.fr {g' : gz_S} (h : ClW La g l Ls Es cur lv V V0 a K Lg him IV ILg s) (hF : FR g g') : ClW La g' l Ls Es cur lv V V0 a K Lg him IV ILg s := by
  have e : ∀ j, ¬ (39 ≤ j ∧ j < 64) → g'.1 j = g.1 j := hF.1
  obtain ⟨c1, c2, c3, c4, c5, c6, c7, c8⟩ := h
  refine ⟨c1.cg (e 0 (by omega)) (e 1 (by omega)) (e 14 (by omega)) hF.2 (fun j hj => e j (by omega)), by rw [e 22 (by omega)]; exact c2, by rw [e 21 (by omega)]; exact c3, by rw [e 23 (by omega)]; exact c4, c5, c6, ?_, c8.cg (e 11 (by omega)) (e 33 (by omega)) (e 34 (by omega)) (e 35 (by omega))⟩
  unfold CP
  rw [e 9 (by omega), e 26 (by omega), e 27 (by omega), e 28 (by omega), e 29 (by omega)]
  exact c7
theorem ReW.fr {g' : gz_S} (h : ReW g l Ls Es cur lv V V0 a K Lg him IV ILg s) (hF : FC g g') : ReW g' l Ls Es cur lv V V0 a K Lg him IV ILg s := by
  have e : ∀ j, 39 ≤ j → j < 64 → g'.1 j = g.1 j := hF.1
  unfold ReW ReT RTP RLw MI LL Byt Tld RU
  rw [e 39 (by omega) (by omega), e 40 (by omega) (by omega), e 41 (by omega) (by omega), e 42 (by omega) (by omega), e 43 (by omega) (by omega), e 44 (by omega) (by omega), e 46 (by omega) (by omega), e 48 (by omega) (by omega),
    e 51 (by omega) (by omega), e 52 (by omega) (by omega), e 53 (by omega) (by omega), e 55 (by omega) (by omega), e 56 (by omega) (by omega), e 57 (by omega) (by omega), e 59 (by omega) (by omega), e 63 (by omega) (by omega)]
  exact h
/-- rows and fields of the reference that are its own affair -/
abbrev KQ : Nat → Prop := fun k => k = 0 ∨ (8 ≤ k ∧ k ≤ 14 ∨ k = 17) ∨ k = 38 ∨ k = 39 ∨ k = 28 ∨ k = 29 ∨ k = 31
abbrev SQ : Nat → Prop := fun j => j = 43 ∨ j = 54 ∨ j = 55 ∨ j = 56 ∨ j = 58 ∨ j = 60 ∨ j = 61 ∨ j = 62 ∨ j = 45 ∨ j = 47 ∨ j = 49 ∨ j = 50
theorem ReW.sp {g' : gz_S} (h : ReW g l Ls Es cur lv V V0 a K Lg him IV ILg s) (hF : Fy KQ SQ g g') (hL : RLw g' Ls cur) : ReW g' l Ls Es cur lv V V0 a K Lg him IV ILg s := by
  obtain ⟨⟨t1, t2, t3, t4⟩, c2, c3, c4, c5, c6, c7⟩ := h
  have e : ∀ j, j ≠ 39 → ¬ SQ j → g'.1 j = g.1 j := hF.1
  have k : ∀ j, ¬ KQ j → g'.1 39 j = g.1 39 j := hF.2.1
  refine ⟨⟨?_, hL, ?_, by rw [k 35 (by omega)]; exact t4⟩, by rw [e 53 (by omega) (by omega)]; exact c2, ?_, ?_, ?_, by rw [k 47 (by omega)]; exact c6, by rw [e 59 (by omega) (by omega)]; exact c7⟩
  · unfold RTP; rw [k 6 (by omega), e 40 (by omega) (by omega)]; exact t1
  · rw [k 30 (by omega), e 51 (by omega) (by omega), e 52 (by omega) (by omega)]; exact t3
  · unfold Tld; rw [k 27 (by omega), e 44 (by omega) (by omega), e 46 (by omega) (by omega), e 48 (by omega) (by omega)]; exact c3
  · unfold RU; rw [k 41 (by omega), e 57 (by omega) (by omega)]; exact c4
  · rw [k 50 (by omega), e 63 (by omega) (by omega)]; exact c5
theorem CallOk.mk {F1 F2 : gz_S → Option (Int32 × gz_S)} {v : Int32} {l' : List Nat} {Ls' : List (List Nat)} {Es' : List (List eS)} {cur' : Option Nat} {lv' : Nat} {V' V0' : Nat → Nat} {a' : Nat} {K' : Nat → Nat → Nat} {Lg' : Nat → Nat} {him' : Nat} {IV' ILg' : Nat → Nat} {s' : sS}
    (hR : ReW g l Ls Es cur lv V V0 a K Lg him IV ILg s)
    (h1 : ∃ g1, F1 g = some (v, g1) ∧ FC g g1 ∧ ClW La g1 l' Ls' Es' cur' lv' V' V0' a' K' Lg' him' IV' ILg' s')
    (h2 : ∀ g1, ReW g1 l Ls Es cur lv V V0 a K Lg him IV ILg s → ∃ g2, F2 g1 = some (v, g2) ∧ FR g1 g2 ∧ ReW g2 l' Ls' Es' cur' lv' V' V0' a' K' Lg' him' IV' ILg' s')
    (hI : Inv V' V0' a' K' Lg' him' IV' ILg' s' B) : CallOk La F1 F2 g B := by
  obtain ⟨g1, u1, u2, u3⟩ := h1
  obtain ⟨g2, v1, v2, v3⟩ := h2 g1 (hR.fr u2)
  exact ⟨v, g1, g2, u1, v1, l', Ls', Es', cur', lv', V', V0', a', K', Lg', him', IV', ILg', s', u3.fr v2, v3, hI⟩
theorem Inv.mo {B' : Nat} (h : Inv V V0 a K Lg him IV ILg s B) (hB : B ≤ B') : Inv V V0 a K Lg him IV ILg s B' :=
  ⟨h.1, h.2.1, fun h0 => ⟨(h.2.2.1 h0).1.mo hB, (h.2.2.1 h0).2.1, fun i hi => ⟨((h.2.2.1 h0).2.2.1 i hi).1.mo hB, ((h.2.2.1 h0).2.2.1 i hi).2⟩, fun hh => ⟨((h.2.2.1 h0).2.2.2 hh).1.mo hB, ((h.2.2.1 h0).2.2.2 hh).2⟩⟩, h.2.2.2⟩
theorem Inv.b (h : Inv V V0 a K Lg him IV ILg s B) : ∀ k, V k < 1048576 := by
  intro k
  by_cases h0 : V 60 = 0
  · rw [(h.2.1 h0).1]; exact (by decide : (0 : Nat) < 1048576)
  · exact (h.2.2.1 h0).1.1 k
theorem Inv.c30 (h : Inv V V0 a K Lg him IV ILg s B) : V 58 * V 59 ≤ 30 := by
  by_cases h0 : V 60 = 0
  · rw [(h.2.1 h0).1]; exact (by decide : (0 : Nat) * 0 ≤ 30)
  · exact (h.2.2.1 h0).1.cells
theorem Inv.g4 (h : Inv V V0 a K Lg him IV ILg s B) : V 60 ≤ 4 := by
  by_cases h0 : V 60 = 0
  · omega
  · exact (h.2.2.1 h0).1.2.2.2.1.2
/-- the class's walker -/
theorem ClT.lw (h : ClT La g l Ls Es cur lv) : LW La g (sTof Ls cur) := by
  obtain ⟨t1, t2, t3, t4, t5, t6, t7, t8, t9, t10, t11⟩ := h
  cases cur with
  | none => exact t7.1
  | some L =>
    have hL := t6 L rfl
    obtain ⟨d, d1, d2⟩ := t10 L hL
    show LW La g (some (lawT (lawD (Ls.getD L []))))
    rw [lawD_eq d1]
    exact LW.law (e := 100 + 2 * L) t7.1 ⟨by omega, by omega, by omega, by omega⟩ d2
theorem ClW.cf (h : ClW La g l Ls Es cur lv V V0 a K Lg him IV ILg s) (hW : Wf B V) : CF La g V (sTof Ls cur) B := ⟨h.2.1, hW, h.2.2.2.2.1, h.1.lw, h.2.2.2.1⟩
theorem ClW.fs {g' : gz_S} (h : ClW La g l Ls Es cur lv V V0 a K Lg him IV ILg s) (hF : FS g g') : ClW La g' l Ls Es cur lv V V0 a K Lg him IV ILg s :=
  h.sp hF.1 (fun j hj => by have := hj; omega) hF.2
theorem FS.fc {g' : gz_S} (hF : FS g g') : FC g g' := FC.of hF.1 (fun j hj => by have := hj; omega)
/-- the reference's rows -/
theorem shV_places {S : SH} : shV S 58 = S.ru 0 ∧ shV S 59 = S.ru 1 ∧ shV S 60 = S.gn ∧ ∀ i, i < S.gn → i < 4 → shV S (54 + i) = S.go (4 * i + 1) * S.ru 0 + S.go (4 * i) ∧ shV S (50 + i) = S.go (4 * i + 3) := by
  refine ⟨rfl, rfl, rfl, fun i hi hi4 => ⟨?_, ?_⟩⟩
  · unfold shV shW
    rw [if_neg (by omega), if_neg (by omega), if_neg (by omega), if_neg (by omega), if_neg (by omega), if_neg (by omega), if_neg (by omega), if_neg (by omega), if_neg (by omega), if_pos (by omega), if_pos (by omega), show (54 + i - 54) * 4 = 4 * i by omega]
  · unfold shV shW
    rw [if_neg (by omega), if_neg (by omega), if_neg (by omega), if_neg (by omega), if_neg (by omega), if_neg (by omega), if_neg (by omega), if_neg (by omega), if_pos (by omega), if_pos (by omega), show (50 + i - 50) * 4 = 4 * i by omega]
theorem Tld.rk (h : Tld g V0) (hV : ∀ k, 50 ≤ k → V k = V0 k) (h0 : ¬ V 60 = 0) : RK g V ∧ RKp g V := by
  rw [hV 60 (by omega)] at h0
  rcases h with ⟨h1, _⟩ | ⟨S, h1, h2, h3, h4, h5, h6, h7⟩
  · exact absurd h1 h0
  · subst h1
    obtain ⟨p1, p2, p3, p4⟩ := shV_places (S := S)
    have hgn := h2.2.1
    have hru := h2.1.1 0 (by omega)
    refine ⟨⟨by rw [hV 58 (by omega), p1]; exact h4 0 (by omega), by rw [hV 59 (by omega), p2]; exact h4 1 (by omega), by rw [hV 60 (by omega), p3]; exact h7, fun i hi => ?_⟩, fun i hi => ?_⟩
    · rw [hV 60 (by omega), p3] at hi
      have ha := h3.2.2.2 i hi
      rw [Nat.mul_comm i 4] at ha
      have h6' : tS (0 * 4 + 2) = 6 := rfl
      have h5' : S.ru 1 ≤ 5 := (h2.1.1 1 (by omega)).2
      refine ⟨S.go (4 * i), S.go (4 * i + 1), h5 _ (by omega), h5 _ (by omega), by omega, by omega, ?_⟩
      rw [hV (54 + i) (by omega), (p4 i hi (by omega)).1, hV 58 (by omega), p1, Nat.mul_comm]
    · rw [hV 60 (by omega), p3] at hi
      rw [hV (50 + i) (by omega), (p4 i hi (by omega)).2]
      exact h5 _ (by omega)
theorem ReW.cx (h : ReW g l Ls Es cur lv V V0 a K Lg him IV ILg s) (hI : Inv V V0 a K Lg him IV ILg s B) (h0 : ¬ V 60 = 0) : CX g 53 V Ls cur ∧ RKp g V := by
  obtain ⟨k1, k2⟩ := h.2.2.1.rk hI.1 h0
  exact ⟨⟨h.2.1.1, k1, h.1.2.1⟩, k2⟩
theorem ReW.n27 (h : ReW g l Ls Es cur lv V V0 a K Lg him IV ILg s) (hI : Inv V V0 a K Lg him IV ILg s B) : g.1 39 27 = nI (V 60) := by
  rw [hI.1 60 (by omega)]
  rcases h.2.2.1 with ⟨h1, h2⟩ | ⟨S, h1, h2, h3, h4, h5, h6, h7⟩
  · rw [h1]; exact h2
  · rw [h1]; exact h7
theorem ReW.f0 (h : ReW g l Ls Es cur lv V V0 a K Lg him IV ILg s) : ReW (gz_wi g 39 0 0) l Ls Es cur lv V V0 a K Lg him IV ILg s ∧ FR g (gz_wi g 39 0 0) := by
  have F : Fy (fun k => k = 0) (fun _ => False) g (gz_wi g 39 0 0) := Fy.z0.w rfl
  exact ⟨h.sp (F.mo (fun k hk => Or.inl hk) (fun j hj => hj.elim)) (h.1.2.1.fr F (by omega) (by omega) id id id id id), FR.y F (fun j hj => hj.elim)⟩
theorem CallOk.of {F1 F2 : gz_S → Option (Int32 × gz_S)} {v : Int32} {g1 g2 : gz_S} (h1 : F1 g = some (v, g1)) (h2 : F2 g1 = some (v, g2)) (hC : ClW La g1 l Ls Es cur lv V V0 a K Lg him IV ILg s) (hF : FR g1 g2) (hR : ReW g2 l Ls Es cur lv V V0 a K Lg him IV ILg s) (hI : Inv V V0 a K Lg him IV ILg s B) : CallOk La F1 F2 g B :=
  ⟨v, g1, g2, h1, h2, l, Ls, Es, cur, lv, V, V0, a, K, Lg, him, IV, ILg, s, hC.fr hF, hR, hI⟩
theorem FC.z0 : FC g g := ⟨fun _ _ _ => rfl, rfl⟩
theorem FR.z0 : FR g g := ⟨fun _ _ => rfl, Tq.rf⟩
/-- where both refuse and nothing changes -/
theorem CallOk.no {F1 F2 : gz_S → Option (Int32 × gz_S)} {v : Int32} (h1 : F1 g = some (v, g)) (h2 : F2 g = some (v, gz_wi g 39 0 0)) (hC : ClW La g l Ls Es cur lv V V0 a K Lg him IV ILg s) (hR : ReW g l Ls Es cur lv V V0 a K Lg him IV ILg s) (hI : Inv V V0 a K Lg him IV ILg s B) : CallOk La F1 F2 g B :=
  CallOk.of h1 h2 hC hR.f0.2 hR.f0.1 hI
end ST
