/-! call years -/
section ST
variable {La : gz_L} {g : gz_S} {l : List Nat} {Ls : List (List Nat)} {Es : List (List eS)} {cur : Option Nat} {lv : Nat} {V V0 : Nat → Nat} {a : Nat} {K : Nat → Nat → Nat} {Lg : Nat → Nat} {him : Nat} {IV ILg : Nat → Nat} {s : sS} {B : Nat} {w : Int64}
abbrev yP : Type := pT × Int64
def yStep (T : sT) (lv : Nat) (p : yP) : yP := ((sHour T (yV lv p.2 p.1.1), min 40 (p.1.2.1 + 1), kPush p.1.1 p.1.2.2.1, uN p.1.2.2.2 (yV lv p.2 p.1.1 49) (hcode T (yV lv p.2 p.1.1))), yG lv p.2)
def yRun (T : sT) (lv : Nat) (p : yP) (k : Nat) : yP := it (fun _ q => yStep T lv q) k p
theorem yRun_s (T : sT) (lv : Nat) (p : yP) (k : Nat) : yRun T lv p (k + 1) = yStep T lv (yRun T lv p k) := rfl
theorem yStep_inv {p : yP} (hI : Inv p.1.1 V0 p.1.2.1 p.1.2.2.1 p.1.2.2.2 him IV ILg s B) (h0 : ¬ p.1.1 60 = 0) (hT : TLt (sTof Ls cur)) (hB : B < 700000) (h49 : p.1.1 49 < 9999) :
    Inv (yStep (sTof Ls cur) lv p).1.1 V0 (yStep (sTof Ls cur) lv p).1.2.1 (yStep (sTof Ls cur) lv p).1.2.2.1 (yStep (sTof Ls cur) lv p).1.2.2.2 him IV ILg s (B + 20) ∧ ¬ (yStep (sTof Ls cur) lv p).1.1 60 = 0 ∧ (yStep (sTof Ls cur) lv p).1.1 49 = p.1.1 49 + 1 := by
  obtain ⟨⟨V, a, K, Lg⟩, w⟩ := p
  have hI : Inv V V0 a K Lg him IV ILg s B := hI
  have h0 : ¬ V 60 = 0 := h0
  have h49 : V 49 < 9999 := h49
  obtain ⟨hW, _, _⟩ := hI.2.2.1 h0
  have h60 := hW.2.2.2.1
  unfold yStep
  show Inv (sHour (sTof Ls cur) (yV lv w V)) V0 (min 40 (a + 1)) (kPush V K) (uN Lg (yV lv w V 49) (hcode (sTof Ls cur) (yV lv w V))) him IV ILg s (B + 20) ∧ ¬ sHour (sTof Ls cur) (yV lv w V) 60 = 0 ∧ sHour (sTof Ls cur) (yV lv w V) 49 = V 49 + 1
  have hW2 : Wf B (yV lv w V) := yV_wf hW
  have eV : ∀ k, k < 30 ∨ 47 ≤ k → yV lv w V k = V k := fun k hk => yV_fix h60 hk
  generalize yV lv w V = U at *
  have h60' : U 60 ≤ 4 := hW2.2.2.2.1.2
  have u49 : U 49 = V 49 := eV 49 (by omega)
  have e49 : sHour (sTof Ls cur) U 49 = U 49 + 1 := uN_s _ _ _
  refine ⟨hI.act h0 (by omega) (sHour_wf hT hW2 (by omega)) (by rw [e49]; omega) (fun k hk => (sHour_fix (V := U) h60' (by omega)).trans (eV k (by omega))) (okc_u hI.2.2.2.1 (by have := sMet_le (T := sTof Ls cur) (V := U) h60'; omega) (sEnd16 h60') (by have := hW2.2.2.2.2.1; omega)), ?_, by rw [e49, u49]⟩
  rw [sHour_fix h60' (by omega), eV 60 (by omega)]; exact h0
theorem w_years (hw : WR La g B) (hB : B < 500000) (x : Int32) (y : Int64) : CallOk La (fX11_years La x y) (fX12_years La x y) g (B + 600) := by
  obtain ⟨l, Ls, Es, cur, lv, V, V0, a, K, Lg, him, IV, ILg, s, hC, hR, hI⟩ := hw
  have hI' := hI.mo (show B ≤ B + 600 by omega)
  have hg4 := hI.g4
  have hb1 := Int32.toInt_lt x
  have hb2 := Int32.le_toInt x
  have tlv : lv ≤ 9 := hC.1.2.2.2.2.2.2.2.2.1
  have k1 : ∀ z, z.1 22 = fI V → fX11_years La x y z = (if pI (0 < V 60) = 0 then some ((-1), z) else if x < 1 then some ((-1), z) else if 30 < x then some ((-1), z) else if (nI (V 49) + x) ≤ 9999 then fX11_years_49 La (fun g => some (g.1 22 49, g)) gz_FU x 0 (gz_wl z 0 17 y) else some ((-1), z)) := by
    intro z hz
    unfold fX11_years
    rw [c_hasShore (w := 6) hz hI.b, Option.bind_some]
    dsimp only
    rw [hz, fI_ap, gz_let_eq]
  have k2 : ∀ z, ReW z l Ls Es cur lv V V0 a K Lg him IV ILg s → fX12_years La x y z = (if nI (V 60) = 0 then some ((-1), gz_wi z 39 0 0) else if pI ((1 : Int) ≤ x.toInt ∧ x.toInt ≤ (30 : Int)) = 0 then some ((-1), gz_wi z 39 0 0) else if (nI (V 49) + x) ≤ 9999 then fX12_years_49 La (fun g => some (g.1 53 49, g)) gz_FU x 0 (gz_wl (gz_wi z 39 0 0) 39 42 y) else some ((-1), gz_wi z 39 0 0)) := by
    intro z hz
    obtain ⟨hR0, F0⟩ := hz.f0
    unfold fX12_years
    rw [gz_let_eq, hR0.n27 hI, x_l x, show (1 : Int64) = Int64.ofInt 1 from rfl, show (30 : Int64) = Int64.ofInt 30 from rfl, r_isInZ (by omega) (by omega) (by omega), Option.bind_some]
    dsimp only
    rw [hR0.at46 (k := 49) (by omega), gz_let_eq]
  by_cases h0 : V 60 = 0
  · exact CallOk.no (v := -1) ((k1 g hC.2.1).trans (if_pos (pI0 (by omega)))) ((k2 g hR).trans (if_pos (by rw [h0]; rfl))) hC hR hI'
  have k1 := fun z hz => (k1 z hz).trans (if_neg (pI1 (by omega)))
  have k2 := fun z hz => (k2 z hz).trans (if_neg (show ¬ nI (V 60) = nI 0 by rw [n_eq (by omega) (by omega)]; exact h0))
  by_cases y1 : ¬ (1 ≤ x.toInt ∧ x.toInt ≤ 30)
  · refine CallOk.no (v := -1) ((k1 g hC.2.1).trans ?_) ((k2 g hR).trans (if_pos (pI0 y1))) hC hR hI'
    by_cases q1 : x.toInt < 1
    · exact if_pos (show x < nI 1 by rw [x_lt (by omega)]; omega)
    · refine (if_neg (show ¬ x < nI 1 by rw [x_lt (by omega)]; omega)).trans ?_
      exact if_pos (show nI 30 < x by rw [x_gt (by omega)]; omega)
  have y1 : 1 ≤ x.toInt ∧ x.toInt ≤ 30 := Decidable.not_not.mp y1
  have k1 := fun z hz => ((k1 z hz).trans (if_neg (show ¬ x < nI 1 by rw [x_lt (by omega)]; omega))).trans (if_neg (show ¬ nI 30 < x by rw [x_gt (by omega)]; omega))
  have k2 := fun z hz => (k2 z hz).trans (if_neg (pI1 y1))
  obtain ⟨n, n1, rfl, n3⟩ := x_of (x := x) (by omega)
  obtain ⟨hW, h49, _⟩ := hI.2.2.1 h0
  by_cases y2 : ¬ V 49 + n ≤ 9999
  · have q : ¬ (nI (V 49) + nI n) ≤ nI 9999 := by rw [n_add, n_le (by omega) (by omega)]; omega
    exact CallOk.no (v := -1) ((k1 g hC.2.1).trans (if_neg q)) ((k2 g hR).trans (if_neg q)) hC hR hI'
  have y2 : V 49 + n ≤ 9999 := Decidable.not_not.mp y2
  have q : (nI (V 49) + nI n) ≤ nI 9999 := by rw [n_add, n_le (by omega) (by omega)]; omega
  have k1 := fun z hz => (k1 z hz).trans (if_pos q)
  have k2 := fun z hz => (k2 z hz).trans (if_pos q)
  have PI : ∀ i, i ≤ n → Inv (yRun (sTof Ls cur) lv ((V, a, K, Lg), y) i).1.1 V0 (yRun (sTof Ls cur) lv ((V, a, K, Lg), y) i).1.2.1 (yRun (sTof Ls cur) lv ((V, a, K, Lg), y) i).1.2.2.1 (yRun (sTof Ls cur) lv ((V, a, K, Lg), y) i).1.2.2.2 him IV ILg s (B + 20 * i) ∧ ¬ (yRun (sTof Ls cur) lv ((V, a, K, Lg), y) i).1.1 60 = 0 ∧ (yRun (sTof Ls cur) lv ((V, a, K, Lg), y) i).1.1 49 = V 49 + i := by
    intro i
    induction i with
    | zero => intro _; exact ⟨hI, h0, rfl⟩
    | succ i ih =>
      intro hi
      obtain ⟨j1, j2, j3⟩ := ih (by omega)
      rw [yRun_s]
      obtain ⟨p1, p2, p3⟩ := yStep_inv (B := B + 20 * i) (lv := lv) (p := yRun (sTof Ls cur) lv ((V, a, K, Lg), y) i) j1 j2 sTof_lt (by omega) (by omega)
      exact ⟨p1, p2, by rw [p3, j3]; omega⟩
  have hC0 : ClW La (gz_wl g 0 17 y) l Ls Es cur lv V V0 a K Lg him IV ILg s := hC.fr ⟨fun _ _ => rfl, Tq.of rfl⟩
  have FC0 : FC g (gz_wl g 0 17 y) := ⟨fun _ _ _ => rfl, rfl⟩
  have cls : ∃ g1, fX11_years_49 La (fun g => some (g.1 22 49, g)) gz_FU (nI n) 0 (gz_wl g 0 17 y) = some (nI (V 49 + n), g1) ∧ FC g g1 ∧ ClW La g1 l Ls Es cur lv (yRun (sTof Ls cur) lv ((V, a, K, Lg), y) n).1.1 V0 (yRun (sTof Ls cur) lv ((V, a, K, Lg), y) n).1.2.1 (yRun (sTof Ls cur) lv ((V, a, K, Lg), y) n).1.2.2.1 (yRun (sTof Ls cur) lv ((V, a, K, Lg), y) n).1.2.2.2 him IV ILg s ∧ ∀ i, i < n → ∀ j, j < min 40 ((yRun (sTof Ls cur) lv ((V, a, K, Lg), y) i).1.2.1 + 1) → kPush (yRun (sTof Ls cur) lv ((V, a, K, Lg), y) i).1.1 (yRun (sTof Ls cur) lv ((V, a, K, Lg), y) i).1.2.2.1 j 49 ≤ (yRun (sTof Ls cur) lv ((V, a, K, Lg), y) i).1.1 49 := by
    refine lp (fun f i z => fX11_years_49 La (fun g => some (g.1 22 49, g)) f (nI n) (nI i) z) (fun i z => FC g z ∧ z.2.1 0 17 = (yRun (sTof Ls cur) lv ((V, a, K, Lg), y) i).2 ∧ ClW La z l Ls Es cur lv (yRun (sTof Ls cur) lv ((V, a, K, Lg), y) i).1.1 V0 (yRun (sTof Ls cur) lv ((V, a, K, Lg), y) i).1.2.1 (yRun (sTof Ls cur) lv ((V, a, K, Lg), y) i).1.2.2.1 (yRun (sTof Ls cur) lv ((V, a, K, Lg), y) i).1.2.2.2 him IV ILg s ∧ ∀ i', i' < i → ∀ j, j < min 40 ((yRun (sTof Ls cur) lv ((V, a, K, Lg), y) i').1.2.1 + 1) → kPush (yRun (sTof Ls cur) lv ((V, a, K, Lg), y) i').1.1 (yRun (sTof Ls cur) lv ((V, a, K, Lg), y) i').1.2.2.1 j 49 ≤ (yRun (sTof Ls cur) lv ((V, a, K, Lg), y) i').1.1 49) n (fun q => ∃ g1, q = some (nI (V 49 + n), g1) ∧ FC g g1 ∧ ClW La g1 l Ls Es cur lv (yRun (sTof Ls cur) lv ((V, a, K, Lg), y) n).1.1 V0 (yRun (sTof Ls cur) lv ((V, a, K, Lg), y) n).1.2.1 (yRun (sTof Ls cur) lv ((V, a, K, Lg), y) n).1.2.2.1 (yRun (sTof Ls cur) lv ((V, a, K, Lg), y) n).1.2.2.2 him IV ILg s ∧ ∀ i, i < n → ∀ j, j < min 40 ((yRun (sTof Ls cur) lv ((V, a, K, Lg), y) i).1.2.1 + 1) → kPush (yRun (sTof Ls cur) lv ((V, a, K, Lg), y) i).1.1 (yRun (sTof Ls cur) lv ((V, a, K, Lg), y) i).1.2.2.1 j 49 ≤ (yRun (sTof Ls cur) lv ((V, a, K, Lg), y) i).1.1 49) ?_ ?_ gz_FU 0 _ (by omega) (by unfold gz_FU; omega) ⟨FC0, wl_at _ _ _ _, hC0, fun i' hi' => absurd hi' (Nat.not_lt_zero _)⟩
    · intro f i z hi ⟨q1, q2, q3, q4⟩
      obtain ⟨j1, j2, j3⟩ := PI i (by omega)
      have hWi := (j1.2.2.1 j2).1
      obtain ⟨g0, g', u1, u2, u3, u4, u5⟩ := c_year (La := La) q3 hWi (by omega) (by omega) q2 (k49 := fX11_years_49 La (fun g => some (g.1 22 49, g)) f) (x1 := nI n) (x4 := nI i)
      refine Or.inr ⟨g', ?_, q1.tr u3, by rw [yRun_s]; exact u4, by rw [yRun_s]; exact u5, fun i' hi' => ?_⟩
      · rw [fX11_years_49, if_neg (show ¬ nI n ≤ nI i by rw [n_le (by omega) (by omega)]; omega), u1, Option.bind_some]
        refine u2.trans ?_
        rw [show nI i + (1 : Int32) = nI (i + 1) from n_add _ _]
      · by_cases ci : i' = i
        · subst ci; exact q3.kh
        · exact q4 i' (by omega)
    · intro f z ⟨q1, q2, q3, q4⟩
      obtain ⟨j1, j2, j3⟩ := PI n (Nat.le_refl _)
      refine ⟨z, ?_, q1, q3, q4⟩
      rw [fX11_years_49, if_pos (Int32.le_refl _), q3.2.1, fI_ap, j3]
  obtain ⟨g1, u1, u2, u3, u4⟩ := cls
  have hR1 := (hR.fr u2).f0
  have hR2 : ReW (gz_wl (gz_wi g1 39 0 0) 39 42 y) l Ls Es cur lv V V0 a K Lg him IV ILg s := hR1.1.fr ⟨fun _ _ _ => rfl, rfl⟩
  have FR0 : FR g1 (gz_wl (gz_wi g1 39 0 0) 39 42 y) := hR1.2
  have ref : ∃ g2, fX12_years_49 La (fun g => some (g.1 53 49, g)) gz_FU (nI n) 0 (gz_wl (gz_wi g1 39 0 0) 39 42 y) = some (nI (V 49 + n), g2) ∧ FR g1 g2 ∧ ReW g2 l Ls Es cur lv (yRun (sTof Ls cur) lv ((V, a, K, Lg), y) n).1.1 V0 (yRun (sTof Ls cur) lv ((V, a, K, Lg), y) n).1.2.1 (yRun (sTof Ls cur) lv ((V, a, K, Lg), y) n).1.2.2.1 (yRun (sTof Ls cur) lv ((V, a, K, Lg), y) n).1.2.2.2 him IV ILg s := by
    refine lp (fun f i z => fX12_years_49 La (fun g => some (g.1 53 49, g)) f (nI n) (nI i) z) (fun i z => FR g1 z ∧ z.2.1 39 42 = (yRun (sTof Ls cur) lv ((V, a, K, Lg), y) i).2 ∧ ReW z l Ls Es cur lv (yRun (sTof Ls cur) lv ((V, a, K, Lg), y) i).1.1 V0 (yRun (sTof Ls cur) lv ((V, a, K, Lg), y) i).1.2.1 (yRun (sTof Ls cur) lv ((V, a, K, Lg), y) i).1.2.2.1 (yRun (sTof Ls cur) lv ((V, a, K, Lg), y) i).1.2.2.2 him IV ILg s) n (fun q => ∃ g2, q = some (nI (V 49 + n), g2) ∧ FR g1 g2 ∧ ReW g2 l Ls Es cur lv (yRun (sTof Ls cur) lv ((V, a, K, Lg), y) n).1.1 V0 (yRun (sTof Ls cur) lv ((V, a, K, Lg), y) n).1.2.1 (yRun (sTof Ls cur) lv ((V, a, K, Lg), y) n).1.2.2.1 (yRun (sTof Ls cur) lv ((V, a, K, Lg), y) n).1.2.2.2 him IV ILg s) ?_ ?_ gz_FU 0 _ (by omega) (by unfold gz_FU; omega) ⟨FR0, wl_at _ _ _ _, hR2⟩
    · intro f i z hi ⟨q1, q2, q3⟩
      obtain ⟨j1, j2, j3⟩ := PI i (by omega)
      obtain ⟨g0, g', v1, v2, v3, v4, v5⟩ := r_year (La := La) (B := B + 20 * i) q3 j1 j2 (by omega) tlv (u4 i hi) q2 (k49 := fX12_years_49 La (fun g => some (g.1 53 49, g)) f) (x1 := nI n) (x4 := nI i)
      refine Or.inr ⟨g', ?_, q1.tr v3, by rw [yRun_s]; exact v4, by rw [yRun_s]; exact v5⟩
      rw [fX12_years_49, if_neg (show ¬ nI n ≤ nI i by rw [n_le (by omega) (by omega)]; omega), v1, Option.bind_some]
      refine v2.trans ?_
      rw [show nI i + (1 : Int32) = nI (i + 1) from n_add _ _]
    · intro f z ⟨q1, q2, q3⟩
      obtain ⟨j1, j2, j3⟩ := PI n (Nat.le_refl _)
      refine ⟨z, ?_, q1, q3⟩
      rw [fX12_years_49, if_pos (Int32.le_refl _), q3.at46 (k := 49) (by omega), j3]
  obtain ⟨g2, v1, v2, v3⟩ := ref
  exact CallOk.of ((k1 g hC.2.1).trans u1) ((k2 g1 (hR.fr u2)).trans v1) u3 v2 v3 ((PI n (Nat.le_refl _)).1.mo (by omega))
end ST
