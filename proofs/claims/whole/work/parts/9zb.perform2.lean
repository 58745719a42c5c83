/-! call perform: both -/
section ST
variable {La : gz_L} {g : gz_S} {l : List Nat} {Ls : List (List Nat)} {Es : List (List eS)} {cur : Option Nat} {lv : Nat} {V V0 : Nat → Nat} {a : Nat} {K : Nat → Nat → Nat} {Lg : Nat → Nat} {him : Nat} {IV ILg : Nat → Nat} {s : sS} {B : Nat} {e : sE}
theorem r_pstep {p : pT} {i o : Nat} (hR : ReW g l Ls Es cur lv p.1 V0 p.2.1 p.2.2.1 p.2.2.2 him IV ILg s) (hI : Inv p.1 V0 p.2.1 p.2.2.1 p.2.2.2 him IV ILg s B) (h0 : ¬ p.1 60 = 0) (hB : B < 600000) (hK : ∀ i, i < min 40 (p.2.1 + 1) → kPush p.1 p.2.2.1 i 49 ≤ p.1 49) (hp : PlE g o (e.2.1 i) (e.2.2.1 i) (e.2.2.2 i)) (hm : sMay p.1 e i) :
    ∃ g0 v g', fX12_remember La g = some g0 ∧ fX12_goPlan La 53 (nI o) g0 = some (v, g') ∧ FR g g' ∧ ReW g' l Ls Es cur lv (pSt (sTof Ls cur) e p i).1 V0 (pSt (sTof Ls cur) e p i).2.1 (pSt (sTof Ls cur) e p i).2.2.1 (pSt (sTof Ls cur) e p i).2.2.2 him IV ILg s := by
  obtain ⟨V, a, K, Lg⟩ := p
  have hR : ReW g l Ls Es cur lv V V0 a K Lg him IV ILg s := hR
  have hI : Inv V V0 a K Lg him IV ILg s B := hI
  have h0 : ¬ V 60 = 0 := h0
  obtain ⟨hW, h49, _⟩ := hI.2.2.1 h0
  obtain ⟨gr, t1, t2, t3⟩ := r_remember (La := La) hR.2.2.2.1 hR.2.1
  have F1 := t2.y
  have hpr : PlE gr o (e.2.1 i) (e.2.2.1 i) (e.2.2.2 i) := by
    unfold PlE; rw [F1.1 51 (by omega) (by omega)]; exact hp
  unfold pSt
  by_cases c : e.2.1 i = 0
  · obtain ⟨q0, q1, v0, v1, v2, v3⟩ := r_passNow (La := La) hR hI h0 (by omega) hK
    have hq : q0 = gr := by rw [t1] at v0; injection v0 with v0; exact v0.symm
    subst hq
    refine ⟨q0, nI (sMet (sTof Ls cur) V), q1, t1, ?_, v2, by rw [if_pos c, if_pos c]; exact v3⟩
    rw [r_goPlan0 (by rw [c] at hpr; exact hpr), v1, Option.bind_some]
  · obtain ⟨q0, v0, v1, v1', v2⟩ := r_actK (La := La) hR hI h0
    have hq : q0 = gr := by rw [t1] at v0; injection v0 with v0; exact v0.symm
    subst hq
    obtain ⟨g2, w1, w2, w3⟩ := r_goPlan (La := La) (Or.inl rfl) v1 hW hpr c hm
    obtain ⟨d1, d2⟩ := sDo_ok hW hp.1.2 c hm
    obtain ⟨x1, x2⟩ := v2 g2 (sDo V e i) w2 w3 (d2 49 (by omega))
    exact ⟨q0, 0, g2, t1, w1, x1, by rw [if_neg c, if_neg c]; exact x2⟩
def prI (T : sT) (e : sE) (p : pT) (k : Nat) : pT := it (fun i p => pSt T e p i) k p
theorem prI_s (T : sT) (e : sE) (p : pT) (k : Nat) : prI T e p (k + 1) = pSt T e (prI T e p k) k := rfl
theorem prI_1 (T : sT) (e : sE) (p : pT) : ∀ k, (prI T e p k).1 = (rR T p.1 e k).1 := by
  intro k
  induction k with
  | zero => rfl
  | succ k ih =>
    rw [prI_s, rR_s]
    show (if e.2.1 k = 0 then sHour T (prI T e p k).1 else sDo (prI T e p k).1 e k) = _
    rw [ih]; split <;> rfl
theorem w_perform (hw : WR La g B) (hB : B < 500000) (x : Int32) : CallOk La (fX11_perform La x) (fX12_perform La x) g (B + 600) := by
  obtain ⟨l, Ls, Es, cur, lv, V, V0, a, K, Lg, him, IV, ILg, s, hC, hR, hI⟩ := hw
  have hI' := hI.mo (show B ≤ B + 600 by omega)
  obtain ⟨t1, ⟨t2a, t2b, t2c, t2d⟩, t3, t4, t5, t6, t7, t8, t9, t10, t11⟩ := hC.1
  have ce := c_eveningOf (x := x) t4 t2b t2d
  have k2 : ∀ z, ReW z l Ls Es cur lv V V0 a K Lg him IV ILg s → fX12_perform La x z = (if pI (0 ≤ x.toInt ∧ x.toInt < (Es.length : Int)) = 0 then some ((-1), gz_wi z 39 0 0) else if nI (V 60) = 0 then some ((-1), gz_wi z 39 0 0) else fX12_perform_24 La gz_FU x 0 (gz_wi z 39 0 0)) := by
    intro z hz
    obtain ⟨hR0, F0⟩ := hz.f0
    obtain ⟨p1, p2, p3⟩ := hR0.1.2.2.1
    unfold fX12_perform
    rw [gz_let_eq, r_isPlan p1 p2, Option.bind_some]
    show (if _ then _ else if (gz_wi z 39 0 0).1 39 27 = 0 then _ else _) = _
    rw [hR0.n27 hI]
  by_cases y1 : 0 ≤ x.toInt ∧ x.toInt < (Es.length : Int)
  · obtain ⟨E, i1, rfl, i3⟩ := x_of (x := x) y1.1
    have hE : E < Es.length := by omega
    have hge : gz_ev La (110 + 2 * E) := ⟨by omega, by omega, by omega, by omega⟩
    have k1 : fX11_perform La (nI E) g = (if pI (0 < V 60) = 0 then some ((-1), g) else fX11_perform_24 La (110 + 2 * E) gz_FU 0 g) := by
      unfold fX11_perform
      rw [ce, if_pos y1, Option.bind_some]
      show (if gz_ev La (110 + 2 * (nI E).toInt.toNat) then _ else none) = _
      rw [show (nI E).toInt.toNat = E by omega, if_pos hge, c_hasShore (w := 6) hC.2.1 hI.b, Option.bind_some]
    have k2 := fun z hz => (k2 z hz).trans (if_neg (pI1 y1))
    by_cases h0 : V 60 = 0
    · exact CallOk.no (v := -1) (k1.trans (if_pos (pI0 (by omega)))) ((k2 g hR).trans (if_pos (by rw [h0]; rfl))) hC hR hI'
    · have k1 := k1.trans (if_neg (pI1 (by omega)))
      have k2 := fun z hz => (k2 z hz).trans (if_neg (show ¬ nI (V 60) = 0 by have := hI.g4; show ¬ _ = nI 0; rw [n_eq (by omega) (by omega)]; exact h0))
      have hev : ∀ z, ClT La z l Ls Es cur lv → EvR La z (110 + 2 * E) (eOf (Es.getD E [])) := fun z hz => hz.2.2.2.2.2.2.2.2.2.2 E hE
      have hev0 := hev g hC.1
      have hwl : ∀ i, i < (eOf (Es.getD E [])).1 → sWell ((eOf (Es.getD E [])).2.1 i) ((eOf (Es.getD E [])).2.2.1 i) ((eOf (Es.getD E [])).2.2.2 i) := fun i hi => (hev0.2.2.2 i hi).2.2.2
      have hpl : ∀ (z : gz_S) (p : pT), ReW z l Ls Es cur lv p.1 V0 p.2.1 p.2.2.1 p.2.2.2 him IV ILg s → PlR z E (eOf (Es.getD E [])) := by
        intro z p hz
        obtain ⟨p1, p2, p3⟩ := hz.1.2.2.1
        obtain ⟨q1, q2, q3⟩ := p3 E hE
        refine ⟨by omega, q3, q2, fun i hi => ?_⟩
        have hi' : i < (Es.getD E []).length := hi
        obtain ⟨f1, f2, f3⟩ := q1 i _ (ev_at hi')
        exact ⟨⟨by omega, (hev0.2.2.2 i hi).2.2.2⟩, f1, f2, f3⟩
      obtain ⟨k, s1, s2, s3⟩ := stp_ex (sTof Ls cur) V (eOf (Es.getD E []))
      have h16 : (eOf (Es.getD E [])).1 ≤ 16 := hev0.2.1
      generalize eOf (Es.getD E []) = e at *
      have P1 : ∀ i, (prI (sTof Ls cur) e (V, a, K, Lg) i).1 = (rR (sTof Ls cur) V e i).1 := prI_1 _ e (V, a, K, Lg)
      have PI : ∀ i, i ≤ k → Inv (prI (sTof Ls cur) e (V, a, K, Lg) i).1 V0 (prI (sTof Ls cur) e (V, a, K, Lg) i).2.1 (prI (sTof Ls cur) e (V, a, K, Lg) i).2.2.1 (prI (sTof Ls cur) e (V, a, K, Lg) i).2.2.2 him IV ILg s (B + 20 * i) ∧ ¬ (prI (sTof Ls cur) e (V, a, K, Lg) i).1 60 = 0 := by
        intro i
        induction i with
        | zero => intro _; exact ⟨hI, h0⟩
        | succ i ih =>
          intro hi
          obtain ⟨j1, j2⟩ := ih (by omega)
          rw [prI_s]
          exact pSt_inv (B := B + 20 * i) j1 j2 sTof_lt (by omega) (hwl i (by omega)) (by have := s2 i (by omega); rw [← P1] at this; exact this)
      -- the class
      have cls : ∃ g1, fX11_perform_24 La (110 + 2 * E) gz_FU 0 g = some (nI k, g1) ∧ FC g g1 ∧ ClW La g1 l Ls Es cur lv (prI (sTof Ls cur) e (V, a, K, Lg) k).1 V0 (prI (sTof Ls cur) e (V, a, K, Lg) k).2.1 (prI (sTof Ls cur) e (V, a, K, Lg) k).2.2.1 (prI (sTof Ls cur) e (V, a, K, Lg) k).2.2.2 him IV ILg s ∧ ∀ i, i < k → ∀ j, j < min 40 ((prI (sTof Ls cur) e (V, a, K, Lg) i).2.1 + 1) → kPush (prI (sTof Ls cur) e (V, a, K, Lg) i).1 (prI (sTof Ls cur) e (V, a, K, Lg) i).2.2.1 j 49 ≤ (prI (sTof Ls cur) e (V, a, K, Lg) i).1 49 := by
        refine lp (fun f i z => fX11_perform_24 La (110 + 2 * E) f (nI i) z) (fun i z => FC g z ∧ ClW La z l Ls Es cur lv (prI (sTof Ls cur) e (V, a, K, Lg) i).1 V0 (prI (sTof Ls cur) e (V, a, K, Lg) i).2.1 (prI (sTof Ls cur) e (V, a, K, Lg) i).2.2.1 (prI (sTof Ls cur) e (V, a, K, Lg) i).2.2.2 him IV ILg s ∧ ∀ i', i' < i → ∀ j, j < min 40 ((prI (sTof Ls cur) e (V, a, K, Lg) i').2.1 + 1) → kPush (prI (sTof Ls cur) e (V, a, K, Lg) i').1 (prI (sTof Ls cur) e (V, a, K, Lg) i').2.2.1 j 49 ≤ (prI (sTof Ls cur) e (V, a, K, Lg) i').1 49) k (fun q => ∃ g1, q = some (nI k, g1) ∧ FC g g1 ∧ ClW La g1 l Ls Es cur lv (prI (sTof Ls cur) e (V, a, K, Lg) k).1 V0 (prI (sTof Ls cur) e (V, a, K, Lg) k).2.1 (prI (sTof Ls cur) e (V, a, K, Lg) k).2.2.1 (prI (sTof Ls cur) e (V, a, K, Lg) k).2.2.2 him IV ILg s ∧ ∀ i, i < k → ∀ j, j < min 40 ((prI (sTof Ls cur) e (V, a, K, Lg) i).2.1 + 1) → kPush (prI (sTof Ls cur) e (V, a, K, Lg) i).1 (prI (sTof Ls cur) e (V, a, K, Lg) i).2.2.1 j 49 ≤ (prI (sTof Ls cur) e (V, a, K, Lg) i).1 49) ?_ ?_ gz_FU 0 g (by omega) (by unfold gz_FU; omega) ⟨FC.z0, hC, fun i' hi' => absurd hi' (Nat.not_lt_zero _)⟩
        · intro f i z hi ⟨q1, q2, q3⟩
          obtain ⟨j1, j2⟩ := PI i (by omega)
          have hWi := (j1.2.2.1 j2).1
          have hez := hev z q2.1
          have hm : sMay (prI (sTof Ls cur) e (V, a, K, Lg) i).1 e i := by rw [P1]; exact s2 i hi
          obtain ⟨g', u1, u2, u3⟩ := c_pstep (La := La) (e := e) (E := 110 + 2 * E) q2 j1 j2 (by omega) (fun g' _ hg' => hev g' hg') (i := i) (by omega) hm (k24 := fX11_perform_24 La (110 + 2 * E) f)
          refine Or.inr ⟨g', ?_, q1.tr u2, by rw [prI_s]; exact u3, fun i' hi' => ?_⟩
          · rw [fX11_perform_24, hez.2.2.1, if_neg (show ¬ nI e.1 ≤ nI i by rw [n_le (by omega) (by omega)]; omega), show fX0_mayBe La (110 + 2 * E) (nI i) 6 z = some (pI (sMay (prI (sTof Ls cur) e (V, a, K, Lg) i).1 e i), z) from c_mayBe (w2 := 6) hez (by omega) q2.2.1 hWi, Option.bind_some]
            exact (if_neg (pI1 hm)).trans u1
          · by_cases ci : i' = i
            · subst ci; exact q2.kh
            · exact q3 i' (by omega)
        · intro f z ⟨q1, q2, q3⟩
          obtain ⟨j1, j2⟩ := PI k (Nat.le_refl _)
          have hWi := (j1.2.2.1 j2).1
          have hez := hev z q2.1
          refine ⟨z, ?_, q1, q2, q3⟩
          rw [fX11_perform_24, hez.2.2.1]
          by_cases c : k = e.1
          · exact (if_pos (show nI e.1 ≤ nI k by rw [n_le (by omega) (by omega)]; omega)).trans (by rw [c])
          · rw [if_neg (show ¬ nI e.1 ≤ nI k by rw [n_le (by omega) (by omega)]; omega), show fX0_mayBe La (110 + 2 * E) (nI k) 6 z = some (pI (sMay (prI (sTof Ls cur) e (V, a, K, Lg) k).1 e k), z) from c_mayBe (w2 := 6) hez (by omega) q2.2.1 hWi, Option.bind_some]
            exact if_pos (pI0 (by rw [P1]; exact s3 (by omega)))
      obtain ⟨g1, u1, u2, u3, u4⟩ := cls
      have hR1 := (hR.fr u2).f0
      have ix : ∀ i, (3 : Int32) * (((16 : Int32) * nI E) + nI i) = nI (48 * E + 3 * i) := fun i => by
        rw [show (16 : Int32) * nI E = nI (16 * E) from n_mul 16 E, n_add, show (3 : Int32) * nI (16 * E + i) = nI (3 * (16 * E + i)) from n_mul 3 _, show 3 * (16 * E + i) = 48 * E + 3 * i by omega]
      have ref : ∃ g2, fX12_perform_24 La gz_FU (nI E) 0 (gz_wi g1 39 0 0) = some (nI k, g2) ∧ FR (gz_wi g1 39 0 0) g2 ∧ ReW g2 l Ls Es cur lv (prI (sTof Ls cur) e (V, a, K, Lg) k).1 V0 (prI (sTof Ls cur) e (V, a, K, Lg) k).2.1 (prI (sTof Ls cur) e (V, a, K, Lg) k).2.2.1 (prI (sTof Ls cur) e (V, a, K, Lg) k).2.2.2 him IV ILg s := by
        refine lp (fun f i z => fX12_perform_24 La f (nI E) (nI i) z) (fun i z => FR (gz_wi g1 39 0 0) z ∧ ReW z l Ls Es cur lv (prI (sTof Ls cur) e (V, a, K, Lg) i).1 V0 (prI (sTof Ls cur) e (V, a, K, Lg) i).2.1 (prI (sTof Ls cur) e (V, a, K, Lg) i).2.2.1 (prI (sTof Ls cur) e (V, a, K, Lg) i).2.2.2 him IV ILg s) k (fun q => ∃ g2, q = some (nI k, g2) ∧ FR (gz_wi g1 39 0 0) g2 ∧ ReW g2 l Ls Es cur lv (prI (sTof Ls cur) e (V, a, K, Lg) k).1 V0 (prI (sTof Ls cur) e (V, a, K, Lg) k).2.1 (prI (sTof Ls cur) e (V, a, K, Lg) k).2.2.1 (prI (sTof Ls cur) e (V, a, K, Lg) k).2.2.2 him IV ILg s) ?_ ?_ gz_FU 0 _ (by omega) (by unfold gz_FU; omega) ⟨FR.z0, hR1.1⟩
        · intro f i z hi ⟨q1, q2⟩
          obtain ⟨j1, j2⟩ := PI i (by omega)
          have hWi := (j1.2.2.1 j2).1
          have hz := hpl z _ q2
          have hple := hz.2.2.2 i (by omega)
          have hm : sMay (prI (sTof Ls cur) e (V, a, K, Lg) i).1 e i := by rw [P1]; exact s2 i hi
          obtain ⟨g0, v, g', w1, w2, w3, w4⟩ := r_pstep (La := La) (e := e) (B := B + 20 * i) q2 j1 j2 (by omega) (u4 i hi) hple hm
          refine Or.inr ⟨g', ?_, q1.tr w3, by rw [prI_s]; exact w4⟩
          have hE4 := hz.1
          rw [fX12_perform_24, if_pos (n_okP (by omega) (by omega)), n_cl (by omega), hz.2.2.1, if_neg (show ¬ nI e.1 ≤ nI i by rw [n_le (by omega) (by omega)]; omega), ix, r_canStep (q2.cx j1 j2).1 hWi (by omega) hple, Option.bind_some]
          refine (if_neg (pI1 hm)).trans ?_
          rw [w1, Option.bind_some, w2, Option.bind_some, gz_let_eq, show nI i + (1 : Int32) = nI (i + 1) from n_add _ _]
        · intro f z ⟨q1, q2⟩
          obtain ⟨j1, j2⟩ := PI k (Nat.le_refl _)
          have hWi := (j1.2.2.1 j2).1
          have hz := hpl z _ q2
          have hE4 := hz.1
          refine ⟨z, ?_, q1, q2⟩
          rw [fX12_perform_24, if_pos (n_okP (by omega) (by omega)), n_cl (by omega), hz.2.2.1]
          by_cases c : k = e.1
          · exact if_pos (show nI e.1 ≤ nI k by rw [n_le (by omega) (by omega)]; omega)
          · rw [if_neg (show ¬ nI e.1 ≤ nI k by rw [n_le (by omega) (by omega)]; omega), ix, r_canStep (q2.cx j1 j2).1 hWi (by omega) (hz.2.2.2 k (by omega)), Option.bind_some]
            exact if_pos (pI0 (by have := s3 (by omega); rw [← P1] at this; exact this))
      obtain ⟨g2, v1, v2, v3⟩ := ref
      exact CallOk.of (k1.trans u1) ((k2 g1 (hR.fr u2)).trans v1) u3 (hR1.2.tr v2) v3 ((PI k (Nat.le_refl _)).1.mo (by omega))
  · refine CallOk.no (v := -1) ?_ ((k2 g hR).trans (if_pos (pI0 y1))) hC hR hI'
    unfold fX11_perform
    rw [ce, if_neg y1, Option.bind_some]; rfl
end ST
