/-! the reference reads clauses of shores -/
abbrev KS : Nat → Prop := fun k => k = 10 ∨ k = 11 ∨ k = 28 ∨ k = 29 ∨ k = 31
abbrev SS : Nat → Prop := fun j => j = 45 ∨ j = 47 ∨ j = 49 ∨ j = 50
def CSR (g : gz_S) (s : SH) : Prop := g.1 39 31 = nI (if s.hr then 1 else 0) ∧ (g.1 39 29 = nI s.rn ∧ s.rn ≤ 5) ∧ (g.1 39 28 = nI s.gn ∧ s.gn ≤ 4) ∧ (∀ i, i < 4 → g.1 45 i = nI (s.ru i) ∧ s.ru i ≤ 99) ∧
  (∀ i, i < s.rn → g.1 50 i = nI (s.rl i) ∧ s.rl i ≤ 6) ∧ (∀ j, j < 30 → g.1 49 j = nI (s.rk j) ∧ s.rk j ≤ 3) ∧ ∀ j, j < 4 * s.gn → g.1 47 j = nI (s.go j) ∧ s.go j ≤ 99
theorem Fz.mo {K K' S S' : Nat → Prop} {g g' : gz_S} (h : Fz K S g g') (hk : ∀ k, K k → K' k) (hs : ∀ j, S j → S' j) : Fz K' S' g g' :=
  ⟨fun j hj hn => h.1 j hj (fun hh => hn (hs j hh)), fun k hn => h.2.1 k (fun hh => hn (hk k hh)), h.2.2⟩
theorem CSR.fr {K S : Nat → Prop} {g g' : gz_S} {s : SH} (h : CSR g s) (hF : Fz K S g g') (k1 : ¬ K 28) (k2 : ¬ K 29) (k3 : ¬ K 31) (s1 : ¬ S 45) (s2 : ¬ S 47) (s3 : ¬ S 49) (s4 : ¬ S 50) : CSR g' s := by
  unfold CSR; rw [hF.2.1 28 k1, hF.2.1 29 k2, hF.2.1 31 k3, hF.1 45 (by omega) s1, hF.1 47 (by omega) s2, hF.1 49 (by omega) s3, hF.1 50 (by omega) s4]; exact h
section RP
variable {g : gz_S} {e o : Nat} {b : Nat → Nat} {len a : Nat} {La : gz_L}
theorem RdO.mo {X Y : Type} {G : gz_S → X → Prop} {G' : gz_S → Y → Prop} {g' : gz_S} {s : Nat × Option X} {f : X → Y} (h : RdO G g' e o b len s) (hG : ∀ x, s.2 = some x → G g' x → G' g' (f x)) : RdO G' g' e o b len (s.1, s.2.map f) := by
  rcases h with ⟨p, h1, h2, h3⟩ | ⟨a', h1, h2⟩
  · refine Or.inl ⟨p, h1, h2, ?_⟩
    rcases h3 with ⟨h4, h5⟩ | ⟨h4, h5⟩
    · exact Or.inl ⟨by show Option.map f s.2 = none; rw [h4]; rfl, h5⟩
    · refine Or.inr ⟨?_, h5⟩
      show Option.map f s.2 ≠ none
      cases hs : s.2 with
      | none => exact absurd hs h4
      | some x => exact fun hh => by cases hh
  · refine Or.inr ⟨a', h1, ?_⟩
    rcases h2 with ⟨x, h3, h4, h5⟩ | ⟨h3, h4⟩
    · exact Or.inl ⟨f x, by show Option.map f s.2 = _; rw [h3]; rfl, hG x h3 h4, h5⟩
    · exact Or.inr ⟨by show Option.map f s.2 = none; rw [h3]; rfl, h4⟩
theorem r_readItems {kd w4 w2 off p0 : Nat} {t : Nat → Nat} (hk : kdT kd w4 t) (hw : w2 = 45 ∨ w2 = 47) (ho : off + 4 ≤ gz_ln w2) (hl : gz_ln w2 ≤ 16) (h : RP g e o b len p0) :
    ∃ g', fX12_readItems La (nI kd) w2 (nI off) w4 g = some g' ∧ Fz KE (fun j => j = w2) g g' ∧ (∀ j, ¬ (off ≤ j ∧ j < off + 4) → g'.1 w2 j = g.1 w2 j) ∧ RdO (GI w2 off) g' e o b len (pIt b len t 4 0 p0 (fun i => t (i * 4 + 3))) := by
  have hw4 : 210 ≤ w4 ∧ w4 < 215 := by rcases hk with ⟨_, rfl, _⟩ | ⟨_, rfl, _⟩ <;> omega
  have hln : (tx w4).length = 4 := by rcases hk with ⟨_, rfl, _⟩ | ⟨_, rfl, _⟩ <;> rfl
  unfold fX12_readItems
  refine lp (fun f i g1 => fX12_readItems_3 La w2 w4 (fun (x1 : Int32) (x3 : Int32) g => (fX12_look La g).bind (fun q37 => (fX12_spotOf La w4 q37.1 q37.2).bind (fun q40 => fX12_readItems_45 La w2 w4 (rk69 La) gz_FU x1 x3 0 q40.1 q40.2))) f (nI kd) (nI off) (nI i) g1)
    (fun i g1 => RP g1 e o b len p0 ∧ Fz KE (fun j => j = w2) g g1 ∧ (∀ j, ¬ (off ≤ j ∧ j < off + 4) → g1.1 w2 j = g.1 w2 j) ∧ ∀ i', i' < i → g1.1 w2 (off + i') = nI (t (i' * 4 + 3))) 4
    (fun q => ∃ g', q = some g' ∧ Fz KE (fun j => j = w2) g g' ∧ (∀ j, ¬ (off ≤ j ∧ j < off + 4) → g'.1 w2 j = g.1 w2 j) ∧ RdO (GI w2 off) g' e o b len (pIt b len t 4 0 p0 (fun i => t (i * 4 + 3)))) ?_ ?_ gz_FU 0 g (by omega) (by unfold gz_FU; omega) ⟨h, Fz.z0, fun _ _ => rfl, fun i' hi' => absurd hi' (Nat.not_lt_zero _)⟩
  · intro f i g1 hi ⟨k1, k2, k3, k4⟩
    obtain ⟨l1, l2, l3, l4, l5, l6⟩ := kd_least (La := La) (g := g1) hk i hi
    refine Or.inr ⟨gz_wi g1 w2 (off + i) (nI (t (i * 4 + 3))), ?_, k1.ws (by omega), k2.s (by omega) rfl, fun j hj => ?_, fun i' hi' => ?_⟩
    · show fX12_readItems_3 La w2 w4 _ (f + 1) (nI kd) (nI off) (nI i) g1 = _
      rw [fX12_readItems_3, r_len hw4, Option.bind_some, hln]
      refine (if_neg (show ¬ nI 4 ≤ nI i by rw [n_le (by omega) (by omega)]; omega)).trans ?_
      rw [l3, Option.bind_some]
      show (if gz_ok (nI off + nI i) (gz_ln w2) then gz_let (gz_wi g1 w2 (Int32.toNatClampNeg (nI off + nI i)) (nI (t (i * 4 + 3)))) (fun g24 => gz_let (nI i + 1) (fun y25 => fX12_readItems_3 La w2 w4 _ f (nI kd) (nI off) y25 g24)) else none) = _
      rw [n_add, if_pos (n_okP (by omega) (by omega)), n_cl (by omega), gz_let_eq, gz_let_eq, show nI i + (1 : Int32) = nI (i + 1) from n_add _ _]
    · rw [wi_sn (by omega)]; exact k3 j hj
    · by_cases c : i' = i
      · rw [c, wi_ss]
      · rw [wi_sn (by omega)]; exact k4 i' (by omega)
  · intro f g1 ⟨k1, k2, k3, k4⟩
    have hx := nx_le (b := b) k1.le.1
    have hS := k1.st hx.2
    have hv : GI w2 off (rs g1 (nx b len p0)) (fun i => t (i * 4 + 3)) := fun i hi => by
      rw [rs_n (by omega)]
      exact ⟨k4 i hi, (kd_least (La := La) (g := g1) hk i hi).2.2.2.2.2⟩
    obtain ⟨g2, z1, z2, z3, z4⟩ := r_items (La := La) hk hw ho hl 4 gz_FU 0 p0 (fun i => t (i * 4 + 3)) (rs g1 (nx b len p0)) rfl (by omega) (by unfold gz_FU; omega) hS hv
    refine ⟨g2, ?_, Fz.tr (k2.r (Or.inl rfl)) z2, fun j hj => by rw [z3 j hj, rs_n (by omega)]; exact k3 j hj, z4⟩
    show fX12_readItems_3 La w2 w4 _ (f + 1) (nI kd) (nI off) (nI 4) g1 = _
    rw [fX12_readItems_3, r_len hw4, Option.bind_some, hln]
    refine (if_pos (show nI 4 ≤ nI 4 by decide)).trans ?_
    show (fX12_look La g1).bind _ = _
    rw [r_lookR k1, Option.bind_some]
    show (fX12_spotOf La w4 (oI (sg b len (nx b len p0))) (rs g1 (nx b len p0))).bind _ = _
    rw [r_spotOf hw4 (fun c hc => k1.sgc hc), Option.bind_some]
    have esp : (sg b len (nx b len p0)).bind (fun c => sp (tx w4) c 0) = (sg b len (nx b len p0)).bind (itm t) := by
      cases sg b len (nx b len p0) with
      | none => rfl
      | some c => exact itm_sp hk c
    rw [esp]
    exact z1
/-! rows -/
def rk76 : Int32 → gz_S → Option gz_S := fun (x1 : Int32) g => if gz_ok (g.1 39 29) 5 then gz_let (gz_wi g 50 (Int32.toNatClampNeg (g.1 39 29)) x1) (fun g85 => gz_let (gz_wi g85 39 29 ((g85.1 39 29) + 1)) (fun g93 => some g93)) else none
abbrev KR : Nat → Prop := fun k => k = 10 ∨ k = 11 ∨ k = 29
abbrev SR : Nat → Prop := fun j => j = 49 ∨ j = 50
def GR (r : Nat) (g' : gz_S) (x : Nat × (Nat → Nat)) : Prop := x.1 ≤ 6 ∧ g'.1 39 29 = nI (r + 1) ∧ g'.1 50 r = nI x.1 ∧ ∀ c, c < 30 → g'.1 49 c = nI (x.2 c) ∧ x.2 c ≤ 3
theorem r_row {r : Nat} (hr : r < 5) : ∀ n f j p0 K g, n + j = 6 → n + 1 < f → RP g e o b len (nx b len p0) → g.1 39 29 = nI r → (∀ c, c < 30 → g.1 49 c = nI (K c) ∧ K c ≤ 3) →
    ∃ g', fX12_readRow_7 La rk76 (fX12_readRow_31 La) f (nI j) g = some g' ∧ Fz KR SR g g' ∧ (∀ i, i ≠ r → g'.1 50 i = g.1 50 i) ∧ RdO (GR r) g' e o b len (pRow b len (r * 6) n j p0 K) := by
  intro n
  induction n with
  | zero =>
    intro f j p0 K g hn hf h h29 hK
    obtain ⟨f, rfl⟩ : ∃ f', f = f' + 1 := ⟨f - 1, by omega⟩
    have h240 := h.le
    have hnx : nx b len (nx b len p0) = nx b len p0 := nx_nx
    rw [fX12_readRow_7, r_isDigitR h, Option.bind_some]
    show ∃ g', _ ∧ _ ∧ _ ∧ RdO (GR r) g' e o b len (p0, some (j, K))
    by_cases hd : dg b len (nx b len p0)
    · have hsd := sg_dg hd
      refine ⟨rf g (nx b len p0), ?_, Fz.z0.f (by omega), fun i _ => ?_, Or.inl ⟨nx b len p0, rf_11 _ _, by omega, Or.inr ⟨(fun hh => by cases hh), rfl, (by rw [hsd]; exact fun hh => by cases hh), (by rw [hsd]; intro hh; have := Option.some.inj hh; omega)⟩⟩⟩
      · refine (if_neg (pI1 hd)).trans ?_
        show (fX12_here La g).bind _ = _
        rw [r_here h.1, Option.bind_some]
        refine (if_pos (show nI j = (6 : Int32) by rw [show j = 6 by omega]; rfl)).trans ?_
        unfold fX12_readRow_31
        rw [r_failsR h, Option.bind_some]
      · rw [show (rf g (nx b len p0)).1 50 = g.1 50 from wa_ne (by omega)]
    · have hS := (h.ws (j := 50) (k := r) (x := nI j) (by omega)).wf (k := 29) (x := nI (r + 1)) (by omega)
      refine ⟨gz_wi (gz_wi g 50 r (nI j)) 39 29 (nI (r + 1)), ?_, (Fz.z0.s (by omega) (by omega)).w (by omega), fun i hi => ?_, Or.inr ⟨nx b len p0, hS, Or.inl ⟨(j, K), rfl, ⟨by show j ≤ 6; omega, wi_ss, ?_, fun c hc => ?_⟩, hnx⟩⟩⟩
      · refine (if_pos (pI0 hd)).trans ?_
        show (if gz_ok (g.1 39 29) 5 then gz_let (gz_wi g 50 (Int32.toNatClampNeg (g.1 39 29)) (nI j)) (fun g85 => gz_let (gz_wi g85 39 29 ((g85.1 39 29) + 1)) (fun g93 => some g93)) else none) = _
        rw [h29, if_pos (n_okP (by omega) (by omega)), n_cl (by omega), gz_let_eq, wi_39 (by omega), h29, gz_let_eq, show nI r + (1 : Int32) = nI (r + 1) from n_add _ _]
      · rw [wi_no (by omega), wi_sn hi]
      · rw [wi_no (by omega), wi_ss]
      · rw [wi_no (by omega), wi_no (by omega)]; exact hK c hc
  | succ n ih =>
    intro f j p0 K g hn hf h h29 hK
    obtain ⟨f, rfl⟩ : ∃ f', f = f' + 1 := ⟨f - 1, by omega⟩
    have h240 := h.le
    have hnx : nx b len (nx b len p0) = nx b len p0 := nx_nx
    rw [fX12_readRow_7, r_isDigitR h, Option.bind_some]
    unfold pRow
    generalize nx b len p0 = p at *
    by_cases hd : dg b len p
    · have hsd := sg_dg hd
      have hp1 := hd.1
      rw [if_pos hd]
      have hb : ∀ Q : Option gz_S, (if nI (b p) ≤ 51 then if gz_ok (((6 : Int32) * (g.1 39 29)) + nI j) 30 then gz_let (gz_wi g 49 (Int32.toNatClampNeg (((6 : Int32) * (g.1 39 29)) + nI j)) (nI (b p) - 48)) (fun g54 => gz_let (nI j + 1) (fun y55 => gz_let (gz_wi g54 39 10 ((g54.1 39 10) + 1)) (fun g65 => (fX12_look La g65).bind (fun q69 => fX12_readRow_7 La rk76 (fX12_readRow_31 La) f y55 q69.2)))) else none else fX12_readRow_31 La g) = Q →
          (if (pI (dg b len p), g).1 = 0 then rk76 (nI j) (pI (dg b len p), g).2 else (fX12_here La (pI (dg b len p), g).2).bind (fun q15 => if nI j = 6 then fX12_readRow_31 La q15.2 else if q15.1 ≤ 51 then if gz_ok (((6 : Int32) * (q15.2.1 39 29)) + nI j) 30 then gz_let (gz_wi q15.2 49 (Int32.toNatClampNeg (((6 : Int32) * (q15.2.1 39 29)) + nI j)) (q15.1 - 48)) (fun g54 => gz_let (nI j + 1) (fun y55 => gz_let (gz_wi g54 39 10 ((g54.1 39 10) + 1)) (fun g65 => (fX12_look La g65).bind (fun q69 => fX12_readRow_7 La rk76 (fX12_readRow_31 La) f y55 q69.2)))) else none else fX12_readRow_31 La q15.2)) = Q := by
        intro Q hQ
        refine (if_neg (pI1 hd)).trans ?_
        show (fX12_here La g).bind _ = _
        rw [r_here h.1, Option.bind_some, hsd]
        refine (if_neg (show ¬ nI j = (6 : Int32) by show ¬ nI j = nI 6; rw [n_eq (by omega) (by omega)]; omega)).trans ?_
        exact hQ
      by_cases c3 : b p - 48 ≤ 3
      · rw [if_pos c3]
        have hS := (h.ws (j := 49) (k := r * 6 + j) (x := nI (b p - 48)) (by omega)).st (p := p + 1) (by omega)
        have hy := nx_le (b := b) hS.le.1
        have hS2 := hS.st hy.2
        have hK2 : ∀ c, c < 30 → (rs (rs (gz_wi g 49 (r * 6 + j) (nI (b p - 48))) (p + 1)) (nx b len (p + 1))).1 49 c = nI (uN K (r * 6 + j) (b p - 48) c) ∧ uN K (r * 6 + j) (b p - 48) c ≤ 3 := by
          intro c hc
          rw [rs_n (by omega), rs_n (by omega)]
          by_cases cc : c = r * 6 + j
          · rw [cc, wi_ss, uN_s]; exact ⟨rfl, c3⟩
          · rw [wi_sn cc, uN_n cc]; exact hK c hc
        obtain ⟨g2, z1, z2, z3, z4⟩ := ih f (j + 1) (p + 1) (uN K (r * 6 + j) (b p - 48)) _ (by omega) (by omega) hS2 (by rw [rs_f (by omega), rs_f (by omega), wi_39 (by omega)]; exact h29) hK2
        refine ⟨g2, hb _ ?_, Fz.tr (((Fz.z0.s (by omega) (by omega)).r (by omega)).r (by omega)) z2, fun i hi => ?_, z4⟩
        · have e6 : ((6 : Int32) * (g.1 39 29)) + nI j = nI (r * 6 + j) := by
            rw [h29, show (6 : Int32) = nI 6 from rfl, n_mul, n_add]; congr 1; omega
          rw [if_pos (show nI (b p) ≤ (51 : Int32) by show nI (b p) ≤ nI 51; rw [n_le (by omega) (by omega)]; omega), e6, if_pos (n_okP (by omega) (by omega)), n_cl (by omega), show nI (b p) - (48 : Int32) = nI (b p - 48) from n_sub (a := b p) (b := 48) (by omega), gz_let_eq, gz_let_eq, show nI j + (1 : Int32) = nI (j + 1) from n_add _ _,
            r_step1 (h.ws (j := 49) (k := r * 6 + j) (x := nI (b p - 48)) (by omega)) hp1, gz_let_eq, r_lookR hS, Option.bind_some]
          exact z1
        · rw [z3 i hi, rs_n (by omega), rs_n (by omega), wi_no (by omega)]
      · rw [if_neg c3]
        refine ⟨rf g p, hb _ ?_, Fz.z0.f (by omega), fun i _ => ?_, Or.inl ⟨p, rf_11 _ _, by omega, Or.inl ⟨rfl, rfl⟩⟩⟩
        · rw [if_neg (show ¬ nI (b p) ≤ (51 : Int32) by show ¬ nI (b p) ≤ nI 51; rw [n_le (by omega) (by omega)]; omega)]
          unfold fX12_readRow_31
          rw [r_failsR h, Option.bind_some]
        · rw [show (rf g p).1 50 = g.1 50 from wa_ne (by omega)]
    · rw [if_neg hd]
      have hS := (h.ws (j := 50) (k := r) (x := nI j) (by omega)).wf (k := 29) (x := nI (r + 1)) (by omega)
      refine ⟨gz_wi (gz_wi g 50 r (nI j)) 39 29 (nI (r + 1)), ?_, (Fz.z0.s (by omega) (by omega)).w (by omega), fun i hi => ?_, Or.inr ⟨p, hS, Or.inl ⟨(j, K), rfl, ⟨by show j ≤ 6; omega, wi_ss, ?_, fun c hc => ?_⟩, rfl⟩⟩⟩
      · refine (if_pos (pI0 hd)).trans ?_
        show (if gz_ok (g.1 39 29) 5 then gz_let (gz_wi g 50 (Int32.toNatClampNeg (g.1 39 29)) (nI j)) (fun g85 => gz_let (gz_wi g85 39 29 ((g85.1 39 29) + 1)) (fun g93 => some g93)) else none) = _
        rw [h29, if_pos (n_okP (by omega) (by omega)), n_cl (by omega), gz_let_eq, wi_39 (by omega), h29, gz_let_eq, show nI r + (1 : Int32) = nI (r + 1) from n_add _ _]
      · rw [wi_no (by omega), wi_sn hi]
      · rw [wi_no (by omega), wi_ss]
      · rw [wi_no (by omega), wi_no (by omega)]; exact hK c hc
theorem r_readRow {r : Nat} {K : Nat → Nat} (hr : r < 5) (h : RP g e o b len a) (h29 : g.1 39 29 = nI r) (hK : ∀ c, c < 30 → g.1 49 c = nI (K c) ∧ K c ≤ 3) :
    ∃ g', fX12_readRow La g = some g' ∧ Fz KR SR g g' ∧ (∀ i, i ≠ r → g'.1 50 i = g.1 50 i) ∧ RdO (GR r) g' e o b len (pRow b len (r * 6) 6 0 a K) := by
  have hx := nx_le (b := b) h.le.1
  have hS := h.st hx.2
  obtain ⟨g2, z1, z2, z3, z4⟩ := r_row (La := La) hr 6 gz_FU 0 a K (rs g (nx b len a)) (by omega) (by unfold gz_FU; omega) hS (by rw [rs_f (by omega)]; exact h29) (fun c hc => by rw [rs_n (by omega)]; exact hK c hc)
  refine ⟨g2, ?_, Fz.tr (Fz.z0.r (by omega)) z2, fun i hi => by rw [z3 i hi, rs_n (by omega)], z4⟩
  unfold fX12_readRow
  rw [r_lookR h, Option.bind_some]
  exact z1
end RP
