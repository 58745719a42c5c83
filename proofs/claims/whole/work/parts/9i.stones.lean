/-! call stones -/
section US
variable {V : Nat → Nat} {T : sT} {a b n : Nat}
theorem st_one (h60 : V 60 ≤ 4) (hm : ¬ sMeet T V a b n = none) {c : Nat} (hc : c < 30) : (sTry T V a b n c && decide (sMeet T (sRock V (some c)) a b n = none)) = true ↔ sFree V c ∧ sMeet T (sRock V (some c)) a b n = none := by
  unfold sTry
  rw [Bool.and_eq_true, Bool.and_eq_true, decide_eq_true_eq, decide_eq_true_eq]
  constructor
  · intro h; exact ⟨h.1.2, h.2⟩
  · intro h
    refine ⟨⟨?_, h.1⟩, h.2⟩
    cases hb : (sLooked T V a b n).testBit c with
    | true => rfl
    | false => exact absurd ((u_meet hc h.1.1 h60 hb).1.symm.trans h.2) hm
theorem st_mat (h60 : V 60 ≤ 4) (hm : ¬ sMeet T V a b n = none) {c d : Nat} (hc : c < 30) (hd : d < 30) (hno1 : sFree V c → ¬ sMeet T (sRock V (some c)) a b n = none) (hno2 : sFree V d → ¬ sMeet T (sRock V (some d)) a b n = none) (hcd : c < d)
    (h : sFree V c ∧ sFree V d ∧ sMeet T (sRock (sRock V (some c)) (some d)) a b n = none) : sMat T V a b n c d = true := by
  have hc60 : (uN V c 1) 60 ≤ 4 := by rw [uN_n (by omega)]; exact h60
  have hd60 : (uN V d 1) 60 ≤ 4 := by rw [uN_n (by omega)]; exact h60
  have e1 : sMeet T (uN (uN V c 1) d 1) a b n = none := h.2.2
  have e2 : uN (uN V c 1) d 1 = uN (uN V d 1) c 1 := uN_c (by omega)
  have dc : uN V c 1 d = 0 := by rw [uN_n (by omega)]; exact h.2.1.1
  have cd : uN V d 1 c = 0 := by rw [uN_n (by omega)]; exact h.1.1
  unfold sMat
  rw [Bool.and_eq_true, Bool.and_eq_true]
  refine ⟨⟨?_, ?_⟩, ?_⟩
  · cases hb : (sLooked T V a b n).testBit c with
    | true => rfl
    | false =>
      cases hb2 : (sLooked T V a b n).testBit d with
      | true => rfl
      | false =>
        obtain ⟨f1, f2⟩ := u_meet hc h.1.1 h60 hb
        rw [← f2] at hb2
        exact absurd ((f1.symm.trans (u_meet hd dc hc60 hb2).1.symm).trans e1) hm
  · unfold sLb
    by_cases ht : sTry T V a b n c = true
    · rw [if_pos ht]
      show (sLooked T (uN V c 1) a b n).testBit d = true
      cases hb : (sLooked T (uN V c 1) a b n).testBit d with
      | true => rfl
      | false => exact absurd ((u_meet hd dc hc60 hb).1.symm.trans e1) (hno1 h.1)
    · rw [if_neg ht]; rfl
  · unfold sLb
    by_cases ht : sTry T V a b n d = true
    · rw [if_pos ht]
      show (sLooked T (uN V d 1) a b n).testBit c = true
      cases hb : (sLooked T (uN V d 1) a b n).testBit c with
      | true => rfl
      | false => exact absurd ((u_meet hc cd hd60 hb).1.symm.trans (e2 ▸ e1)) (hno2 h.2.1)
    · rw [if_neg ht]; rfl
end US
section RW
variable {g : gz_S} {V W U : Nat → Nat} {B : Nat} {La : gz_L} {Ls : List (List Nat)} {cur : Option Nat}
theorem r_doesKeep {a b n : Nat} (h : CX g 53 V Ls cur) (hp : RKp g V) (hW : Wf B V) (hB : B < 400000) (ha : a < V 60) (hb : b < V 60) (hab : a ≠ b) (hn : n ≤ 99) {o1 o2 : Option Nat} (h1 : ∀ c, o1 = some c → c < 30) (h2 : ∀ c, o2 = some c → c < 30) :
    ∃ g', fX12_doesKeep La (nI a) (nI b) (nI n) (oI o1) (oI o2) g = some (pI (sMeet (sTof Ls cur) (sRock (sRock V o1) o2) a b n = none), g') ∧ Fy KQ SQ g g' ∧ RLw g' Ls cur := by
  have h60 := hW.2.2.2.1.2
  obtain ⟨g1, u1, u2, u3, u4⟩ := r_copy (La := La) h hp
  have W1 := sRock_wf hW h1
  have W2 := sRock_wf W1 h2
  have k60 : sRock (sRock V o1) o2 60 = V 60 := by rw [sRock_n h2 (by omega), sRock_n h1 (by omega)]
  -- the rest, once the stones lie
  have fin : ∀ g3, TQ g g3 (sRock (sRock V o1) o2) Ls cur → ∃ g', fX12_doesKeep_39 La (nI a) (nI b) (nI n) g3 = some (pI (sMeet (sTof Ls cur) (sRock (sRock V o1) o2) a b n = none), g') ∧ Fy KQ SQ g g' ∧ RLw g' Ls cur := by
    intro g3 ⟨t1, t2, t3⟩
    obtain ⟨g4, v1, v2, v3⟩ := r_meets (La := La) (n := n) ⟨Fy.z0, t2, t3⟩ W2 hB (a := a) (b := b) (by omega) (by omega) hab hn
    refine ⟨g4, ?_, t1.tr v2, v3⟩
    unfold fX12_doesKeep_39
    rw [v1, Option.bind_some]
    cases hm : sMeet (sTof Ls cur) (sRock (sRock V o1) o2) a b n with
    | none => rfl
    | some k =>
      have := (ff_lt hm).1
      show (if nI (k + 1) = -1 then some (1, g4) else some (0, g4)) = _
      rw [if_neg (show ¬ nI (k + 1) = -1 by show ¬ nI (k + 1) = -nI 1; rw [m_eq (by omega)]; exact id)]
      exact p_f (fun hh => by cases hh)
  have mid : ∀ g3, TQ g g3 (sRock V o1) Ls cur → ∃ g', fX12_doesKeep_25 La (nI a) (nI b) (nI n) (oI o2) g3 = some (pI (sMeet (sTof Ls cur) (sRock (sRock V o1) o2) a b n = none), g') ∧ Fy KQ SQ g g' ∧ RLw g' Ls cur := by
    intro g3 ht
    unfold fX12_doesKeep_25
    cases o2 with
    | none => rw [if_pos (show oI none = -1 from rfl)]; exact fin g3 ht
    | some d =>
      have hd := h2 d rfl
      obtain ⟨t1, t2, t3⟩ := ht
      show ∃ g', (if nI d = -1 then _ else if gz_ok (nI d) 231 then gz_let (gz_wi g3 54 (nI d).toNatClampNeg 1) _ else none) = _ ∧ _
      rw [if_neg (show ¬ nI d = -1 by show ¬ nI d = -nI 1; rw [m_eq (by omega)]; exact id), if_pos (n_okP (by omega) (by omega)), gz_let_eq, n_cl (by omega)]
      have G3 : Fy KQ SQ g3 (gz_wi g3 54 d (nI 1)) := (Fy.z0 (K := KQ) (S := SQ)).s (by omega) (by omega)
      exact fin _ ⟨t1.tr G3, t2.up (Or.inr rfl) (k := d) (by omega) (rp_c hd), (t3.fr G3 (by omega)).mo (fun k hk => uN_n (by omega)) (by rw [sRock_n h1 (by omega)]; exact h60)⟩
  unfold fX12_doesKeep
  rw [u1, Option.bind_some]
  cases o1 with
  | none => rw [if_pos (show oI none = -1 from rfl)]; exact mid g1 ⟨u2, u3, u4⟩
  | some d =>
    have hd := h1 d rfl
    show ∃ g', (if nI d = -1 then _ else if gz_ok (nI d) 231 then gz_let (gz_wi g1 54 (nI d).toNatClampNeg 1) _ else none) = _ ∧ _
    rw [if_neg (show ¬ nI d = -1 by show ¬ nI d = -nI 1; rw [m_eq (by omega)]; exact id), if_pos (n_okP (by omega) (by omega)), gz_let_eq, n_cl (by omega)]
    have G3 : Fy KQ SQ g1 (gz_wi g1 54 d (nI 1)) := (Fy.z0 (K := KQ) (S := SQ)).s (by omega) (by omega)
    exact mid _ ⟨u2.tr G3, u3.up (Or.inr rfl) (k := d) (by omega) (rp_c hd), (u4.fr G3 (by omega)).mo (fun k hk => uN_n (by omega)) h60⟩
theorem r_cells (h : CX g 53 V Ls cur) (hW : Wf B V) : fX12_cells La g = some (nI (V 58 * V 59), g) := by
  have h60 := hW.2.2.2.1
  unfold fX12_cells
  rw [h.2.1.2.2.1, if_neg (show ¬ nI (V 60) = 0 by show ¬ _ = nI 0; rw [n_eq (by omega) (by omega)]; omega), h.2.1.1, h.2.1.2.1, n_mul]
theorem r_canLay (h : CX g 53 V Ls cur) (hW : Wf B V) {c : Nat} (hc : c < 30) : fX12_canLay La (nI c) g = some (pI (sFree V c), g) := by
  have hB := hW.1 c
  have h3 : g.1 53 c = nI (V c) := by have := h.1 c (by omega); rw [rp_c hc] at this; exact this
  unfold fX12_canLay
  rw [if_pos (n_okP (by omega) (by omega)), n_cl (by omega), h3]
  by_cases c0 : V c = 0
  · rw [if_pos (by rw [c0]; rfl), r_goingOn h hW (by omega), Option.bind_some]
    have hg := gb_16 (V := V) (c := c) hW.2.2.2.1.2
    by_cases c1 : gb V c (V 60) = 0
    · refine (if_pos (show nI (gb V c (V 60)) = 0 by rw [c1]; rfl)).trans (p_t ⟨c0, ?_⟩)
      rw [gb_0] at c1; exact c1
    · refine (if_neg (show ¬ nI (gb V c (V 60)) = 0 by show ¬ _ = nI 0; rw [n_eq (by omega) (by omega)]; exact c1)).trans (p_f (fun hh => c1 ?_))
      rw [gb_0]; exact hh.2
  · rw [if_neg (show ¬ nI (V c) = 0 by show ¬ _ = nI 0; rw [n_eq (by omega) (by omega)]; exact c0)]
    exact p_f (fun hh => c0 hh.1)
/-- what the reference makes of the stones: count and cells in one number -/
def rSt (T : sT) (V : Nat → Nat) (a b n : Nat) : Int32 :=
  if sMeet T V a b n = none then 0 else match sOne T V a b n with
    | some c => nI (100000 + c)
    | none => match sTwo T V a b n with
      | some x => nI (200000 + x)
      | none => -1
theorem r_stonesOf {a b n : Nat} (h : CX g 53 V Ls cur) (hp : RKp g V) (hW : Wf B V) (hB : B < 400000) (ha : a < V 60) (hb : b < V 60) (hab : a ≠ b) (hn : n ≤ 99) :
    ∃ g', fX12_stonesOf La (nI a) (nI b) (nI n) g = some (rSt (sTof Ls cur) V a b n, g') ∧ Fy KQ SQ g g' ∧ RLw g' Ls cur := by
  have h60 := hW.2.2.2.1.2
  have c30 := hW.cells
  obtain ⟨g1, u1, u2, u3⟩ := r_doesKeep (La := La) h hp hW hB ha hb hab hn (o1 := none) (o2 := none) (fun c e => by cases e) (fun c e => by cases e)
  unfold fX12_stonesOf rSt
  have u1 : fX12_doesKeep La (nI a) (nI b) (nI n) (-1) (-1) g = some (pI (sMeet (sTof Ls cur) V a b n = none), g1) := u1
  rw [u1, Option.bind_some]
  by_cases hm : sMeet (sTof Ls cur) V a b n = none
  · refine ⟨g1, ?_, u2, u3⟩
    rw [if_pos hm]
    exact if_neg (pI1 hm)
  · rw [if_neg hm]
    refine ex_q (if_pos (pI0 hm)) ?_
    generalize hK : (fun (x1 : Int32) (x2 : Int32) (x3 : Int32) g => fX12_stonesOf_64 La (fun (x4 : Int32) (x5 : Int32) g => some (((200000 : Int32) + ((100 : Int32) * x4)) + x5, g)) gz_FU x1 x2 x3 0 g) = K61
    have two : ∀ z, Fy KQ SQ g z → RLw z Ls cur → (∀ c, c < V 58 * V 59 → ¬ (sTry (sTof Ls cur) V a b n c && decide (sMeet (sTof Ls cur) (sRock V (some c)) a b n = none)) = true) →
        ∃ g', K61 (nI a) (nI b) (nI n) z = some ((match sTwo (sTof Ls cur) V a b n with | some x => nI (200000 + x) | none => -1), g') ∧ Fy KQ SQ g g' ∧ RLw g' Ls cur := by
      intro z z1 z2 hno
      have hno2 : ∀ e, e < V 58 * V 59 → sFree V e → ¬ sMeet (sTof Ls cur) (sRock V (some e)) a b n = none := fun e he hf hh => hno e he ((st_one h60 hm (by omega)).mpr ⟨hf, hh⟩)
      rw [← hK]
      show ∃ g', fX12_stonesOf_64 La (fun (x4 : Int32) (x5 : Int32) g => some (((200000 : Int32) + ((100 : Int32) * x4)) + x5, g)) gz_FU (nI a) (nI b) (nI n) 0 z = _ ∧ _
      have s2 : ∀ {c d : Nat}, c < V 58 * V 59 → d < V 58 * V 59 → c < d → (sTwoP (sTof Ls cur) V a b n c d = true ↔ sFree V c ∧ sFree V d ∧ sMeet (sTof Ls cur) (sRock (sRock V (some c)) (some d)) a b n = none) := by
        intro c d hc hd hcd
        -- cells beyond the shore aren't asked for: the two lie on it
        unfold sTwoP
        rw [Bool.and_eq_true, Bool.and_eq_true, Bool.and_eq_true, Bool.and_eq_true, decide_eq_true_eq, decide_eq_true_eq, decide_eq_true_eq, decide_eq_true_eq]
        constructor
        · intro h; exact ⟨h.1.1.2, h.1.2, h.2⟩
        · intro h
          refine ⟨⟨⟨⟨hcd, ?_⟩, h.1⟩, h.2.1⟩, h.2.2⟩
          exact st_mat h60 hm (by omega) (by omega) (hno2 c hc) (hno2 d hd) hcd h
      generalize hT : sTof Ls cur = T at *
      refine lp (fun f c (z : gz_S) => fX12_stonesOf_64 La (fun (x4 : Int32) (x5 : Int32) g => some (((200000 : Int32) + ((100 : Int32) * x4)) + x5, g)) f (nI a) (nI b) (nI n) (nI c) z)
        (fun c z => Fy KQ SQ g z ∧ RLw z Ls cur ∧ ∀ e, e < c → (sTwo1 T V a b n e).isSome = false) (V 58 * V 59)
        (fun q => ∃ g', q = some ((match sTwo T V a b n with | some x => nI (200000 + x) | none => -1), g') ∧ Fy KQ SQ g g' ∧ RLw g' Ls cur) ?_ ?_ gz_FU 0 z (by omega) (by unfold gz_FU; omega) ⟨z1, z2, fun e he => absurd he (Nat.not_lt_zero _)⟩
      · intro f c z hc ⟨q1, q2, q3⟩
        rw [fX12_stonesOf_64, r_cells (h.q q1 q2) hW, Option.bind_some, gz_let_eq, show nI c + (1 : Int32) = nI (c + 1) from n_add _ _]
        generalize hK2 : (fun (x1 : Int32) (x2 : Int32) (x3 : Int32) (x4 : Int32) g => gz_let (x4 + 1) (fun y139 => fX12_stonesOf_64 La (fun (x4 : Int32) (x5 : Int32) g => some (((200000 : Int32) + ((100 : Int32) * x4)) + x5, g)) f x1 x2 x3 y139 g)) = K139
        have hge : ¬ nI (V 58 * V 59) ≤ nI c := by rw [n_le (by omega) (by omega)]; omega
        rw [if_neg hge]
        refine lp (fun f2 d (z : gz_S) => fX12_stonesOf_79 La K139 (fun (x4 : Int32) (x5 : Int32) g => some (((200000 : Int32) + ((100 : Int32) * x4)) + x5, g)) f2 (nI a) (nI b) (nI n) (nI c) (nI d) z)
          (fun d z => Fy KQ SQ g z ∧ RLw z Ls cur ∧ c < d ∧ ∀ e, e < d → sTwoP T V a b n c e = false) (V 58 * V 59)
          (fun q => (∃ g', q = some ((match sTwo T V a b n with | some x => nI (200000 + x) | none => -1), g') ∧ Fy KQ SQ g g' ∧ RLw g' Ls cur) ∨ ∃ g', q = fX12_stonesOf_64 La (fun (x4 : Int32) (x5 : Int32) g => some (((200000 : Int32) + ((100 : Int32) * x4)) + x5, g)) f (nI a) (nI b) (nI n) (nI (c + 1)) g' ∧ Fy KQ SQ g g' ∧ RLw g' Ls cur ∧ ∀ e, e < c + 1 → (sTwo1 T V a b n e).isSome = false) ?_ ?_ gz_FU (c + 1) z (by omega) (by unfold gz_FU; omega) ⟨q1, q2, by omega, fun e he => by
            unfold sTwoP; rw [decide_eq_false (show ¬ c < e by omega)]; rfl⟩
        · intro f2 d z hd ⟨p1, p2, p3, p4⟩
          have X := h.q p1 p2
          have no : ∀ z', Fy KQ SQ g z' → RLw z' Ls cur → ¬ sTwoP T V a b n c d = true → fX12_stonesOf_133 La (fX12_stonesOf_79 La K139 (fun (x4 : Int32) (x5 : Int32) g => some (((200000 : Int32) + ((100 : Int32) * x4)) + x5, g)) f2) (nI a) (nI b) (nI n) (nI c) (nI d) z' = fX12_stonesOf_79 La K139 (fun (x4 : Int32) (x5 : Int32) g => some (((200000 : Int32) + ((100 : Int32) * x4)) + x5, g)) f2 (nI a) (nI b) (nI n) (nI c) (nI (d + 1)) z' ∧ (Fy KQ SQ g z' ∧ RLw z' Ls cur ∧ c < d + 1 ∧ ∀ e, e < d + 1 → sTwoP T V a b n c e = false) := by
            intro z' m1 m2 m3
            refine ⟨?_, m1, m2, by omega, fun e he => ?_⟩
            · unfold fX12_stonesOf_133
              rw [gz_let_eq, show nI d + (1 : Int32) = nI (d + 1) from n_add _ _]
            · by_cases ce : e = d
              · subst ce; exact Bool.eq_false_iff.mpr m3
              · exact p4 e (by omega)
          have hge2 : ¬ nI (V 58 * V 59) ≤ nI d := by rw [n_le (by omega) (by omega)]; omega
          rw [fX12_stonesOf_79, r_cells X hW, Option.bind_some, if_neg hge2, r_canLay X hW (by omega), Option.bind_some]
          by_cases f1 : sFree V c
          · rw [if_neg (pI1 f1), r_canLay X hW (by omega), Option.bind_some]
            by_cases f2' : sFree V d
            · rw [if_neg (pI1 f2')]
              obtain ⟨g3, v1, v2, v3⟩ := r_doesKeep (La := La) X (hp.fr p1 (by omega)) hW hB ha hb hab hn (o1 := some c) (o2 := some d) (fun e he => by injection he; omega) (fun e he => by injection he; omega)
              have v1 : fX12_doesKeep La (nI a) (nI b) (nI n) (nI c) (nI d) z = some (pI (sMeet T (sRock (sRock V (some c)) (some d)) a b n = none), g3) := by rw [← hT]; exact v1
              rw [v1, Option.bind_some]
              by_cases k : sMeet T (sRock (sRock V (some c)) (some d)) a b n = none
              · refine Or.inl (Or.inl ⟨g3, ?_, p1.tr v2, v3⟩)
                rw [if_neg (pI1 k)]
                have hP : sTwoP T V a b n c d = true := (s2 hc hd p3).mpr ⟨f1, f2', k⟩
                have e1 : sTwo1 T V a b n c = some d := ff_some p4 hP hd
                have e2 : ff (fun c => (sTwo1 T V a b n c).isSome) (V 58 * V 59) = some c := ff_some q3 (by show (sTwo1 T V a b n c).isSome = true; rw [e1]; rfl) hc
                unfold sTwo
                rw [e2]
                show some (((200000 : Int32) + ((100 : Int32) * nI c)) + nI d, g3) = some ((match (sTwo1 T V a b n c).map (fun d => c * 100 + d) with | some x => nI (200000 + x) | none => -1), g3)
                rw [e1]
                show some ((nI 200000 + (nI 100 * nI c)) + nI d, g3) = some (nI (200000 + (c * 100 + d)), g3)
                rw [n_mul, n_add, n_add, show 200000 + 100 * c + d = 200000 + (c * 100 + d) by omega]
              · rw [if_pos (pI0 k)]
                obtain ⟨m1, m2⟩ := no g3 (p1.tr v2) v3 (fun hh => k ((s2 hc hd p3).mp hh).2.2)
                exact Or.inr ⟨g3, m1, m2⟩
            · rw [if_pos (pI0 f2')]
              obtain ⟨m1, m2⟩ := no z p1 p2 (fun hh => f2' ((s2 hc hd p3).mp hh).2.1)
              exact Or.inr ⟨z, m1, m2⟩
          · rw [if_pos (pI0 f1)]
            obtain ⟨m1, m2⟩ := no z p1 p2 (fun hh => f1 ((s2 hc hd p3).mp hh).1)
            exact Or.inr ⟨z, m1, m2⟩
        · intro f2 z ⟨p1, p2, p3, p4⟩
          refine Or.inr ⟨z, ?_, p1, p2, fun e he => ?_⟩
          · rw [fX12_stonesOf_79, r_cells (h.q p1 p2) hW, Option.bind_some, if_pos (show nI (V 58 * V 59) ≤ nI (V 58 * V 59) by rw [n_le (by omega) (by omega)]; omega), ← hK2]
            show gz_let (nI c + 1) _ = _
            rw [gz_let_eq, show nI c + (1 : Int32) = nI (c + 1) from n_add _ _]
          · by_cases ce : e = c
            · subst ce
              have : sTwo1 T V a b n e = none := ff_none p4
              rw [this]; rfl
            · exact q3 e (by omega)
      · intro f z ⟨q1, q2, q3⟩
        refine ⟨z, ?_, q1, q2⟩
        rw [fX12_stonesOf_64, r_cells (h.q q1 q2) hW, Option.bind_some, if_pos (show nI (V 58 * V 59) ≤ nI (V 58 * V 59) by rw [n_le (by omega) (by omega)]; omega)]
        have e2 : ff (fun c => (sTwo1 T V a b n c).isSome) (V 58 * V 59) = none := ff_none q3
        unfold sTwo
        rw [e2]
    refine lp (fun f c (z : gz_S) => fX12_stonesOf_17 La K61 (fun (x4 : Int32) g => some ((100000 : Int32) + x4, g)) f (nI a) (nI b) (nI n) (nI c) z)
      (fun c z => Fy KQ SQ g z ∧ RLw z Ls cur ∧ ∀ e, e < c → ¬ (sTry (sTof Ls cur) V a b n e && decide (sMeet (sTof Ls cur) (sRock V (some e)) a b n = none)) = true) (V 58 * V 59)
      (fun q => ∃ g', q = some ((match sOne (sTof Ls cur) V a b n with | some c => nI (100000 + c) | none => match sTwo (sTof Ls cur) V a b n with | some x => nI (200000 + x) | none => -1), g') ∧ Fy KQ SQ g g' ∧ RLw g' Ls cur) ?_ ?_ gz_FU 0 g1 (by omega) (by unfold gz_FU; omega) ⟨u2, u3, fun e he => absurd he (Nat.not_lt_zero _)⟩
    · intro f c z hc ⟨q1, q2, q3⟩
      have X := h.q q1 q2
      have no : ∀ z', Fy KQ SQ g z' → RLw z' Ls cur → ¬ (sFree V c ∧ sMeet (sTof Ls cur) (sRock V (some c)) a b n = none) → fX12_stonesOf_55 La (fX12_stonesOf_17 La K61 (fun (x4 : Int32) g => some ((100000 : Int32) + x4, g)) f) (nI a) (nI b) (nI n) (nI c) z' = fX12_stonesOf_17 La K61 (fun (x4 : Int32) g => some ((100000 : Int32) + x4, g)) f (nI a) (nI b) (nI n) (nI (c + 1)) z' ∧ (Fy KQ SQ g z' ∧ RLw z' Ls cur ∧ ∀ e, e < c + 1 → ¬ (sTry (sTof Ls cur) V a b n e && decide (sMeet (sTof Ls cur) (sRock V (some e)) a b n = none)) = true) := by
        intro z' m1 m2 m3
        refine ⟨?_, m1, m2, fun e he => ?_⟩
        · unfold fX12_stonesOf_55
          rw [gz_let_eq, show nI c + (1 : Int32) = nI (c + 1) from n_add _ _]
        · by_cases ce : e = c
          · subst ce; rw [st_one h60 hm (by omega)]; exact m3
          · exact q3 e (by omega)
      have hge2 : ¬ nI (V 58 * V 59) ≤ nI c := by rw [n_le (by omega) (by omega)]; omega
      rw [fX12_stonesOf_17, r_cells X hW, Option.bind_some, if_neg hge2, r_canLay X hW (by omega), Option.bind_some]
      by_cases f1 : sFree V c
      · rw [if_neg (pI1 f1)]
        obtain ⟨g3, v1, v2, v3⟩ := r_doesKeep (La := La) X (hp.fr q1 (by omega)) hW hB ha hb hab hn (o1 := some c) (o2 := none) (fun e he => by injection he; omega) (fun e he => by cases he)
        have v1 : fX12_doesKeep La (nI a) (nI b) (nI n) (nI c) (-1) z = some (pI (sMeet (sTof Ls cur) (sRock V (some c)) a b n = none), g3) := v1
        rw [v1, Option.bind_some]
        by_cases k : sMeet (sTof Ls cur) (sRock V (some c)) a b n = none
        · refine Or.inl ⟨g3, ?_, q1.tr v2, v3⟩
          rw [if_neg (pI1 k)]
          have e1 : sOne (sTof Ls cur) V a b n = some c := ff_some (fun j hj => Bool.eq_false_iff.mpr (q3 j hj)) ((st_one h60 hm (by omega)).mpr ⟨f1, k⟩) hc
          rw [e1]
          show some (nI 100000 + nI c, g3) = some (nI (100000 + c), g3)
          rw [n_add]
        · rw [if_pos (pI0 k)]
          obtain ⟨m1, m2⟩ := no g3 (q1.tr v2) v3 (fun hh => k hh.2)
          exact Or.inr ⟨g3, m1, m2⟩
      · rw [if_pos (pI0 f1)]
        obtain ⟨m1, m2⟩ := no z q1 q2 (fun hh => f1 hh.1)
        exact Or.inr ⟨z, m1, m2⟩
    · intro f z ⟨q1, q2, q3⟩
      have e1 : sOne (sTof Ls cur) V a b n = none := ff_none (fun j hj => Bool.eq_false_iff.mpr (q3 j hj))
      rw [e1, fX12_stonesOf_17, r_cells (h.q q1 q2) hW, Option.bind_some, if_pos (show nI (V 58 * V 59) ≤ nI (V 58 * V 59) by rw [n_le (by omega) (by omega)]; omega)]
      exact two z q1 q2 q3
end RW
