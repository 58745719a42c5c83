/-! what is read is what is run -/
def LtOk (lt : Nat → Int) : Prop := ∀ k, k < 6 → 0 ≤ lt k ∧ lt k ≤ 1000
def SemV (La : gz_L) (lt : Nat → Int) (cv : pV) : Prop := 1 ≤ cv.1.length ∧ Bd6 (cv.2 lt) ∧ Ex La lt cv.1 (cv.2 lt) ∧ ∀ x, x ∈ cv.1 → x ≠ -nI 22
def SemB (La : gz_L) (lt : Nat → Int) (cv : pV) : Prop := SemV La lt cv ∧ (cv.2 lt = 0 ∨ cv.2 lt = 1)
def pS (P : pV → Prop) (s : pR) : Prop := ∀ cv, s.2 = some cv → P cv
section SM
variable {La : gz_L} {lt : Nat → Int} {b : Nat → Nat} {len : Nat}
theorem SemV.j {op : Int32} {x y : pV} (hop : isJ op) (hb : op = -nI 18 ∨ op = -nI 19 → (x.2 lt = 0 ∨ x.2 lt = 1) ∧ (y.2 lt = 0 ∨ y.2 lt = 1)) (hx : SemV La lt x) (hy : SemV La lt y) : SemV La lt (jV op x y) := by
  obtain ⟨x1, x2, x3, x4⟩ := hx
  obtain ⟨y1, y2, y3, y4⟩ := hy
  refine ⟨by rw [jV_len]; omega, jn_bd hop, Ex.join hop x2 y2 hb x1 y1 x3 y3, fun z hz => ?_⟩
  have hcode : (jV op x y).1 = x.1 ++ y.1 ++ [op] := rfl
  rw [hcode, List.mem_append, List.mem_append] at hz
  rcases hz with (hz | hz) | hz
  · exact x4 z hz
  · exact y4 z hz
  · have : z = op := by simpa using hz
    rw [this]; exact (isJ_7 hop).2.1
theorem SemB.c {op : Int32} {x y : pV} (hop : op = -nI 15 ∨ op = -nI 16 ∨ op = -nI 17) (hx : SemV La lt x) (hy : SemV La lt y) : SemB La lt (jV op x y) := by
  have hj : isJ op := by rcases hop with h | h | h <;> subst h <;> unfold isJ <;> simp
  refine ⟨SemV.j hj (fun e => ?_) hx hy, ?_⟩
  · rcases hop with h | h | h <;> subst h <;> rcases e with e | e <;> exact absurd e (by decide)
  · rcases hop with h | h | h <;> subst h
    · show (if x.2 lt = y.2 lt then (1 : Int) else 0) = 0 ∨ (if x.2 lt = y.2 lt then (1 : Int) else 0) = 1
      split <;> simp
    · show (if x.2 lt < y.2 lt then (1 : Int) else 0) = 0 ∨ (if x.2 lt < y.2 lt then (1 : Int) else 0) = 1
      split <;> simp
    · show (if y.2 lt < x.2 lt then (1 : Int) else 0) = 0 ∨ (if y.2 lt < x.2 lt then (1 : Int) else 0) = 1
      split <;> simp
theorem SemB.a {x y : pV} (hx : SemB La lt x) (hy : SemB La lt y) : SemB La lt (jV (-18) x y) := by
  have h18 : (-18 : Int32) = -nI 18 := rfl
  refine ⟨SemV.j (by rw [h18]; unfold isJ; simp) (fun _ => ⟨hx.2, hy.2⟩) hx.1 hy.1, ?_⟩
  show (if x.2 lt = 1 ∧ y.2 lt = 1 then (1 : Int) else 0) = 0 ∨ (if x.2 lt = 1 ∧ y.2 lt = 1 then (1 : Int) else 0) = 1
  split <;> simp
theorem SemB.o {x y : pV} (hx : SemB La lt x) (hy : SemB La lt y) : SemB La lt (jV (-19) x y) := by
  have h19 : (-19 : Int32) = -nI 19 := rfl
  refine ⟨SemV.j (by rw [h19]; unfold isJ; simp) (fun _ => ⟨hx.2, hy.2⟩) hx.1 hy.1, ?_⟩
  show (if x.2 lt = 1 ∨ y.2 lt = 1 then (1 : Int) else 0) = 0 ∨ (if x.2 lt = 1 ∨ y.2 lt = 1 then (1 : Int) else 0) = 1
  split <;> simp
/-- an instruction that is run -/
theorem w_op {w : Nat} {K : Int32 → gz_S → Option (Int32 × gz_S)} {f i t : Nat} {g : gz_S} {y : Int32} (hN : i < La.2.2 (w + 1)) (h240 : La.2.2 (w + 1) ≤ 240) (hy : g.1 (w + 1) i = y) (h7 : y ≤ -7) (ht : 1 ≤ t) (ht2 : t < 2147483648) :
    fX3_worth_8 La w K (f + 1) (nI t) (nI 0) (nI i) g = if y = (-22) then K (nI t) g else if y = (-21) then gz_let (nI t + (-1)) (fun y116 => if gz_ok y116 240 then if (g.1 25 (Int32.toNatClampNeg y116)) = 0 then fX3_worth_130 La w (fX3_worth_8 La w K f) y116 (nI i) 1 g else fX3_worth_130 La w (fX3_worth_8 La w K f) y116 (nI i) 0 g else none) else if y = (-20) then if gz_ok (nI t - 1) 240 then if gz_ok (nI t - 1) 240 then gz_let (gz_wi g 25 (Int32.toNatClampNeg (nI t - 1)) ((1 : Int32) - (g.1 25 (Int32.toNatClampNeg (nI t - 1))))) (fun g153 => fX3_worth_185 La w (fX3_worth_8 La w K f) (nI t) (nI 0) (nI i) g153) else none else none else if 2 ≤ nI t then gz_let (nI t + (-1)) (fun y164 => if gz_ok (y164 - 1) 240 then if gz_ok y164 240 then (fX3_joined La y (g.1 25 (Int32.toNatClampNeg (y164 - 1))) (g.1 25 (Int32.toNatClampNeg y164)) g).bind (fun q181 => if gz_ok (y164 - 1) 240 then gz_let (gz_wi q181.2 25 (Int32.toNatClampNeg (y164 - 1)) q181.1) (fun g184 => fX3_worth_185 La w (fX3_worth_8 La w K f) y164 (nI 0) (nI i) g184) else none) else none else none) else some (0, g) := by
  have a0 : ¬ Int32.ofNat (La.2.2 (w + 1)) ≤ nI i := by
    intro e
    have e : nI (La.2.2 (w + 1)) ≤ nI i := e
    rw [n_le (by omega) (by omega)] at e
    omega
  have a1 : gz_ok (nI i) (La.2.2 (w + 1)) := n_okP hN (by omega)
  have a2 : (nI i).toNatClampNeg = i := n_cl (by omega)
  have a3 : (1 : Int32) ≤ nI t := by
    have e : nI 1 ≤ nI t := by rw [n_le (by omega) (by omega)]; exact ht
    exact e
  rw [fX3_worth_8, if_neg a0, if_pos a1, gz_let_eq, a2, hy, if_pos (show nI 0 = 0 from rfl), if_pos h7, if_pos a3]
theorem Ex.not {x : pV} (hx1 : 1 ≤ x.1.length) (hb : x.2 lt = 0 ∨ x.2 lt = 1) (h : Ex La lt x.1 (x.2 lt)) : Ex La lt (x.1 ++ [-nI 20]) (1 - x.2 lt) := by
  intro w K f i t g hH hA hl ht
  obtain ⟨a1, a2⟩ := hA.app
  rw [List.length_append, List.length_singleton] at hl ⊢
  obtain ⟨g1, r1, r2, r3, r4⟩ := h w K (f + 1) i t g hH a1 (by omega) ht
  have h240 := hH.1
  have hv : g1.1 (w + 1) (i + x.1.length) = -nI 20 := by
    have := (a2.fr r2 hH.2.1) 0 (by rw [List.length_singleton]; omega)
    simpa using this
  have e2 : nI (t + 1) - nI 1 = nI t := by rw [n_sub (by omega)]; congr 1
  have e3 : nI 1 - iI (x.2 lt) = iI (1 - x.2 lt) := by rcases hb with h | h <;> rw [h] <;> decide
  refine ⟨gz_wa g1 25 (upd (g1.1 25) t (iI (1 - x.2 lt))), ?_, r2.wa rfl, fun k hk => ?_, by rw [wa_at]; exact if_pos rfl⟩
  · have q1 : gz_ok (nI (t + 1) - 1) 240 := by
      have e : nI (t + 1) - 1 = nI t := e2
      rw [e]; exact n_okP (by omega) (by omega)
    have q2 : Int32.toNatClampNeg (nI (t + 1) - 1) = t := by
      have e : nI (t + 1) - 1 = nI t := e2
      rw [e]; exact n_cl (by omega)
    have q3 : (1 : Int32) - iI (x.2 lt) = iI (1 - x.2 lt) := e3
    have q4 : nI (i + x.1.length) + 1 = nI (i + x.1.length + 1) := n_add _ 1
    rw [show f + (x.1.length + 1) = f + 1 + x.1.length by omega, r1, w_op (by omega) h240 hv (by decide) (by omega) (by omega), if_neg (by decide), if_neg (by decide), if_pos (show -nI 20 = -20 from rfl), if_pos q1, if_pos q1, gz_let_eq, q2, r4, q3, fX3_worth_185, gz_let_eq, q4, wi_wa, show i + (x.1.length + 1) = i + x.1.length + 1 by omega]
  · rw [wa_at]; unfold upd
    rw [if_neg (by omega)]; exact r3 k hk
theorem SemB.n {x : pV} (hx : SemB La lt x) : SemB La lt (x.1 ++ [-20], fun e => 1 - x.2 e) := by
  obtain ⟨⟨x1, x2, x3, x4⟩, x5⟩ := hx
  refine ⟨⟨by show 1 ≤ (x.1 ++ [-20]).length; rw [List.length_append]; omega, ?_, Ex.not x1 x5 x3, fun z hz => ?_⟩, ?_⟩
  · show Bd6 (1 - x.2 lt); unfold Bd6; omega
  · have hz : z ∈ x.1 ++ [-20] := hz
    rw [List.mem_append] at hz
    rcases hz with hz | hz
    · exact x4 z hz
    · have : z = -20 := by simpa using hz
      rw [this]; decide
  · show 1 - x.2 lt = 0 ∨ 1 - x.2 lt = 1; omega
theorem pAtom_sem {rec : Option (Nat → pR)} (hlt : LtOk lt) (hr : ∀ f, rec = some f → ∀ p, p ≤ len → pS (SemV La lt) (f p)) {p : Nat} (hp : p ≤ len) : pS (SemV La lt) (pAtom b len rec p) := by
  unfold pAtom
  cases hs : sg b len p with
  | none => intro cv h; cases h
  | some c =>
    have h1 := sg_lt hs
    have h2 := nx_le (b := b) (show p + 1 ≤ len by omega)
    show pS (SemV La lt) (if 48 ≤ c ∧ c ≤ 57 then _ else _)
    by_cases hd : 48 ≤ c ∧ c ≤ 57
    · rw [if_pos hd]
      have hv := numV_v (b := b) (len := len) 4 p 0 1 (by omega)
      by_cases hd2 : dg b len (numV b len 4 p 0).1
      · rw [if_pos hd2]; intro cv h; cases h
      · rw [if_neg hd2]
        intro cv h
        cases h
        have hv9 : (numV b len 4 p 0).2 ≤ 9999 := by omega
        refine ⟨Nat.le_refl _, ?_, Ex.num hv9, fun z hz => ?_⟩
        · show Bd6 ((numV b len 4 p 0).2 : Int); unfold Bd6; omega
        · have : z = nI (numV b len 4 p 0).2 := by simpa using hz
          rw [this]
          intro e
          have h3 := ng_n (a := (numV b len 4 p 0).2) (c := 22) (by omega) (by omega)
          rw [← h3]; exact e.symm
    · rw [if_neg hd]
      by_cases h91 : c = 91
      · rw [if_pos h91]
        cases rec with
        | none => intro cv h; cases h
        | some f =>
          have h6 := hr f rfl (nx b len (p + 1)) h2.2
          show pS (SemV La lt) (match f (nx b len (p + 1)) with | (q, none) => (q, none) | (q, some cv) => if sg b len q = some 93 then (nx b len (q + 1), some cv) else (q, none))
          cases hf : f (nx b len (p + 1)) with
          | mk q o =>
            rw [hf] at h6
            cases o with
            | none => intro cv h; cases h
            | some cv =>
              show pS (SemV La lt) (if sg b len q = some 93 then (nx b len (q + 1), some cv) else (q, none))
              by_cases h93 : sg b len q = some 93
              · rw [if_pos h93]; intro cv' h; cases h; exact h6 cv rfl
              · rw [if_neg h93]; intro cv h; cases h
      · rw [if_neg h91]
        cases hl : ltr c with
        | none => intro cv h; cases h
        | some i =>
          have hi : i < 6 := by
            unfold ltr at hl
            repeat' split at hl
            all_goals first | (cases hl; omega) | cases hl
          intro cv h
          cases h
          have := hlt i hi
          refine ⟨Nat.le_refl _, ?_, Ex.letter hi, fun z hz => ?_⟩
          · show Bd6 (lt i); unfold Bd6; omega
          · have : z = -nI (1 + i) := by simpa using hz
            rw [this]
            have : ∀ i, i < 6 → -nI (1 + i) ≠ -nI 22 := by decide
            exact this i hi
theorem opT_J {o : Option Nat} {t : Int32} (h : opT o = some t) : isJ t ∧ ¬ (t = -nI 18 ∨ t = -nI 19) := by
  rcases (opI_T h).2 with e | e <;> subst e <;> exact ⟨by unfold isJ; simp, by decide⟩
theorem opS_J {o : Option Nat} {t : Int32} (h : opS o = some t) : isJ t ∧ ¬ (t = -nI 18 ∨ t = -nI 19) := by
  unfold opS at h
  by_cases h1 : o = some 43
  · rw [if_pos h1] at h; cases h; exact ⟨Or.inl rfl, by decide⟩
  · rw [if_neg h1] at h
    by_cases h2 : o = some 45
    · rw [if_pos h2] at h; cases h; exact ⟨Or.inr (Or.inl rfl), by decide⟩
    · rw [if_neg h2] at h; cases h
theorem pTerm_sem {at0 : Nat → pR} (hg : ∀ p, p ≤ len → pGood len p (at0 p)) (ha : ∀ p, p ≤ len → pS (SemV La lt) (at0 p)) : ∀ n p cv, p ≤ len → SemV La lt cv → pS (SemV La lt) (pTerm b len at0 n p cv) := by
  intro n
  induction n with
  | zero => intro p cv _ _ cv' h; cases h
  | succ n ih =>
    intro p cv hp hcv
    unfold pTerm
    cases ho : opT (sg b len p) with
    | none => intro cv' h; cases h; exact hcv
    | some op =>
      have hlt := opT_lt ho
      have h2 := nx_le (b := b) (show p + 1 ≤ len by omega)
      have h3 := ha _ h2.2
      have h4 := hg _ h2.2
      show pS (SemV La lt) (match at0 (nx b len (p + 1)) with | (q, none) => (q, none) | (q, some cv2) => pTerm b len at0 n q (jV op cv cv2))
      cases hat : at0 (nx b len (p + 1)) with
      | mk q o =>
        rw [hat] at h3 h4
        cases o with
        | none => intro cv' h; cases h
        | some cv2 =>
          have hj := opT_J ho
          exact ih q (jV op cv cv2) h4.2.1 (SemV.j hj.1 (fun e => absurd e hj.2) hcv (h3 cv2 rfl))
theorem pSumL_sem {at0 : Nat → pR} (hg : ∀ p, p ≤ len → pGood len p (at0 p)) (ha : ∀ p, p ≤ len → pS (SemV La lt) (at0 p)) : ∀ n p acc, p ≤ len → (∀ o cv, acc = some (o, cv) → SemV La lt cv ∧ isJ o ∧ ¬ (o = -nI 18 ∨ o = -nI 19)) → pS (SemV La lt) (pSumL b len at0 n p acc) := by
  intro n
  induction n with
  | zero => intro p acc _ _ cv' h; cases h
  | succ n ih =>
    intro p acc hp hacc
    have h1 := ha p hp
    have h2 := hg p hp
    unfold pSumL
    cases hat : at0 p with
    | mk q o =>
      rw [hat] at h1 h2
      cases o with
      | none => intro cv' h; cases h
      | some cv =>
        have h3 : q ≤ len := h2.2.1
        have h5 := pTerm_good (b := b) hg (len + 1) q cv h3 (by omega)
        have h6 := pTerm_sem (b := b) hg ha (len + 1) q cv h3 (h1 cv rfl)
        show pS (SemV La lt) (match pTerm b len at0 (len + 1) q cv with | (q2, none) => (q2, none) | (q2, some cv2) => match opS (sg b len q2) with | none => (q2, some (jA acc cv2)) | some op => pSumL b len at0 n (nx b len (q2 + 1)) (some (op, jA acc cv2)))
        cases ht : pTerm b len at0 (len + 1) q cv with
        | mk q2 o2 =>
          rw [ht] at h5 h6
          have h7 : q2 ≤ len := h5.2
          cases o2 with
          | none => intro cv' h; cases h
          | some cv2 =>
            have hj : SemV La lt (jA acc cv2) := by
              cases hacc' : acc with
              | none => exact h6 cv2 rfl
              | some oc =>
                obtain ⟨o, cv0⟩ := oc
                obtain ⟨k1, k2, k3⟩ := hacc o cv0 hacc'
                exact SemV.j k2 (fun e => absurd e k3) k1 (h6 cv2 rfl)
            show pS (SemV La lt) (match opS (sg b len q2) with | none => (q2, some (jA acc cv2)) | some op => pSumL b len at0 n (nx b len (q2 + 1)) (some (op, jA acc cv2)))
            cases ho : opS (sg b len q2) with
            | none => intro cv' h; cases h; exact hj
            | some op =>
              have hlt := opS_lt ho
              have h8 := nx_le (b := b) (show q2 + 1 ≤ len by omega)
              refine ih (nx b len (q2 + 1)) (some (op, jA acc cv2)) h8.2 (fun o cv e => ?_)
              cases e
              exact ⟨hj, opS_J ho⟩
theorem pSum_sem (hlt : LtOk lt) : ∀ r p, p ≤ len → pS (SemV La lt) (pSum b len r p) := by
  intro r
  induction r with
  | zero => intro p hp; exact pSumL_sem (fun p hp => pAtom_good (fun f hf => by cases hf) hp) (fun p hp => pAtom_sem hlt (fun f hf => by cases hf) hp) _ _ _ hp (fun o cv e => by cases e)
  | succ r ih => intro p hp; exact pSumL_sem (fun p hp => pAtom_good (fun f hf => by cases hf; exact pSum_good r) hp) (fun p hp => pAtom_sem hlt (fun f hf => by cases hf; exact ih) hp) _ _ _ hp (fun o cv e => by cases e)
theorem pCmp_sem (hlt : LtOk lt) {r p : Nat} {cv : pV} (hp : p ≤ len) (hcv : SemV La lt cv) : pS (SemB La lt) (pCmp b len r p cv) := by
  unfold pCmp
  cases ho : opC (sg b len p) with
  | none => intro cv' h; cases h
  | some op =>
    have hl := opC_lt ho
    have h2 := nx_le (b := b) (show p + 1 ≤ len by omega)
    have h3 := pSum_sem (La := La) (b := b) hlt r (nx b len (p + 1)) h2.2
    show pS (SemB La lt) (match pSum b len r (nx b len (p + 1)) with | (q, none) => (q, none) | (q, some cv2) => (q, some (jV op cv cv2)))
    cases hs : pSum b len r (nx b len (p + 1)) with
    | mk q o =>
      rw [hs] at h3
      cases o with
      | none => intro cv' h; cases h
      | some cv2 => intro cv' h; cases h; exact SemB.c (opCI_some ho).2 hcv (h3 cv2 rfl)
theorem pSC_sem (hlt : LtOk lt) {r p : Nat} (hp : p ≤ len) : pS (SemB La lt) (pSC b len r p) := by
  have h3 := pSum_sem (La := La) (b := b) hlt r p hp
  have h4 := pSum_good (b := b) r p hp
  unfold pSC
  cases hs : pSum b len r p with
  | mk q o =>
    rw [hs] at h3 h4
    cases o with
    | none => intro cv' h; cases h
    | some cv => exact pCmp_sem hlt h4.2.1 (h3 cv rfl)
theorem pPart_sem {U : Nat → pR} (hg : ∀ p, p ≤ len → pGood len p (U p)) (ha : ∀ p, p ≤ len → pS (SemB La lt) (U p)) : ∀ n p cv, p ≤ len → SemB La lt cv → pS (SemB La lt) (pPart b len U n p cv) := by
  intro n
  induction n with
  | zero => intro p cv _ _ cv' h; cases h
  | succ n ih =>
    intro p cv hp hcv
    unfold pPart
    by_cases ho : sg b len p = some 38
    · rw [if_pos ho]
      have hlt := (sg_lt ho).1
      have h2 := nx_le (b := b) (show p + 1 ≤ len by omega)
      have h3 := ha _ h2.2
      have h4 := hg _ h2.2
      cases hat : U (nx b len (p + 1)) with
      | mk q o =>
        rw [hat] at h3 h4
        cases o with
        | none => intro cv' h; cases h
        | some cv2 => exact ih q (jV (-18) cv cv2) h4.2.1 (SemB.a hcv (h3 cv2 rfl))
    · rw [if_neg ho]; intro cv' h; cases h; exact hcv
theorem pCondL_sem {U : Nat → pR} (hg : ∀ p, p ≤ len → pGood len p (U p)) (ha : ∀ p, p ≤ len → pS (SemB La lt) (U p)) : ∀ n s acc, s.1 ≤ len → pS (SemB La lt) s → (∀ cv, acc = some cv → SemB La lt cv) → pS (SemB La lt) (pCondL b len U n s acc) := by
  intro n
  induction n with
  | zero => intro s acc _ _ _ cv' h; cases h
  | succ n ih =>
    intro s acc hp hs hacc
    unfold pCondL
    obtain ⟨q, o⟩ := s
    cases o with
    | none => intro cv' h; cases h
    | some cv =>
      have h3 : q ≤ len := hp
      have h5 := pPart_good (b := b) hg (len + 1) q cv h3 (by omega)
      have h6 := pPart_sem (b := b) hg ha (len + 1) q cv h3 (hs cv rfl)
      show pS (SemB La lt) (match pPart b len U (len + 1) q cv with | (q2, none) => (q2, none) | (q2, some cv2) => if sg b len q2 = some 124 then pCondL b len U n (U (nx b len (q2 + 1))) (some (jO acc cv2)) else (q2, some (jO acc cv2)))
      cases ht : pPart b len U (len + 1) q cv with
      | mk q2 o2 =>
        rw [ht] at h5 h6
        have h7 : q2 ≤ len := h5.2
        cases o2 with
        | none => intro cv' h; cases h
        | some cv2 =>
          have hj : SemB La lt (jO acc cv2) := by
            cases hacc' : acc with
            | none => exact h6 cv2 rfl
            | some cv0 => exact SemB.o (hacc cv0 hacc') (h6 cv2 rfl)
          show pS (SemB La lt) (if sg b len q2 = some 124 then pCondL b len U n (U (nx b len (q2 + 1))) (some (jO acc cv2)) else (q2, some (jO acc cv2)))
          by_cases ho : sg b len q2 = some 124
          · rw [if_pos ho]
            have hlt := (sg_lt ho).1
            have h8 := nx_le (b := b) (show q2 + 1 ≤ len by omega)
            exact ih (U (nx b len (q2 + 1))) (some (jO acc cv2)) (hg _ h8.2).2.1 (ha _ h8.2) (fun cv e => by cases e; exact hj)
          · rw [if_neg ho]; intro cv' h; cases h; exact hj
theorem pUnit_sem (hlt : LtOk lt) : ∀ r p, p ≤ len → pS (SemB La lt) (pUnit b len r p) := by
  intro r
  induction r with
  | zero =>
    intro p hp
    unfold pUnit
    by_cases h : sg b len p = some 33 ∨ sg b len p = some 40
    · rw [if_pos h]; intro cv h; cases h
    · rw [if_neg h]; exact pSC_sem hlt hp
  | succ r ih =>
    intro p hp
    unfold pUnit
    by_cases h33 : sg b len p = some 33
    · rw [if_pos h33]
      have hl := (sg_lt h33).1
      have h2 := nx_le (b := b) (show p + 1 ≤ len by omega)
      have h3 := ih _ h2.2
      cases hat : pUnit b len r (nx b len (p + 1)) with
      | mk q o =>
        rw [hat] at h3
        cases o with
        | none => intro cv h; cases h
        | some cv => intro cv' h; cases h; exact SemB.n (h3 cv rfl)
    · rw [if_neg h33]
      by_cases h40 : sg b len p = some 40
      · rw [if_pos h40]
        have hl := (sg_lt h40).1
        have h2 := nx_le (b := b) (show p + 1 ≤ len by omega)
        have h6 := pCondL_sem (La := La) (lt := lt) (b := b) (U := pUnit b len r) (fun p hp => pUnit_good r p hp) ih (len + 1) (pUnit b len r (nx b len (p + 1))) none (pUnit_good r _ h2.2).2.1 (ih _ h2.2) (fun cv e => by cases e)
        cases hat : pCondL b len (pUnit b len r) (len + 1) (pUnit b len r (nx b len (p + 1))) none with
        | mk q o =>
          rw [hat] at h6
          cases o with
          | none => intro cv h; cases h
          | some cv =>
            show pS (SemB La lt) (if sg b len q = some 41 then (nx b len (q + 1), some cv) else (q, none))
            by_cases h41 : sg b len q = some 41
            · rw [if_pos h41]; intro cv' h; cases h; exact h6 cv rfl
            · rw [if_neg h41]; intro cv h; cases h
      · rw [if_neg h40]; exact pSC_sem hlt hp
/-! clauses -/
abbrev pK : Type := List Int32 × ((Nat → Int) → Int) × ((Nat → Int) → Int)
/-- a clause, run: it answers, or the next one is run -/
def SemC (La : gz_L) (lt : Nat → Int) (c : pK) : Prop := Bd6 (c.2.2 lt) ∧ 1 ≤ c.1.length ∧ ∀ w (K : Int32 → gz_S → Option (Int32 × gz_S)) f i t g, Hs La w lt g → At g w i (c.1 ++ [-nI 22]) → i + c.1.length + 1 ≤ La.2.2 (w + 1) → t ≤ i →
  ∃ g', Fr (fun j => j = 25) g g' ∧ (c.2.1 lt = 1 → fX3_worth_8 La w K (f + c.1.length + 1) (nI t) (nI 0) (nI i) g = K (nI (t + 1)) g' ∧ g'.1 25 t = iI (c.2.2 lt)) ∧
    (c.2.1 lt ≠ 1 → fX3_worth_8 La w K (f + c.1.length + 1) (nI t) (nI 0) (nI i) g = fX3_worth_8 La w K f (nI t) (nI 0) (nI (i + c.1.length + 1)) g')
theorem w_done {w : Nat} {K : Int32 → gz_S → Option (Int32 × gz_S)} {f i t : Nat} {g : gz_S} (hN : i < La.2.2 (w + 1)) (h240 : La.2.2 (w + 1) ≤ 240) (hy : g.1 (w + 1) i = -nI 22) (ht : 1 ≤ t) (ht2 : t < 2147483648) :
    fX3_worth_8 La w K (f + 1) (nI t) (nI 0) (nI i) g = K (nI t) g := by
  rw [w_op hN h240 hy (by decide) ht ht2, if_pos (show -nI 22 = -22 from rfl)]
theorem w_if {w : Nat} {K : Int32 → gz_S → Option (Int32 × gz_S)} {f i t : Nat} {g : gz_S} {v : Int} (hN : i < La.2.2 (w + 1)) (h240 : La.2.2 (w + 1) ≤ 240) (hy : g.1 (w + 1) i = -nI 21) (ht : t < 240) (hv : g.1 25 t = iI v) (hb : v = 0 ∨ v = 1) :
    fX3_worth_8 La w K (f + 1) (nI (t + 1)) (nI 0) (nI i) g = fX3_worth_8 La w K f (nI t) (nI (if v = 0 then 1 else 0)) (nI (i + 1)) g := by
  have e1 : nI (t + 1) + (-1) = nI t := n_m1 t
  have e0 : (iI v = 0) = (v = 0) := by
    have : (0 : Int32) = iI 0 := rfl
    rw [this, iI_eq (by omega) (by omega)]
  have q1 : gz_ok (nI t) 240 := n_okP ht (by omega)
  have q4 : nI i + 1 = nI (i + 1) := n_add _ 1
  rw [w_op hN h240 hy (by decide) (by omega) (by omega), if_neg (by decide), if_pos (show -nI 21 = -21 from rfl), gz_let_eq, e1, if_pos q1, n_cl (by omega), hv]
  by_cases h : v = 0
  · rw [if_pos (show iI v = 0 by rw [e0]; exact h), if_pos h, fX3_worth_130, fX3_worth_185, gz_let_eq, q4]; rfl
  · rw [if_neg (show ¬ iI v = 0 by rw [e0]; exact h), if_neg h, fX3_worth_130, fX3_worth_185, gz_let_eq, q4]; rfl
/-- an instruction that is passed over -/
theorem w_pass {w : Nat} {K : Int32 → gz_S → Option (Int32 × gz_S)} {f i t : Nat} {g : gz_S} {y : Int32} (hN : i < La.2.2 (w + 1)) (h240 : La.2.2 (w + 1) ≤ 240) (hy : g.1 (w + 1) i = y) :
    fX3_worth_8 La w K (f + 1) (nI t) (nI 1) (nI i) g = fX3_worth_8 La w K f (nI t) (nI (if y = -22 then 0 else 1)) (nI (i + 1)) g := by
  have a0 : ¬ Int32.ofNat (La.2.2 (w + 1)) ≤ nI i := by
    intro e
    have e : nI (La.2.2 (w + 1)) ≤ nI i := e
    rw [n_le (by omega) (by omega)] at e
    omega
  have a1 : gz_ok (nI i) (La.2.2 (w + 1)) := n_okP hN (by omega)
  have a2 : (nI i).toNatClampNeg = i := n_cl (by omega)
  have q4 : nI i + 1 = nI (i + 1) := n_add _ 1
  rw [fX3_worth_8, if_neg a0, if_pos a1, gz_let_eq, a2, hy, if_neg (show ¬ nI 1 = 0 by decide)]
  by_cases h : y = -22
  · rw [if_pos h, if_pos h, fX3_worth_44, fX3_worth_185, gz_let_eq, q4]; rfl
  · rw [if_neg h, if_neg h, fX3_worth_44, fX3_worth_185, gz_let_eq, q4]; rfl
/-- passed over, up to the clause's end -/
theorem w_skip {w : Nat} {K : Int32 → gz_S → Option (Int32 × gz_S)} : ∀ (c : List Int32) (f i t : Nat) (g : gz_S), (∀ x, x ∈ c → x ≠ -nI 22) → At g w i (c ++ [-nI 22]) → i + c.length + 1 ≤ La.2.2 (w + 1) → La.2.2 (w + 1) ≤ 240 → t < 2147483648 →
    fX3_worth_8 La w K (f + c.length + 1) (nI t) (nI 1) (nI i) g = fX3_worth_8 La w K f (nI t) (nI 0) (nI (i + c.length + 1)) g := by
  intro c
  induction c with
  | nil =>
    intro f i t g _ hA hN h240 ht
    have hv : g.1 (w + 1) i = -nI 22 := by
      have := hA 0 (by simp)
      simpa using this
    have hN : i + 0 + 1 ≤ La.2.2 (w + 1) := hN
    show fX3_worth_8 La w K (f + 0 + 1) (nI t) (nI 1) (nI i) g = fX3_worth_8 La w K f (nI t) (nI 0) (nI (i + 0 + 1)) g
    rw [Nat.add_zero, Nat.add_zero, w_pass (by omega) h240 hv, if_pos (show -nI 22 = -22 from rfl)]
  | cons x c ih =>
    intro f i t g hx hA hN h240 ht
    have hv : g.1 (w + 1) i = x := by
      have := hA 0 (by simp)
      simpa using this
    have hA' : At g w (i + 1) (c ++ [-nI 22]) := by
      intro k hk
      have := hA (k + 1) (by rw [List.cons_append, List.length_cons]; omega)
      rw [show i + 1 + k = i + (k + 1) by omega, this]
      simp [List.getD]
    have hne := hx x List.mem_cons_self
    rw [List.length_cons] at hN ⊢
    have hgo := ih f (i + 1) t g (fun y hy => hx y (List.mem_cons_of_mem _ hy)) hA' (by omega) h240 ht
    have hne : ¬ x = -22 := hne
    rw [show f + (c.length + 1) + 1 = f + c.length + 1 + 1 by omega, w_pass (by omega) h240 hv, if_neg hne, hgo, show i + (c.length + 1) + 1 = i + 1 + c.length + 1 by omega]
theorem SemC.plain {cv : pV} (h : SemV La lt cv) : SemC La lt (cv.1, fun _ => 1, cv.2) := by
  obtain ⟨x1, x2, x3, x4⟩ := h
  refine ⟨x2, x1, fun w K f i t g hH hA hN ht => ?_⟩
  have hN : i + cv.1.length + 1 ≤ La.2.2 (w + 1) := hN
  obtain ⟨a1, a2⟩ := At.app (c := cv.1) (d := [-nI 22]) hA
  obtain ⟨g1, r1, r2, r3, r4⟩ := x3 w K (f + 1) i t g hH a1 (by omega) ht
  have hv : g1.1 (w + 1) (i + cv.1.length) = -nI 22 := by
    have := (a2.fr r2 hH.2.1) 0 (by simp)
    simpa using this
  have h240 := hH.1
  refine ⟨g1, r2, fun _ => ⟨?_, r4⟩, fun e => absurd rfl e⟩
  show fX3_worth_8 La w K (f + cv.1.length + 1) (nI t) (nI 0) (nI i) g = K (nI (t + 1)) g1
  rw [show f + cv.1.length + 1 = f + 1 + cv.1.length by omega, r1]
  exact w_done (by omega) h240 hv (by omega) (by omega)
theorem SemC.cond {c v : pV} (hc : SemB La lt c) (hv : SemV La lt v) : SemC La lt (c.1 ++ [-21] ++ v.1, c.2, v.2) := by
  obtain ⟨⟨x1, x2, x3, x4⟩, x5⟩ := hc
  obtain ⟨y1, y2, y3, y4⟩ := hv
  have hlen : (c.1 ++ [-21] ++ v.1).length = c.1.length + 1 + v.1.length := by rw [List.length_append, List.length_append]; rfl
  refine ⟨y2, by show 1 ≤ (c.1 ++ [-21] ++ v.1).length; omega, fun w K f i t g hH hA hN ht => ?_⟩
  dsimp only at hN hA ⊢
  have hA : At g w i (c.1 ++ ([-nI 21] ++ (v.1 ++ [-nI 22]))) := by
    have e : c.1 ++ [-21] ++ v.1 ++ [-nI 22] = c.1 ++ ([-nI 21] ++ (v.1 ++ [-nI 22])) := by simp; rfl
    rw [← e]; exact hA
  obtain ⟨a1, a2⟩ := hA.app
  obtain ⟨a3, a4⟩ := a2.app
  obtain ⟨a5, a6⟩ := a4.app
  rw [hlen] at hN
  have h240 := hH.1
  obtain ⟨g1, r1, r2, r3, r4⟩ := x3 w K (f + 1 + v.1.length + 1) i t g hH a1 (by omega) ht
  have hv1 : g1.1 (w + 1) (i + c.1.length) = -nI 21 := by
    have := (a3.fr r2 hH.2.1) 0 (by simp)
    simpa using this
  have hif := w_if (La := La) (w := w) (K := K) (f := f + 1 + v.1.length) (i := i + c.1.length) (t := t) (g := g1) (v := c.2 lt) (by omega) h240 hv1 (by omega) r4 x5
  have hlen1 : ([-nI 21] : List Int32).length = 1 := rfl
  rw [hlen1] at a4 a5 a6
  have hst : fX3_worth_8 La w K (f + (c.1 ++ [-21] ++ v.1).length + 1) (nI t) (nI 0) (nI i) g = fX3_worth_8 La w K (f + 1 + v.1.length) (nI t) (nI (if c.2 lt = 0 then 1 else 0)) (nI (i + c.1.length + 1)) g1 := by
    rw [hlen, show f + (c.1.length + 1 + v.1.length) + 1 = f + 1 + v.1.length + 1 + c.1.length by omega, r1, hif]
  by_cases h0 : c.2 lt = 0
  · rw [if_pos h0] at hst
    refine ⟨g1, r2, fun e => ?_, fun _ => ?_⟩
    · have e : c.2 lt = 1 := e
      omega
    · have hs := w_skip (La := La) (w := w) (K := K) v.1 f (i + c.1.length + 1) t g1 y4 (a4.fr r2 hH.2.1) (by omega) h240 (by omega)
      rw [hst, show f + 1 + v.1.length = f + v.1.length + 1 by omega, hs, hlen, show i + (c.1.length + 1 + v.1.length) + 1 = i + c.1.length + 1 + v.1.length + 1 by omega]
  · rw [if_neg h0] at hst
    obtain ⟨g2, s1, s2, s3, s4⟩ := y3 w K (f + 1) (i + c.1.length + 1) t g1 (hH.fr r2) (a5.fr r2 hH.2.1) (by omega) (by omega)
    have hF := r2.tr s2
    have hv2 : g2.1 (w + 1) (i + c.1.length + 1 + v.1.length) = -nI 22 := by
      have := (a6.fr hF hH.2.1) 0 (by simp)
      simpa using this
    refine ⟨g2, hF, fun _ => ⟨?_, s4⟩, fun e => ?_⟩
    · rw [hst, s1]
      exact w_done (by omega) h240 hv2 (by omega) (by omega)
    · have e : c.2 lt ≠ 1 := e
      omega
theorem pThen_sem (hlt : LtOk lt) {s : pR} (hl : s.1 ≤ len) (hs : pS (SemB La lt) s) : ∀ c, (pThen b len s).2 = some c → SemC La lt c := by
  obtain ⟨q, o⟩ := s
  cases o with
  | none => intro c h; cases h
  | some cv =>
    intro c
    have hpt : pThen b len (q, some cv) = if sg b len q = some 63 then (match pSum b len 6 (nx b len (q + 1)) with | (q2, none) => (q2, none) | (q2, some cv2) => (q2, some (cv.1 ++ [-21] ++ cv2.1, cv.2, cv2.2))) else (q, none) := rfl
    rw [hpt]
    by_cases h63 : sg b len q = some 63
    · rw [if_pos h63]
      have hlt2 := (sg_lt h63).1
      have hx := nx_le (b := b) (show q + 1 ≤ len by omega)
      have h3 := pSum_sem (La := La) (b := b) hlt 6 _ hx.2
      cases hS : pSum b len 6 (nx b len (q + 1)) with
      | mk q2 o2 =>
        rw [hS] at h3
        cases o2 with
        | none => intro h; cases h
        | some cv2 => intro h; cases h; exact SemC.cond (hs cv rfl) (h3 cv2 rfl)
    · rw [if_neg h63]; intro h; cases h
theorem pClause_sem (hlt : LtOk lt) {p : Nat} (hp : p ≤ len) : ∀ c, (pClause b len p).2 = some c → SemC La lt c := by
  have hcl : pClause b len p = if sg b len p = some 33 ∨ sg b len p = some 40 then pThen b len (pCond b len (pUnit b len 6 p)) else match pSum b len 6 p with | (q, none) => (q, none) | (q, some cv) => match opC (sg b len q) with | none => (q, some (cv.1, fun _ => 1, cv.2)) | some _ => pThen b len (pCond b len (pCmp b len 6 q cv)) := rfl
  have hU : ∀ p, p ≤ len → pS (SemB La lt) (pUnit b len 6 p) := fun p hp => pUnit_sem hlt 6 p hp
  rw [hcl]
  by_cases h : sg b len p = some 33 ∨ sg b len p = some 40
  · rw [if_pos h]
    obtain ⟨h1, h2⟩ := pCond_good (b := b) (pUnit_good (b := b) 6 p hp) (pUnit_len (b := b) 6 p hp)
    exact pThen_sem hlt h1.2.1 (pCondL_sem (fun p hp => pUnit_good 6 p hp) hU (len + 1) _ none (pUnit_good 6 p hp).2.1 (hU p hp) (fun cv e => by cases e))
  · rw [if_neg h]
    have hg := pSum_good (b := b) 6 p hp
    have hs := pSum_sem (La := La) (b := b) hlt 6 p hp
    have hl := pSum_len (b := b) 6 p hp
    cases hS : pSum b len 6 p with
    | mk q o =>
      rw [hS] at hg hs hl
      have h1 : p ≤ q := hg.1
      have h2 : q ≤ len := hg.2.1
      cases o with
      | none => intro c h; cases h
      | some cv =>
        intro c
        show (match opC (sg b len q) with | none => ((q, some (cv.1, (fun _ => (1 : Int)), cv.2)) : pC) | some _ => pThen b len (pCond b len (pCmp b len 6 q cv))).2 = some c → _
        cases ho : opC (sg b len q) with
        | none => intro h; cases h; exact SemC.plain (hs cv rfl)
        | some op =>
          have h3 : cv.1.length + p ≤ q := hl cv rfl
          have hcg := pCmp_good (b := b) (r := 6) (cv := cv) h2
          have hcl := pCmp_len (b := b) (r := 6) (cv := cv) h2
          obtain ⟨h4, h5⟩ := pCond_good (b := b) (p := p) (s := pCmp b len 6 q cv) ⟨by have := hcg.1; omega, hcg.2.1, fun cv e => by have := hcg.2.2 cv e; omega⟩ (fun cv3 e => by have := hcl cv3 e; omega)
          exact pThen_sem hlt h4.2.1 (pCondL_sem (fun p hp => pUnit_good 6 p hp) hU (len + 1) _ none hcg.2.1 (pCmp_sem hlt h2 (hs cv rfl)) (fun cv e => by cases e)) c
end SM
