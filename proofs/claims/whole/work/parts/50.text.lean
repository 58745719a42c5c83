/-! texts, as both sides read them -/
def nxF (b : Nat → Nat) (len : Nat) : Nat → Nat → Nat
  | 0, p => p
  | n + 1, p => if p < len ∧ b p = 32 then nxF b len n (p + 1) else p
/-- behind blanks -/
def nx (b : Nat → Nat) (len p : Nat) : Nat := nxF b len (len - p) p
def sg (b : Nat → Nat) (len p : Nat) : Option Nat := if p < len then some (b p) else none
theorem nxF_le {b : Nat → Nat} {len : Nat} : ∀ n p, p ≤ len → p ≤ nxF b len n p ∧ nxF b len n p ≤ len := by
  intro n
  induction n with
  | zero => intro p hp; exact ⟨Nat.le_refl _, hp⟩
  | succ n ih =>
    intro p hp
    unfold nxF
    by_cases h : p < len ∧ b p = 32
    · rw [if_pos h]; have := ih (p + 1) (by omega); omega
    · rw [if_neg h]; omega
theorem nx_le {b : Nat → Nat} {len p : Nat} (hp : p ≤ len) : p ≤ nx b len p ∧ nx b len p ≤ len := nxF_le _ _ hp
theorem nxF_end {b : Nat → Nat} {len : Nat} : ∀ n p, len - p ≤ n → ¬ (nxF b len n p < len ∧ b (nxF b len n p) = 32) := by
  intro n
  induction n with
  | zero => intro p hp h; unfold nxF at h; omega
  | succ n ih =>
    intro p hp
    unfold nxF
    by_cases h : p < len ∧ b p = 32
    · rw [if_pos h]; exact ih (p + 1) (by omega)
    · rw [if_neg h]; exact h
theorem nx_step {b : Nat → Nat} {len p : Nat} (h : p < len ∧ b p = 32) : nx b len p = nx b len (p + 1) := by
  unfold nx
  rw [show len - p = (len - (p + 1)) + 1 by omega]
  show (if p < len ∧ b p = 32 then nxF b len (len - (p + 1)) (p + 1) else p) = _
  rw [if_pos h]
theorem nx_stay {b : Nat → Nat} {len p : Nat} (h : ¬ (p < len ∧ b p = 32)) : nx b len p = p := by
  unfold nx
  cases hn : len - p with
  | zero => rfl
  | succ n =>
    show (if p < len ∧ b p = 32 then nxF b len n (p + 1) else p) = p
    rw [if_neg h]
theorem nx_nx {b : Nat → Nat} {len p : Nat} : nx b len (nx b len p) = nx b len p := nx_stay (nxF_end _ _ (Nat.le_refl _))
/-- a digit stands there -/
abbrev dg (b : Nat → Nat) (len p : Nat) : Prop := p < len ∧ 48 ≤ b p ∧ b p ≤ 57
theorem nx_dg {b : Nat → Nat} {len p : Nat} (h : dg b len p) : nx b len p = p := nx_stay (fun e => by omega)
/-! laws: where a reading ends, and its code and worth (none: a fault there) -/
abbrev pV : Type := List Int32 × ((Nat → Int) → Int)
abbrev pR : Type := Nat × Option pV
def wi6 (x : Int) : Int := max (-1000000) (min 1000000 x)
/-- what a sign joins -/
def jn (op : Int32) (x y : Int) : Int :=
  if op = -11 then wi6 (x + y) else if op = -12 then wi6 (x - y) else if op = -13 then wi6 (x * y) else if op = -14 then wi6 (if y = 0 then 0 else x.tdiv y) else
  if op = -15 then (if x = y then 1 else 0) else if op = -16 then (if x < y then 1 else 0) else if op = -17 then (if y < x then 1 else 0) else
  if op = -18 then (if x = 1 ∧ y = 1 then 1 else 0) else (if x = 1 ∨ y = 1 then 1 else 0)
def numV (b : Nat → Nat) (len : Nat) : Nat → Nat → Nat → Nat × Nat
  | 0, p, v => (p, v)
  | n + 1, p, v => if dg b len p then numV b len n (p + 1) (v * 10 + (b p - 48)) else (p, v)
def ltr (c : Nat) : Option Nat := if c = 98 then some 0 else if c = 97 then some 1 else if c = 114 then some 2 else if c = 112 then some 3 else if c = 110 then some 4 else if c = 116 then some 5 else none
def pAtom (b : Nat → Nat) (len : Nat) (rec : Option (Nat → pR)) (p : Nat) : pR :=
  match sg b len p with
  | none => (p, none)
  | some c =>
    if 48 ≤ c ∧ c ≤ 57 then
      (if dg b len (numV b len 4 p 0).1 then ((numV b len 4 p 0).1, none) else (nx b len (numV b len 4 p 0).1, some ([nI (numV b len 4 p 0).2], fun _ => ((numV b len 4 p 0).2 : Int))))
    else if c = 91 then
      (match rec with
        | none => (p, none)
        | some f => match f (nx b len (p + 1)) with
          | (q, none) => (q, none)
          | (q, some cv) => if sg b len q = some 93 then (nx b len (q + 1), some cv) else (q, none))
    else match ltr c with
      | none => (p, none)
      | some i => (nx b len (p + 1), some ([-nI (1 + i)], fun e => e i))
def opT (o : Option Nat) : Option Int32 := if o = some 42 then some (-13) else if o = some 47 then some (-14) else none
def opS (o : Option Nat) : Option Int32 := if o = some 43 then some (-11) else if o = some 45 then some (-12) else none
def opC (o : Option Nat) : Option Int32 := if o = some 61 then some (-15) else if o = some 60 then some (-16) else if o = some 62 then some (-17) else none
def jV (op : Int32) (x y : pV) : pV := (x.1 ++ y.1 ++ [op], fun e => jn op (x.2 e) (y.2 e))
def jA (acc : Option (Int32 × pV)) (cv2 : pV) : pV := match acc with
  | none => cv2
  | some (o, cv0) => jV o cv0 cv2
def jO (acc : Option pV) (cv2 : pV) : pV := match acc with
  | none => cv2
  | some cv0 => jV (-19) cv0 cv2
def pTerm (b : Nat → Nat) (len : Nat) (at0 : Nat → pR) : Nat → Nat → pV → pR
  | 0, p, _ => (p, none)
  | n + 1, p, cv => match opT (sg b len p) with
    | none => (p, some cv)
    | some op => match at0 (nx b len (p + 1)) with
      | (q, none) => (q, none)
      | (q, some cv2) => pTerm b len at0 n q (jV op cv cv2)
def pSumL (b : Nat → Nat) (len : Nat) (at0 : Nat → pR) : Nat → Nat → Option (Int32 × pV) → pR
  | 0, p, _ => (p, none)
  | n + 1, p, acc => match at0 p with
    | (q, none) => (q, none)
    | (q, some cv) => match pTerm b len at0 (len + 1) q cv with
      | (q2, none) => (q2, none)
      | (q2, some cv2) => match opS (sg b len q2) with
        | none => (q2, some (jA acc cv2))
        | some op => pSumL b len at0 n (nx b len (q2 + 1)) (some (op, jA acc cv2))
def pSum (b : Nat → Nat) (len : Nat) : Nat → Nat → pR
  | 0, p => pSumL b len (pAtom b len none) (len + 1) p none
  | r + 1, p => pSumL b len (pAtom b len (some (pSum b len r))) (len + 1) p none
def pAt (b : Nat → Nat) (len r : Nat) : Nat → pR := match r with
  | 0 => pAtom b len none
  | r + 1 => pAtom b len (some (pSum b len r))
theorem pSum_eq (b : Nat → Nat) (len r p : Nat) : pSum b len r p = pSumL b len (pAt b len r) (len + 1) p none := by cases r <;> rfl
def pCmp (b : Nat → Nat) (len r p : Nat) (cv : pV) : pR := match opC (sg b len p) with
  | none => (p, none)
  | some op => match pSum b len r (nx b len (p + 1)) with
    | (q, none) => (q, none)
    | (q, some cv2) => (q, some (jV op cv cv2))
def pSC (b : Nat → Nat) (len r p : Nat) : pR := match pSum b len r p with
  | (q, none) => (q, none)
  | (q, some cv) => pCmp b len r q cv
def pPart (b : Nat → Nat) (len : Nat) (U : Nat → pR) : Nat → Nat → pV → pR
  | 0, p, _ => (p, none)
  | n + 1, p, cv => if sg b len p = some 38 then (match U (nx b len (p + 1)) with
      | (q, none) => (q, none)
      | (q, some cv2) => pPart b len U n q (jV (-18) cv cv2)) else (p, some cv)
/-- a condition, the first unit (or what is compared) read -/
def pCondL (b : Nat → Nat) (len : Nat) (U : Nat → pR) : Nat → pR → Option pV → pR
  | 0, s, _ => (s.1, none)
  | n + 1, s, acc => match s with
    | (q, none) => (q, none)
    | (q, some cv) => match pPart b len U (len + 1) q cv with
      | (q2, none) => (q2, none)
      | (q2, some cv2) => if sg b len q2 = some 124 then pCondL b len U n (U (nx b len (q2 + 1))) (some (jO acc cv2))
        else (q2, some (jO acc cv2))
def pUnit (b : Nat → Nat) (len : Nat) : Nat → Nat → pR
  | 0, p => if sg b len p = some 33 ∨ sg b len p = some 40 then (p, none) else pSC b len 0 p
  | r + 1, p =>
    if sg b len p = some 33 then (match pUnit b len r (nx b len (p + 1)) with
      | (q, none) => (q, none)
      | (q, some cv) => (q, some (cv.1 ++ [-20], fun e => 1 - cv.2 e)))
    else if sg b len p = some 40 then (match pCondL b len (pUnit b len r) (len + 1) (pUnit b len r (nx b len (p + 1))) none with
      | (q, none) => (q, none)
      | (q, some cv) => if sg b len q = some 41 then (nx b len (q + 1), some cv) else (q, none))
    else pSC b len (r + 1) p
/-- a clause behind its y and : (code; whether it holds; its worth) -/
abbrev pC : Type := Nat × Option (List Int32 × ((Nat → Int) → Int) × ((Nat → Int) → Int))
def pThen (b : Nat → Nat) (len : Nat) (s : pR) : pC := match s with
  | (q, none) => (q, none)
  | (q, some cv) => if sg b len q = some 63 then (match pSum b len 6 (nx b len (q + 1)) with
      | (q2, none) => (q2, none)
      | (q2, some cv2) => (q2, some (cv.1 ++ [-21] ++ cv2.1, cv.2, cv2.2))) else (q, none)
def pCond (b : Nat → Nat) (len : Nat) (s : pR) : pR := pCondL b len (pUnit b len 6) (len + 1) s none
def pClause (b : Nat → Nat) (len p : Nat) : pC :=
  if sg b len p = some 33 ∨ sg b len p = some 40 then pThen b len (pCond b len (pUnit b len 6 p)) else
  match pSum b len 6 p with
  | (q, none) => (q, none)
  | (q, some cv) => match opC (sg b len q) with
    | none => (q, some (cv.1, fun _ => 1, cv.2))
    | some _ => pThen b len (pCond b len (pCmp b len 6 q cv))
/-- a law: code and worth -/
def pLaw (b : Nat → Nat) (len : Nat) : Nat → Nat → List Int32 × ((Nat → Int) → Option Int) → Nat × Option (List Int32 × ((Nat → Int) → Option Int))
  | 0, p, _ => (p, none)
  | n + 1, p, acc =>
    if sg b len p = some 121 then
      (if sg b len (nx b len (p + 1)) = some 58 then (match pClause b len (nx b len (nx b len (p + 1) + 1)) with
        | (q, none) => (q, none)
        | (q, some (c, i, v)) =>
          if sg b len q = none then (q, some (acc.1 ++ c ++ [-22], fun e => match acc.2 e with | some x => some x | none => if i e = 1 then some (v e) else none))
          else if sg b len q = some 59 then pLaw b len n (nx b len (q + 1)) (acc.1 ++ c ++ [-22], fun e => match acc.2 e with | some x => some x | none => if i e = 1 then some (v e) else none)
          else (q, none))
      else (nx b len (p + 1), none))
    else (p, none)
def pLawT (b : Nat → Nat) (len : Nat) : Nat × Option (List Int32 × ((Nat → Int) → Option Int)) := pLaw b len (len + 1) (nx b len 0) ([], fun _ => none)
/-! where readings end -/
def pGood (len p : Nat) (s : pR) : Prop := p ≤ s.1 ∧ s.1 ≤ len ∧ ∀ cv, s.2 = some cv → p < s.1
theorem sg_lt {b : Nat → Nat} {len p c : Nat} (h : sg b len p = some c) : p < len ∧ b p = c := by
  unfold sg at h
  by_cases hp : p < len
  · rw [if_pos hp] at h; cases h; exact ⟨hp, rfl⟩
  · rw [if_neg hp] at h; cases h
theorem numV_le {b : Nat → Nat} {len : Nat} : ∀ n p v, p ≤ len → p ≤ (numV b len n p v).1 ∧ (numV b len n p v).1 ≤ len := by
  intro n
  induction n with
  | zero => intro p v hp; exact ⟨Nat.le_refl _, hp⟩
  | succ n ih =>
    intro p v hp
    unfold numV
    by_cases h : dg b len p
    · rw [if_pos h]; have := ih (p + 1) (v * 10 + (b p - 48)) (by omega); omega
    · rw [if_neg h]; exact ⟨Nat.le_refl _, hp⟩
theorem numV_lt {b : Nat → Nat} {len : Nat} {n p v : Nat} (h : dg b len p) : p < (numV b len (n + 1) p v).1 := by
  show p < (if dg b len p then numV b len n (p + 1) (v * 10 + (b p - 48)) else (p, v)).1
  rw [if_pos h]
  have := numV_le (b := b) (len := len) n (p + 1) (v * 10 + (b p - 48)) (by omega)
  omega
theorem pAtom_good {b : Nat → Nat} {len : Nat} {rec : Option (Nat → pR)} (hr : ∀ f, rec = some f → ∀ p, p ≤ len → pGood len p (f p)) {p : Nat} (hp : p ≤ len) : pGood len p (pAtom b len rec p) := by
  unfold pAtom
  cases hs : sg b len p with
  | none => exact ⟨Nat.le_refl _, hp, fun cv h => by cases h⟩
  | some c =>
    have h1 := sg_lt hs
    have h2 := nx_le (b := b) (show p + 1 ≤ len by omega)
    show pGood len p (if 48 ≤ c ∧ c ≤ 57 then _ else _)
    by_cases hd : 48 ≤ c ∧ c ≤ 57
    · rw [if_pos hd]
      have hdg : dg b len p := ⟨h1.1, by omega, by omega⟩
      have h3 := numV_le (b := b) (len := len) 4 p 0 hp
      have h4 : p < (numV b len 4 p 0).1 := numV_lt (n := 3) (v := 0) hdg
      have h5 := nx_le (b := b) h3.2
      by_cases hd2 : dg b len (numV b len 4 p 0).1
      · rw [if_pos hd2]; exact ⟨h3.1, h3.2, fun cv h => by cases h⟩
      · rw [if_neg hd2]; exact ⟨by show p ≤ nx b len _; omega, h5.2, fun cv _ => by show p < nx b len _; omega⟩
    · rw [if_neg hd]
      by_cases h91 : c = 91
      · rw [if_pos h91]
        cases rec with
        | none => exact ⟨Nat.le_refl _, hp, fun cv h => by cases h⟩
        | some f =>
          have h6 := hr f rfl (nx b len (p + 1)) h2.2
          show pGood len p (match f (nx b len (p + 1)) with | (q, none) => (q, none) | (q, some cv) => if sg b len q = some 93 then (nx b len (q + 1), some cv) else (q, none))
          cases hf : f (nx b len (p + 1)) with
          | mk q o =>
            rw [hf] at h6
            cases o with
            | none => exact ⟨by have := h6.1; show p ≤ q; simp only at this; omega, h6.2.1, fun cv h => by cases h⟩
            | some cv =>
              have h7 : nx b len (p + 1) ≤ q := h6.1
              show pGood len p (if sg b len q = some 93 then (nx b len (q + 1), some cv) else (q, none))
              by_cases h93 : sg b len q = some 93
              · rw [if_pos h93]
                have h8 := sg_lt h93
                have h9 := nx_le (b := b) (show q + 1 ≤ len by omega)
                exact ⟨by show p ≤ nx b len (q + 1); omega, h9.2, fun _ _ => by show p < nx b len (q + 1); omega⟩
              · rw [if_neg h93]; exact ⟨by show p ≤ q; omega, h6.2.1, fun cv h => by cases h⟩
      · rw [if_neg h91]
        cases ltr c with
        | none => exact ⟨Nat.le_refl _, hp, fun cv h => by cases h⟩
        | some i => exact ⟨by show p ≤ nx b len (p + 1); omega, h2.2, fun _ _ => by show p < nx b len (p + 1); omega⟩
theorem opT_lt {b : Nat → Nat} {len p : Nat} {op : Int32} (h : opT (sg b len p) = some op) : p < len := by
  cases hs : sg b len p with
  | none => rw [hs] at h; unfold opT at h; simp at h
  | some c => exact (sg_lt hs).1
theorem opS_lt {b : Nat → Nat} {len p : Nat} {op : Int32} (h : opS (sg b len p) = some op) : p < len := by
  cases hs : sg b len p with
  | none => rw [hs] at h; unfold opS at h; simp at h
  | some c => exact (sg_lt hs).1
theorem opC_lt {b : Nat → Nat} {len p : Nat} {op : Int32} (h : opC (sg b len p) = some op) : p < len := by
  cases hs : sg b len p with
  | none => rw [hs] at h; unfold opC at h; simp at h
  | some c => exact (sg_lt hs).1
theorem pTerm_good {b : Nat → Nat} {len : Nat} {at0 : Nat → pR} (ha : ∀ p, p ≤ len → pGood len p (at0 p)) : ∀ n p cv, p ≤ len → len - p < n → p ≤ (pTerm b len at0 n p cv).1 ∧ (pTerm b len at0 n p cv).1 ≤ len := by
  intro n
  induction n with
  | zero => intro p cv _ h; omega
  | succ n ih =>
    intro p cv hp hn
    unfold pTerm
    cases ho : opT (sg b len p) with
    | none => exact ⟨Nat.le_refl _, hp⟩
    | some op =>
      have hlt := opT_lt ho
      have h2 := nx_le (b := b) (show p + 1 ≤ len by omega)
      have h3 := ha _ h2.2
      show p ≤ (match at0 (nx b len (p + 1)) with | (q, none) => (q, none) | (q, some cv2) => pTerm b len at0 n q (jV op cv cv2)).1 ∧ _
      cases hat : at0 (nx b len (p + 1)) with
      | mk q o =>
        rw [hat] at h3
        have h4 : nx b len (p + 1) ≤ q := h3.1
        have h5 : q ≤ len := h3.2.1
        cases o with
        | none => exact ⟨by show p ≤ q; omega, h5⟩
        | some cv2 =>
          have := ih q (jV op cv cv2) h5 (by omega)
          show p ≤ (pTerm b len at0 n q (jV op cv cv2)).1 ∧ (pTerm b len at0 n q (jV op cv cv2)).1 ≤ len
          omega
theorem pSumL_good {b : Nat → Nat} {len : Nat} {at0 : Nat → pR} (ha : ∀ p, p ≤ len → pGood len p (at0 p)) : ∀ n p acc, p ≤ len → len - p < n → pGood len p (pSumL b len at0 n p acc) := by
  intro n
  induction n with
  | zero => intro p acc _ h; omega
  | succ n ih =>
    intro p acc hp hn
    have h1 := ha p hp
    unfold pSumL
    cases hat : at0 p with
    | mk q o =>
      rw [hat] at h1
      have h2 : p ≤ q := h1.1
      have h3 : q ≤ len := h1.2.1
      cases o with
      | none => exact ⟨h2, h3, fun cv h => by cases h⟩
      | some cv =>
        have h4 : p < q := h1.2.2 cv rfl
        have h5 := pTerm_good (b := b) ha (len + 1) q cv h3 (by omega)
        show pGood len p (match pTerm b len at0 (len + 1) q cv with | (q2, none) => (q2, none) | (q2, some cv2) => match opS (sg b len q2) with | none => _ | some op => _)
        cases ht : pTerm b len at0 (len + 1) q cv with
        | mk q2 o2 =>
          rw [ht] at h5
          have h6 : q ≤ q2 := h5.1
          have h7 : q2 ≤ len := h5.2
          cases o2 with
          | none => exact ⟨by show p ≤ q2; omega, h7, fun cv h => by cases h⟩
          | some cv2 =>
            show pGood len p (match opS (sg b len q2) with | none => (q2, some _) | some op => pSumL b len at0 n (nx b len (q2 + 1)) _)
            cases ho : opS (sg b len q2) with
            | none => exact ⟨by show p ≤ q2; omega, h7, fun _ _ => by show p < q2; omega⟩
            | some op =>
              have hlt := opS_lt ho
              have h8 := nx_le (b := b) (show q2 + 1 ≤ len by omega)
              have h9 := ih (nx b len (q2 + 1)) (some (op, jA acc cv2)) h8.2 (by omega)
              obtain ⟨a1, a2, a3⟩ := h9
              show pGood len p (pSumL b len at0 n (nx b len (q2 + 1)) (some (op, jA acc cv2)))
              exact ⟨by omega, a2, fun cv h => by have := a3 cv h; omega⟩
theorem pSum_good {b : Nat → Nat} {len : Nat} : ∀ r p, p ≤ len → pGood len p (pSum b len r p) := by
  intro r
  induction r with
  | zero => intro p hp; exact pSumL_good (fun p hp => pAtom_good (fun f hf => by cases hf) hp) _ _ _ hp (by omega)
  | succ r ih => intro p hp; exact pSumL_good (fun p hp => pAtom_good (fun f hf => by cases hf; exact ih) hp) _ _ _ hp (by omega)
theorem pAt_good {b : Nat → Nat} {len r p : Nat} (hp : p ≤ len) : pGood len p (pAt b len r p) := by
  cases r with
  | zero => exact pAtom_good (fun f hf => by cases hf) hp
  | succ r => exact pAtom_good (fun f hf => by cases hf; exact pSum_good r) hp
theorem pCmp_good {b : Nat → Nat} {len r p : Nat} {cv : pV} (hp : p ≤ len) : pGood len p (pCmp b len r p cv) := by
  unfold pCmp
  cases ho : opC (sg b len p) with
  | none => exact ⟨Nat.le_refl _, hp, fun cv h => by cases h⟩
  | some op =>
    have hlt := opC_lt ho
    have h2 := nx_le (b := b) (show p + 1 ≤ len by omega)
    have h3 := pSum_good (b := b) r (nx b len (p + 1)) h2.2
    show pGood len p (match pSum b len r (nx b len (p + 1)) with | (q, none) => (q, none) | (q, some cv2) => (q, some (jV op cv cv2)))
    cases hs : pSum b len r (nx b len (p + 1)) with
    | mk q o =>
      rw [hs] at h3
      have h4 : nx b len (p + 1) ≤ q := h3.1
      have h5 : q ≤ len := h3.2.1
      cases o with
      | none => exact ⟨by show p ≤ q; omega, h5, fun cv h => by cases h⟩
      | some cv2 => exact ⟨by show p ≤ q; omega, h5, fun _ _ => by show p < q; omega⟩
theorem pSC_good {b : Nat → Nat} {len r p : Nat} (hp : p ≤ len) : pGood len p (pSC b len r p) := by
  have h3 := pSum_good (b := b) r p hp
  unfold pSC
  cases hs : pSum b len r p with
  | mk q o =>
    rw [hs] at h3
    have h4 : p ≤ q := h3.1
    have h5 : q ≤ len := h3.2.1
    cases o with
    | none => exact ⟨h4, h5, fun cv h => by cases h⟩
    | some cv =>
      obtain ⟨a1, a2, a3⟩ := pCmp_good (b := b) (len := len) (r := r) (p := q) (cv := cv) h5
      exact ⟨by show p ≤ (pCmp b len r q cv).1; omega, a2, fun cv2 h => by have := a3 cv2 h; show p < (pCmp b len r q cv).1; omega⟩
theorem pPart_good {b : Nat → Nat} {len : Nat} {U : Nat → pR} (ha : ∀ p, p ≤ len → pGood len p (U p)) : ∀ n p cv, p ≤ len → len - p < n → p ≤ (pPart b len U n p cv).1 ∧ (pPart b len U n p cv).1 ≤ len := by
  intro n
  induction n with
  | zero => intro p cv _ h; omega
  | succ n ih =>
    intro p cv hp hn
    unfold pPart
    by_cases ho : sg b len p = some 38
    · rw [if_pos ho]
      have hlt := (sg_lt ho).1
      have h2 := nx_le (b := b) (show p + 1 ≤ len by omega)
      have h3 := ha _ h2.2
      cases hat : U (nx b len (p + 1)) with
      | mk q o =>
        rw [hat] at h3
        have h4 : nx b len (p + 1) ≤ q := h3.1
        have h5 : q ≤ len := h3.2.1
        cases o with
        | none => exact ⟨by show p ≤ q; omega, h5⟩
        | some cv2 =>
          have := ih q (jV (-18) cv cv2) h5 (by omega)
          show p ≤ (pPart b len U n q (jV (-18) cv cv2)).1 ∧ (pPart b len U n q (jV (-18) cv cv2)).1 ≤ len
          omega
    · rw [if_neg ho]; exact ⟨Nat.le_refl _, hp⟩
theorem pCondL_good {b : Nat → Nat} {len : Nat} {U : Nat → pR} (ha : ∀ p, p ≤ len → pGood len p (U p)) : ∀ n p s acc, pGood len p s → len - s.1 < n → pGood len p (pCondL b len U n s acc) := by
  intro n
  induction n with
  | zero => intro p s acc _ h; omega
  | succ n ih =>
    intro p s acc hs hn
    unfold pCondL
    obtain ⟨q, o⟩ := s
    have h2 : p ≤ q := hs.1
    have h3 : q ≤ len := hs.2.1
    have hn : len - q < n + 1 := hn
    cases o with
    | none => exact ⟨h2, h3, fun cv h => by cases h⟩
    | some cv =>
      have h4 : p < q := hs.2.2 cv rfl
      have h5 := pPart_good (b := b) ha (len + 1) q cv h3 (by omega)
      show pGood len p (match pPart b len U (len + 1) q cv with | (q2, none) => (q2, none) | (q2, some cv2) => if sg b len q2 = some 124 then _ else _)
      cases ht : pPart b len U (len + 1) q cv with
      | mk q2 o2 =>
        rw [ht] at h5
        have h6 : q ≤ q2 := h5.1
        have h7 : q2 ≤ len := h5.2
        cases o2 with
        | none => exact ⟨by show p ≤ q2; omega, h7, fun cv h => by cases h⟩
        | some cv2 =>
          show pGood len p (if sg b len q2 = some 124 then pCondL b len U n (U (nx b len (q2 + 1))) _ else (q2, some _))
          by_cases ho : sg b len q2 = some 124
          · rw [if_pos ho]
            have hlt := (sg_lt ho).1
            have h8 := nx_le (b := b) (show q2 + 1 ≤ len by omega)
            have h10 := ha (nx b len (q2 + 1)) h8.2
            have h9 := ih (nx b len (q2 + 1)) (U (nx b len (q2 + 1))) (some (jO acc cv2)) h10 (by have := h10.1; omega)
            obtain ⟨a1, a2, a3⟩ := h9
            exact ⟨by omega, a2, fun cv h => by have := a3 cv h; omega⟩
          · rw [if_neg ho]; exact ⟨by show p ≤ q2; omega, h7, fun _ _ => by show p < q2; omega⟩
theorem pUnit_good {b : Nat → Nat} {len : Nat} : ∀ r p, p ≤ len → pGood len p (pUnit b len r p) := by
  intro r
  induction r with
  | zero =>
    intro p hp
    unfold pUnit
    by_cases h : sg b len p = some 33 ∨ sg b len p = some 40
    · rw [if_pos h]; exact ⟨Nat.le_refl _, hp, fun cv h => by cases h⟩
    · rw [if_neg h]; exact pSC_good hp
  | succ r ih =>
    intro p hp
    unfold pUnit
    by_cases h33 : sg b len p = some 33
    · rw [if_pos h33]
      have hlt := (sg_lt h33).1
      have h2 := nx_le (b := b) (show p + 1 ≤ len by omega)
      have h3 := ih _ h2.2
      cases hat : pUnit b len r (nx b len (p + 1)) with
      | mk q o =>
        rw [hat] at h3
        have h4 : nx b len (p + 1) ≤ q := h3.1
        have h5 : q ≤ len := h3.2.1
        cases o with
        | none => exact ⟨by show p ≤ q; omega, h5, fun cv h => by cases h⟩
        | some cv => exact ⟨by show p ≤ q; omega, h5, fun _ _ => by show p < q; omega⟩
    · rw [if_neg h33]
      by_cases h40 : sg b len p = some 40
      · rw [if_pos h40]
        have hlt := (sg_lt h40).1
        have h2 := nx_le (b := b) (show p + 1 ≤ len by omega)
        have h3 := ih _ h2.2
        have h6 := pCondL_good (b := b) ih (len + 1) (nx b len (p + 1)) (pUnit b len r (nx b len (p + 1))) none h3 (by omega)
        cases hat : pCondL b len (pUnit b len r) (len + 1) (pUnit b len r (nx b len (p + 1))) none with
        | mk q o =>
          rw [hat] at h6
          have h4 : nx b len (p + 1) ≤ q := h6.1
          have h5 : q ≤ len := h6.2.1
          cases o with
          | none => exact ⟨by show p ≤ q; omega, h5, fun cv h => by cases h⟩
          | some cv =>
            show pGood len p (if sg b len q = some 41 then (nx b len (q + 1), some cv) else (q, none))
            by_cases h41 : sg b len q = some 41
            · rw [if_pos h41]
              have h8 := sg_lt h41
              have h9 := nx_le (b := b) (show q + 1 ≤ len by omega)
              exact ⟨by show p ≤ nx b len (q + 1); omega, h9.2, fun _ _ => by show p < nx b len (q + 1); omega⟩
            · rw [if_neg h41]; exact ⟨by show p ≤ q; omega, h5, fun cv h => by cases h⟩
      · rw [if_neg h40]; exact pSC_good hp
