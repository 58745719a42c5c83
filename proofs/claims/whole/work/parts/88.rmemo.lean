/-! the reference's law and what it remembers -/
theorem pLaw_bd {La : gz_L} {lt : Nat → Int} {b : Nat → Nat} {len : Nat} (hlt : LtOk lt) : ∀ n p (acc : pD), p ≤ len → (∀ x, acc.2 lt = some x → Bd6 x) → ∀ d, (pLaw b len n p acc).2 = some d → ∀ x, d.2 lt = some x → Bd6 x := by
  intro n
  induction n with
  | zero => intro p acc _ _ d h; cases h
  | succ n ih =>
    intro p acc hp hacc d
    rw [pLaw_eq]
    by_cases h121 : sg b len p = some 121
    · rw [if_pos h121]
      have hl1 := (sg_lt h121).1
      have hx1 := nx_le (b := b) (show p + 1 ≤ len by omega)
      by_cases h58 : sg b len (nx b len (p + 1)) = some 58
      · rw [if_pos h58]
        have hl2 := (sg_lt h58).1
        have hx2 := nx_le (b := b) (show nx b len (p + 1) + 1 ≤ len by omega)
        have hs := pClause_sem (La := La) (b := b) hlt hx2.2
        have hg := pClause_good (b := b) hx2.2
        cases hc : pClause b len (nx b len (nx b len (p + 1) + 1)) with
        | mk q o =>
          rw [hc] at hs hg
          cases o with
          | none => intro h; cases h
          | some c =>
            show (if sg b len q = none then ((q, some (dC acc c)) : Nat × Option pD) else if sg b len q = some 59 then pLaw b len n (nx b len (q + 1)) (dC acc c) else (q, none)).2 = some d → _
            have hst : ∀ x, (dC acc c).2 lt = some x → Bd6 x := by
              intro x hx
              have hx : (match acc.2 lt with | some x => some x | none => if c.2.1 lt = 1 then some (c.2.2 lt) else none) = some x := hx
              cases ha : acc.2 lt with
              | some y => rw [ha] at hx; cases hx; exact hacc _ ha
              | none =>
                rw [ha] at hx
                have hx : (if c.2.1 lt = 1 then some (c.2.2 lt) else none) = some x := hx
                split at hx
                · cases hx; exact (hs c rfl).1
                · cases hx
            by_cases hz : sg b len q = none
            · rw [if_pos hz]; intro h; cases h; exact hst
            · rw [if_neg hz]
              by_cases h59 : sg b len q = some 59
              · rw [if_pos h59]
                have hl3 := (sg_lt h59).1
                have hx3 := nx_le (b := b) (show q + 1 ≤ len by omega)
                exact ih (nx b len (q + 1)) (dC acc c) hx3.2 hst d
              · rw [if_neg h59]; intro h; cases h
      · rw [if_neg h58]; intro h; cases h
    · rw [if_neg h121]; intro h; cases h
def lawD (l : List Nat) : (Nat → Int) → Option Int := match (pLawT (tb l) l.length).2 with
  | some d => d.2
  | none => fun _ => none
theorem lawD_eq {l : List Nat} {d : pD} (h : (pLawT (tb l) l.length).2 = some d) : lawD l = d.2 := by unfold lawD; rw [h]
theorem lawD_bd {La : gz_L} {l : List Nat} {lt : Nat → Int} (hlt : LtOk lt) : Bd6 ((lawD l lt).getD 0) := by
  cases h : (pLawT (tb l) l.length).2 with
  | none => unfold lawD; rw [h]; show Bd6 0; exact ⟨by decide, by decide⟩
  | some d =>
    rw [lawD_eq h]
    have h1 := pLaw_bd (La := La) hlt (l.length + 1) (nx (tb l) l.length 0) ([], fun _ => none) (nx_le (Nat.zero_le _)).2 (fun x hx => by cases hx) d h
    cases hd : d.2 lt with
    | none => show Bd6 0; exact ⟨by decide, by decide⟩
    | some x => exact h1 x hd
theorem tdiv4 (z : Int) : z.tdiv 4 = if 0 ≤ z then z / 4 else -((-z) / 4) := by
  by_cases h : 0 ≤ z
  · rw [if_pos h, Int.tdiv_eq_ediv_of_nonneg h]
  · rw [if_neg h]
    have e : z.tdiv 4 = -((-z).tdiv 4) := by rw [Int.neg_tdiv, Int.neg_neg]
    rw [e, Int.tdiv_eq_ediv_of_nonneg (by omega)]
theorem iI_div4 {z : Int} (h : -2147483648 ≤ z ∧ z < 2147483648) : iI z / iI 4 = iI (z.tdiv 4) :=
  (Int32.ofInt_tdiv (by have : Int32.minValue.toInt = -2147483648 := rfl; omega) (by have : Int32.maxValue.toInt = 2147483647 := rfl; omega) (by have : Int32.minValue.toInt = -2147483648 := rfl; omega) (by have : Int32.maxValue.toInt = 2147483647 := rfl; omega)).symm
theorem r_mod4 {z : Int} (hz : Bd6 z) : (((iI z - iI z / 4 * 4) + 4) - ((iI z - iI z / 4 * 4) + 4) / 4 * 4) = nI (z % 4).toNat := by
  have h1 := hz.1
  have h2 := hz.2
  have e4 : (4 : Int32) = iI 4 := rfl
  have eA : (iI z - iI z / 4 * 4) + 4 = iI (z - z.tdiv 4 * 4 + 4) := by
    rw [e4, iI_div4 (by omega)]
    unfold iI
    rw [← Int32.ofInt_mul, ← Int32.ofInt_sub, ← Int32.ofInt_add]
  rw [eA]
  have hb : -2147483648 ≤ z - z.tdiv 4 * 4 + 4 ∧ z - z.tdiv 4 * 4 + 4 < 2147483648 := by
    rw [tdiv4]; split <;> omega
  rw [e4, iI_div4 hb]
  unfold iI
  rw [← Int32.ofInt_mul, ← Int32.ofInt_sub]
  show iI _ = _
  rw [← iI_n]
  congr 1
  rw [tdiv4 (z - z.tdiv 4 * 4 + 4), tdiv4 z]
  split <;> split <;> omega
/-! the key -/
def mkey (L b a r p n h : Nat) : Nat := 24 * (100 * (5 * (4 * (4 * (4 * (1 + L) + b) + a) + r) + p) + n) + h
theorem dm_inj {m x y a b : Nat} (ha : a < m) (hb : b < m) (h : m * x + a = m * y + b) : x = y ∧ a = b := by
  have h1 : (m * x + a) / m = x := by rw [Nat.mul_add_div (by omega), Nat.div_eq_of_lt ha, Nat.add_zero]
  have h2 : (m * y + b) / m = y := by rw [Nat.mul_add_div (by omega), Nat.div_eq_of_lt hb, Nat.add_zero]
  have e : x = y := by rw [← h1, ← h2, h]
  subst e
  exact ⟨rfl, by omega⟩
theorem mkey_inj {L b a r p n h L' b' a' r' p' n' h' : Nat} (k1 : b < 4 ∧ a < 4 ∧ r < 4 ∧ p < 5 ∧ n < 100 ∧ h < 24) (k2 : b' < 4 ∧ a' < 4 ∧ r' < 4 ∧ p' < 5 ∧ n' < 100 ∧ h' < 24) (he : mkey L b a r p n h = mkey L' b' a' r' p' n' h') :
    L = L' ∧ b = b' ∧ a = a' ∧ r = r' ∧ p = p' ∧ n = n' ∧ h = h' := by
  unfold mkey at he
  obtain ⟨e1, f1⟩ := dm_inj k1.2.2.2.2.2 k2.2.2.2.2.2 he
  obtain ⟨e2, f2⟩ := dm_inj k1.2.2.2.2.1 k2.2.2.2.2.1 e1
  obtain ⟨e3, f3⟩ := dm_inj k1.2.2.2.1 k2.2.2.2.1 e2
  obtain ⟨e4, f4⟩ := dm_inj k1.2.2.1 k2.2.2.1 e3
  obtain ⟨e5, f5⟩ := dm_inj k1.2.1 k2.2.1 e4
  obtain ⟨e6, f6⟩ := dm_inj k1.1 k2.1 e5
  exact ⟨by omega, f6, f5, f4, f3, f2, f1⟩
def MI (g : gz_S) (Ls : List (List Nat)) : Prop := ∀ s, s < 8191 → g.1 55 s = nI 0 ∨ ∃ L b a r p n h, L < Ls.length ∧ (b < 4 ∧ a < 4 ∧ r < 4 ∧ p < 5 ∧ n < 100 ∧ h < 24) ∧ g.1 55 s = nI (mkey L b a r p n h) ∧ g.1 56 s = nI (lawT (lawD (Ls.getD L [])) b a r p n h)
def RLw (g : gz_S) (Ls : List (List Nat)) (cur : Option Nat) : Prop :=
  (g.1 39 7 = nI Ls.length ∧ Ls.length ≤ 4) ∧ (∀ L, L < Ls.length → Byt g 41 (240 * L) (tb (Ls.getD L [])) (Ls.getD L []).length ∧ g.1 42 L = nI (Ls.getD L []).length ∧ ∃ d, (pLawT (tb (Ls.getD L [])) (Ls.getD L []).length).2 = some d) ∧
  MI g Ls ∧ (∃ lt, LtOk lt ∧ LL g lt) ∧ g.1 39 34 = oI cur ∧ ∀ L, cur = some L → L < Ls.length
def sTof (Ls : List (List Nat)) (cur : Option Nat) : sT := cur.map (fun L => lawT (lawD (Ls.getD L [])))
theorem sTof_lt {Ls : List (List Nat)} {cur : Option Nat} : TLt (sTof Ls cur) := by
  intro t ht b a r p n h
  cases cur with
  | none => cases ht
  | some L => cases ht; show (lawV _ b a r p n h % 4).toNat < 4; omega
section RW
variable {g : gz_S} {Ls : List (List Nat)} {cur : Option Nat} {La : gz_L}
theorem RLw.fr {K S : Nat → Prop} {g' : gz_S} (h : RLw g Ls cur) (hF : Fy K S g g') (k7 : ¬ K 7) (k34 : ¬ K 34) (s41 : ¬ S 41) (s42 : ¬ S 42) (s43 : ¬ S 43) (s55 : ¬ S 55) (s56 : ¬ S 56) : RLw g' Ls cur := by
  unfold RLw MI LL Byt
  rw [hF.2.1 7 k7, hF.2.1 34 k34, hF.1 41 (by omega) s41, hF.1 42 (by omega) s42, hF.1 43 (by omega) s43, hF.1 55 (by omega) s55, hF.1 56 (by omega) s56]
  exact h
abbrev KL : Nat → Prop := fun k => 8 ≤ k ∧ k ≤ 14 ∨ k = 17
abbrev SL : Nat → Prop := fun j => j = 43 ∨ j = 55 ∨ j = 56
theorem r_worthOf {L b a r p n h : Nat} (hR : RLw g Ls (some L)) (hb : b < 4 ∧ a < 4 ∧ r < 4 ∧ p < 5 ∧ n < 100 ∧ h < 24) :
    ∃ g', fX12_worthOf La (nI b) (nI a) (nI r) (nI p) (nI n) (nI h) g = some (nI (lawT (lawD (Ls.getD L [])) b a r p n h), g') ∧ Fy KL SL g g' ∧ RLw g' Ls (some L) := by
  obtain ⟨⟨r7, r7'⟩, rT, rM, ⟨lt0, rl0, rl1⟩, r34, rc⟩ := hR
  have r34 : g.1 39 34 = nI L := r34
  have hL := rc L rfl
  have hkey : mkey L b a r p n h < 10000000 := by unfold mkey; omega
  have hkey1 : 1 ≤ mkey L b a r p n h := by unfold mkey; omega
  have hm : mkey L b a r p n h % 8191 < 8191 := Nat.mod_lt _ (by omega)
  unfold fX12_worthOf
  simp only [gz_let_eq, r34, show (1 : Int32) = nI 1 from rfl, show (4 : Int32) = nI 4 from rfl, show (5 : Int32) = nI 5 from rfl, show (100 : Int32) = nI 100 from rfl, show (24 : Int32) = nI 24 from rfl, show (8191 : Int32) = nI 8191 from rfl, n_add, n_mul]
  rw [show 24 * (100 * (5 * (4 * (4 * (4 * (1 + L) + b) + a) + r) + p) + n) + h = mkey L b a r p n h from rfl]
  rw [show nI (mkey L b a r p n h) - nI (mkey L b a r p n h) / nI 8191 * nI 8191 = nI (mkey L b a r p n h % 8191) from n_mod (by omega) (by omega)]
  have hsp := rM (mkey L b a r p n h % 8191) hm
  generalize hs : mkey L b a r p n h % 8191 = s at *
  rw [if_pos (n_okP hm (by omega))]
  simp only [n_cl (show s < 2147483648 by omega)]
  by_cases c0 : g.1 55 s = nI (mkey L b a r p n h)
  · rw [if_pos c0, if_pos (n_okP hm (by omega))]
    have hv : g.1 56 s = nI (lawT (lawD (Ls.getD L [])) b a r p n h) := by
      rcases hsp with h0 | ⟨L', b', a', r', p', n', h', q1, q2, q3, q4⟩
      · rw [h0, n_eq (by omega) (by omega)] at c0; omega
      · have hk2 : mkey L' b' a' r' p' n' h' < 10000000 := by unfold mkey; omega
        rw [q3, n_eq (by omega) (by omega)] at c0
        obtain ⟨e1, e2, e3, e4, e5, e6, e7⟩ := mkey_inj q2 hb c0
        subst e1 e2 e3 e4 e5 e6 e7
        exact q4
    exact ⟨g, by rw [hv], Fy.z0, ⟨r7, r7'⟩, rT, rM, ⟨lt0, rl0, rl1⟩, r34, rc⟩
  · rw [if_neg c0]
    have hltF := ltF_ok hb.1 hb.2.1 hb.2.2.1 hb.2.2.2.1 hb.2.2.2.2.1 hb.2.2.2.2.2
    have F1 : Fy KL SL g (gz_wi (gz_wi (gz_wi (gz_wi (gz_wi (gz_wi g 43 98 (nI b)) 43 97 (nI a)) 43 114 (nI r)) 43 112 (nI p)) 43 110 (nI n)) 43 116 (nI h)) :=
      (((((Fy.z0.s (by omega) (Or.inl rfl)).s (by omega) (Or.inl rfl)).s (by omega) (Or.inl rfl)).s (by omega) (Or.inl rfl)).s (by omega) (Or.inl rfl)).s (by omega) (Or.inl rfl)
    have hLL : LL (gz_wi (gz_wi (gz_wi (gz_wi (gz_wi (gz_wi g 43 98 (nI b)) 43 97 (nI a)) 43 114 (nI r)) 43 112 (nI p)) 43 110 (nI n)) 43 116 (nI h)) (ltF b a r p n h) := by
      intro k hk
      have : k = 0 ∨ k = 1 ∨ k = 2 ∨ k = 3 ∨ k = 4 ∨ k = 5 := by omega
      rcases this with rfl | rfl | rfl | rfl | rfl | rfl
      · show _ = iI ((b : Nat) : Int); rw [iI_n]; rfl
      · show _ = iI ((a : Nat) : Int); rw [iI_n]; rfl
      · show _ = iI ((r : Nat) : Int); rw [iI_n]; rfl
      · show _ = iI ((p : Nat) : Int); rw [iI_n]; rfl
      · show _ = iI ((n : Nat) : Int); rw [iI_n]; rfl
      · show _ = iI ((h : Nat) : Int); rw [iI_n]; rfl
    have e55a : (gz_wi (gz_wi (gz_wi (gz_wi (gz_wi (gz_wi g 43 98 (nI b)) 43 97 (nI a)) 43 114 (nI r)) 43 112 (nI p)) 43 110 (nI n)) 43 116 (nI h)).1 55 = g.1 55 := by
      rw [wi_no (by omega), wi_no (by omega), wi_no (by omega), wi_no (by omega), wi_no (by omega), wi_no (by omega)]
    have e56a : (gz_wi (gz_wi (gz_wi (gz_wi (gz_wi (gz_wi g 43 98 (nI b)) 43 97 (nI a)) 43 114 (nI r)) 43 112 (nI p)) 43 110 (nI n)) 43 116 (nI h)).1 56 = g.1 56 := by
      rw [wi_no (by omega), wi_no (by omega), wi_no (by omega), wi_no (by omega), wi_no (by omega), wi_no (by omega)]
    have e41 : (gz_wi (gz_wi (gz_wi (gz_wi (gz_wi (gz_wi g 43 98 (nI b)) 43 97 (nI a)) 43 114 (nI r)) 43 112 (nI p)) 43 110 (nI n)) 43 116 (nI h)).1 41 = g.1 41 := F1.1 41 (by omega) (by omega)
    have e42 : (gz_wi (gz_wi (gz_wi (gz_wi (gz_wi (gz_wi g 43 98 (nI b)) 43 97 (nI a)) 43 114 (nI r)) 43 112 (nI p)) 43 110 (nI n)) 43 116 (nI h)).1 42 = g.1 42 := F1.1 42 (by omega) (by omega)
    have e34 : (gz_wi (gz_wi (gz_wi (gz_wi (gz_wi (gz_wi g 43 98 (nI b)) 43 97 (nI a)) 43 114 (nI r)) 43 112 (nI p)) 43 110 (nI n)) 43 116 (nI h)).1 39 34 = nI L := (F1.2.1 34 (by omega)).trans r34
    generalize gz_wi (gz_wi (gz_wi (gz_wi (gz_wi (gz_wi g 43 98 (nI b)) 43 97 (nI a)) 43 114 (nI r)) 43 112 (nI p)) 43 110 (nI n)) 43 116 (nI h) = g1 at *
    obtain ⟨t1, t2, d, t3⟩ := rT L hL
    have hByt : Byt g1 41 (240 * L) (tb (Ls.getD L [])) (Ls.getD L []).length := by unfold Byt; rw [e41]; exact t1
    obtain ⟨g2, u1, u2, u3, u4⟩ := r_goThrough (La := La) (S := S0) hltF hLL hByt
    obtain ⟨u5, u6⟩ := u4 d t3
    have F2 : Fy KL SL g g2 := F1.tr (u2.y.mo (fun k hk => hk) (fun j hj => absurd hj id))
    have e43 : g2.1 43 = g1.1 43 := u2.1 43 (by omega) id
    have e55 : g2.1 55 = g.1 55 := by
      rw [u2.1 55 (by omega) id]; exact e55a
    have e56 : g2.1 56 = g.1 56 := by
      rw [u2.1 56 (by omega) id]; exact e56a
    have hv : ((((iI ((d.2 (ltF b a r p n h)).getD 0)) - (iI ((d.2 (ltF b a r p n h)).getD 0)) / 4 * 4) + 4) - (((iI ((d.2 (ltF b a r p n h)).getD 0)) - (iI ((d.2 (ltF b a r p n h)).getD 0)) / 4 * 4) + 4) / 4 * 4) = nI (lawT (lawD (Ls.getD L [])) b a r p n h) := by
      have hbd := lawD_bd (La := La) (l := Ls.getD L []) hltF
      rw [lawD_eq t3] at hbd ⊢
      exact r_mod4 hbd
    have e34' : g2.1 39 34 = nI L := (u2.2.1 34 (by omega)).trans e34
    have F3 : Fy KL SL g (gz_wi (gz_wi g2 55 s (nI (mkey L b a r p n h))) 56 s (nI (lawT (lawD (Ls.getD L [])) b a r p n h))) := (F2.s (by omega) (Or.inr (Or.inl rfl))).s (by omega) (Or.inr (Or.inr rfl))
    refine ⟨gz_wi (gz_wi g2 55 s (nI (mkey L b a r p n h))) 56 s (nI (lawT (lawD (Ls.getD L [])) b a r p n h)), ?_, F3, ⟨(F3.2.1 7 (by omega)).trans r7, r7'⟩, ?_, ?_, ⟨ltF b a r p n h, hltF, fun k hk => ?_⟩, (F3.2.1 34 (by omega)).trans r34, rc⟩
    · rw [e34, if_pos (n_okP (by omega) (by omega))]
      simp only [n_cl (show L < 2147483648 by omega), n_mul]
      rw [e42, t2]
      rw [show (240 : Int32) * nI L = nI (240 * L) from n_mul 240 L, u1, Option.bind_some, if_pos (n_okP hm (by omega)), if_pos (n_okP hm (by omega)), if_pos (n_okP hm (by omega))]
      have e14 : (gz_wi g2 55 s (nI (mkey L b a r p n h))).1 39 14 = iI ((d.2 (ltF b a r p n h)).getD 0) := by rw [wi_39 (by omega)]; exact u6
      rw [e14]
      have hv' : (iI ((d.2 (ltF b a r p n h)).getD 0) - iI ((d.2 (ltF b a r p n h)).getD 0) / nI 4 * nI 4 + nI 4 - (iI ((d.2 (ltF b a r p n h)).getD 0) - iI ((d.2 (ltF b a r p n h)).getD 0) / nI 4 * nI 4 + nI 4) / nI 4 * nI 4) = nI (lawT (lawD (Ls.getD L [])) b a r p n h) := hv
      rw [hv', wi_ss]
    · intro L' hL'
      unfold Byt
      rw [F3.1 41 (by omega) (by omega), F3.1 42 (by omega) (by omega)]
      exact rT L' hL'
    · intro s' hs'
      by_cases c : s' = s
      · subst c
        refine Or.inr ⟨L, b, a, r, p, n, h, hL, hb, ?_, wi_ss⟩
        rw [wi_no (by omega), wi_ss]
      · rw [wi_no (by omega), wi_sn c, wi_sn c, wi_no (by omega), e55, e56]
        exact rM s' hs'
    · rw [wi_no (by omega), wi_no (by omega), e43]; exact hLL k hk
end RW
