/-! a law or an evening more in the one world -/
def gz_a2 (a : Nat → Nat) (j1 j2 z1 z2 : Nat) : Nat → Nat := fun j => if j = j1 then z1 else if j = j2 then z2 else a j
theorem gz_a2o {a : Nat → Nat} {j1 j2 z1 z2 j : Nat} (h1 : j ≠ j1) (h2 : j ≠ j2) : gz_a2 a j1 j2 z1 z2 j = a j := by
  unfold gz_a2; rw [if_neg h1, if_neg h2]
theorem gz_a21 {a : Nat → Nat} {j1 j2 z1 z2 : Nat} : gz_a2 a j1 j2 z1 z2 j1 = z1 := if_pos rfl
theorem gz_a22 {a : Nat → Nat} {j1 j2 z1 z2 : Nat} (h : j2 ≠ j1) : gz_a2 a j1 j2 z1 z2 j2 = z2 := by
  unfold gz_a2; rw [if_neg h, if_pos rfl]
section LW
variable {cs : Nat → ClassId} {La : gz_L} {a : Nat → Nat} {g : gz_S} {n z1 z2 : Nat} {f : Nat → Int32}
theorem lw_kd {j : Nat} (hk : La.1 < 4) (hj : j ∈ gz_lv La) : gz_kd (gz_Lw La n) j = gz_kd La j := by
  rw [gz_mlv] at hj
  unfold gz_kd gz_Lw
  by_cases c1 : j < 64
  · rw [if_pos c1, if_pos c1]
  rw [if_neg c1, if_neg c1]
  by_cases c2 : 100 ≤ j ∧ j < 108 ∧ j < 100 + 2 * La.1
  · rw [if_pos (show 100 ≤ j ∧ j < 108 ∧ j < 100 + 2 * (La.1 + 1) by omega), if_pos c2]
    by_cases c3 : (j - 100) % 2 = 0
    · rw [if_pos c3, if_pos c3]
    · rw [if_neg c3, if_neg c3]
      show (1, if j = 101 + 2 * La.1 then n else La.2.2 j) = (1, La.2.2 j)
      rw [if_neg (by omega)]
  rw [if_neg (show ¬ (100 ≤ j ∧ j < 108 ∧ j < 100 + 2 * (La.1 + 1)) by omega), if_neg c2]
  show (if 110 ≤ j ∧ j < 118 ∧ j < 110 + 2 * La.2.1 then (if (j - 110) % 2 = 0 then (0, 0) else (1, if j = 101 + 2 * La.1 then n else La.2.2 j)) else (9, 0)) = _
  rw [if_neg (show ¬ j = 101 + 2 * La.1 by omega)]
theorem lw_ce {j : Nat} (hk : La.1 < 4) (hE : La.2.1 ≤ 4) (h0 : (g.2.2 0).getD 0 < 100 + 2 * La.1) (h1 : (g.2.2 1).getD 0 < 100) (hj : j ∈ gz_lv La) (hn : j ≠ 12) :
    gz_ce cs (gz_Lw La n) (gz_a2 a (100 + 2 * La.1) (101 + 2 * La.1) z1 z2) (gz_wa g (101 + 2 * La.1) f) j = gz_ce cs La a g j := by
  have hj' := gz_mlv.mp hj
  refine gz_ce_cg (lw_kd hk hj) (wa_ne (by omega)) rfl (fun hkk => gz_rf_cg hj ⟨by omega, hE⟩ hkk (fun e => absurd e hn) (fun _ => rfl) rfl (fun i hi => gz_a2o ?_ ?_) ?_ h1)
  · rcases hi with h | h | h
    · omega
    · omega
    · have := gz_mlv.mp h; omega
  · rcases hi with h | h | h
    · omega
    · omega
    · have := gz_mlv.mp h; omega
  · by_cases c : (g.2.2 0).getD 0 < 100
    · exact Or.inl c
    · exact Or.inr (gz_mlv.mpr (by omega))
theorem lw_ce12 (hk : La.1 < 4) (hE : La.2.1 ≤ 4) : gz_ce cs (gz_Lw La n) (gz_a2 a (100 + 2 * La.1) (101 + 2 * La.1) z1 z2) (gz_wa g (101 + 2 * La.1) f) 12 = .inl (cs 3, 4, .inr (.inr (.inr (.inr (va_up (fun i => (gz_rf La g 12 i).map a) La.1 (some z1)))))) := by
  have e : gz_ce cs (gz_Lw La n) (gz_a2 a (100 + 2 * La.1) (101 + 2 * La.1) z1 z2) (gz_wa g (101 + 2 * La.1) f) 12 = .inl (cs 3, 4, .inr (.inr (.inr (.inr (fun i => (gz_rf (gz_Lw La n) (gz_wa g (101 + 2 * La.1) f) 12 i).map (gz_a2 a (100 + 2 * La.1) (101 + 2 * La.1) z1 z2)))))) := rfl
  rw [e]
  have e2 : (fun i => (gz_rf (gz_Lw La n) (gz_wa g (101 + 2 * La.1) f) 12 i).map (gz_a2 a (100 + 2 * La.1) (101 + 2 * La.1) z1 z2)) = va_up (fun i => (gz_rf La g 12 i).map a) La.1 (some z1) := by
    funext i
    have r1 : gz_rf (gz_Lw La n) (gz_wa g (101 + 2 * La.1) f) 12 i = if i < La.1 + 1 then some (100 + 2 * i) else none := by
      unfold gz_rf; rw [if_neg (by omega), if_neg (by omega), if_pos (by omega), if_pos rfl]; rfl
    have r2 : gz_rf La g 12 i = if i < La.1 then some (100 + 2 * i) else none := by
      unfold gz_rf; rw [if_neg (by omega), if_neg (by omega), if_pos (by omega), if_pos rfl]
    show Option.map _ _ = (if i = La.1 then some z1 else Option.map a (gz_rf La g 12 i))
    rw [r1, r2]
    by_cases c : i = La.1
    · rw [if_pos (by omega), if_pos c, c]; exact congrArg some gz_a21
    · rw [if_neg c]
      by_cases c2 : i < La.1
      · rw [if_pos (by omega), if_pos c2]; exact congrArg some (gz_a2o (by omega) (by omega))
      · rw [if_neg (by omega), if_neg c2]; rfl
  rw [e2]
theorem lw_ce1 (hk : La.1 < 4) : gz_ce cs (gz_Lw La n) (gz_a2 a (100 + 2 * La.1) (101 + 2 * La.1) z1 z2) (gz_wa g (101 + 2 * La.1) f) (100 + 2 * La.1) = .inr (3, [.ref z2]) := by
  have hkd : gz_kd (gz_Lw La n) (100 + 2 * La.1) = (0, 3) := kdW ⟨by omega, by show 100 + 2 * La.1 < 100 + 2 * (La.1 + 1); omega, by omega, by omega⟩
  rw [gz_ceO hkd]
  have e : gz_fv (gz_Lw La n) (gz_a2 a (100 + 2 * La.1) (101 + 2 * La.1) z1 z2) (gz_wa g (101 + 2 * La.1) f) (100 + 2 * La.1) 3 0 = .ref z2 := by
    have hr : gz_rf (gz_Lw La n) (gz_wa g (101 + 2 * La.1) f) (100 + 2 * La.1) 0 = some (100 + 2 * La.1 + 1) := rfW ⟨by omega, by show 100 + 2 * La.1 < 100 + 2 * (La.1 + 1); omega, by omega, by omega⟩
    unfold gz_fv
    rw [if_neg (by decide), if_neg (by decide), hr]
    show Value.ref (gz_a2 a (100 + 2 * La.1) (101 + 2 * La.1) z1 z2 (100 + 2 * La.1 + 1)) = _
    rw [show 100 + 2 * La.1 + 1 = 101 + 2 * La.1 by omega, gz_a22 (by omega)]
  show Sum.inr (3, [gz_fv (gz_Lw La n) (gz_a2 a (100 + 2 * La.1) (101 + 2 * La.1) z1 z2) (gz_wa g (101 + 2 * La.1) f) (100 + 2 * La.1) 3 0]) = _
  rw [e]
theorem lw_ce2 (hk : La.1 < 4) : gz_ce cs (gz_Lw La n) (gz_a2 a (100 + 2 * La.1) (101 + 2 * La.1) z1 z2) (gz_wa g (101 + 2 * La.1) f) (101 + 2 * La.1) = .inl (cs 0, n, .inl f) := by
  have hkd : gz_kd (gz_Lw La n) (100 + 2 * La.1 + 1) = (1, (gz_Lw La n).2.2 (100 + 2 * La.1 + 1)) := kdWc ⟨by omega, by show 100 + 2 * La.1 < 100 + 2 * (La.1 + 1); omega, by omega, by omega⟩
  rw [show 100 + 2 * La.1 + 1 = 101 + 2 * La.1 by omega] at hkd
  rw [gz_ce1 hkd, wa_at]
  show Sum.inl (cs 0, (if 101 + 2 * La.1 = 101 + 2 * La.1 then n else _), _) = _
  rw [if_pos rfl]
theorem le_kd {j : Nat} (hk : La.2.1 < 4) (hL : La.1 ≤ 4) (hj : j ∈ gz_lv La) : gz_kd (gz_Le La n) j = gz_kd La j := by
  rw [gz_mlv] at hj
  unfold gz_kd gz_Le
  by_cases c1 : j < 64
  · rw [if_pos c1, if_pos c1]
  rw [if_neg c1, if_neg c1]
  show (if 100 ≤ j ∧ j < 108 ∧ j < 100 + 2 * La.1 then (if (j - 100) % 2 = 0 then (0, 3) else (1, if j = 111 + 2 * La.2.1 then n else La.2.2 j)) else (if 110 ≤ j ∧ j < 118 ∧ j < 110 + 2 * (La.2.1 + 1) then (if (j - 110) % 2 = 0 then (0, 0) else (1, if j = 111 + 2 * La.2.1 then n else La.2.2 j)) else (9, 0))) = _
  rw [if_neg (show ¬ j = 111 + 2 * La.2.1 by omega)]
  by_cases c2 : 100 ≤ j ∧ j < 108 ∧ j < 100 + 2 * La.1
  · rw [if_pos c2, if_pos c2]
  rw [if_neg c2, if_neg c2, if_pos (show 110 ≤ j ∧ j < 118 ∧ j < 110 + 2 * (La.2.1 + 1) by omega), if_pos (show 110 ≤ j ∧ j < 118 ∧ j < 110 + 2 * La.2.1 by omega)]
theorem le_ce {j : Nat} {y : Int32} (hk : La.2.1 < 4) (hE : La.1 ≤ 4) (h0 : (g.2.2 0).getD 0 < 100 ∨ (g.2.2 0).getD 0 ∈ gz_lv La) (h1 : (g.2.2 1).getD 0 < 100) (hj : j ∈ gz_lv La) (hn : j ≠ 13) :
    gz_ce cs (gz_Le La n) (gz_a2 a (110 + 2 * La.2.1) (111 + 2 * La.2.1) z1 z2) (gz_wi (gz_wa g (111 + 2 * La.2.1) f) (110 + 2 * La.2.1) 0 y) j = gz_ce cs La a g j := by
  have hj' := gz_mlv.mp hj
  refine gz_ce_cg (le_kd hk hE hj) ((wi_no (by omega)).trans (wa_ne (by omega))) rfl (fun hkk => gz_rf_cg hj ⟨hE, by omega⟩ hkk (fun _ => rfl) (fun e => absurd e hn) rfl (fun i hi => gz_a2o ?_ ?_) h0 h1)
  · rcases hi with h | h | h
    · omega
    · omega
    · have := gz_mlv.mp h; omega
  · rcases hi with h | h | h
    · omega
    · omega
    · have := gz_mlv.mp h; omega
theorem le_ce13 {y : Int32} (hk : La.2.1 < 4) (hE : La.1 ≤ 4) : gz_ce cs (gz_Le La n) (gz_a2 a (110 + 2 * La.2.1) (111 + 2 * La.2.1) z1 z2) (gz_wi (gz_wa g (111 + 2 * La.2.1) f) (110 + 2 * La.2.1) 0 y) 13 = .inl (cs 4, 4, .inr (.inr (.inr (.inr (va_up (fun i => (gz_rf La g 13 i).map a) La.2.1 (some z1)))))) := by
  have e : gz_ce cs (gz_Le La n) (gz_a2 a (110 + 2 * La.2.1) (111 + 2 * La.2.1) z1 z2) (gz_wi (gz_wa g (111 + 2 * La.2.1) f) (110 + 2 * La.2.1) 0 y) 13 = .inl (cs 4, 4, .inr (.inr (.inr (.inr (fun i => (gz_rf (gz_Le La n) (gz_wi (gz_wa g (111 + 2 * La.2.1) f) (110 + 2 * La.2.1) 0 y) 13 i).map (gz_a2 a (110 + 2 * La.2.1) (111 + 2 * La.2.1) z1 z2)))))) := rfl
  rw [e]
  have e2 : (fun i => (gz_rf (gz_Le La n) (gz_wi (gz_wa g (111 + 2 * La.2.1) f) (110 + 2 * La.2.1) 0 y) 13 i).map (gz_a2 a (110 + 2 * La.2.1) (111 + 2 * La.2.1) z1 z2)) = va_up (fun i => (gz_rf La g 13 i).map a) La.2.1 (some z1) := by
    funext i
    have r1 : gz_rf (gz_Le La n) (gz_wi (gz_wa g (111 + 2 * La.2.1) f) (110 + 2 * La.2.1) 0 y) 13 i = if i < La.2.1 + 1 then some (110 + 2 * i) else none := by
      unfold gz_rf; rw [if_neg (by omega), if_neg (by omega), if_pos (by omega), if_neg (by omega), if_pos rfl]; rfl
    have r2 : gz_rf La g 13 i = if i < La.2.1 then some (110 + 2 * i) else none := by
      unfold gz_rf; rw [if_neg (by omega), if_neg (by omega), if_pos (by omega), if_neg (by omega), if_pos rfl]
    show Option.map _ _ = (if i = La.2.1 then some z1 else Option.map a (gz_rf La g 13 i))
    rw [r1, r2]
    by_cases c : i = La.2.1
    · rw [if_pos (by omega), if_pos c, c]; exact congrArg some gz_a21
    · rw [if_neg c]
      by_cases c2 : i < La.2.1
      · rw [if_pos (by omega), if_pos c2]; exact congrArg some (gz_a2o (by omega) (by omega))
      · rw [if_neg (by omega), if_neg c2]; rfl
  rw [e2]
theorem le_ce1 {y : Int32} (hk : La.2.1 < 4) (hL : La.1 ≤ 4) : gz_ce cs (gz_Le La n) (gz_a2 a (110 + 2 * La.2.1) (111 + 2 * La.2.1) z1 z2) (gz_wi (gz_wa g (111 + 2 * La.2.1) f) (110 + 2 * La.2.1) 0 y) (110 + 2 * La.2.1) = .inr (0, [.int y, .ref z2]) := by
  have hge : gz_ev (gz_Le La n) (110 + 2 * La.2.1) := ⟨by omega, by show 110 + 2 * La.2.1 < 110 + 2 * (La.2.1 + 1); omega, by omega, by omega⟩
  have hkd := kdE hge
  rw [gz_ceO hkd]
  have e : gz_fv (gz_Le La n) (gz_a2 a (110 + 2 * La.2.1) (111 + 2 * La.2.1) z1 z2) (gz_wi (gz_wa g (111 + 2 * La.2.1) f) (110 + 2 * La.2.1) 0 y) (110 + 2 * La.2.1) 0 1 = .ref z2 := by
    have hr : gz_rf (gz_Le La n) (gz_wi (gz_wa g (111 + 2 * La.2.1) f) (110 + 2 * La.2.1) 0 y) (110 + 2 * La.2.1) 1 = some (110 + 2 * La.2.1 + 1) := rfE hge
    unfold gz_fv
    rw [if_neg (by decide), if_neg (by decide), hr]
    show Value.ref (gz_a2 a (110 + 2 * La.2.1) (111 + 2 * La.2.1) z1 z2 (110 + 2 * La.2.1 + 1)) = _
    rw [show 110 + 2 * La.2.1 + 1 = 111 + 2 * La.2.1 by omega, gz_a22 (by omega)]
  have e0 : gz_fv (gz_Le La n) (gz_a2 a (110 + 2 * La.2.1) (111 + 2 * La.2.1) z1 z2) (gz_wi (gz_wa g (111 + 2 * La.2.1) f) (110 + 2 * La.2.1) 0 y) (110 + 2 * La.2.1) 0 0 = .int y := by
    unfold gz_fv
    rw [if_pos (by decide), wi_ss]
  show Sum.inr (0, [gz_fv (gz_Le La n) (gz_a2 a (110 + 2 * La.2.1) (111 + 2 * La.2.1) z1 z2) (gz_wi (gz_wa g (111 + 2 * La.2.1) f) (110 + 2 * La.2.1) 0 y) (110 + 2 * La.2.1) 0 0, gz_fv (gz_Le La n) (gz_a2 a (110 + 2 * La.2.1) (111 + 2 * La.2.1) z1 z2) (gz_wi (gz_wa g (111 + 2 * La.2.1) f) (110 + 2 * La.2.1) 0 y) (110 + 2 * La.2.1) 0 1]) = _
  rw [e, e0]
theorem le_ce2 {y : Int32} (hk : La.2.1 < 4) (hL : La.1 ≤ 4) : gz_ce cs (gz_Le La n) (gz_a2 a (110 + 2 * La.2.1) (111 + 2 * La.2.1) z1 z2) (gz_wi (gz_wa g (111 + 2 * La.2.1) f) (110 + 2 * La.2.1) 0 y) (111 + 2 * La.2.1) = .inl (cs 0, n, .inl f) := by
  have hkd : gz_kd (gz_Le La n) (110 + 2 * La.2.1 + 1) = (1, (gz_Le La n).2.2 (110 + 2 * La.2.1 + 1)) := kdEp ⟨by omega, by show 110 + 2 * La.2.1 < 110 + 2 * (La.2.1 + 1); omega, by omega, by omega⟩
  rw [show 110 + 2 * La.2.1 + 1 = 111 + 2 * La.2.1 by omega] at hkd
  rw [gz_ce1 hkd, wi_no (by omega), wa_at]
  show Sum.inl (cs 0, (if 111 + 2 * La.2.1 = 111 + 2 * La.2.1 then n else _), _) = _
  rw [if_pos rfl]
end LW
section GX
variable {X : gx_T} {M : gz_M} {cs : Nat → ClassId} {hh kc nc : Nat} {w : va_W} {pc : Nat} {ls : List (Option Value)} {st : List Value}
/-- aastore, and the one world has two cells more -/
theorem gy_aastW {La La' : gz_L} {a a' : Nat → Nat} {g g' : gz_S} {ix ci jA N j1 j2 z1 z2 : Nat} {vs : List Value} {e2 : va_E} {f : Nat → Option Nat} {i : Int32} (C : gx_C X M cs hh) (hd : decode M.2.1 pc = .ok (.aastore, 1)) (hi : (ix = 3 ∧ ci = 3) ∨ (ix = 4 ∧ ci = 0)) (hL : La.1 ≤ 4) (hL' : La'.1 ≤ 4) (h12 : j1 ≠ j2) (hn1 : ¬ j1 ∈ gz_lv La) (hn2 : ¬ j2 ∈ gz_lv La) (hlv : ∀ j, j ∈ gz_lv La' → j ∈ gz_lv La ∨ j = j1 ∨ j = j2) (ha1 : a' j1 = z1) (ha2 : a' j2 = z2) (hao : ∀ j, j ∈ gz_lv La → a' j = a j)
    (hA : jA ∈ gz_lv La) (hkA : gz_ce cs La a g jA = .inl (cs ix, N, .inr (.inr (.inr (.inr f))))) (hcA : gz_ce cs La' a' g' jA = .inl (cs ix, N, .inr (.inr (.inr (.inr (va_up f i.toNatClampNeg (some z1))))))) (hce : ∀ j, j ∈ gz_lv La → j ≠ jA → gz_ce cs La' a' g' j = gz_ce cs La a g j) (hc1 : gz_ce cs La' a' g' j1 = .inr (ci, vs)) (hc2 : gz_ce cs La' a' g' j2 = e2) (hin : vp_in i N)
    (nx : gx X M kc nc (gz_w cs La' a' g') (pc + 1) ls st) : gx X M kc nc (gz_w cs La a g ++ [(z1, .inr (ci, vs)), (z2, e2)]) pc ls (.ref z1 :: .int i :: .ref (a jA) :: st) := by
  obtain ⟨p, l, e, R, s, m, args, below, meth, c, D, A, Q⟩ := X
  intro H locs lsA hP hD hS hl
  obtain ⟨q, hq⟩ := List.getElem?_of_mem hA
  have hqw : (gz_w cs La a g)[q]? = some (a jA, .inl (cs ix, N, .inr (.inr (.inr (.inr f))))) := by unfold gz_w; rw [List.getElem?_map, hq, ← hkA]; rfl
  have ha := gx_geto [(z1, (.inr (ci, vs) : va_E)), (z2, e2)] hqw
  have hv : (gz_w cs La a g ++ [(z1, (.inr (ci, vs) : va_E)), (z2, e2)])[(gz_w cs La a g).length]? = some (z1, .inr (ci, vs)) := by simp
  have hv2 : (gz_w cs La a g ++ [(z1, (.inr (ci, vs) : va_E)), (z2, e2)])[(gz_w cs La a g).length + 1]? = some (z2, e2) := by simp
  have hql : q < (gz_w cs La a g).length := (List.getElem?_eq_some_iff.mp hqw).1
  have go : ∀ (H1 : Heap) (locs1 : List Loc), va_P D vwCl ((gz_w cs La a g ++ [(z1, (.inr (ci, vs) : va_E)), (z2, e2)]).set q (a jA, .inl (cs ix, N, .inr (.inr (.inr (.inr (va_up f i.toNatClampNeg (some z1)))))))) H1 → va_S A s.heap H1 locs1 → W p l e R s m args below meth c H1 locs1 kc nc Q (F0 m (pc + 1) lsA st) := by
    intro H1 locs1 hP1 hS1
    refine nx H1 locs1 lsA (fun k y hk => ?_) (gz_D2 hL hL' h12 hn1 hn2 hlv ha1 ha2 hao hD) hS1 hl
    obtain ⟨j, hj, rfl⟩ := gz_wm.mp (List.mem_of_getElem? hk)
    have hlen : q < (gz_w cs La a g ++ [(z1, (.inr (ci, vs) : va_E)), (z2, e2)]).length := (List.getElem?_eq_some_iff.mp ha).1
    rcases hlv j hj with h | h | h
    · by_cases c : j = jA
      · subst c
        rw [hcA, hao j h]
        exact hP1 q _ (by rw [List.getElem?_set, if_pos rfl, if_pos hlen])
      · rw [hce j h c, hao j h]
        obtain ⟨i2, hi2⟩ := List.getElem?_of_mem h
        have hw2 : (gz_w cs La a g)[i2]? = some (a j, gz_ce cs La a g j) := by unfold gz_w; rw [List.getElem?_map, hi2]; rfl
        have hne : ¬ q = i2 := fun he => by
          subst he
          rw [hq] at hi2
          cases hi2
          exact c rfl
        exact hP1 i2 _ (by rw [List.getElem?_set, if_neg hne]; exact gx_geto _ hw2)
    · rw [h, hc1, ha1]
      exact hP1 (gz_w cs La a g).length _ (by rw [List.getElem?_set, if_neg (by omega)]; exact hv)
    · rw [h, hc2, ha2]
      exact hP1 ((gz_w cs La a g).length + 1) _ (by rw [List.getElem?_set, if_neg (by omega)]; exact hv2)
  rcases hi with ⟨rfl, rfl⟩ | ⟨rfl, rfl⟩
  · exact va_astq C.1 C.2.1 C.2.2.2.2.2.2.2.1 hP hD hS q 3 _ 3 ha rfl hv (gz_cl (ci := 3) (by decide)) hin hd (fun H1 locs1 hP1 _ hS1 => go H1 locs1 hP1 hS1)
  · exact va_astq C.1 C.2.1 C.2.2.2.2.2.2.2.1 hP hD hS q 4 _ 0 ha rfl hv (gz_cl (ci := 0) (by decide)) hin hd (fun H1 locs1 hP1 _ hS1 => go H1 locs1 hP1 hS1)
end GX
