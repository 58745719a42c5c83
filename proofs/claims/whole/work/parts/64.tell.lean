/-! class ShoreReader tells a shore -/
def shW (s : SH) (m i k : Nat) : Nat :=
  if k < 30 then (if k < m then s.rk (k / s.ru 0 * 6 + k % s.ru 0) else 0)
  else if k < 34 then (if k < 30 + i then s.go ((k - 30) * 4 + 1) * s.ru 0 + s.go ((k - 30) * 4) else 0)
  else if k < 38 then (if k < 34 + i then s.go ((k - 34) * 4 + 2) else 0)
  else if k < 46 then 0
  else if k = 46 then s.ru 2
  else if k = 47 then 0
  else if k = 48 then s.ru 3
  else if k = 49 then 0
  else if k < 54 then (if k < 50 + i then s.go ((k - 50) * 4 + 3) else 0)
  else if k < 58 then (if k < 54 + i then s.go ((k - 54) * 4 + 1) * s.ru 0 + s.go ((k - 54) * 4) else 0)
  else if k = 58 then s.ru 0
  else if k = 59 then s.ru 1
  else if k = 60 then s.gn
  else 0
def shV (s : SH) : Nat → Nat := shW s (s.ru 0 * s.ru 1) s.gn
theorem shW_m {s : SH} {m i : Nat} (hm : m < 30) : uN (shW s m i) m (s.rk (m / s.ru 0 * 6 + m % s.ru 0)) = shW s (m + 1) i := by
  funext k
  unfold uN shW
  by_cases h : k = m
  · rw [if_pos h, if_pos (by omega), if_pos (by omega), h]
  · rw [if_neg h]
    by_cases h2 : k < 30
    · rw [if_pos h2, if_pos h2]
      by_cases h3 : k < m
      · rw [if_pos h3, if_pos (by omega)]
      · rw [if_neg h3, if_neg (by omega)]
    · rw [if_neg h2, if_neg h2]
theorem shW_i {s : SH} {m i : Nat} (hi : i < 4) : uN (uN (uN (uN (shW s m i) (54 + i) (s.go (i * 4 + 1) * s.ru 0 + s.go (i * 4))) (30 + i) (s.go (i * 4 + 1) * s.ru 0 + s.go (i * 4))) (34 + i) (s.go (i * 4 + 2))) (50 + i) (s.go (i * 4 + 3)) = shW s m (i + 1) := by
  funext k
  unfold uN shW
  by_cases h1 : k = 50 + i
  · subst h1
    rw [if_pos rfl, if_neg (by omega), if_neg (by omega), if_neg (by omega), if_neg (by omega), if_neg (by omega), if_neg (by omega), if_neg (by omega), if_neg (by omega), if_pos (by omega), if_pos (by omega), show 50 + i - 50 = i by omega]
  rw [if_neg h1]
  by_cases h2 : k = 34 + i
  · subst h2
    rw [if_pos rfl, if_neg (by omega), if_neg (by omega), if_pos (by omega), if_pos (by omega), show 34 + i - 34 = i by omega]
  rw [if_neg h2]
  by_cases h3 : k = 30 + i
  · subst h3
    rw [if_pos rfl, if_neg (by omega), if_pos (by omega), if_pos (by omega), show 30 + i - 30 = i by omega]
  rw [if_neg h3]
  by_cases h4 : k = 54 + i
  · subst h4
    rw [if_pos rfl, if_neg (by omega), if_neg (by omega), if_neg (by omega), if_neg (by omega), if_neg (by omega), if_neg (by omega), if_neg (by omega), if_neg (by omega), if_neg (by omega), if_pos (by omega), if_pos (by omega), show 54 + i - 54 = i by omega]
  rw [if_neg h4]
  simp only [show (k < 30 + (i + 1)) = (k < 30 + i) from propext (by omega), show (k < 34 + (i + 1)) = (k < 34 + i) from propext (by omega), show (k < 50 + (i + 1)) = (k < 50 + i) from propext (by omega), show (k < 54 + (i + 1)) = (k < 54 + i) from propext (by omega)]
/-- what texts tell is within bounds -/
def ShOk (s : SH) : Prop := (∀ i, i < 4 → tS (i * 4 + 1) ≤ s.ru i ∧ s.ru i ≤ tS (i * 4 + 2)) ∧ ∀ j, j < 4 * s.gn → tG (j % 4 * 4 + 1) ≤ s.go j ∧ s.go j ≤ tG (j % 4 * 4 + 2)
section C7
variable {La : gz_L} {g : gz_S} {b : Nat → Nat} {len a : Nat} {s : SH}
theorem c_fillV {w : Nat} (hl : gz_ln w ≤ 2000) : fJ7_fill_53178 La w 0 g = some (gz_wa g w (fun k => if k < gz_ln w then nI 0 else g.1 w k)) := by
  unfold fJ7_fill_53178
  rw [gz_let_eq]
  refine lp (fun f c g1 => fJ7_fill_53178_5 La w f (nI 0) (nI c) (nI (gz_ln w)) g1) (fun c g1 => g1 = gz_wa g w (fun k => if k < c then nI 0 else g.1 w k)) (gz_ln w)
    (fun r => r = some (gz_wa g w (fun k => if k < gz_ln w then nI 0 else g.1 w k))) ?_ ?_ gz_FU 0 g (by omega) (by unfold gz_FU; omega) (by
      rw [show (fun k => if k < 0 then nI 0 else g.1 w k) = g.1 w from funext (fun k => if_neg (Nat.not_lt_zero _))]
      exact (wa_id rfl).symm)
  · rintro f c g1 hc rfl
    have hn : ¬ gz_ln w ≤ c := by omega
    refine Or.inr ⟨gz_wa g w (fun k => if k < c + 1 then nI 0 else g.1 w k), ?_, rfl⟩
    show fJ7_fill_53178_5 La w (f + 1) (nI 0) (nI c) (nI (gz_ln w)) _ = _
    rw [fJ7_fill_53178_5]
    simp (disch := omega) only [l_0, l_1, l_2, l_3, l_4, l_5, l_6, l_7, l_8, l_9, l_10, l_11, l_12, l_13, l_14, l_15, l_16, l_17, l_18, l_19, l_20, l_21, l_22, l_23, l_24, l_25, l_26, l_28, l_29, l_30, l_31, l_32, l_33, l_34, l_36, l_37, l_38, l_39, l_40, l_41, l_42, l_43, l_44, l_45, l_46, l_47, l_48, l_49, l_50, l_53, l_54, l_57, l_58, l_59, l_60, l_61, l_62, l_63, l_91, l_93, l_97, l_98, l_99, l_100, l_103, l_104, l_110, l_112, l_114, l_115, l_116, l_119, l_120, l_121, l_124, l_128, l_231, l_240, l_241, l_255, l_496, l_999, l_1000, l_8191, l_9999, l_10000, l_100000, l_200000, l_1000000, l_1000000000, gz_let_eq, Option.bind_some, ↓reduceIte, wi_wa, wa_at, wa_wa, upd_fI, fI_ap, wa_2, n_add, n_ok, n_cl, n_lt, n_le, n_eq, p_0, p_1, p_01, em_t, nb_0, t_10, n_modd, n_modm, Bool.false_eq_true, not_false_eq_true, not_true, hn]
    congr 1
    congr 1
    funext k
    unfold upd
    by_cases h1 : k = c
    · rw [if_pos h1, if_pos (by omega)]
    · rw [if_neg h1]
      dsimp only
      by_cases h2 : k < c
      · rw [if_pos h2, if_pos (by omega)]
      · rw [if_neg h2, if_neg (by omega)]
  · rintro f g1 rfl
    show fJ7_fill_53178_5 La w (f + 1) (nI 0) (nI (gz_ln w)) (nI (gz_ln w)) _ = _
    rw [fJ7_fill_53178_5]
    simp (disch := omega) only [l_0, l_1, l_2, l_3, l_4, l_5, l_6, l_7, l_8, l_9, l_10, l_11, l_12, l_13, l_14, l_15, l_16, l_17, l_18, l_19, l_20, l_21, l_22, l_23, l_24, l_25, l_26, l_28, l_29, l_30, l_31, l_32, l_33, l_34, l_36, l_37, l_38, l_39, l_40, l_41, l_42, l_43, l_44, l_45, l_46, l_47, l_48, l_49, l_50, l_53, l_54, l_57, l_58, l_59, l_60, l_61, l_62, l_63, l_91, l_93, l_97, l_98, l_99, l_100, l_103, l_104, l_110, l_112, l_114, l_115, l_116, l_119, l_120, l_121, l_124, l_128, l_231, l_240, l_241, l_255, l_496, l_999, l_1000, l_8191, l_9999, l_10000, l_100000, l_200000, l_1000000, l_1000000000, gz_let_eq, Option.bind_some, ↓reduceIte, wi_wa, wa_at, wa_wa, upd_fI, fI_ap, wa_2, n_add, n_ok, n_cl, n_lt, n_le, n_eq, p_0, p_1, p_01, em_t, nb_0, t_10, n_modd, n_modm, Bool.false_eq_true, not_false_eq_true, not_true, Nat.le_refl]
theorem shW_0 : uN (uN (uN (uN (uN (fun _ => 0) 58 (s.ru 0)) 59 (s.ru 1)) 46 (s.ru 2)) 48 (s.ru 3)) 60 s.gn = shW s 0 0 := by
  funext k
  unfold uN shW
  by_cases h1 : k = 60
  · subst h1; rfl
  rw [if_neg h1]
  by_cases h2 : k = 48
  · subst h2; rfl
  rw [if_neg h2]
  by_cases h3 : k = 46
  · subst h3; rfl
  rw [if_neg h3]
  by_cases h4 : k = 59
  · subst h4; rfl
  rw [if_neg h4]
  by_cases h5 : k = 58
  · subst h5; rfl
  rw [if_neg h5, if_neg h1, if_neg h2, if_neg h3, if_neg h4, if_neg h5]
  have e1 : ∀ x, (if k < 30 + 0 then x else 0) = if k < 30 then x else 0 := fun _ => rfl
  by_cases c1 : k < 30
  · rw [if_pos c1, if_neg (Nat.not_lt_zero _)]
  rw [if_neg c1]
  by_cases c2 : k < 34
  · rw [if_pos c2, if_neg (by omega)]
  rw [if_neg c2]
  by_cases c3 : k < 38
  · rw [if_pos c3, if_neg (by omega)]
  rw [if_neg c3]
  by_cases c4 : k < 46
  · rw [if_pos c4]
  rw [if_neg c4]
  by_cases c5 : k = 47
  · rw [if_pos c5]
  rw [if_neg c5]
  by_cases c6 : k = 49
  · rw [if_pos c6]
  rw [if_neg c6]
  by_cases c7 : k < 54
  · rw [if_pos c7, if_neg (by omega)]
  rw [if_neg c7]
  by_cases c8 : k < 58
  · rw [if_pos c8, if_neg (by omega)]
  rw [if_neg c8]
theorem c_tell {V0 : Nat → Nat} (hv0 : g.1 21 = fI V0) (h0 : ∀ k, 61 ≤ k → V0 k = 0) (hS : CS7 g s) (hA : sAgr s) (hO : ShOk s) : fX7_tell La g = some (gz_wa g 21 (fI (shV s))) := by
  obtain ⟨z5, ⟨z6, z6'⟩, ⟨z7, z7'⟩, zr, zl, zl0, zk, zg⟩ := hS
  have r0 := zr 0 (by omega)
  have r1 := zr 1 (by omega)
  have r2 := zr 2 (by omega)
  have r3 := zr 3 (by omega)
  have w0 : 2 ≤ s.ru 0 ∧ s.ru 0 ≤ 6 := hO.1 0 (by omega)
  have w1 : 2 ≤ s.ru 1 ∧ s.ru 1 ≤ 5 := hO.1 1 (by omega)
  have hlow : (fun k => if k < gz_ln 21 then nI 0 else g.1 21 k) = fI (fun _ => 0) := by
    funext k
    by_cases hk : k < 61
    · exact if_pos hk
    · refine (if_neg hk).trans ?_
      rw [hv0]
      unfold fI
      rw [h0 k (by omega)]
  have n15 : ∀ f, (gz_wa g 21 f).1 15 = g.1 15 := fun f => wa_ne (by omega)
  have n2 : ∀ f, (gz_wa g 21 f).1 2 = g.1 2 := fun f => wa_ne (by omega)
  have n16 : ∀ f, (gz_wa g 21 f).1 16 = g.1 16 := fun f => wa_ne (by omega)
  have n17 : ∀ f, (gz_wa g 21 f).1 17 = g.1 17 := fun f => wa_ne (by omega)
  unfold fX7_tell
  rw [c_fillV (by decide), Option.bind_some, hlow]
  simp (disch := omega) only [l_0, l_1, l_2, l_3, l_4, l_5, l_6, l_7, l_8, l_9, l_10, l_11, l_12, l_13, l_14, l_15, l_16, l_17, l_18, l_19, l_20, l_21, l_22, l_23, l_24, l_25, l_26, l_28, l_29, l_30, l_31, l_32, l_33, l_34, l_36, l_37, l_38, l_39, l_40, l_41, l_42, l_43, l_44, l_45, l_46, l_47, l_48, l_49, l_50, l_53, l_54, l_57, l_58, l_59, l_60, l_61, l_62, l_63, l_91, l_93, l_97, l_98, l_99, l_100, l_103, l_104, l_110, l_112, l_114, l_115, l_116, l_119, l_120, l_121, l_124, l_128, l_231, l_240, l_241, l_255, l_496, l_999, l_1000, l_8191, l_9999, l_10000, l_100000, l_200000, l_1000000, l_1000000000, gz_let_eq, Option.bind_some, ↓reduceIte, wi_wa, wa_at, wa_wa, upd_fI, fI_ap, wa_2, n15, n2, r0.1, r1.1, r2.1, r3.1, z7]
  rw [shW_0]
  have h30 : ∀ r c, r < s.ru 1 → c < s.ru 0 → r * s.ru 0 + c < 30 := fun r c hr hc => by
    have h1 : (r + 1) * s.ru 0 ≤ s.ru 1 * s.ru 0 := Nat.mul_le_mul_right _ hr
    have h2 : s.ru 1 * s.ru 0 ≤ 5 * 6 := Nat.mul_le_mul w1.2 w0.2
    rw [Nat.succ_mul] at h1
    omega
  refine lp (fun f r g1 => fX7_tell_78 La (fun (x2 : Int32) g => fX7_tell_135 La gz_FU x2 (nI 0) g) f (nI (s.ru 0)) (nI (s.ru 1)) (nI r) g1) (fun r g1 => g1 = gz_wa g 21 (fI (shW s (r * s.ru 0) 0))) (s.ru 1)
    (fun R => R = some (gz_wa g 21 (fI (shV s)))) ?_ ?_ gz_FU 0 _ (by omega) (by unfold gz_FU; omega) (by rw [Nat.zero_mul])
  · rintro f r g1 hr rfl
    refine Or.inr ⟨gz_wa g 21 (fI (shW s ((r + 1) * s.ru 0) 0)), ?_, rfl⟩
    show fX7_tell_78 La _ (f + 1) (nI (s.ru 0)) (nI (s.ru 1)) (nI r) _ = _
    rw [fX7_tell_78]
    have x1 : ¬ nI (s.ru 1) ≤ nI r := by rw [n_le (by omega) (by omega)]; omega
    rw [if_neg x1]
    refine lp (fun f' c g2 => fX7_tell_87 La (fun (x2 : Int32) (x3 : Int32) (x4 : Int32) g => gz_let (x4 + 1) (fun y126 => fX7_tell_78 La (fun (x2 : Int32) g => fX7_tell_135 La gz_FU x2 (nI 0) g) f x2 x3 y126 g)) f' (nI (s.ru 0)) (nI (s.ru 1)) (nI r) (nI c) g2) (fun c g2 => g2 = gz_wa g 21 (fI (shW s (r * s.ru 0 + c) 0))) (s.ru 0)
      (fun R => R = fX7_tell_78 La (fun (x2 : Int32) g => fX7_tell_135 La gz_FU x2 (nI 0) g) f (nI (s.ru 0)) (nI (s.ru 1)) (nI (r + 1)) (gz_wa g 21 (fI (shW s ((r + 1) * s.ru 0) 0)))) ?_ ?_ gz_FU 0 _ (by omega) (by unfold gz_FU; omega) rfl
    · rintro f' c g2 hc rfl
      have h3 := h30 r c hr hc
      have hk := (zk (r * 6 + c) (by omega)).1
      have e1 : (r * s.ru 0 + c) / s.ru 0 = r := by rw [Nat.mul_comm, Nat.mul_add_div (by omega), Nat.div_eq_of_lt hc]; rfl
      have e2 : (r * s.ru 0 + c) % s.ru 0 = c := by rw [Nat.mul_comm, Nat.mul_add_mod, Nat.mod_eq_of_lt hc]
      have e3 := shW_m (s := s) (i := 0) h3
      rw [e1, e2] at e3
      have hn : ¬ s.ru 0 ≤ c := by omega
      refine Or.inr ⟨gz_wa g 21 (fI (shW s (r * s.ru 0 + (c + 1)) 0)), ?_, rfl⟩
      show fX7_tell_87 La _ (f' + 1) (nI (s.ru 0)) (nI (s.ru 1)) (nI r) (nI c) _ = _
      rw [fX7_tell_87]
      simp (disch := omega) only [l_0, l_1, l_2, l_3, l_4, l_5, l_6, l_7, l_8, l_9, l_10, l_11, l_12, l_13, l_14, l_15, l_16, l_17, l_18, l_19, l_20, l_21, l_22, l_23, l_24, l_25, l_26, l_28, l_29, l_30, l_31, l_32, l_33, l_34, l_36, l_37, l_38, l_39, l_40, l_41, l_42, l_43, l_44, l_45, l_46, l_47, l_48, l_49, l_50, l_53, l_54, l_57, l_58, l_59, l_60, l_61, l_62, l_63, l_91, l_93, l_97, l_98, l_99, l_100, l_103, l_104, l_110, l_112, l_114, l_115, l_116, l_119, l_120, l_121, l_124, l_128, l_231, l_240, l_241, l_255, l_496, l_999, l_1000, l_8191, l_9999, l_10000, l_100000, l_200000, l_1000000, l_1000000000, gz_let_eq, Option.bind_some, ↓reduceIte, wi_wa, wa_at, wa_wa, upd_fI, fI_ap, wa_2, n_mul, n_add, n_ok, n_cl, n_le, hn, n17, hk, Nat.zero_add]
      rw [e3]
      rfl
    · rintro f' g2 rfl
      show fX7_tell_87 La _ (f' + 1) (nI (s.ru 0)) (nI (s.ru 1)) (nI r) (nI (s.ru 0)) _ = _
      rw [fX7_tell_87]
      have x2 : nI (s.ru 0) ≤ nI (s.ru 0) := by rw [n_le (by omega) (by omega)]; omega
      have ei : nI r + 1 = nI (r + 1) := n_add r 1
      rw [if_pos x2, gz_let_eq, ei, Nat.succ_mul]
  · rintro f g1 rfl
    show fX7_tell_78 La _ (f + 1) (nI (s.ru 0)) (nI (s.ru 1)) (nI (s.ru 1)) _ = _
    rw [fX7_tell_78]
    have x2 : nI (s.ru 1) ≤ nI (s.ru 1) := by rw [n_le (by omega) (by omega)]; omega
    rw [if_pos x2, Nat.mul_comm]
    refine lp (fun f i g1 => fX7_tell_135 La f (nI (s.ru 0)) (nI i) g1) (fun i g1 => g1 = gz_wa g 21 (fI (shW s (s.ru 0 * s.ru 1) i))) s.gn
      (fun R => R = some (gz_wa g 21 (fI (shV s)))) ?_ ?_ gz_FU 0 _ (by omega) (by unfold gz_FU; omega) rfl
    · rintro f i g1 hi rfl
      have l0 := (zg (i * 4) (by omega)).1
      have l1 := (zg (i * 4 + 1) (by omega))
      have l2 := (zg (i * 4 + 2) (by omega)).1
      have l3 := (zg (i * 4 + 3) (by omega)).1
      have hn : ¬ s.gn ≤ i := by omega
      refine Or.inr ⟨gz_wa g 21 (fI (shW s (s.ru 0 * s.ru 1) (i + 1))), ?_, rfl⟩
      show fX7_tell_135 La (f + 1) (nI (s.ru 0)) (nI i) _ = _
      rw [fX7_tell_135]
      simp (disch := omega) only [l_0, l_1, l_2, l_3, l_4, l_5, l_6, l_7, l_8, l_9, l_10, l_11, l_12, l_13, l_14, l_15, l_16, l_17, l_18, l_19, l_20, l_21, l_22, l_23, l_24, l_25, l_26, l_28, l_29, l_30, l_31, l_32, l_33, l_34, l_36, l_37, l_38, l_39, l_40, l_41, l_42, l_43, l_44, l_45, l_46, l_47, l_48, l_49, l_50, l_53, l_54, l_57, l_58, l_59, l_60, l_61, l_62, l_63, l_91, l_93, l_97, l_98, l_99, l_100, l_103, l_104, l_110, l_112, l_114, l_115, l_116, l_119, l_120, l_121, l_124, l_128, l_231, l_240, l_241, l_255, l_496, l_999, l_1000, l_8191, l_9999, l_10000, l_100000, l_200000, l_1000000, l_1000000000, gz_let_eq, Option.bind_some, ↓reduceIte, wi_wa, wa_at, wa_wa, upd_fI, fI_ap, wa_2, n_mul, n_add, n_ok, n_cl, n_le, hn, n16, n2, z7, l0, l1.1, l2, l3]
      rw [shW_i (by omega)]
    · rintro f g1 rfl
      show fX7_tell_135 La (f + 1) (nI (s.ru 0)) (nI s.gn) _ = _
      rw [fX7_tell_135]
      have x3 : ((gz_wa g 21 (fI (shW s (s.ru 0 * s.ru 1) s.gn))).1 2 7) ≤ nI s.gn := by rw [n2, z7, n_le (by omega) (by omega)]; omega
      rw [if_pos x3]
      rfl
end C7
