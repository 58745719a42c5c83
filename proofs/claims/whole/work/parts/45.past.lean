/-! the class's past: acts kept, notes, the image -/
def kPush (V : Nat → Nat) (K : Nat → Nat → Nat) : Nat → Nat → Nat := fun i => if i = 0 then V else K (i - 1)
/-- hours of what is kept -/
def kHrs (d : Nat) (V : Nat → Nat) (a : Nat) (K : Nat → Nat → Nat) : Prop :=
  (∀ i, i < a → K i 49 ≤ V 49 ∧ V 49 + d ≤ K i 49 + i + 1 ∧ ∀ k, 50 ≤ k → K i k = V k) ∧ ∀ i j, i ≤ j → j < a → K j 49 ≤ K i 49 ∧ K i 49 ≤ K j 49 + (j - i)
def CP (d : Nat) (g : gz_S) (V : Nat → Nat) (a : Nat) (K : Nat → Nat → Nat) (Lg : Nat → Nat) (him : Nat) (IV : Nat → Nat) (ILg : Nat → Nat) : Prop :=
  g.1 9 0 = nI a ∧ a ≤ 40 ∧ g.1 9 5 = nI him ∧ him ≤ 1 ∧ (∃ t, t < 40 ∧ g.1 9 6 = nI t ∧ ∀ i, i < a → ∀ k, k < 50 → g.1 26 ((t + 39 - i) % 40 * 50 + k) = nI (K i k)) ∧
  (∀ h, h < V 49 → V 49 ≤ h + 60 → g.1 27 (h % 100) = nI (Lg h)) ∧ kHrs d V a K ∧
  (∀ i, i < a → ∀ h, h < K i 49 → K i 49 ≤ h + 60 → g.1 27 (h % 100) = nI (Lg h)) ∧
  (him = 1 → (∀ k, k < 50 → g.1 28 k = nI (IV k)) ∧ (∀ k, 50 ≤ k → IV k = V k) ∧ ∀ h, h < IV 49 → IV 49 ≤ h + 60 → g.1 29 (h % 100) = nI (ILg h))
theorem CP.fr {d : Nat} {g g' : gz_S} {V : Nat → Nat} {a : Nat} {K : Nat → Nat → Nat} {Lg : Nat → Nat} {him : Nat} {IV ILg : Nat → Nat} {S : Nat → Prop} (h : CP d g V a K Lg him IV ILg) (hF : Fr S g g') (hS : ∀ j, S j → j ≠ 9 ∧ (j < 26 ∨ 30 ≤ j)) : CP d g' V a K Lg him IV ILg := by
  have e : ∀ j, j = 9 ∨ (26 ≤ j ∧ j < 30) → g'.1 j = g.1 j := fun j hj => hF.1 j (fun hs => by have := hS j hs; omega)
  unfold CP
  rw [e 9 (by omega), e 26 (by omega), e 27 (by omega), e 28 (by omega), e 29 (by omega)]
  exact h
/-- an act that is no hour -/
theorem CP.act {d : Nat} {g : gz_S} {V V' : Nat → Nat} {a : Nat} {K : Nat → Nat → Nat} {Lg : Nat → Nat} {him : Nat} {IV ILg : Nat → Nat} (h : CP d g V a K Lg him IV ILg) (hV : ∀ k, 49 ≤ k → V' k = V k) : CP 0 g V' a K Lg him IV ILg := by
  obtain ⟨h1, h2, h3, h4, h5, h6, h7, h8, h9⟩ := h
  have e := hV 49 (Nat.le_refl _)
  refine ⟨h1, h2, h3, h4, h5, by rw [e]; exact h6, ⟨fun i hi => ?_, h7.2⟩, h8, fun hh => ⟨(h9 hh).1, fun k hk => by rw [hV k (by omega)]; exact (h9 hh).2.1 k hk, (h9 hh).2.2⟩⟩
  have := h7.1 i hi
  exact ⟨by rw [e]; exact this.1, by rw [e]; omega, fun k hk => by rw [hV k (by omega)]; exact this.2.2 k hk⟩
theorem n_mod40 : ∀ t, t < 40 → (t + 1) % 40 < 40 := fun t _ => Nat.mod_lt _ (by decide)
section C5
variable {La : gz_L} {g : gz_S} {V : Nat → Nat} {a : Nat} {K : Nat → Nat → Nat} {Lg : Nat → Nat} {him : Nat} {IV ILg : Nat → Nat}
theorem c_keep (hv : g.1 22 = fI V) (h : CP 0 g V a K Lg him IV ILg) : ∃ g', fX5_keep La 6 g = some g' ∧ Fr (fun j => j = 26 ∨ j = 9) g g' ∧ CP 1 g' V (min 40 (a + 1)) (kPush V K) Lg him IV ILg := by
  obtain ⟨h1, h2, h3, h4, ⟨t, ht, h5, h5'⟩, h6, h7, h8, h9⟩ := h
  refine ⟨gz_wa (gz_wa g 26 (va_cpy (fI V) (g.1 26) 0 (t * 50) 50)) 9 (upd (upd (g.1 9) 6 (nI ((t + 1) % 40))) 0 (nI (min 40 (a + 1)))), ?_, (Fr.rf.wa (Or.inl rfl)).wa (Or.inr rfl), ?_⟩
  · have hv6 : g.1 (6 + 16) = fI V := hv
    have e0 : (upd (g.1 9) 6 (nI ((t + 1) % 40))) 0 = nI a := h1
    unfold fX5_keep
    simp (disch := omega) only [l_0, l_1, l_2, l_3, l_4, l_5, l_6, l_7, l_8, l_9, l_10, l_11, l_12, l_13, l_14, l_15, l_16, l_17, l_18, l_19, l_20, l_21, l_22, l_23, l_24, l_25, l_26, l_28, l_29, l_30, l_31, l_32, l_33, l_34, l_36, l_37, l_38, l_39, l_40, l_41, l_42, l_43, l_44, l_45, l_46, l_47, l_48, l_49, l_50, l_53, l_54, l_57, l_58, l_59, l_60, l_61, l_62, l_63, l_91, l_93, l_97, l_98, l_99, l_100, l_103, l_104, l_110, l_112, l_114, l_115, l_116, l_119, l_120, l_121, l_124, l_128, l_231, l_240, l_241, l_255, l_496, l_999, l_1000, l_8191, l_9999, l_10000, l_100000, l_200000, l_1000000, l_1000000000, gz_let_eq, Option.bind_some, ↓reduceIte, wi_wa, wa_at, wa_wa, upd_fI, fI_ap, wa_2, n_add, n_ok, n_cl, n_lt, n_le, n_eq, p_0, p_1, p_01, em_t, nb_0, t_10, n_modd, n_modm, Bool.false_eq_true, not_false_eq_true, not_true, h5, n_mul, hv6, n_mod, wa_ne]
    rw [if_pos (by omega)]
    simp (disch := omega) only [l_0, l_1, l_2, l_3, l_4, l_5, l_6, l_7, l_8, l_9, l_10, l_11, l_12, l_13, l_14, l_15, l_16, l_17, l_18, l_19, l_20, l_21, l_22, l_23, l_24, l_25, l_26, l_28, l_29, l_30, l_31, l_32, l_33, l_34, l_36, l_37, l_38, l_39, l_40, l_41, l_42, l_43, l_44, l_45, l_46, l_47, l_48, l_49, l_50, l_53, l_54, l_57, l_58, l_59, l_60, l_61, l_62, l_63, l_91, l_93, l_97, l_98, l_99, l_100, l_103, l_104, l_110, l_112, l_114, l_115, l_116, l_119, l_120, l_121, l_124, l_128, l_231, l_240, l_241, l_255, l_496, l_999, l_1000, l_8191, l_9999, l_10000, l_100000, l_200000, l_1000000, l_1000000000, gz_let_eq, Option.bind_some, ↓reduceIte, wi_wa, wa_at, wa_wa, upd_fI, fI_ap, wa_2, n_add, n_ok, n_cl, n_lt, n_le, n_eq, p_0, p_1, p_01, em_t, nb_0, t_10, n_modd, n_modm, Bool.false_eq_true, not_false_eq_true, not_true, h5, n_mod, n_div, wa_ne, e0, c_min]
  · have q9 : ∀ f, (gz_wa (gz_wa g 26 f) 9 (upd (upd (g.1 9) 6 (nI ((t + 1) % 40))) 0 (nI (min 40 (a + 1))))).1 9 = upd (upd (g.1 9) 6 (nI ((t + 1) % 40))) 0 (nI (min 40 (a + 1))) := fun f => wa_at _ _ _
    have q26 : ∀ f, (gz_wa (gz_wa g 26 f) 9 (upd (upd (g.1 9) 6 (nI ((t + 1) % 40))) 0 (nI (min 40 (a + 1))))).1 26 = f := fun f => by rw [wa_ne (by omega), wa_at]
    have q : ∀ f j, j ≠ 26 → j ≠ 9 → (gz_wa (gz_wa g 26 f) 9 (upd (upd (g.1 9) 6 (nI ((t + 1) % 40))) 0 (nI (min 40 (a + 1))))).1 j = g.1 j := fun f j hj1 hj2 => by rw [wa_ne hj2, wa_ne hj1]
    unfold CP
    rw [q9, q26, q _ 27 (by omega) (by omega), q _ 28 (by omega) (by omega), q _ 29 (by omega) (by omega)]
    refine ⟨rfl, by omega, h3, h4, ⟨(t + 1) % 40, n_mod40 t ht, rfl, ?_⟩, h6, ⟨?_, ?_⟩, ?_, h9⟩
    · intro i hi k hk
      unfold va_cpy kPush
      by_cases hi0 : i = 0
      · have e : ((t + 1) % 40 + 39 - i) % 40 = t := by omega
        rw [e, if_pos (by omega), if_pos hi0]
        show nI (V (0 + (t * 50 + k - t * 50))) = nI (V k)
        congr 2; omega
      · have e : ((t + 1) % 40 + 39 - i) % 40 = (t + 39 - (i - 1)) % 40 := by omega
        have e2 : (t + 39 - (i - 1)) % 40 ≠ t := by omega
        rw [e, if_neg (by omega), if_neg hi0]
        exact h5' (i - 1) (by omega) k hk
    · intro i hi
      unfold kPush
      by_cases hi0 : i = 0
      · rw [if_pos hi0]; exact ⟨Nat.le_refl _, by omega, fun _ _ => rfl⟩
      · rw [if_neg hi0]
        have := h7.1 (i - 1) (by omega)
        exact ⟨this.1, by omega, this.2.2⟩
    · intro i j hij hj
      unfold kPush
      by_cases hi0 : i = 0
      · rw [if_pos hi0]
        by_cases hj0 : j = 0
        · rw [if_pos hj0]; omega
        · rw [if_neg hj0]
          have := h7.1 (j - 1) (by omega)
          omega
      · rw [if_neg hi0, if_neg (by omega)]
        have := h7.2 (i - 1) (j - 1) (by omega) (by omega)
        omega
    · intro i hi
      unfold kPush
      by_cases hi0 : i = 0
      · rw [if_pos hi0]; exact h6
      · rw [if_neg hi0]; exact h8 (i - 1) (by omega)
theorem c_takeBack0 (h : CP 0 g V a K Lg him IV ILg) (ha : a = 0) : fX5_takeBack La 6 g = some (nI 0, g) := by
  have h1 := h.1
  unfold fX5_takeBack
  simp (disch := omega) only [l_0, l_1, l_2, l_3, l_4, l_5, l_6, l_7, l_8, l_9, l_10, l_11, l_12, l_13, l_14, l_15, l_16, l_17, l_18, l_19, l_20, l_21, l_22, l_23, l_24, l_25, l_26, l_28, l_29, l_30, l_31, l_32, l_33, l_34, l_36, l_37, l_38, l_39, l_40, l_41, l_42, l_43, l_44, l_45, l_46, l_47, l_48, l_49, l_50, l_53, l_54, l_57, l_58, l_59, l_60, l_61, l_62, l_63, l_91, l_93, l_97, l_98, l_99, l_100, l_103, l_104, l_110, l_112, l_114, l_115, l_116, l_119, l_120, l_121, l_124, l_128, l_231, l_240, l_241, l_255, l_496, l_999, l_1000, l_8191, l_9999, l_10000, l_100000, l_200000, l_1000000, l_1000000000, gz_let_eq, Option.bind_some, ↓reduceIte, wi_wa, wa_at, wa_wa, upd_fI, fI_ap, wa_2, n_add, n_ok, n_cl, n_lt, n_le, n_eq, p_0, p_1, p_01, em_t, nb_0, t_10, n_modd, n_modm, Bool.false_eq_true, not_false_eq_true, not_true, h1, ha, show ¬ 1 ≤ 0 by omega]
theorem c_takeBack (hv : g.1 22 = fI V) (h : CP 0 g V a K Lg him IV ILg) (ha : 0 < a) : ∃ g', fX5_takeBack La 6 g = some (nI 1, g') ∧ Fr (fun j => j = 22 ∨ j = 9) g g' ∧ g'.1 22 = fI (K 0) ∧ CP 0 g' (K 0) (a - 1) (fun i => K (i + 1)) Lg him IV ILg := by
  obtain ⟨h1, h2, h3, h4, ⟨t, ht, h5, h5'⟩, h6, h7, h8, h9⟩ := h
  have k0 := h7.1 0 ha
  have erow : va_cpy (g.1 26) (fI V) ((t + 39) % 40 * 50) 0 50 = fI (K 0) := by
    funext k
    unfold va_cpy
    by_cases hk : 0 ≤ k ∧ k < 0 + 50
    · rw [if_pos hk]
      have := h5' 0 ha k (by omega)
      rw [show t + 39 - 0 = t + 39 by omega] at this
      show g.1 26 ((t + 39) % 40 * 50 + (k - 0)) = nI (K 0 k)
      rw [Nat.sub_zero]; exact this
    · rw [if_neg hk]; show nI (V k) = nI (K 0 k); rw [k0.2.2 k (by omega)]
  refine ⟨gz_wa (gz_wa g 9 (upd (upd (g.1 9) 0 (nI (a - 1))) 6 (nI ((t + 39) % 40)))) 22 (fI (K 0)), ?_, (Fr.rf.wa (Or.inr rfl)).wa (Or.inl rfl), wa_at _ _ _, ?_⟩
  · have hm := Nat.mod_lt (t + 39) (by decide : 0 < 40)
    have e6 : (upd (g.1 9) 0 (nI (a - 1))) 6 = nI t := h5
    have e66 : (upd (upd (g.1 9) 0 (nI (a - 1))) 6 (nI ((t + 39) % 40))) 6 = nI ((t + 39) % 40) := rfl
    have e40 : nI (t + 40) - nI 1 = nI (t + 39) := by rw [n_sub (by omega)]; congr 1
    have ea : nI a - nI 1 = nI (a - 1) := n_sub (by omega)
    unfold fX5_takeBack
    simp (disch := omega) only [l_0, l_1, l_2, l_3, l_4, l_5, l_6, l_7, l_8, l_9, l_10, l_11, l_12, l_13, l_14, l_15, l_16, l_17, l_18, l_19, l_20, l_21, l_22, l_23, l_24, l_25, l_26, l_28, l_29, l_30, l_31, l_32, l_33, l_34, l_36, l_37, l_38, l_39, l_40, l_41, l_42, l_43, l_44, l_45, l_46, l_47, l_48, l_49, l_50, l_53, l_54, l_57, l_58, l_59, l_60, l_61, l_62, l_63, l_91, l_93, l_97, l_98, l_99, l_100, l_103, l_104, l_110, l_112, l_114, l_115, l_116, l_119, l_120, l_121, l_124, l_128, l_231, l_240, l_241, l_255, l_496, l_999, l_1000, l_8191, l_9999, l_10000, l_100000, l_200000, l_1000000, l_1000000000, gz_let_eq, Option.bind_some, ↓reduceIte, wi_wa, wa_at, wa_wa, upd_fI, fI_ap, wa_2, n_add, n_ok, n_cl, n_lt, n_le, n_eq, p_0, p_1, p_01, em_t, nb_0, t_10, n_modd, n_modm, Bool.false_eq_true, not_false_eq_true, not_true, h1, show 1 ≤ a by omega, ea, e6, e40, n_div, e66, n_mul, wa_ne]
    rw [if_pos (by omega), hv, erow]
  · have q9 : ∀ f, (gz_wa (gz_wa g 9 (upd (upd (g.1 9) 0 (nI (a - 1))) 6 (nI ((t + 39) % 40)))) 22 f).1 9 = upd (upd (g.1 9) 0 (nI (a - 1))) 6 (nI ((t + 39) % 40)) := fun f => by rw [wa_ne (by omega), wa_at]
    have q : ∀ f j, j ≠ 22 → j ≠ 9 → (gz_wa (gz_wa g 9 (upd (upd (g.1 9) 0 (nI (a - 1))) 6 (nI ((t + 39) % 40)))) 22 f).1 j = g.1 j := fun f j hj1 hj2 => by rw [wa_ne hj1, wa_ne hj2]
    unfold CP
    rw [q9, q _ 26 (by omega) (by omega), q _ 27 (by omega) (by omega), q _ 28 (by omega) (by omega), q _ 29 (by omega) (by omega)]
    refine ⟨rfl, by omega, h3, h4, ⟨(t + 39) % 40, Nat.mod_lt _ (by decide), rfl, ?_⟩, h8 0 ha, ⟨?_, ?_⟩, fun i hi => h8 (i + 1) (by omega), fun hh => ⟨(h9 hh).1, fun k hk => by rw [k0.2.2 k hk]; exact (h9 hh).2.1 k hk, (h9 hh).2.2⟩⟩
    · intro i hi k hk
      have e : ((t + 39) % 40 + 39 - i) % 40 = (t + 39 - (i + 1)) % 40 := by omega
      rw [e]
      exact h5' (i + 1) (by omega) k hk
    · intro i hi
      have c1 := h7.2 0 (i + 1) (by omega) (by omega)
      show K (i + 1) 49 ≤ K 0 49 ∧ K 0 49 + 0 ≤ K (i + 1) 49 + i + 1 ∧ ∀ k, 50 ≤ k → K (i + 1) k = K 0 k
      exact ⟨c1.1, by omega, fun k hk => by rw [(h7.1 (i + 1) (by omega)).2.2 k hk, k0.2.2 k hk]⟩
    · intro i j hij hj
      have := h7.2 (i + 1) (j + 1) (by omega) (by omega)
      show K (j + 1) 49 ≤ K (i + 1) 49 ∧ K (i + 1) 49 ≤ K (j + 1) 49 + (j - i)
      omega
theorem n_code : ∀ m, m < 9 → ∀ e, e < 16 → ∀ t, t < 6 → (((nI m <<< (nI 8 &&& nI 31)) ||| (nI e <<< (nI 4 &&& nI 31))) ||| nI t) = nI (m * 256 + e * 16 + t) := by decide +kernel
theorem n_dec : ∀ m, m < 9 → ∀ e, e < 16 → ∀ t, t < 6 → nI (m * 256 + e * 16 + t) >>> (nI 8 &&& nI 31) = nI m ∧ (nI (m * 256 + e * 16 + t) >>> (nI 4 &&& nI 31)) &&& nI 15 = nI e ∧ nI (m * 256 + e * 16 + t) &&& nI 15 = nI t := by decide +kernel
theorem c_fmod {a b : Nat} (ha : a < 2147483648) (hb : 0 < b ∧ b < 2147483648) : fJ9_floorMod_7cf53 La (nI a) (nI b) g = some (nI (a % b), g) := by
  have h1 : a % b < b := Nat.mod_lt _ hb.1
  have hx : nI 0 ≤ nI a ^^^ nI b := by
    have h2 : a ^^^ b < 2 ^ 31 := Nat.xor_lt_two_pow (by omega) (by omega)
    rw [n_xor, n_le (by omega) (by omega)]; omega
  unfold fJ9_floorMod_7cf53
  simp (disch := omega) only [l_0, l_1, l_2, l_3, l_4, l_5, l_6, l_7, l_8, l_9, l_10, l_11, l_12, l_13, l_14, l_15, l_16, l_17, l_18, l_19, l_20, l_21, l_22, l_23, l_24, l_25, l_26, l_28, l_29, l_30, l_31, l_32, l_33, l_34, l_36, l_37, l_38, l_39, l_40, l_41, l_42, l_43, l_44, l_45, l_46, l_47, l_48, l_49, l_50, l_53, l_54, l_57, l_58, l_59, l_60, l_61, l_62, l_63, l_91, l_93, l_97, l_98, l_99, l_100, l_103, l_104, l_110, l_112, l_114, l_115, l_116, l_119, l_120, l_121, l_124, l_128, l_231, l_240, l_241, l_255, l_496, l_999, l_1000, l_8191, l_9999, l_10000, l_100000, l_200000, l_1000000, l_1000000000, gz_let_eq, Option.bind_some, ↓reduceIte, wi_wa, wa_at, wa_wa, upd_fI, fI_ap, wa_2, n_add, n_ok, n_cl, n_lt, n_le, n_eq, p_0, p_1, p_01, em_t, nb_0, t_10, n_modd, n_modm, Bool.false_eq_true, not_false_eq_true, not_true, n_mod, hx, show ¬ b = 0 by omega]
theorem c_note {V' : Nat → Nat} {m e t : Nat} (h : CP 1 g V a K Lg him IV ILg) (hV : V' 49 = V 49 + 1) (hV2 : ∀ k, 50 ≤ k → V' k = V k) (h49 : V 49 < 1000000) (hm : m < 9) (he : e < 16) (ht : t < 6) :
    ∃ g', fX5_note La (nI (V 49 + 1)) (nI m) (nI e) (nI t) g = some g' ∧ Fr (fun j => j = 27) g g' ∧ CP 0 g' V' a K (uN Lg (V 49) (m * 256 + e * 16 + t)) him IV ILg := by
  obtain ⟨h1, h2, h3, h4, h5, h6, h7, h8, h9⟩ := h
  refine ⟨gz_wa g 27 (upd (g.1 27) (V 49 % 100) (nI (m * 256 + e * 16 + t))), ?_, Fr.rf.wa rfl, ?_⟩
  · have hl := Nat.mod_lt (V 49) (by decide : 0 < 100)
    unfold fX5_note
    simp (disch := omega) only [l_0, l_1, l_2, l_3, l_4, l_5, l_6, l_7, l_8, l_9, l_10, l_11, l_12, l_13, l_14, l_15, l_16, l_17, l_18, l_19, l_20, l_21, l_22, l_23, l_24, l_25, l_26, l_28, l_29, l_30, l_31, l_32, l_33, l_34, l_36, l_37, l_38, l_39, l_40, l_41, l_42, l_43, l_44, l_45, l_46, l_47, l_48, l_49, l_50, l_53, l_54, l_57, l_58, l_59, l_60, l_61, l_62, l_63, l_91, l_93, l_97, l_98, l_99, l_100, l_103, l_104, l_110, l_112, l_114, l_115, l_116, l_119, l_120, l_121, l_124, l_128, l_231, l_240, l_241, l_255, l_496, l_999, l_1000, l_8191, l_9999, l_10000, l_100000, l_200000, l_1000000, l_1000000000, gz_let_eq, Option.bind_some, ↓reduceIte, wi_wa, wa_at, wa_wa, upd_fI, fI_ap, wa_2, n_add, n_ok, n_cl, n_lt, n_le, n_eq, p_0, p_1, p_01, em_t, nb_0, t_10, n_modd, n_modm, Bool.false_eq_true, not_false_eq_true, not_true, n_sub, Nat.add_sub_cancel, c_fmod]
    rw [n_code m hm e he t ht]
  · have q : ∀ f j, j ≠ 27 → (gz_wa g 27 f).1 j = g.1 j := fun f j hj => wa_ne hj
    have hw : ∀ h, h < V 49 → V 49 ≤ h + 99 → upd (g.1 27) (V 49 % 100) (nI (m * 256 + e * 16 + t)) (h % 100) = g.1 27 (h % 100) := fun h ha hb => if_neg (by omega)
    have hl : ∀ h, h < V 49 → uN Lg (V 49) (m * 256 + e * 16 + t) h = Lg h := fun h ha => uN_n (by omega)
    unfold CP
    rw [wa_at, q _ 9 (by omega), q _ 26 (by omega), q _ 28 (by omega), q _ 29 (by omega), hV]
    refine ⟨h1, h2, h3, h4, h5, ?_, ⟨fun i hi => ?_, h7.2⟩, ?_, fun hh => ⟨(h9 hh).1, fun k hk => by rw [hV2 k hk]; exact (h9 hh).2.1 k hk, (h9 hh).2.2⟩⟩
    · intro h ha hb
      by_cases hh : h = V 49
      · rw [hh, uN_s]; exact if_pos rfl
      · rw [hw h (by omega) (by omega), hl h (by omega)]; exact h6 h (by omega) (by omega)
    · have := h7.1 i hi
      exact ⟨by rw [hV]; omega, by rw [hV]; omega, fun k hk => by rw [hV2 k hk]; exact this.2.2 k hk⟩
    · intro i hi h ha hb
      have := h7.1 i hi
      rw [hw h (by omega) (by omega), hl h (by omega)]
      exact h8 i hi h ha hb
theorem c_logLength (hv : g.1 22 = fI V) (hB : ∀ k, V k < 1048576) : fX5_logLength La 6 g = some (nI (min 60 (V 49)), g) := by
  have b := hB 49
  have hv6 : g.1 (6 + 16) = fI V := hv
  unfold fX5_logLength
  simp (disch := omega) only [l_0, l_1, l_2, l_3, l_4, l_5, l_6, l_7, l_8, l_9, l_10, l_11, l_12, l_13, l_14, l_15, l_16, l_17, l_18, l_19, l_20, l_21, l_22, l_23, l_24, l_25, l_26, l_28, l_29, l_30, l_31, l_32, l_33, l_34, l_36, l_37, l_38, l_39, l_40, l_41, l_42, l_43, l_44, l_45, l_46, l_47, l_48, l_49, l_50, l_53, l_54, l_57, l_58, l_59, l_60, l_61, l_62, l_63, l_91, l_93, l_97, l_98, l_99, l_100, l_103, l_104, l_110, l_112, l_114, l_115, l_116, l_119, l_120, l_121, l_124, l_128, l_231, l_240, l_241, l_255, l_496, l_999, l_1000, l_8191, l_9999, l_10000, l_100000, l_200000, l_1000000, l_1000000000, gz_let_eq, Option.bind_some, ↓reduceIte, wi_wa, wa_at, wa_wa, upd_fI, fI_ap, wa_2, n_add, n_ok, n_cl, n_lt, n_le, n_eq, p_0, p_1, p_01, em_t, nb_0, t_10, n_modd, n_modm, Bool.false_eq_true, not_false_eq_true, not_true, hv6, c_min]
theorem c_noted (h : CP 0 g V a K Lg him IV ILg) {i w : Nat} (hi : i < V 49) (hi2 : i < 60) (h49 : V 49 < 1000000) (hw : w ≤ 2) (hL : ∃ m e t, m < 9 ∧ e < 16 ∧ t < 6 ∧ Lg (V 49 - 1 - i) = m * 256 + e * 16 + t) :
    fX5_noted La (nI (V 49 - 1 - i)) (nI w) g = some (nI (if w = 0 then Lg (V 49 - 1 - i) / 256 else if w = 1 then Lg (V 49 - 1 - i) / 16 % 16 else Lg (V 49 - 1 - i) % 16), g) := by
  obtain ⟨m, e, t, hm, he, ht, hc⟩ := hL
  have hn := h.2.2.2.2.2.1 (V 49 - 1 - i) (by omega) (by omega)
  have hd := n_dec m hm e he t ht
  have hl := Nat.mod_lt (V 49 - 1 - i) (by decide : 0 < 100)
  rw [hc] at hn ⊢
  unfold fX5_noted
  simp (disch := omega) only [l_0, l_1, l_2, l_3, l_4, l_5, l_6, l_7, l_8, l_9, l_10, l_11, l_12, l_13, l_14, l_15, l_16, l_17, l_18, l_19, l_20, l_21, l_22, l_23, l_24, l_25, l_26, l_28, l_29, l_30, l_31, l_32, l_33, l_34, l_36, l_37, l_38, l_39, l_40, l_41, l_42, l_43, l_44, l_45, l_46, l_47, l_48, l_49, l_50, l_53, l_54, l_57, l_58, l_59, l_60, l_61, l_62, l_63, l_91, l_93, l_97, l_98, l_99, l_100, l_103, l_104, l_110, l_112, l_114, l_115, l_116, l_119, l_120, l_121, l_124, l_128, l_231, l_240, l_241, l_255, l_496, l_999, l_1000, l_8191, l_9999, l_10000, l_100000, l_200000, l_1000000, l_1000000000, gz_let_eq, Option.bind_some, ↓reduceIte, wi_wa, wa_at, wa_wa, upd_fI, fI_ap, wa_2, n_add, n_ok, n_cl, n_lt, n_le, n_eq, p_0, p_1, p_01, em_t, nb_0, t_10, n_modd, n_modm, Bool.false_eq_true, not_false_eq_true, not_true, c_fmod, hn]
  rw [hd.1, hd.2.1, hd.2.2]
  by_cases w0 : w = 0
  · rw [if_pos w0, if_pos w0]; congr 3; omega
  · rw [if_neg w0, if_neg w0]
    by_cases w1 : w = 1
    · rw [if_pos w1, if_pos w1]; congr 3; omega
    · rw [if_neg w1, if_neg w1]; congr 3; omega
theorem c_forget (h1 : g.1 9 6 = nI 0 ∨ ∃ t, t < 40 ∧ g.1 9 6 = nI t) (hV : V 49 = 0) : ∃ g', fX5_forget La g = some g' ∧ Fr (fun j => j = 9) g g' ∧ CP 0 g' V 0 K Lg 0 IV ILg := by
  refine ⟨gz_wa g 9 (upd (upd (g.1 9) 0 (nI 0)) 5 (nI 0)), ?_, Fr.rf.wa rfl, ?_⟩
  · unfold fX5_forget
    simp (disch := omega) only [l_0, l_1, l_2, l_3, l_4, l_5, l_6, l_7, l_8, l_9, l_10, l_11, l_12, l_13, l_14, l_15, l_16, l_17, l_18, l_19, l_20, l_21, l_22, l_23, l_24, l_25, l_26, l_28, l_29, l_30, l_31, l_32, l_33, l_34, l_36, l_37, l_38, l_39, l_40, l_41, l_42, l_43, l_44, l_45, l_46, l_47, l_48, l_49, l_50, l_53, l_54, l_57, l_58, l_59, l_60, l_61, l_62, l_63, l_91, l_93, l_97, l_98, l_99, l_100, l_103, l_104, l_110, l_112, l_114, l_115, l_116, l_119, l_120, l_121, l_124, l_128, l_231, l_240, l_241, l_255, l_496, l_999, l_1000, l_8191, l_9999, l_10000, l_100000, l_200000, l_1000000, l_1000000000, gz_let_eq, Option.bind_some, ↓reduceIte, wi_wa, wa_at, wa_wa, upd_fI, fI_ap, wa_2, n_add, n_ok, n_cl, n_lt, n_le, n_eq, p_0, p_1, p_01, em_t, nb_0, t_10, n_modd, n_modm, Bool.false_eq_true, not_false_eq_true, not_true]
  · unfold CP
    rw [wa_at, hV]
    refine ⟨rfl, by omega, rfl, by omega, ?_, fun h hh => absurd hh (Nat.not_lt_zero _), ⟨fun i hi => absurd hi (Nat.not_lt_zero _), fun i j _ hj => absurd hj (Nat.not_lt_zero _)⟩, fun i hi => absurd hi (Nat.not_lt_zero _), fun hh => absurd hh (by omega)⟩
    rcases h1 with h1 | ⟨t, ht, h1⟩
    · exact ⟨0, by omega, h1, fun i hi => absurd hi (Nat.not_lt_zero _)⟩
    · exact ⟨t, ht, h1, fun i hi => absurd hi (Nat.not_lt_zero _)⟩
theorem c_keepImage (hv : g.1 22 = fI V) (h : CP 0 g V a K Lg him IV ILg) : ∃ g', fX5_keepImage La 6 g = some g' ∧ Fr (fun j => j = 28 ∨ j = 29 ∨ j = 9) g g' ∧ CP 0 g' V a K Lg 1 V Lg := by
  have hv6 : g.1 (6 + 16) = fI V := hv
  obtain ⟨h1, h2, h3, h4, h5, h6, h7, h8, h9⟩ := h
  refine ⟨gz_wa (gz_wa (gz_wa g 28 (va_cpy (fI V) (g.1 28) 0 0 50)) 29 (va_cpy (g.1 27) (g.1 29) 0 0 100)) 9 (upd (g.1 9) 5 (nI 1)), ?_, ((Fr.rf.wa (by omega)).wa (by omega)).wa (by omega), ?_⟩
  · unfold fX5_keepImage
    rw [if_pos (by omega), gz_let_eq, if_pos (by omega)]
    simp (disch := omega) only [l_0, l_1, l_2, l_3, l_4, l_5, l_6, l_7, l_8, l_9, l_10, l_11, l_12, l_13, l_14, l_15, l_16, l_17, l_18, l_19, l_20, l_21, l_22, l_23, l_24, l_25, l_26, l_28, l_29, l_30, l_31, l_32, l_33, l_34, l_36, l_37, l_38, l_39, l_40, l_41, l_42, l_43, l_44, l_45, l_46, l_47, l_48, l_49, l_50, l_53, l_54, l_57, l_58, l_59, l_60, l_61, l_62, l_63, l_91, l_93, l_97, l_98, l_99, l_100, l_103, l_104, l_110, l_112, l_114, l_115, l_116, l_119, l_120, l_121, l_124, l_128, l_231, l_240, l_241, l_255, l_496, l_999, l_1000, l_8191, l_9999, l_10000, l_100000, l_200000, l_1000000, l_1000000000, gz_let_eq, Option.bind_some, ↓reduceIte, wi_wa, wa_at, wa_wa, upd_fI, fI_ap, wa_2, n_add, n_ok, n_cl, n_lt, n_le, n_eq, p_0, p_1, p_01, em_t, nb_0, t_10, n_modd, n_modm, Bool.false_eq_true, not_false_eq_true, not_true, hv6, wa_ne]
  · unfold CP
    rw [wa_at, wa_ne (by omega), wa_ne (by omega), wa_ne (by omega), wa_ne (by omega), wa_ne (by omega), wa_ne (by omega), wa_ne (by omega), wa_ne (by omega), wa_at, wa_ne (by omega), wa_at]
    refine ⟨h1, h2, rfl, Nat.le_refl _, h5, h6, h7, h8, fun _ => ⟨fun k hk => ?_, fun _ _ => rfl, fun h ha hb => ?_⟩⟩
    · unfold va_cpy; rw [if_pos (by omega)]; show nI (V (0 + (k - 0))) = _; congr 2; omega
    · have := Nat.mod_lt h (by decide : 0 < 100)
      unfold va_cpy; rw [if_pos (by omega), show 0 + (h % 100 - 0) = h % 100 by omega]; exact h6 h ha hb
theorem c_bringBack0 (h : CP 0 g V a K Lg 0 IV ILg) : fX5_bringBack La 6 g = some (nI 0, g) := by
  have h1 := h.2.2.1
  unfold fX5_bringBack
  simp (disch := omega) only [l_0, l_1, l_2, l_3, l_4, l_5, l_6, l_7, l_8, l_9, l_10, l_11, l_12, l_13, l_14, l_15, l_16, l_17, l_18, l_19, l_20, l_21, l_22, l_23, l_24, l_25, l_26, l_28, l_29, l_30, l_31, l_32, l_33, l_34, l_36, l_37, l_38, l_39, l_40, l_41, l_42, l_43, l_44, l_45, l_46, l_47, l_48, l_49, l_50, l_53, l_54, l_57, l_58, l_59, l_60, l_61, l_62, l_63, l_91, l_93, l_97, l_98, l_99, l_100, l_103, l_104, l_110, l_112, l_114, l_115, l_116, l_119, l_120, l_121, l_124, l_128, l_231, l_240, l_241, l_255, l_496, l_999, l_1000, l_8191, l_9999, l_10000, l_100000, l_200000, l_1000000, l_1000000000, gz_let_eq, Option.bind_some, ↓reduceIte, wi_wa, wa_at, wa_wa, upd_fI, fI_ap, wa_2, n_add, n_ok, n_cl, n_lt, n_le, n_eq, p_0, p_1, p_01, em_t, nb_0, t_10, n_modd, n_modm, Bool.false_eq_true, not_false_eq_true, not_true, h1]
theorem c_bringBack (hv : g.1 22 = fI V) (h : CP 0 g V a K Lg 1 IV ILg) : ∃ g', fX5_bringBack La 6 g = some (nI 1, g') ∧ Fr (fun j => j = 22 ∨ j = 27 ∨ j = 9) g g' ∧ g'.1 22 = fI IV ∧ CP 0 g' IV 0 K ILg 1 IV ILg := by
  obtain ⟨h1, h2, h3, h4, h5, h6, h7, h8, h9⟩ := h
  obtain ⟨i1, i2, i3⟩ := h9 rfl
  have erow : va_cpy (g.1 28) (fI V) 0 0 50 = fI IV := by
    funext k
    unfold va_cpy
    by_cases hk : 0 ≤ k ∧ k < 0 + 50
    · rw [if_pos hk, show 0 + (k - 0) = k by omega]; exact i1 k (by omega)
    · rw [if_neg hk]; show nI (V k) = nI (IV k); rw [i2 k (by omega)]
  refine ⟨gz_wa (gz_wa (gz_wa g 22 (fI IV)) 27 (va_cpy (g.1 29) (g.1 27) 0 0 100)) 9 (upd (g.1 9) 0 (nI 0)), ?_, ((Fr.rf.wa (by omega)).wa (by omega)).wa (by omega), ?_, ?_⟩
  · unfold fX5_bringBack
    simp (disch := omega) only [l_0, l_1, l_2, l_3, l_4, l_5, l_6, l_7, l_8, l_9, l_10, l_11, l_12, l_13, l_14, l_15, l_16, l_17, l_18, l_19, l_20, l_21, l_22, l_23, l_24, l_25, l_26, l_28, l_29, l_30, l_31, l_32, l_33, l_34, l_36, l_37, l_38, l_39, l_40, l_41, l_42, l_43, l_44, l_45, l_46, l_47, l_48, l_49, l_50, l_53, l_54, l_57, l_58, l_59, l_60, l_61, l_62, l_63, l_91, l_93, l_97, l_98, l_99, l_100, l_103, l_104, l_110, l_112, l_114, l_115, l_116, l_119, l_120, l_121, l_124, l_128, l_231, l_240, l_241, l_255, l_496, l_999, l_1000, l_8191, l_9999, l_10000, l_100000, l_200000, l_1000000, l_1000000000, gz_let_eq, Option.bind_some, ↓reduceIte, wi_wa, wa_at, wa_wa, upd_fI, fI_ap, wa_2, n_add, n_ok, n_cl, n_lt, n_le, n_eq, p_0, p_1, p_01, em_t, nb_0, t_10, n_modd, n_modm, Bool.false_eq_true, not_false_eq_true, not_true, h3]
    rw [if_pos (by omega), if_pos (by omega)]
    simp (disch := omega) only [l_0, l_1, l_2, l_3, l_4, l_5, l_6, l_7, l_8, l_9, l_10, l_11, l_12, l_13, l_14, l_15, l_16, l_17, l_18, l_19, l_20, l_21, l_22, l_23, l_24, l_25, l_26, l_28, l_29, l_30, l_31, l_32, l_33, l_34, l_36, l_37, l_38, l_39, l_40, l_41, l_42, l_43, l_44, l_45, l_46, l_47, l_48, l_49, l_50, l_53, l_54, l_57, l_58, l_59, l_60, l_61, l_62, l_63, l_91, l_93, l_97, l_98, l_99, l_100, l_103, l_104, l_110, l_112, l_114, l_115, l_116, l_119, l_120, l_121, l_124, l_128, l_231, l_240, l_241, l_255, l_496, l_999, l_1000, l_8191, l_9999, l_10000, l_100000, l_200000, l_1000000, l_1000000000, gz_let_eq, Option.bind_some, ↓reduceIte, wi_wa, wa_at, wa_wa, upd_fI, fI_ap, wa_2, n_add, n_ok, n_cl, n_lt, n_le, n_eq, p_0, p_1, p_01, em_t, nb_0, t_10, n_modd, n_modm, Bool.false_eq_true, not_false_eq_true, not_true, hv, erow, wa_ne]
  · rw [wa_ne (by omega), wa_ne (by omega), wa_at]
  · unfold CP
    rw [wa_at, wa_ne (by omega), wa_ne (by omega), wa_ne (by omega), wa_ne (by omega), wa_at, wa_ne (by omega), wa_ne (by omega), wa_ne (by omega), wa_ne (by omega), wa_ne (by omega), wa_ne (by omega)]
    have hn : ∀ h, h < IV 49 → IV 49 ≤ h + 60 → va_cpy (g.1 29) (g.1 27) 0 0 100 (h % 100) = nI (ILg h) := by
      intro h ha hb
      have := Nat.mod_lt h (by decide : 0 < 100)
      unfold va_cpy; rw [if_pos (by omega), show 0 + (h % 100 - 0) = h % 100 by omega]; exact i3 h ha hb
    obtain ⟨t, ht, h5a, -⟩ := h5
    exact ⟨rfl, by omega, h3, h4, ⟨t, ht, h5a, fun i hi => absurd hi (Nat.not_lt_zero _)⟩, hn, ⟨fun i hi => absurd hi (Nat.not_lt_zero _), fun i j _ hj => absurd hj (Nat.not_lt_zero _)⟩, fun i hi => absurd hi (Nat.not_lt_zero _), fun _ => ⟨i1, fun _ _ => rfl, i3⟩⟩
end C5
