/-! texts as the reference reads them -/
def RT (g : gz_S) (e o : Nat) (b : Nat → Nat) (len a : Nat) : Prop := g.2.2 1 = some e ∧ (e = 40 ∨ e = 41) ∧ g.1 39 8 = nI o ∧ g.1 39 9 = nI len ∧ g.1 39 10 = nI a ∧ a ≤ len ∧ len ≤ 240 ∧ o + len ≤ gz_ln e ∧ ∀ k, k < len → g.1 e (o + k) = sb (b k) ∧ b k < 256
def rs (g : gz_S) (p : Nat) : gz_S := gz_wa g 39 (upd (g.1 39) 10 (nI p))
theorem rs_rs (g : gz_S) (p q : Nat) : rs (rs g p) q = rs g q := by
  unfold rs; rw [wa_at, wa_wa, upd_upd]
theorem rs_id {g : gz_S} {p : Nat} (h : g.1 39 10 = nI p) : rs g p = g := by
  unfold rs; rw [upd_id h]; exact wa_id rfl
theorem rs_n {g : gz_S} {p j : Nat} (h : j ≠ 39) : (rs g p).1 j = g.1 j := wa_ne h
theorem rs_10 (g : gz_S) (p : Nat) : (rs g p).1 39 10 = nI p := by unfold rs; rw [wa_at]; exact if_pos rfl
theorem rs_f {g : gz_S} {p k : Nat} (h : k ≠ 10) : (rs g p).1 39 k = g.1 39 k := by unfold rs; rw [wa_at]; exact if_neg h
theorem wi_rs (g : gz_S) (p : Nat) : gz_wi g 39 10 (nI p) = rs g p := by rw [wi_wa]; rfl
theorem RT.ne {g : gz_S} {e o : Nat} {b : Nat → Nat} {len a : Nat} (h : RT g e o b len a) : e ≠ 39 := by rcases h.2.1 with rfl | rfl <;> omega
theorem RT.st {g : gz_S} {e o : Nat} {b : Nat → Nat} {len a p : Nat} (h : RT g e o b len a) (hp : p ≤ len) : RT (rs g p) e o b len p := by
  have hn := h.ne
  obtain ⟨h1, h2, h3, h4, h5, h6, h7, h8, h9⟩ := h
  exact ⟨h1, h2, by rw [rs_f (by omega)]; exact h3, by rw [rs_f (by omega)]; exact h4, rs_10 g p, hp, h7, h8, by rw [rs_n hn]; exact h9⟩
theorem RT.wf {g : gz_S} {e o : Nat} {b : Nat → Nat} {len a k : Nat} {x : Int32} (h : RT g e o b len a) (hk : k ≠ 8 ∧ k ≠ 9 ∧ k ≠ 10) : RT (gz_wi g 39 k x) e o b len a := by
  have hn := h.ne
  obtain ⟨h1, h2, h3, h4, h5, h6, h7, h8, h9⟩ := h
  rw [wi_wa]
  exact ⟨h1, h2, by rw [wa_at]; exact (if_neg (by omega)).trans h3, by rw [wa_at]; exact (if_neg (by omega)).trans h4, by rw [wa_at]; exact (if_neg (by omega)).trans h5, h6, h7, h8, by rw [wa_ne hn]; exact h9⟩
section R12
variable {La : gz_L} {g : gz_S} {e o : Nat} {b : Nat → Nat} {len a : Nat}
theorem gz_ln_e (h : e = 40 ∨ e = 41) : gz_ln e ≤ 2000 := by rcases h with rfl | rfl <;> decide
theorem r_isDigit (h : RT g e o b len a) : fX12_isDigit La g = some (pI (dg b len a), g) := by
  obtain ⟨h1, h2, h3, h4, h5, h6, h7, h8, h9⟩ := h
  have hl := gz_ln_e h2
  unfold fX12_isDigit
  by_cases c0 : len ≤ a
  · simp (disch := omega) only [l_0, l_1, l_2, l_3, l_4, l_5, l_6, l_7, l_8, l_9, l_10, l_11, l_12, l_13, l_14, l_15, l_16, l_17, l_18, l_19, l_20, l_21, l_22, l_23, l_24, l_25, l_26, l_28, l_29, l_30, l_31, l_32, l_33, l_34, l_36, l_37, l_38, l_39, l_40, l_41, l_42, l_43, l_44, l_45, l_46, l_47, l_48, l_49, l_50, l_53, l_54, l_57, l_58, l_59, l_60, l_61, l_62, l_63, l_91, l_93, l_97, l_98, l_99, l_100, l_103, l_104, l_110, l_112, l_114, l_115, l_116, l_119, l_120, l_121, l_124, l_128, l_231, l_240, l_241, l_255, l_496, l_999, l_1000, l_8191, l_9999, l_10000, l_100000, l_200000, l_1000000, l_1000000000, h4, h5, n_le, c0, ↓reduceIte]
    exact p_f (fun hh => by have := hh.1; omega)
  · obtain ⟨k1, k2⟩ := h9 a (by omega)
    obtain ⟨f1, f2, f3, f4⟩ := sb_f (b a) k2
    simp (disch := omega) only [l_0, l_1, l_2, l_3, l_4, l_5, l_6, l_7, l_8, l_9, l_10, l_11, l_12, l_13, l_14, l_15, l_16, l_17, l_18, l_19, l_20, l_21, l_22, l_23, l_24, l_25, l_26, l_28, l_29, l_30, l_31, l_32, l_33, l_34, l_36, l_37, l_38, l_39, l_40, l_41, l_42, l_43, l_44, l_45, l_46, l_47, l_48, l_49, l_50, l_53, l_54, l_57, l_58, l_59, l_60, l_61, l_62, l_63, l_91, l_93, l_97, l_98, l_99, l_100, l_103, l_104, l_110, l_112, l_114, l_115, l_116, l_119, l_120, l_121, l_124, l_128, l_231, l_240, l_241, l_255, l_496, l_999, l_1000, l_8191, l_9999, l_10000, l_100000, l_200000, l_1000000, l_1000000000, h4, h5, h3, n_le, c0, ↓reduceIte, h1, gz_on, h2, n_add, n_ok, n_cl, k1, f3, f4]
    by_cases c1 : b a < 48 ∨ 128 ≤ b a
    · rw [if_pos c1]
      exact p_f (fun hh => by have := hh.2; omega)
    · rw [if_neg c1]
      by_cases c2 : 57 < b a ∧ b a < 128
      · rw [if_pos c2]
        exact p_f (fun hh => by have := hh.2; omega)
      · rw [if_neg c2]
        exact p_t ⟨by omega, by omega⟩
theorem r_here (h : RT g e o b len a) : fX12_here La g = some (oI (sg b len a), g) := by
  obtain ⟨h1, h2, h3, h4, h5, h6, h7, h8, h9⟩ := h
  have hl := gz_ln_e h2
  unfold fX12_here sg
  by_cases c0 : len ≤ a
  · rw [if_neg (show ¬ a < len by omega)]
    simp (disch := omega) only [l_0, l_1, l_2, l_3, l_4, l_5, l_6, l_7, l_8, l_9, l_10, l_11, l_12, l_13, l_14, l_15, l_16, l_17, l_18, l_19, l_20, l_21, l_22, l_23, l_24, l_25, l_26, l_28, l_29, l_30, l_31, l_32, l_33, l_34, l_36, l_37, l_38, l_39, l_40, l_41, l_42, l_43, l_44, l_45, l_46, l_47, l_48, l_49, l_50, l_53, l_54, l_57, l_58, l_59, l_60, l_61, l_62, l_63, l_91, l_93, l_97, l_98, l_99, l_100, l_103, l_104, l_110, l_112, l_114, l_115, l_116, l_119, l_120, l_121, l_124, l_128, l_231, l_240, l_241, l_255, l_496, l_999, l_1000, l_8191, l_9999, l_10000, l_100000, l_200000, l_1000000, l_1000000000, h4, h5, n_le, c0, ↓reduceIte]
    rfl
  · obtain ⟨k1, k2⟩ := h9 a (by omega)
    obtain ⟨f1, f2, f3, f4⟩ := sb_f (b a) k2
    have e255 : (255 : Int32) = nI 255 := rfl
    rw [if_pos (show a < len by omega)]
    simp (disch := omega) only [l_0, l_1, l_2, l_3, l_4, l_5, l_6, l_7, l_8, l_9, l_10, l_11, l_12, l_13, l_14, l_15, l_16, l_17, l_18, l_19, l_20, l_21, l_22, l_23, l_24, l_25, l_26, l_28, l_29, l_30, l_31, l_32, l_33, l_34, l_36, l_37, l_38, l_39, l_40, l_41, l_42, l_43, l_44, l_45, l_46, l_47, l_48, l_49, l_50, l_53, l_54, l_57, l_58, l_59, l_60, l_61, l_62, l_63, l_91, l_93, l_97, l_98, l_99, l_100, l_103, l_104, l_110, l_112, l_114, l_115, l_116, l_119, l_120, l_121, l_124, l_128, l_231, l_240, l_241, l_255, l_496, l_999, l_1000, l_8191, l_9999, l_10000, l_100000, l_200000, l_1000000, l_1000000000, h4, h5, h3, n_le, c0, ↓reduceIte, h1, gz_on, h2, n_add, n_ok, n_cl, k1, f1]
    rfl
theorem r_look (h : RT g e o b len a) : fX12_look La g = some (oI (sg b len (nx b len a)), rs g (nx b len a)) := by
  unfold fX12_look
  have fin : ∀ g1 a, RT g1 e o b len a → fX12_look_43 La g1 = some (oI (sg b len a), g1) := fun g1 a h1 => r_here (La := La) h1
  have key : ∀ n f a g1, RT g1 e o b len a → len - a ≤ n → len - a < f → fX12_look_0 La (fX12_look_43 La) f g1 = some (oI (sg b len (nx b len a)), rs g1 (nx b len a)) := by
    intro n
    induction n with
    | zero =>
      intro f a g1 h hn hf
      obtain ⟨f', rfl⟩ : ∃ f', f = f' + 1 := ⟨f - 1, by omega⟩
      have hfin := fin g1 a h
      obtain ⟨h1, h2, h3, h4, h5, h6, h7, h8, h9⟩ := h
      rw [nx_stay (by omega), rs_id h5, ← hfin, fX12_look_0]
      simp (disch := omega) only [h4, h5, n_le, show len ≤ a by omega, ↓reduceIte]
    | succ n ih =>
      intro f a g1 h hn hf
      obtain ⟨f', rfl⟩ : ∃ f', f = f' + 1 := ⟨f - 1, by omega⟩
      have hfin := fin g1 a h
      have hst := h.st (p := a + 1)
      obtain ⟨h1, h2, h3, h4, h5, h6, h7, h8, h9⟩ := h
      have hl := gz_ln_e h2
      by_cases c0 : len ≤ a
      · rw [nx_stay (by omega), rs_id h5, ← hfin, fX12_look_0]
        simp (disch := omega) only [h4, h5, n_le, c0, ↓reduceIte]
      · obtain ⟨k1, k2⟩ := h9 a (by omega)
        obtain ⟨f1, f2, f3, f4⟩ := sb_f (b a) k2
        by_cases h32 : b a = 32
        · have hgo := ih f' (a + 1) (rs g1 (a + 1)) (hst (by omega)) (by omega) (by omega)
          rw [nx_step ⟨by omega, h32⟩, ← rs_rs g1 (a + 1), ← hgo, fX12_look_0]
          simp (disch := omega) only [l_0, l_1, l_2, l_3, l_4, l_5, l_6, l_7, l_8, l_9, l_10, l_11, l_12, l_13, l_14, l_15, l_16, l_17, l_18, l_19, l_20, l_21, l_22, l_23, l_24, l_25, l_26, l_28, l_29, l_30, l_31, l_32, l_33, l_34, l_36, l_37, l_38, l_39, l_40, l_41, l_42, l_43, l_44, l_45, l_46, l_47, l_48, l_49, l_50, l_53, l_54, l_57, l_58, l_59, l_60, l_61, l_62, l_63, l_91, l_93, l_97, l_98, l_99, l_100, l_103, l_104, l_110, l_112, l_114, l_115, l_116, l_119, l_120, l_121, l_124, l_128, l_231, l_240, l_241, l_255, l_496, l_999, l_1000, l_8191, l_9999, l_10000, l_100000, l_200000, l_1000000, l_1000000000, h4, h5, h3, n_le, c0, ↓reduceIte, h1, gz_on, h2, n_add, n_ok, n_cl, k1, gz_let_eq, wi_rs]
          exact if_pos (f2.mpr h32)
        · rw [nx_stay (by omega), rs_id h5, ← hfin, fX12_look_0]
          simp (disch := omega) only [l_0, l_1, l_2, l_3, l_4, l_5, l_6, l_7, l_8, l_9, l_10, l_11, l_12, l_13, l_14, l_15, l_16, l_17, l_18, l_19, l_20, l_21, l_22, l_23, l_24, l_25, l_26, l_28, l_29, l_30, l_31, l_32, l_33, l_34, l_36, l_37, l_38, l_39, l_40, l_41, l_42, l_43, l_44, l_45, l_46, l_47, l_48, l_49, l_50, l_53, l_54, l_57, l_58, l_59, l_60, l_61, l_62, l_63, l_91, l_93, l_97, l_98, l_99, l_100, l_103, l_104, l_110, l_112, l_114, l_115, l_116, l_119, l_120, l_121, l_124, l_128, l_231, l_240, l_241, l_255, l_496, l_999, l_1000, l_8191, l_9999, l_10000, l_100000, l_200000, l_1000000, l_1000000000, h4, h5, h3, n_le, c0, ↓reduceIte, h1, gz_on, h2, n_add, n_ok, n_cl, k1, f2, h32]
  have h7 := h.2.2.2.2.2.2.1
  exact key len gz_FU a g h (by omega) (by unfold gz_FU; omega)
end R12
