/-! the reference's tape is fed -/
def RTP (g : gz_S) (l : List Nat) : Prop := g.1 39 6 = nI l.length ∧ l.length ≤ 240 ∧ ∀ k, k < l.length → g.1 40 k = sb (l.getD k 0) ∧ l.getD k 0 < 256
theorem RTP.fr {g g' : gz_S} {l : List Nat} {S : Nat → Prop} (h : RTP g l) (hF : Fr S g g') (h1 : ¬ S 39) (h2 : ¬ S 40) : RTP g' l := by
  unfold RTP; rw [hF.1 39 h1, hF.1 40 h2]; exact h
section R12
variable {La : gz_L} {g : gz_S}
theorem r_bytes_s {a k c f : Nat} (hk : K8 k) : fX12_bytesIn_5 La (f + 1) (nI a) (nI c) (nI k) g = fX12_bytesIn_5 La f (nI a) (nI (c + (bp a k).length)) (nI k + -nI 8) g := by
  rw [fX12_bytesIn_5]
  have hlt : a / 2 ^ k % 256 < 256 := Nat.mod_lt _ (by omega)
  unfold bp fX12_bytesIn_25
  simp (disch := omega) only [l_0, l_1, l_2, l_3, l_4, l_5, l_6, l_7, l_8, l_9, l_10, l_11, l_12, l_13, l_14, l_15, l_16, l_17, l_18, l_19, l_20, l_21, l_22, l_23, l_24, l_25, l_26, l_28, l_29, l_30, l_31, l_32, l_33, l_34, l_36, l_37, l_38, l_39, l_40, l_41, l_42, l_43, l_44, l_45, l_46, l_47, l_48, l_49, l_50, l_53, l_54, l_57, l_58, l_59, l_60, l_61, l_62, l_63, l_91, l_93, l_97, l_98, l_99, l_100, l_103, l_104, l_110, l_112, l_114, l_115, l_116, l_119, l_120, l_121, l_124, l_128, l_231, l_240, l_241, l_255, l_496, l_999, l_1000, l_8191, l_9999, l_10000, l_100000, l_200000, l_1000000, l_1000000000, gz_let_eq, sh_255 hk, k_lt hk, ↓reduceIte, n_eq, n_add]
  by_cases c0 : a / 2 ^ k % 256 = 0
  · rw [if_pos c0, if_pos c0]; rfl
  · rw [if_neg c0, if_neg c0]; rfl
theorem r_bytesIn {a : Nat} : fX12_bytesIn La (nI a) g = some (nI (bts a).length, g) := by
  obtain ⟨f, hf⟩ : ∃ f, gz_FU = f + 1 + 1 + 1 + 1 + 1 := ⟨gz_FU - 5, by unfold gz_FU; omega⟩
  have s1 : nI 24 + -nI 8 = nI 16 := by decide
  have s2 : nI 16 + -nI 8 = nI 8 := by decide
  have s3 : nI 8 + -nI 8 = nI 0 := by decide
  have s4 : nI 0 + -nI 8 < nI 0 := by decide
  show fX12_bytesIn_5 La gz_FU (nI a) (nI 0) (nI 24) g = _
  rw [hf, r_bytes_s (by omega), s1, r_bytes_s (by omega), s2, r_bytes_s (by omega), s3, r_bytes_s (by omega), fX12_bytesIn_5]
  refine (if_pos s4).trans ?_
  unfold bts
  simp only [List.length_append, Nat.zero_add, Nat.add_assoc]
theorem r_put_s {a k f : Nat} {l : List Nat} (hk : K8 k) (h : RTP g l) (hl : (l ++ bp a k).length ≤ 240) :
    ∃ g', fX12_put_3 La (f + 1) (nI a) (nI k) g = fX12_put_3 La f (nI a) (nI k + -nI 8) g' ∧ Fr (fun j => j = 39 ∨ j = 40) g g' ∧ RTP g' (l ++ bp a k) ∧ ∀ j, j ≠ 6 → g'.1 39 j = g.1 39 j := by
  rw [fX12_put_3]
  have hlt : a / 2 ^ k % 256 < 256 := Nat.mod_lt _ (by omega)
  obtain ⟨h1, h2, h3⟩ := h
  unfold bp at hl ⊢
  unfold fX12_put_43
  by_cases c0 : a / 2 ^ k % 256 = 0
  · refine ⟨g, ?_, Fr.rf, ?_, fun _ _ => rfl⟩
    · simp (disch := omega) only [l_0, l_1, l_2, l_3, l_4, l_5, l_6, l_7, l_8, l_9, l_10, l_11, l_12, l_13, l_14, l_15, l_16, l_17, l_18, l_19, l_20, l_21, l_22, l_23, l_24, l_25, l_26, l_28, l_29, l_30, l_31, l_32, l_33, l_34, l_36, l_37, l_38, l_39, l_40, l_41, l_42, l_43, l_44, l_45, l_46, l_47, l_48, l_49, l_50, l_53, l_54, l_57, l_58, l_59, l_60, l_61, l_62, l_63, l_91, l_93, l_97, l_98, l_99, l_100, l_103, l_104, l_110, l_112, l_114, l_115, l_116, l_119, l_120, l_121, l_124, l_128, l_231, l_240, l_241, l_255, l_496, l_999, l_1000, l_8191, l_9999, l_10000, l_100000, l_200000, l_1000000, l_1000000000, gz_let_eq, sh_255 hk, k_lt hk, ↓reduceIte, c0]
    · rw [if_pos c0, List.append_nil]; exact ⟨h1, h2, h3⟩
  · rw [if_neg c0] at hl ⊢
    rw [List.length_append] at hl
    have hl : l.length + 1 ≤ 240 := hl
    refine ⟨gz_wa (gz_wa g 40 (upd (g.1 40) l.length (sb (a / 2 ^ k % 256)))) 39 (upd ((gz_wa g 40 (upd (g.1 40) l.length (sb (a / 2 ^ k % 256)))).1 39) 6 (nI (l.length + 1))), ?_, (Fr.rf.wa (Or.inr rfl)).wa (Or.inl rfl), ?_, fun j hj => ?_⟩
    · have e1 : (gz_wa g 40 (upd (g.1 40) l.length (sb (a / 2 ^ k % 256)))).1 39 6 = nI l.length := by rw [wa_ne (by omega)]; exact h1
      have hsb := sh_sb (a := a) hk
      simp (disch := omega) only [l_0, l_1, l_2, l_3, l_4, l_5, l_6, l_7, l_8, l_9, l_10, l_11, l_12, l_13, l_14, l_15, l_16, l_17, l_18, l_19, l_20, l_21, l_22, l_23, l_24, l_25, l_26, l_28, l_29, l_30, l_31, l_32, l_33, l_34, l_36, l_37, l_38, l_39, l_40, l_41, l_42, l_43, l_44, l_45, l_46, l_47, l_48, l_49, l_50, l_53, l_54, l_57, l_58, l_59, l_60, l_61, l_62, l_63, l_91, l_93, l_97, l_98, l_99, l_100, l_103, l_104, l_110, l_112, l_114, l_115, l_116, l_119, l_120, l_121, l_124, l_128, l_231, l_240, l_241, l_255, l_496, l_999, l_1000, l_8191, l_9999, l_10000, l_100000, l_200000, l_1000000, l_1000000000, gz_let_eq, sh_255 hk, k_lt hk, ↓reduceIte, n_eq, n_ok, n_cl, n_add, h1, c0, wi_wa, hsb, e1]
    · refine ⟨?_, ?_, fun j hj => ?_⟩
      · rw [wa_at, List.length_append]; exact if_pos rfl
      · rw [List.length_append]; exact hl
      · rw [List.length_append] at hj
        have hj : j < l.length + 1 := hj
        rw [wa_ne (by omega), wa_at, getD_app]
        unfold upd
        by_cases c1 : j = l.length
        · rw [if_pos c1, if_neg (by omega), c1, Nat.sub_self]; exact ⟨rfl, hlt⟩
        · rw [if_neg c1, if_pos (by omega)]; exact h3 j (by omega)
    · rw [wa_at]; unfold upd; rw [if_neg hj, wa_ne (by omega)]
theorem r_put {a : Nat} {l : List Nat} (h : RTP g l) (hl : (l ++ bts a).length ≤ 240) :
    ∃ g', fX12_put La (nI a) g = some g' ∧ Fr (fun j => j = 39 ∨ j = 40) g g' ∧ RTP g' (l ++ bts a) ∧ ∀ j, j ≠ 6 → g'.1 39 j = g.1 39 j := by
  obtain ⟨f, hf⟩ : ∃ f, gz_FU = f + 1 + 1 + 1 + 1 + 1 := ⟨gz_FU - 5, by unfold gz_FU; omega⟩
  have s1 : nI 24 + -nI 8 = nI 16 := by decide
  have s2 : nI 16 + -nI 8 = nI 8 := by decide
  have s3 : nI 8 + -nI 8 = nI 0 := by decide
  have s4 : nI 0 + -nI 8 < nI 0 := by decide
  unfold bts at hl
  rw [List.length_append, List.length_append, List.length_append, List.length_append] at hl
  obtain ⟨g1, r1, F1, T1, q1⟩ := r_put_s (La := La) (a := a) (f := f + 1 + 1 + 1 + 1) (k := 24) (by omega) h (by rw [List.length_append]; omega)
  obtain ⟨g2, r2, F2, T2, q2⟩ := r_put_s (La := La) (a := a) (f := f + 1 + 1 + 1) (k := 16) (by omega) T1 (by rw [List.length_append, List.length_append]; omega)
  obtain ⟨g3, r3, F3, T3, q3⟩ := r_put_s (La := La) (a := a) (f := f + 1 + 1) (k := 8) (by omega) T2 (by rw [List.length_append, List.length_append, List.length_append]; omega)
  obtain ⟨g4, r4, F4, T4, q4⟩ := r_put_s (La := La) (a := a) (f := f + 1) (k := 0) (by omega) T3 (by rw [List.length_append, List.length_append, List.length_append, List.length_append]; omega)
  refine ⟨g4, ?_, ((F1.tr F2).tr F3).tr F4, ?_, fun j hj => by rw [q4 j hj, q3 j hj, q2 j hj, q1 j hj]⟩
  · show fX12_put_3 La gz_FU (nI a) (nI 24) g = _
    rw [hf, r1, s1, r2, s2, r3, s3, r4, fX12_put_3]
    exact if_pos s4
  · unfold bts
    rw [← List.append_assoc, ← List.append_assoc, ← List.append_assoc]
    exact T4
end R12
