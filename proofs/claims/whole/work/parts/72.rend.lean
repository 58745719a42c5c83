/-! calls of the reference: feed, end; and that both answer alike -/
section R12
variable {La : gz_L} {g : gz_S} {l : List Nat}
theorem RTP.f0 (h : RTP g l) : RTP (gz_wi g 39 0 0) l := by
  rw [wi_wa]
  exact ⟨by rw [wa_at]; exact h.1, h.2.1, by rw [wa_ne (by omega)]; exact h.2.2⟩
theorem r_end (h : RTP g l) {x : Int32} : ∃ g', fX12_end La x g = some (pI (0 ≤ x.toInt ∧ x.toInt ≤ l.length), g') ∧ Fr (fun j => j = 39) g g' ∧ RTP g' (if 0 ≤ x.toInt ∧ x.toInt ≤ l.length then l.take x.toInt.toNat else l) ∧ ∀ j, ¬ (j = 0 ∨ j = 6) → g'.1 39 j = g.1 39 j := by
  have h0 := h.f0
  have F0 : Fr (fun j => j = 39) g (gz_wi g 39 0 0) := Fr.rf.wi rfl
  have q0 : ∀ j, ¬ (j = 0 ∨ j = 6) → (gz_wi g 39 0 0).1 39 j = g.1 39 j := fun j hj => by rw [wi_wa, wa_at]; exact if_neg (by omega)
  unfold fX12_end
  rw [gz_let_eq]
  generalize gz_wi g 39 0 0 = g2 at *
  have hl := h0.2.1
  have e0 : (x < 0) = (x.toInt < 0) := propext Int32.lt_iff_toInt_lt
  have e1 : (x ≤ g2.1 39 6) = (x.toInt ≤ l.length) := by rw [h0.1]; exact x_le (by omega)
  by_cases c0 : x.toInt < 0
  · rw [if_pos (by rw [e0]; exact c0), if_neg (by omega)]
    exact ⟨g2, p_f (by omega), F0, h0, q0⟩
  rw [if_neg (by rw [e0]; exact c0)]
  by_cases c1 : x.toInt ≤ l.length
  · rw [if_pos (by rw [e1]; exact c1), if_pos (by omega)]
    refine ⟨gz_wi g2 39 6 x, p_t (by omega), F0.wi rfl, ?_, fun j hj => by rw [wi_wa, wa_at]; exact (if_neg (by omega)).trans (q0 j hj)⟩
    obtain ⟨n, hn, hn2⟩ : ∃ n : Nat, x.toInt = n ∧ n ≤ l.length := ⟨x.toInt.toNat, by omega, by omega⟩
    have hx : x = nI n := by rw [x_eq (by omega)]; exact hn
    have ht : x.toInt.toNat = n := by omega
    rw [ht, wi_wa]
    refine ⟨?_, ?_, fun k hk => ?_⟩
    · rw [wa_at, List.length_take, Nat.min_eq_left hn2, ← hx]; exact if_pos rfl
    · rw [List.length_take]; omega
    · rw [List.length_take] at hk
      have e : (l.take n).getD k 0 = l.getD k 0 := by
        rw [List.getD_eq_getElem?_getD, List.getD_eq_getElem?_getD, List.getElem?_take_of_lt (by omega)]
      rw [e, wa_ne (by omega)]
      exact h0.2.2 k (by omega)
  · rw [if_neg (by rw [e1]; exact c1), if_neg (by omega)]
    exact ⟨g2, p_f (by omega), F0, h0, q0⟩
theorem bts_4 (a : Nat) : (bts a).length ≤ 4 := by
  have hb : ∀ a k, (bp a k).length ≤ 1 := fun a k => by unfold bp; split <;> first | exact Nat.zero_le _ | exact Nat.le_refl _
  unfold bts
  rw [List.length_append, List.length_append, List.length_append]
  have := hb a 24; have := hb a 16; have := hb a 8; have := hb a 0
  omega
theorem r_feed (h : RTP g l) {a1 a2 a3 a4 a5 : Nat} :
    ∃ g', fX12_feed La (nI a1) (nI a2) (nI a3) (nI a4) (nI a5) g = some (if (l ++ bts a1 ++ bts a2 ++ bts a3 ++ bts a4 ++ bts a5).length ≤ 240 then nI (l ++ bts a1 ++ bts a2 ++ bts a3 ++ bts a4 ++ bts a5).length else -nI 1, g') ∧ Fr (fun j => j = 39 ∨ j = 40) g g' ∧
      RTP g' (if (l ++ bts a1 ++ bts a2 ++ bts a3 ++ bts a4 ++ bts a5).length ≤ 240 then l ++ bts a1 ++ bts a2 ++ bts a3 ++ bts a4 ++ bts a5 else l) ∧ ∀ j, ¬ (j = 0 ∨ j = 6) → g'.1 39 j = g.1 39 j := by
  have b1 := bts_4 a1
  have b2 := bts_4 a2
  have b3 := bts_4 a3
  have b4 := bts_4 a4
  have b5 := bts_4 a5
  have h0 := h.f0
  have F0 : Fr (fun j => j = 39 ∨ j = 40) g (gz_wi g 39 0 0) := Fr.rf.wi (Or.inl rfl)
  have q0 : ∀ j, ¬ (j = 0 ∨ j = 6) → (gz_wi g 39 0 0).1 39 j = g.1 39 j := fun j hj => by rw [wi_wa, wa_at]; exact if_neg (by omega)
  unfold fX12_feed
  rw [gz_let_eq]
  generalize gz_wi g 39 0 0 = g2 at *
  have hl := h0.2.1
  have el : (l ++ bts a1 ++ bts a2 ++ bts a3 ++ bts a4 ++ bts a5).length = l.length + (bts a1).length + (bts a2).length + (bts a3).length + (bts a4).length + (bts a5).length := by
    simp only [List.length_append]
  simp (disch := omega) only [r_bytesIn, Option.bind_some, h0.1, n_add, l_0, l_1, l_2, l_3, l_4, l_5, l_6, l_7, l_8, l_9, l_10, l_11, l_12, l_13, l_14, l_15, l_16, l_17, l_18, l_19, l_20, l_21, l_22, l_23, l_24, l_25, l_26, l_28, l_29, l_30, l_31, l_32, l_33, l_34, l_36, l_37, l_38, l_39, l_40, l_41, l_42, l_43, l_44, l_45, l_46, l_47, l_48, l_49, l_50, l_53, l_54, l_57, l_58, l_59, l_60, l_61, l_62, l_63, l_91, l_93, l_97, l_98, l_99, l_100, l_103, l_104, l_110, l_112, l_114, l_115, l_116, l_119, l_120, l_121, l_124, l_128, l_231, l_240, l_241, l_255, l_496, l_999, l_1000, l_8191, l_9999, l_10000, l_100000, l_200000, l_1000000, l_1000000000, n_le]
  by_cases hf : (l ++ bts a1 ++ bts a2 ++ bts a3 ++ bts a4 ++ bts a5).length ≤ 240
  · rw [if_pos hf, if_pos hf, if_pos (by omega)]
    have hl2 : ∀ x y : List Nat, (x ++ y).length = x.length + y.length := fun x y => List.length_append
    obtain ⟨g3, r1, F1, T1, q1⟩ := r_put (La := La) (a := a1) h0 (by rw [hl2]; omega)
    obtain ⟨g4, r2, F2, T2, q2⟩ := r_put (La := La) (a := a2) T1 (by rw [hl2, hl2]; omega)
    obtain ⟨g5, r3, F3, T3, q3⟩ := r_put (La := La) (a := a3) T2 (by rw [hl2, hl2, hl2]; omega)
    obtain ⟨g6, r4, F4, T4, q4⟩ := r_put (La := La) (a := a4) T3 (by rw [hl2, hl2, hl2, hl2]; omega)
    obtain ⟨g7, r5, F5, T5, q5⟩ := r_put (La := La) (a := a5) T4 hf
    refine ⟨g7, ?_, ((((F0.tr F1).tr F2).tr F3).tr F4).tr F5, T5, fun j hj => by rw [q5 j (by omega), q4 j (by omega), q3 j (by omega), q2 j (by omega), q1 j (by omega), q0 j hj]⟩
    rw [r1, Option.bind_some, r2, Option.bind_some, r3, Option.bind_some, r4, Option.bind_some, r5, Option.bind_some, T5.1]
  · rw [if_neg hf, if_neg hf, if_neg (by omega)]
    exact ⟨g2, rfl, F0, h0, q0⟩
end R12
