/-! the reference's text: starts, fails, takes -/
def rf (g : gz_S) (p : Nat) : gz_S := gz_wa g 39 (upd (g.1 39) 11 (nI p))
section R12
variable {La : gz_L} {g : gz_S} {e o : Nat} {b : Nat → Nat} {len a : Nat}
theorem r_fails0 (h : RT g e o b len a) (hf : g.1 39 11 = -nI 1) : fX12_fails La g = some (nI 0, rf g a) := by
  obtain ⟨h1, h2, h3, h4, h5, h6⟩ := h
  have e1 : g.1 39 11 = -1 := hf
  unfold fX12_fails rf
  rw [if_pos e1, gz_let_eq, wi_wa, h5]
  rfl
theorem r_fails1 {p : Nat} (hp : p < 2147483648) (hf : g.1 39 11 = nI p) : fX12_fails La g = some (nI 0, g) := by
  have e1 : ¬ g.1 39 11 = -1 := by
    rw [hf, show (-1 : Int32) = -nI 1 from rfl, m_eq hp]; exact id
  unfold fX12_fails
  rw [if_neg e1]
  rfl
theorem r_takes (h : RT g e o b len a) (hf : g.1 39 11 = -nI 1) {c : Nat} (hc : c < 256) :
    fX12_takes La (nI c) g = some (if sg b len (nx b len a) = some c then (nI 1, rs g (nx b len a + 1)) else (nI 0, rf (rs g (nx b len a)) (nx b len a))) := by
  have h7 := h.2.2.2.2.2.2.1
  have hx := nx_le (b := b) h.2.2.2.2.2.1
  have hst := h.st hx.2
  have hsgc : ∀ d, sg b len (nx b len a) = some d → d < 2147483648 := fun d hd => by
    have h5 := sg_lt hd
    have := (h.2.2.2.2.2.2.2.2 _ h5.1).2
    omega
  have ho : (oI (sg b len (nx b len a)) = nI c) = (sg b len (nx b len a) = some c) := oI_eq (by omega) hsgc
  have e1 : g.1 39 11 = -1 := hf
  unfold fX12_takes
  rw [if_pos e1, r_look h, Option.bind_some]
  generalize nx b len a = p at *
  by_cases c1 : sg b len p = some c
  · have hlp := (sg_lt c1).1
    rw [if_pos (show oI (sg b len p) = nI c by rw [ho]; exact c1), if_pos c1]
    simp (disch := omega) only [l_0, l_1, l_2, l_3, l_4, l_5, l_6, l_7, l_8, l_9, l_10, l_11, l_12, l_13, l_14, l_15, l_16, l_17, l_18, l_19, l_20, l_21, l_22, l_23, l_24, l_25, l_26, l_28, l_29, l_30, l_31, l_32, l_33, l_34, l_36, l_37, l_38, l_39, l_40, l_41, l_42, l_43, l_44, l_45, l_46, l_47, l_48, l_49, l_50, l_53, l_54, l_57, l_58, l_59, l_60, l_61, l_62, l_63, l_91, l_93, l_97, l_98, l_99, l_100, l_103, l_104, l_110, l_112, l_114, l_115, l_116, l_119, l_120, l_121, l_124, l_128, l_231, l_240, l_241, l_255, l_496, l_999, l_1000, l_8191, l_9999, l_10000, l_100000, l_200000, l_1000000, l_1000000000, gz_let_eq, rs_10, n_add, wi_rs, rs_rs]
  · have hff : (rs g p).1 39 11 = -nI 1 := by rw [rs_f (by omega)]; exact hf
    rw [if_neg (show ¬ oI (sg b len p) = nI c by rw [ho]; exact c1), if_neg c1]
    unfold fX12_takes_16
    rw [r_fails0 hst hff, Option.bind_some]
    exact if_pos (Or.inl rfl)
end R12
