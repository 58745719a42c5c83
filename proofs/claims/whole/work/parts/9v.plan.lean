/-! the reference's steps of an evening -/
section RW
variable {g : gz_S} {V W U : Nat → Nat} {B : Nat} {La : gz_L} {Ls : List (List Nat)} {cur : Option Nat} {w : Nat}
def PlE (g : gz_S) (o wd : Nat) (f s : Option Nat) : Prop := (o + 2 < 240 ∧ sWell wd f s) ∧ g.1 51 o = nI wd ∧ g.1 51 (o + 1) = oI f ∧ g.1 51 (o + 2) = oI s
theorem pI_01 {P : Prop} [Decidable P] : pI P = 0 ∨ pI P = 1 := by
  unfold pI; split
  · exact Or.inr rfl
  · exact Or.inl rfl
theorem CX.n {k : Nat} (h : CX g w V Ls cur) (hk : 46 ≤ k ∧ k < 50) : g.1 w k = nI (V k) := by
  have := h.1 k hk.2
  rw [rp_n hk.1] at this; exact this
theorem r_canTide (h : CX g w V Ls cur) (hW : Wf B V) {f : Nat} (hf : f ≤ 1000) : fX12_canTide La w (nI f) g = some (pI (f ≤ 5 ∧ ¬ f = V 46), g) := by
  have b46 := hW.2.2.2.2.1
  unfold fX12_canTide
  rw [x_l, n_ti (by omega), show (0 : Int64) = Int64.ofInt 0 from rfl, show (5 : Int64) = Int64.ofInt 5 from rfl, r_isInZ (by omega) (by omega) (by omega), Option.bind_some, h.n (k := 46) (by omega)]
  by_cases c1 : f ≤ 5
  · refine (if_neg (pI1 (by omega))).trans ?_
    by_cases c2 : f = V 46
    · exact (if_pos (by rw [c2])).trans (p_f (fun hh => hh.2 c2))
    · exact (if_neg (by rw [n_eq (by omega) (by omega)]; exact c2)).trans (p_t ⟨c1, c2⟩)
  · exact (if_pos (pI0 (by omega))).trans (p_f (fun hh => c1 hh.1))
theorem r_canStep (h : CX g w V Ls cur) (hW : Wf B V) (hB : B < 1000000) {o wd : Nat} {f s : Option Nat} (hp : PlE g o wd f s) : fX12_canStep La w (nI o) g = some (pI (sMay1 V wd (f.getD 0) (s.getD 0)), g) := by
  obtain ⟨⟨ho, hw⟩, e0, e1, e2⟩ := hp
  have h60 := hW.2.2.2.1
  have b49 := hW.2.2.2.2.2.2.2.1
  have b48 := hW.2.2.2.2.2.2.1
  unfold fX12_canStep
  rw [show nI o + (1 : Int32) = nI (o + 1) from n_add _ _, show nI o + (2 : Int32) = nI (o + 2) from n_add _ 2, if_pos (n_okP (by omega) (by omega)), gz_let_eq, if_pos (n_okP (by omega) (by omega)), gz_let_eq, n_cl (a := o) (by omega), n_cl (a := o + 1) (by omega), e0, e1]
  rcases hw with ⟨rfl, rfl, rfl⟩ | ⟨rfl, x, y, rfl, rfl, hx, hy⟩ | ⟨rfl, x, rfl, hx, rfl⟩ | ⟨rfl, x, rfl, hx, rfl⟩
  · rw [if_pos (show nI 0 = 0 from rfl), h.n (k := 49) (by omega)]
    by_cases c : 9999 ≤ V 49
    · exact (if_pos (show nI 9999 ≤ nI (V 49) by rw [n_le (by omega) (by omega)]; exact c)).trans (p_f (fun hh => by have := (sMay1_0.mp hh).2; omega))
    · exact (if_neg (show ¬ nI 9999 ≤ nI (V 49) by rw [n_le (by omega) (by omega)]; exact c)).trans (p_t (sMay1_0.mpr ⟨by omega, by omega⟩))
  · rw [if_neg (show ¬ nI 1 = 0 by decide), if_pos (show nI 1 = 1 from rfl), if_pos (n_okP (by omega) (by omega)), n_cl (by omega), e2]
    show (fX12_canBegin La w (nI x) (nI y) g).bind _ = _
    rw [r_canBegin h hW, Option.bind_some]
    have ex : (nI x).toInt = (x : Int) := n_ti (by omega)
    have ey : (nI y).toInt = (y : Int) := n_ti (by omega)
    have hiff : sMay1 V 1 x y ↔ (x < V 60 ∧ y < 4 ∧ ¬ V (V (54 + x)) = 1 ∧ 3 ≤ V 48) := sMay1_1
    by_cases c : (0 ≤ (nI x).toInt ∧ (nI x).toInt < (V 60 : Int)) ∧ (0 ≤ (nI y).toInt ∧ (nI y).toInt < 4) ∧ ¬ V (V (54 + (nI x).toInt.toNat)) = 1
    · refine (if_neg (pI1 c)).trans ?_
      have c' : x < V 60 ∧ y < 4 ∧ ¬ V (V (54 + x)) = 1 := ⟨by omega, by omega, by have := c.2.2; rw [show (nI x).toInt.toNat = x by omega] at this; exact this⟩
      show (if g.1 w 48 < 3 then some (0, g) else some (1, g)) = _
      rw [h.n (k := 48) (by omega)]
      by_cases c3 : V 48 < 3
      · exact (if_pos (show nI (V 48) < nI 3 by rw [n_lt (by omega) (by omega)]; exact c3)).trans (p_f (fun hh => by have := (hiff.mp hh).2.2.2; omega))
      · exact (if_neg (show ¬ nI (V 48) < nI 3 by rw [n_lt (by omega) (by omega)]; exact c3)).trans (p_t (hiff.mpr ⟨c'.1, c'.2.1, c'.2.2, by omega⟩))
    · refine (if_pos (pI0 c)).trans (p_f (fun hh => c ?_))
      have := hiff.mp hh
      exact ⟨by omega, by omega, by rw [show (nI x).toInt.toNat = x by omega]; exact this.2.2.1⟩
  · rw [if_neg (show ¬ nI 2 = 0 by decide), if_neg (show ¬ nI 2 = 1 by decide), if_pos (show nI 2 = 2 from rfl)]
    show (fX12_canTide La w (nI x) g).bind _ = _
    rw [r_canTide h hW (by omega), Option.bind_some]
    refine (if_pos pI_01).trans (p_c ?_)
    have hiff : sMay1 V 2 x 0 ↔ (0 < V 60 ∧ x ≤ 5 ∧ (x < V 46 ∨ V 46 < x)) := sMay1_2
    show _ ↔ sMay1 V 2 x 0
    rw [hiff]
    exact ⟨fun hh => ⟨by omega, hh.1, by omega⟩, fun hh => ⟨hh.2.1, by omega⟩⟩
  · rw [if_neg (show ¬ nI 3 = 0 by decide), if_neg (show ¬ nI 3 = 1 by decide), if_neg (show ¬ nI 3 = 2 by decide)]
    show (fX12_canSweep La w (nI x) g).bind _ = _
    rw [r_canSweep h hW, Option.bind_some]
    refine (if_pos pI_01).trans (p_c ?_)
    have ex : (nI x).toInt = (x : Int) := n_ti (by omega)
    have hiff : sMay1 V 3 x 0 ↔ (x < V 58 * V 59 ∧ 0 < sCnt V x ∧ 1 ≤ V 48) := sMay1_3
    show _ ↔ sMay1 V 3 x 0
    rw [hiff, show (nI x).toInt.toNat = x by omega]
    exact ⟨fun hh => ⟨by omega, hh.2⟩, fun hh => ⟨by omega, hh.2⟩⟩
theorem r_goPlan (hw : isW w) (h : CX g w V Ls cur) (hW : Wf B V) {o wd : Nat} {f s : Option Nat} (hp : PlE g o wd f s) (h0 : ¬ wd = 0) (hm : sMay1 V wd (f.getD 0) (s.getD 0)) :
    ∃ g', fX12_goPlan La w (nI o) g = some (0, g') ∧ RG w g g' ∧ CX g' w (sDo1 V wd (f.getD 0) (s.getD 0)) Ls cur := by
  obtain ⟨⟨ho, hwl⟩, e0, e1, e2⟩ := hp
  have h60 := hW.2.2.2.1
  have b48 := hW.2.2.2.2.2.2.1
  unfold fX12_goPlan
  rw [show nI o + (1 : Int32) = nI (o + 1) from n_add _ _, show nI o + (2 : Int32) = nI (o + 2) from n_add _ 2, if_pos (n_okP (by omega) (by omega)), gz_let_eq, if_pos (n_okP (by omega) (by omega)), gz_let_eq, n_cl (a := o) (by omega), n_cl (a := o + 1) (by omega), e0, e1]
  rcases hwl with ⟨rfl, rfl, rfl⟩ | ⟨rfl, x, y, rfl, rfl, hx, hy⟩ | ⟨rfl, x, rfl, hx, rfl⟩ | ⟨rfl, x, rfl, hx, rfl⟩
  · exact absurd rfl h0
  · have hm : x < V 60 ∧ y < 4 ∧ ¬ V (V (54 + x)) = 1 ∧ 3 ≤ V 48 := sMay1_1.mp hm
    have R1 : RG w g (gz_wi g w 48 (nI (V 48 - 3))) := RG.z0.up hw (by omega)
    have x1 := h.up hw (k := 48) (x := V 48 - 3) (by omega) (rp_n (by omega))
    have e51 : (gz_wi g w 48 (nI (V 48 - 3))).1 51 = g.1 51 := R1.1.1 51 (by omega) (by omega)
    obtain ⟨g2, v1, v2, v3⟩ := r_begins0 (La := La) hw x1 (wf_up1 hW (Or.inr (Or.inl ⟨rfl, by omega⟩))) (i := x) (l := y) (by rw [uN_n (by omega)]; exact hm.1)
    refine ⟨g2, ?_, R1.tr v2, v3⟩
    rw [if_neg (show ¬ nI 1 = 0 by decide), if_pos (show nI 1 = 1 from rfl), h.n (k := 48) (by omega), show nI (V 48) - (3 : Int32) = nI (V 48 - 3) from n_sub (b := 3) hm.2.2.2, gz_let_eq, if_pos (n_okP (by omega) (by omega)), e51, n_cl (a := o + 2) (by omega), e2]
    show (fX12_begins0 La w (nI x) (nI y) _).bind _ = _
    rw [v1, Option.bind_some]
  · refine ⟨gz_wi g w 46 (nI x), ?_, RG.z0.up hw (by omega), h.up hw (k := 46) (x := x) (by omega) (rp_n (by omega))⟩
    rw [if_neg (show ¬ nI 2 = 0 by decide), if_neg (show ¬ nI 2 = 1 by decide), if_pos (show nI 2 = 2 from rfl), gz_let_eq]; rfl
  · have hm : x < V 58 * V 59 ∧ 0 < sCnt V x ∧ 1 ≤ V 48 := sMay1_3.mp hm
    obtain ⟨g2, v1, v2, v3⟩ := r_sweeps (La := La) hw h hW (c := x) (by omega) hm.2.2
    refine ⟨g2, ?_, v2, v3⟩
    rw [if_neg (show ¬ nI 3 = 0 by decide), if_neg (show ¬ nI 3 = 1 by decide), if_neg (show ¬ nI 3 = 2 by decide)]
    show (fX12_sweeps La w (nI x) g).bind _ = _
    rw [v1, Option.bind_some]
theorem r_goPlan0 {o : Nat} {f s : Option Nat} (hp : PlE g o 0 f s) : fX12_goPlan La w (nI o) g = (fX12_goHour La w g).bind (fun q46 => some (q46.1, q46.2)) := by
  obtain ⟨⟨ho, hwl⟩, e0, e1, e2⟩ := hp
  unfold fX12_goPlan
  rw [show nI o + (1 : Int32) = nI (o + 1) from n_add _ _, show nI o + (2 : Int32) = nI (o + 2) from n_add _ 2, if_pos (n_okP (by omega) (by omega)), gz_let_eq, if_pos (n_okP (by omega) (by omega)), gz_let_eq, n_cl (a := o) (by omega), n_cl (a := o + 1) (by omega), e0]
  exact if_pos rfl
end RW
