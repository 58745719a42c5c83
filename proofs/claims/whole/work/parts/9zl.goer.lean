/-! call goer: none where the class throws -/
def gz_gof (La : gz_L) (k : Int32) (x : Int32) (g : gz_S) : Option (Option Int32 × gz_S) := if gz_ok (k + x) 61 then some (some (g.1 22 (Int32.toNatClampNeg (k + x))), g) else none
def fX11_goer (La : gz_L) (x y : Int32) (g : gz_S) : Option (Option Int32 × gz_S) :=
  (fX6_hasGoer La 6 x g).bind (fun q => if q.1 = 0 then some (none, q.2) else if y = 0 then gz_gof La 30 x q.2 else if y = 1 then gz_gof La 34 x q.2 else if y = 2 then gz_gof La 50 x q.2 else if y = 3 then gz_gof La 38 x q.2 else if y = 4 then gz_gof La 42 x q.2 else some (none, q.2))
def gz_go1 (r : Option Int32 × gz_S) : gz_S := match r.1 with
  | none => r.2
  | some v => gz_wl r.2 38 0 v.toInt64
def GoerOk (La : gz_L) (x y : Int32) (g : gz_S) (B : Nat) : Prop := ∃ r b g2, fX11_goer La x y g = some r ∧ fX12_goer La x y (gz_go1 r) = some (b, g2) ∧ g2.1 39 0 = (if r.1 = none then 1 else 0) ∧ (∀ v, r.1 = some v → v = b) ∧ g2.2.1 38 0 = (gz_go1 r).2.1 38 0 ∧ WR La g2 B
section ST
variable {La : gz_L} {g : gz_S} {l : List Nat} {Ls : List (List Nat)} {Es : List (List eS)} {cur : Option Nat} {lv : Nat} {V V0 : Nat → Nat} {a : Nat} {K : Nat → Nat → Nat} {Lg : Nat → Nat} {him : Nat} {IV ILg : Nat → Nat} {s : sS} {B : Nat}
theorem ReW.f0x (h : ReW g l Ls Es cur lv V V0 a K Lg him IV ILg s) (x : Int32) : ReW (gz_wi g 39 0 x) l Ls Es cur lv V V0 a K Lg him IV ILg s ∧ FR g (gz_wi g 39 0 x) := by
  have F : Fy (fun k => k = 0) (fun _ => False) g (gz_wi g 39 0 x) := Fy.z0.w rfl
  exact ⟨h.sp (F.mo (fun k hk => Or.inl hk) (fun j hj => hj.elim)) (h.1.2.1.fr F (by omega) (by omega) id id id id id), FR.y F (fun j hj => hj.elim)⟩
theorem r_goer1 {x y : Int32} : fX12_goer_26 La x y 1 g = some (0, gz_wi g 39 0 1) := by
  have e : (gz_wi g 39 0 1).1 39 0 = 1 := wi_ss
  unfold fX12_goer_26
  rw [gz_let_eq, e]
  exact if_neg (by decide)
theorem w_goer (hw : WR La g B) (x y : Int32) : GoerOk La x y g B := by
  obtain ⟨l, Ls, Es, cur, lv, V, V0, a, K, Lg, him, IV, ILg, s, hC, hR, hI⟩ := hw
  have hb1 := Int32.toInt_lt y
  have hb2 := Int32.le_toInt y
  have hg4 := hI.g4
  have cg := c_hasGoerW (La := La) hC hI (x := x)
  by_cases yes : (0 ≤ x.toInt ∧ x.toInt < (V 60 : Int)) ∧ 0 ≤ y.toInt ∧ y.toInt ≤ 4
  · obtain ⟨i, i1, rfl, i3⟩ := x_of (x := x) yes.1.1
    obtain ⟨m, m1, rfl, m3⟩ := x_of (x := y) yes.2.1
    have hi : i < V 60 := by omega
    have h0 : ¬ V 60 = 0 := by omega
    -- the class
    have c1 : ∀ k : Nat, k ≤ 54 → gz_gof La (nI k) (nI i) g = some (some (nI (V (k + i))), g) := by
      intro k hk
      unfold gz_gof
      rw [n_add, if_pos (n_okP (by omega) (by omega)), n_cl (by omega), hC.2.1, fI_ap]
    obtain ⟨w, hw1, hw2⟩ : ∃ w, w < 1048576 ∧ fX11_goer La (nI i) (nI m) g = some (some (nI w), g) ∧ w = V (if m = 0 then 30 + i else if m = 1 then 34 + i else if m = 2 then 50 + i else if m = 3 then 38 + i else 42 + i) := by
      refine ⟨_, hI.b _, ?_, rfl⟩
      unfold fX11_goer
      rw [cg, Option.bind_some]
      refine (if_neg (pI1 yes.1)).trans ?_
      have em : ∀ k : Nat, k < 5 → (nI m = nI k) = (m = k) := fun k hk => n_eq (by omega) (by omega)
      have e0 := em 0 (by omega)
      have e1 := em 1 (by omega)
      have e2 := em 2 (by omega)
      have e3 := em 3 (by omega)
      have e4 := em 4 (by omega)
      by_cases d0 : m = 0
      · exact (if_pos (by rw [d0]; rfl)).trans ((c1 30 (by omega)).trans (by rw [if_pos d0]))
      refine (if_neg (show ¬ nI m = nI 0 by rw [e0]; exact d0)).trans ?_
      by_cases d1 : m = 1
      · exact (if_pos (by rw [d1]; rfl)).trans ((c1 34 (by omega)).trans (by rw [if_neg d0, if_pos d1]))
      refine (if_neg (show ¬ nI m = nI 1 by rw [e1]; exact d1)).trans ?_
      by_cases d2 : m = 2
      · exact (if_pos (by rw [d2]; rfl)).trans ((c1 50 (by omega)).trans (by rw [if_neg d0, if_neg d1, if_pos d2]))
      refine (if_neg (show ¬ nI m = nI 2 by rw [e2]; exact d2)).trans ?_
      by_cases d3 : m = 3
      · exact (if_pos (by rw [d3]; rfl)).trans ((c1 38 (by omega)).trans (by rw [if_neg d0, if_neg d1, if_neg d2, if_pos d3]))
      refine (if_neg (show ¬ nI m = nI 3 by rw [e3]; exact d3)).trans ?_
      have d4 : m = 4 := by omega
      exact (if_pos (by rw [d4]; rfl)).trans ((c1 42 (by omega)).trans (by rw [if_neg d0, if_neg d1, if_neg d2, if_neg d3]))
    -- what is told lies in the law's cell
    have hR1 : ReW (gz_wl g 38 0 (nI w).toInt64) l Ls Es cur lv V V0 a K Lg him IV ILg s := hR.fr ⟨fun _ _ _ => rfl, rfl⟩
    have hC1 : ClW La (gz_wl g 38 0 (nI w).toInt64) l Ls Es cur lv V V0 a K Lg him IV ILg s := hC.fr ⟨fun _ _ => rfl, Tq.of rfl⟩
    obtain ⟨hR2, F2⟩ := hR1.f0x 0
    obtain ⟨hcx, hkp⟩ := hR2.cx hI h0
    have ig := hR1.isGoer (La := La) hI (x := nI i)
    have k26 : fX12_goer La (nI i) (nI m) (gz_wl g 38 0 (nI w).toInt64) = fX12_goer_26 La (nI i) (nI m) 0 (gz_wl g 38 0 (nI w).toInt64) := by
      unfold fX12_goer
      rw [ig, Option.bind_some]
      refine (if_neg (pI1 yes.1)).trans ?_
      rw [x_l, show (0 : Int64) = Int64.ofInt 0 from rfl, show (4 : Int64) = Int64.ofInt 4 from rfl, r_isInZ (by omega) (by omega) (by omega), Option.bind_some]
      exact if_neg (pI1 yes.2)
    have e0 : (gz_wi (gz_wl g 38 0 (nI w).toInt64) 39 0 0).1 39 0 = 0 := wi_ss
    have el : (gz_wi (gz_wl g 38 0 (nI w).toInt64) 39 0 0).2.1 38 0 = (gz_wl g 38 0 (nI w).toInt64).2.1 38 0 := rfl
    have hgo : gz_go1 (some (nI w), g) = gz_wl g 38 0 (nI w).toInt64 := rfl
    refine ⟨(some (nI w), g), nI w, gz_wi (gz_wl g 38 0 (nI w).toInt64) 39 0 0, hw2.1, ?_, ?_, (fun v hv => by cases hv; rfl), (by rw [hgo]; exact el), l, Ls, Es, cur, lv, V, V0, a, K, Lg, him, IV, ILg, s, hC1.fr F2, hR2, hI⟩
    · rw [hgo, k26]
      unfold fX12_goer_26
      rw [gz_let_eq, e0, if_pos (by decide)]
      obtain ⟨_, hw3⟩ := hw2
      have at53 : ∀ k, k < 50 → (gz_wi (gz_wl g 38 0 (nI w).toInt64) 39 0 0).1 53 (rp k) = nI (V k) := fun k hk => hcx.1 k hk
      generalize gz_wi (gz_wl g 38 0 (nI w).toInt64) 39 0 0 = z at *
      have ex : ∀ q : Nat, ((30 : Int32) + ((4 : Int32) * nI i)) + nI q = nI (30 + 4 * i + q) := fun q => by rw [show (4 : Int32) * nI i = nI (4 * i) from n_mul 4 i, show (30 : Int32) + nI (4 * i) = nI (30 + 4 * i) from n_add 30 _, n_add]
      by_cases d2 : 2 ≤ m
      · rw [if_pos (show (2 : Int32) ≤ nI m by show nI 2 ≤ nI m; rw [n_le (by omega) (by omega)]; exact d2)]
        by_cases d : m = 2
        · rw [if_pos (show nI m = 2 by rw [d]; rfl), r_paceOf (La := La) hkp hi hg4, Option.bind_some, hw3, if_neg (by omega), if_neg (by omega), if_pos d]
        · rw [if_neg (show ¬ nI m = 2 by show ¬ nI m = nI 2; rw [n_eq (by omega) (by omega)]; exact d), ex, show nI (30 + 4 * i + m) - (1 : Int32) = nI (30 + 4 * i + m - 1) from n_sub (a := 30 + 4 * i + m) (b := 1) (by omega), if_pos (n_okP (by omega) (by omega)), n_cl (by omega), hw3, if_neg (by omega), if_neg (by omega), if_neg d]
          by_cases d3 : m = 3
          · rw [if_pos d3, ← at53 (38 + i) (by omega), rp_2 (by omega), show 30 + 4 * i + m - 1 = 30 + 4 * i + 2 by omega]
          · rw [if_neg d3, ← at53 (42 + i) (by omega), rp_3 (by omega), show 30 + 4 * i + m - 1 = 30 + 4 * i + 3 by omega]
      · rw [if_neg (show ¬ (2 : Int32) ≤ nI m by show ¬ nI 2 ≤ nI m; rw [n_le (by omega) (by omega)]; exact d2), ex, if_pos (n_okP (by omega) (by omega)), n_cl (by omega), hw3]
        by_cases d0 : m = 0
        · rw [if_pos d0, ← at53 (30 + i) (by omega), rp_0 (by omega), d0]
        · rw [if_neg d0, if_pos (by omega), ← at53 (34 + i) (by omega), rp_1 (by omega), show m = 1 by omega]
    · rw [e0]; exact (if_neg (fun hh => by cases hh)).symm
  · -- thrown
    have hc : fX11_goer La x y g = some (none, g) := by
      unfold fX11_goer
      rw [cg, Option.bind_some]
      by_cases c : 0 ≤ x.toInt ∧ x.toInt < (V 60 : Int)
      · refine (if_neg (pI1 c)).trans ?_
        have ey : ∀ k : Nat, k < 5 → ¬ y = nI k := fun k hk hh => by
          rw [x_eq (by omega)] at hh; exact yes ⟨c, by omega, by omega⟩
        exact (if_neg (ey 0 (by omega))).trans ((if_neg (ey 1 (by omega))).trans ((if_neg (ey 2 (by omega))).trans ((if_neg (ey 3 (by omega))).trans (if_neg (ey 4 (by omega))))))
      · exact if_pos (pI0 c)
    obtain ⟨hR2, F2⟩ := hR.f0x 1
    have ig := hR.isGoer (La := La) hI (x := x)
    have hgo : gz_go1 (none, g) = g := rfl
    refine ⟨(none, g), 0, gz_wi g 39 0 1, hc, ?_, ?_, (fun v hv => by cases hv), rfl, l, Ls, Es, cur, lv, V, V0, a, K, Lg, him, IV, ILg, s, hC.fr F2, hR2, hI⟩
    · rw [hgo]
      unfold fX12_goer fX12_goer_25
      rw [ig, Option.bind_some]
      by_cases c : 0 ≤ x.toInt ∧ x.toInt < (V 60 : Int)
      · refine (if_neg (pI1 c)).trans ?_
        rw [x_l, show (0 : Int64) = Int64.ofInt 0 from rfl, show (4 : Int64) = Int64.ofInt 4 from rfl, r_isInZ (by omega) (by omega) (by omega), Option.bind_some]
        exact (if_pos (pI0 (fun hh => yes ⟨c, hh⟩))).trans r_goer1
      · exact (if_pos (pI0 c)).trans r_goer1
    · rw [if_pos rfl]; exact wi_ss
end ST
