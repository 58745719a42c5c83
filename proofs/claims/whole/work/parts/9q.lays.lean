/-! the reference lays a told shore -/
def pW (S : SH) (m i : Nat) : Nat → Nat := fun k => if 46 ≤ k then 0 else shW S m i k
theorem pW_m {S : SH} {m i : Nat} (hm : m < 30) : uN (pW S m i) m (S.rk (m / S.ru 0 * 6 + m % S.ru 0)) = pW S (m + 1) i := by
  funext k
  have h := congrFun (shW_m (s := S) (i := i) hm) k
  unfold pW
  by_cases c : 46 ≤ k
  · rw [uN_n (by omega), if_pos c, if_pos c]
  · rw [if_neg c, ← h]
    by_cases c2 : k = m
    · subst c2; rw [uN_s, uN_s]
    · rw [uN_n c2, uN_n c2, if_neg c]
theorem pW_i {S : SH} {m i : Nat} (hi : i < 4) : uN (uN (pW S m i) (30 + i) (S.go (i * 4 + 1) * S.ru 0 + S.go (i * 4))) (34 + i) (S.go (i * 4 + 2)) = pW S m (i + 1) := by
  funext k
  have h := congrFun (shW_i (s := S) (m := m) hi) k
  unfold pW
  by_cases c : 46 ≤ k
  · rw [uN_n (by omega), uN_n (by omega), if_pos c, if_pos c]
  · rw [if_neg c, ← h, uN_n (show k ≠ 50 + i by omega)]
    by_cases c2 : k = 34 + i
    · subst c2; rw [uN_s, uN_s]
    · rw [uN_n c2, uN_n c2]
      by_cases c3 : k = 30 + i
      · subst c3; rw [uN_s, uN_s]
      · rw [uN_n c3, uN_n c3, uN_n (by omega), if_neg c]
theorem pW_0 {S : SH} {k : Nat} : pW S 0 0 k = 0 := by
  unfold pW shW
  by_cases c : 46 ≤ k
  · rw [if_pos c]
  · rw [if_neg c]
    by_cases c1 : k < 30
    · rw [if_pos c1, if_neg (by omega)]
    · rw [if_neg c1]
      by_cases c2 : k < 34
      · rw [if_pos c2, if_neg (by omega)]
      · rw [if_neg c2]
        by_cases c3 : k < 38
        · rw [if_pos c3, if_neg (by omega)]
        · rw [if_neg c3, if_pos (by omega)]
theorem pW_V {S : SH} {k : Nat} (hk : k < 50) : uN (uN (pW S (S.ru 0 * S.ru 1) S.gn) 46 (S.ru 2)) 48 (S.ru 3) k = shV S k := by
  unfold shV
  by_cases c8 : k = 48
  · subst c8; rw [uN_s]; rfl
  · rw [uN_n c8]
    by_cases c6 : k = 46
    · subst c6; rw [uN_s]; rfl
    · rw [uN_n c6]
      unfold pW
      by_cases c : 46 ≤ k
      · rw [if_pos c]
        have : k = 47 ∨ k = 49 := by omega
        rcases this with rfl | rfl <;> rfl
      · rw [if_neg c]
section RW
variable {g : gz_S} {V W U : Nat → Nat} {B : Nat} {La : gz_L} {Ls : List (List Nat)} {cur : Option Nat} {S : SH} {w : Nat}
def TldS (g : gz_S) (S : SH) : Prop := (∀ i, i < 4 → g.1 44 i = nI (S.ru i)) ∧ (∀ j, j < 4 * S.gn → g.1 46 j = nI (S.go j)) ∧ (∀ c, c < 30 → g.1 48 c = nI (S.rk c)) ∧ g.1 39 27 = nI S.gn
abbrev Fw (w : Nat) (g z : gz_S) : Prop := Fz (fun _ => False) (fun j => j = w) g z
theorem TldS.fw {z : gz_S} (hw : isW w) (h : TldS g S) (hF : Fw w g z) : TldS z S := by
  unfold TldS
  rw [hF.1 44 (by omega) (by omega), hF.1 46 (by omega) (by omega), hF.1 48 (by omega) (by omega), hF.2.1 27 id]; exact h
theorem r_lays (hw : isW w) (h : TldS g S) (hb : ShB S) (hA : sAgr S) :
    ∃ g', fX12_lays La w g = some g' ∧ Fw w g g' ∧ RV g' w (shV S) ∧ ∀ k, 50 ≤ k → k < 231 → g'.1 w k = 0 := by
  obtain ⟨⟨h1, h2⟩, h3, h4, h5, h6⟩ := hb
  have w0 : 2 ≤ S.ru 0 ∧ S.ru 0 ≤ 6 := h1 0 (by omega)
  have w1 : 2 ≤ S.ru 1 ∧ S.ru 1 ≤ 5 := h1 1 (by omega)
  have hc : S.ru 0 * S.ru 1 ≤ 6 * 5 := Nat.mul_le_mul w0.2 w1.2
  have h64 : w ≠ 39 := by omega
  have cells : ∀ z, Fw w g z → fX12_cells La z = some (nI (S.ru 0 * S.ru 1), z) := by
    intro z hz
    obtain ⟨t1, t2, t3, t4⟩ := h.fw hw hz
    unfold fX12_cells
    rw [t4, if_neg (show ¬ nI S.gn = 0 by show ¬ _ = nI 0; rw [n_eq (by omega) (by omega)]; have := hA.1; omega), t1 0 (by omega), t1 1 (by omega), n_mul]
  unfold fX12_lays
  refine lp (fun f k z => fX12_lays_2 La w _ f (nI k) z) (fun k z => Fw w g z ∧ ∀ j, j < k → z.1 w j = 0) 231
    (fun q => ∃ g', q = some g' ∧ Fw w g g' ∧ RV g' w (shV S) ∧ ∀ k, 50 ≤ k → k < 231 → g'.1 w k = 0) ?_ ?_ gz_FU 0 g (by omega) (by unfold gz_FU; omega) ⟨Fz.z0, fun j hj => absurd hj (Nat.not_lt_zero _)⟩
  · intro f k z hk ⟨q1, q2⟩
    refine Or.inr ⟨gz_wi z w k 0, ?_, q1.s h64 rfl, fun j hj => ?_⟩
    · rw [fX12_lays_2, if_neg (show ¬ (231 : Int32) ≤ nI k by show ¬ nI 231 ≤ nI k; rw [n_le (by omega) (by omega)]; omega), if_pos (n_okP (by omega) (by omega)), gz_let_eq, gz_let_eq, n_cl (by omega), show nI k + (1 : Int32) = nI (k + 1) from n_add _ _]
    · by_cases c : j = k
      · rw [c, wi_ss]
      · rw [wi_sn c]; exact q2 j (by omega)
  · intro f z ⟨q1, q2⟩
    rw [fX12_lays_2, if_pos (show (231 : Int32) ≤ nI 231 by decide)]
    refine lp (fun f m z => fX12_lays_21 La w _ f (nI m) z) (fun m z => Fw w g z ∧ RV z w (pW S m 0) ∧ ∀ k, 50 ≤ k → k < 231 → z.1 w k = 0) (S.ru 0 * S.ru 1)
      (fun q => ∃ g', q = some g' ∧ Fw w g g' ∧ RV g' w (shV S) ∧ ∀ k, 50 ≤ k → k < 231 → g'.1 w k = 0) ?_ ?_ gz_FU 0 z (by omega) (by unfold gz_FU; omega) ⟨q1, fun k hk => by rw [pW_0]; exact q2 _ (by have := rp_lt hk; omega), fun k _ hk => q2 k hk⟩
    · intro f m z hm ⟨p1, p2, p3⟩
      obtain ⟨t1, t2, t3, t4⟩ := h.fw hw p1
      have hd : m / S.ru 0 < S.ru 1 := Nat.div_lt_of_lt_mul hm
      have hmo : m % S.ru 0 < S.ru 0 := Nat.mod_lt _ (by omega)
      have e58 : nI (S.ru 0) = 0 ↔ False := ⟨fun hh => by have := n_inj (b := 0) (by omega) (by omega) hh; omega, False.elim⟩
      refine Or.inr ⟨gz_wi z w m (nI (S.rk (m / S.ru 0 * 6 + m % S.ru 0))), ?_, p1.s h64 rfl, ?_, fun k hk1 hk2 => ?_⟩
      · rw [fX12_lays_21, cells z p1, Option.bind_some, if_neg (show ¬ nI (S.ru 0 * S.ru 1) ≤ nI m by rw [n_le (by omega) (by omega)]; omega)]
        simp only [t1 0 (by omega), e58, not_false_eq_true, ↓reduceIte]
        rw [n_mod (by omega) (by omega), n_div (by omega) (by omega), show (6 : Int32) * nI (m / S.ru 0) = nI (6 * (m / S.ru 0)) from n_mul 6 _, n_add, if_pos (n_okP (by omega) (by omega)), if_pos (n_okP (by omega) (by omega)), gz_let_eq, gz_let_eq, n_cl (by omega), n_cl (by omega), t3 _ (by omega), show nI m + (1 : Int32) = nI (m + 1) from n_add _ _, show 6 * (m / S.ru 0) = m / S.ru 0 * 6 by omega]
      · have := p2.up (k := m) (x := S.rk (m / S.ru 0 * 6 + m % S.ru 0)) (by omega)
        rw [rp_c (by omega), pW_m (by omega)] at this; exact this
      · rw [wi_sn (by omega)]; exact p3 k hk1 hk2
    · intro f z ⟨p1, p2, p3⟩
      rw [fX12_lays_21, cells z p1, Option.bind_some, if_pos (show nI (S.ru 0 * S.ru 1) ≤ nI (S.ru 0 * S.ru 1) by rw [n_le (by omega) (by omega)]; omega)]
      refine lp (fun f i z => fX12_lays_65 La w _ f (nI i) z) (fun i z => Fw w g z ∧ RV z w (pW S (S.ru 0 * S.ru 1) i) ∧ ∀ k, 50 ≤ k → k < 231 → z.1 w k = 0) S.gn
        (fun q => ∃ g', q = some g' ∧ Fw w g g' ∧ RV g' w (shV S) ∧ ∀ k, 50 ≤ k → k < 231 → g'.1 w k = 0) ?_ ?_ gz_FU 0 z (by omega) (by unfold gz_FU; omega) ⟨p1, p2, p3⟩
      · intro f i z hi ⟨r1, r2, r3⟩
        obtain ⟨t1, t2, t3, t4⟩ := h.fw hw r1
        have a1 := (hA.2.2.2 i hi)
        have st : fX12_startOf La (nI i) z = some (nI (S.go (i * 4 + 1) * S.ru 0 + S.go (i * 4)), z) := by
          unfold fX12_startOf
          rw [show (4 : Int32) * nI i = nI (4 * i) from n_mul 4 i, show nI (4 * i) + (1 : Int32) = nI (4 * i + 1) from n_add _ 1, if_pos (n_okP (by omega) (by omega)), if_pos (n_okP (by omega) (by omega)), n_cl (by omega), n_cl (by omega), t1 0 (by omega), t2 _ (by omega), t2 _ (by omega), n_mul, n_add, show 4 * i = i * 4 by omega, Nat.mul_comm (S.ru 0)]
        have F1 : Fw w z (gz_wi z w (30 + 4 * i + 0) (nI (S.go (i * 4 + 1) * S.ru 0 + S.go (i * 4)))) := Fz.s Fz.z0 h64 rfl
        have k46 := (h.fw hw (Fz.tr r1 F1)).2.1 (4 * i + 2) (by omega)
        have x1 := r2.up (k := 30 + i) (x := S.go (i * 4 + 1) * S.ru 0 + S.go (i * 4)) (by omega)
        rw [rp_0 (by omega)] at x1
        have x2 := x1.up (k := 34 + i) (x := S.go (i * 4 + 2)) (by omega)
        rw [rp_1 (by omega), pW_i (by omega)] at x2
        refine Or.inr ⟨gz_wi (gz_wi z w (30 + 4 * i + 0) (nI (S.go (i * 4 + 1) * S.ru 0 + S.go (i * 4)))) w (30 + 4 * i + 1) (nI (S.go (i * 4 + 2))), ?_, Fz.s (r1.s h64 rfl) h64 rfl, x2, fun k hk1 hk2 => ?_⟩
        · rw [fX12_lays_65, t4, if_neg (show ¬ nI S.gn ≤ nI i by rw [n_le (by omega) (by omega)]; omega), st, Option.bind_some, ix_0, show nI (30 + 4 * i) + (0 : Int32) = nI (30 + 4 * i + 0) from n_add _ 0, show nI (30 + 4 * i) + (1 : Int32) = nI (30 + 4 * i + 1) from n_add _ 1, if_pos (n_okP (by omega) (by omega)), gz_let_eq, show (4 : Int32) * nI i = nI (4 * i) from n_mul 4 i, show nI (4 * i) + (2 : Int32) = nI (4 * i + 2) from n_add _ 2, if_pos (n_okP (by omega) (by omega)), if_pos (n_okP (by omega) (by omega)), gz_let_eq, gz_let_eq, n_cl (by omega), n_cl (by omega), n_cl (by omega), k46, show nI i + (1 : Int32) = nI (i + 1) from n_add _ _, show 4 * i + 2 = i * 4 + 2 by omega]
        · rw [wi_sn (by omega), wi_sn (by omega)]; exact r3 k hk1 hk2
      · intro f z ⟨r1, r2, r3⟩
        obtain ⟨t1, t2, t3, t4⟩ := h.fw hw r1
        have F1 : Fw w z (gz_wi z w 46 (nI (S.ru 2))) := Fz.s Fz.z0 h64 rfl
        have k44 := (h.fw hw (Fz.tr r1 F1)).1 3 (by omega)
        have x1 := r2.up (k := 46) (x := S.ru 2) (by omega)
        rw [rp_n (by omega)] at x1
        have x2 := x1.up (k := 48) (x := S.ru 3) (by omega)
        rw [rp_n (by omega)] at x2
        refine ⟨gz_wi (gz_wi z w 46 (nI (S.ru 2))) w 48 (nI (S.ru 3)), ?_, Fz.s (r1.s h64 rfl) h64 rfl, fun k hk => ?_, fun k hk1 hk2 => ?_⟩
        · rw [fX12_lays_65, t4, if_pos (show nI S.gn ≤ nI S.gn by rw [n_le (by omega) (by omega)]; omega), gz_let_eq, gz_let_eq, t1 2 (by omega), k44]
        · rw [x2 k hk, pW_V hk]
        · rw [wi_sn (by omega), wi_sn (by omega)]; exact r3 k hk1 hk2
end RW
