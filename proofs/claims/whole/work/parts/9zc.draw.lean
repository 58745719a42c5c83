/-! draws -/
/-- what is drawn below n, the generator at w -/
def dr (w : Int64) (n : Nat) : Nat := (w.toUInt64.toNat / 2 ^ 33) % n
theorem dr_hi (w : Int64) : gz_lushr w 33 = Int64.ofNat (w.toUInt64.toNat / 2 ^ 33) := by
  unfold gz_lushr
  have e1 : ((33 : Int32).toInt64.toUInt64 &&& Int64.toUInt64 63) = 33 := by decide
  rw [e1]
  have h2 : w.toUInt64 >>> 33 = UInt64.ofNat (w.toUInt64.toNat / 2 ^ 33) := by
    apply UInt64.toNat_inj.mp
    have hlt := w.toUInt64.toNat_lt
    rw [UInt64.toNat_shiftRight, UInt64.toNat_ofNat_of_lt' (Nat.lt_of_le_of_lt (Nat.div_le_self _ _) hlt)]
    show w.toUInt64.toNat >>> 33 = _
    exact Nat.shiftRight_eq_div_pow _ _
  rw [h2]; rfl
theorem dr_lt (w : Int64) : w.toUInt64.toNat / 2 ^ 33 < 2147483648 := by
  have hlt := w.toUInt64.toNat_lt
  omega
theorem dr_val (w : Int64) {n : Nat} (h1 : 1 ≤ n) (h2 : n ≤ 1000) : Int64.toInt32 (gz_lushr w 33 - gz_lushr w 33 / (nI n).toInt64 * (nI n).toInt64) = nI (dr w n) := by
  have hm := dr_lt w
  have e1 : (nI n).toInt64 = Int64.ofNat n := Int32.toInt64_ofNat' (by have : Int32.maxValue.toInt = 2147483647 := rfl; omega)
  rw [dr_hi, e1]
  unfold dr
  generalize w.toUInt64.toNat / 2 ^ 33 = m at *
  rw [← Int64.ofNat_div (by omega) (by omega), ← Int64.ofNat_mul, ← Int64.ofNat_sub _ _ (Nat.div_mul_le_self m n)]
  have : m - m / n * n = m % n := by
    have h3 := Nat.div_add_mod m n
    have h4 : m / n * n = n * (m / n) := Nat.mul_comm _ _
    omega
  rw [this]
  exact lN_i _
section DR
variable {g : gz_S} {La : gz_L}
def nxG (w : Int64) : Int64 := w * 6364136223846793005 + 1442695040888963407
theorem c_draw {n : Nat} (h1 : 1 ≤ n) (h2 : n ≤ 1000) : fX11_draw La (nI n) g = some (nI (dr (nxG (g.2.1 0 17)) n), gz_wl g 0 17 (nxG (g.2.1 0 17))) := by
  have e0 : ¬ (nI n).toInt64 = 0 := by
    have e1 : (nI n).toInt64 = Int64.ofNat n := Int32.toInt64_ofNat' (by have : Int32.maxValue.toInt = 2147483647 := rfl; omega)
    rw [e1]
    intro hh
    have := (j_cmp0 (n := n) (by omega)).mp (by rw [j_n, hh]; rfl)
    omega
  have e2 : (gz_wl g 0 17 (nxG (g.2.1 0 17))).2.1 0 17 = nxG (g.2.1 0 17) := by
    unfold gz_wl; simp [vp_updL]
  unfold fX11_draw
  rw [gz_let_eq]
  refine (if_pos (show nI 1 ≤ nI n by rw [n_le (by omega) (by omega)]; exact h1)).trans ((if_pos e0).trans ?_)
  show some (Int64.toInt32 (gz_lushr ((gz_wl g 0 17 (nxG (g.2.1 0 17))).2.1 0 17) 33 - gz_lushr ((gz_wl g 0 17 (nxG (g.2.1 0 17))).2.1 0 17) 33 / (nI n).toInt64 * (nI n).toInt64), gz_wl g 0 17 (nxG (g.2.1 0 17))) = _
  rw [e2, dr_val _ h1 h2]
theorem r_draw {n : Nat} (h1 : 1 ≤ n) (h2 : n ≤ 1000) : fX12_draw La (nI n) g = some (nI (dr (nxG (g.2.1 39 42)) n), gz_wl g 39 42 (nxG (g.2.1 39 42))) := by
  have e0 : ¬ (nI n).toInt64 = 0 := by
    have e1 : (nI n).toInt64 = Int64.ofNat n := Int32.toInt64_ofNat' (by have : Int32.maxValue.toInt = 2147483647 := rfl; omega)
    rw [e1]
    intro hh
    have := (j_cmp0 (n := n) (by omega)).mp (by rw [j_n, hh]; rfl)
    omega
  have e2 : (gz_wl g 39 42 (nxG (g.2.1 39 42))).2.1 39 42 = nxG (g.2.1 39 42) := by
    unfold gz_wl; simp [vp_updL]
  unfold fX12_draw
  rw [gz_let_eq]
  refine (if_pos e0).trans ?_
  show some (Int64.toInt32 (gz_lushr ((gz_wl g 39 42 (nxG (g.2.1 39 42))).2.1 39 42) 33 - gz_lushr ((gz_wl g 39 42 (nxG (g.2.1 39 42))).2.1 39 42) 33 / (nI n).toInt64 * (nI n).toInt64), gz_wl g 39 42 (nxG (g.2.1 39 42))) = _
  rw [e2, dr_val _ h1 h2]
end DR
