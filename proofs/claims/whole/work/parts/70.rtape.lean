/-! the reference's tape -/
def sb (n : Nat) : Int32 := vp_nar .byte ((Int32.toInt8 (nI n)).toInt32)
theorem sb_f : ∀ n, n < 256 → (sb n &&& nI 255 = nI n) ∧ (sb n = nI 32 ↔ n = 32) ∧ (sb n < nI 48 ↔ n < 48 ∨ 128 ≤ n) ∧ (nI 57 < sb n ↔ 57 < n ∧ n < 128) := by decide +kernel
theorem low_bit {a k i : Nat} (hk : K8 k) (hi : i < 8) : (nI a >>> (nI k &&& nI 31)).toBitVec.getLsbD i = (a / 2 ^ k).testBit i := by
  have h1 : (nI a >>> (nI k &&& nI 31)).toBitVec = (BitVec.ofNat 32 a).sshiftRight k := by
    show (BitVec.ofNat 32 a).sshiftRight ((nI k &&& nI 31).toBitVec.smod 32).toNat = _
    rw [n_smod k (by omega)]
  rw [h1, BitVec.getLsbD_sshiftRight, if_pos (by omega), BitVec.getLsbD_ofNat, Nat.testBit_div_two_pow]
  simp only [show ¬ 32 ≤ i by omega, decide_false, Bool.not_false, Bool.true_and, show i + k < 32 by omega, decide_true, Nat.add_comm k i, Bool.true_and]
theorem sh_255 {a k : Nat} (hk : K8 k) : (nI a >>> (nI k &&& nI 31)) &&& nI 255 = nI (a / 2 ^ k % 256) := by
  refine Int32.toBitVec_inj.1 (BitVec.eq_of_getLsbD_eq (fun i hi => ?_))
  show ((nI a >>> (nI k &&& nI 31)).toBitVec &&& BitVec.ofNat 32 255).getLsbD i = (BitVec.ofNat 32 (a / 2 ^ k % 2 ^ 8)).getLsbD i
  rw [BitVec.getLsbD_and, BitVec.getLsbD_ofNat, BitVec.getLsbD_ofNat, Nat.testBit_mod_two_pow, show (255 : Nat) = 2 ^ 8 - 1 from rfl, Nat.testBit_two_pow_sub_one]
  by_cases h8 : i < 8
  · rw [low_bit hk h8]
    simp only [h8, hi, decide_true, Bool.true_and, Bool.and_true]
  · simp only [h8, decide_false, Bool.false_and, Bool.and_false]
theorem sh_t8 {a k : Nat} (hk : K8 k) : Int32.toInt8 (nI a >>> (nI k &&& nI 31)) = Int32.toInt8 (nI (a / 2 ^ k % 256)) := by
  refine Int8.toBitVec_inj.1 (BitVec.eq_of_getLsbD_eq (fun i hi => ?_))
  rw [Int32.toBitVec_toInt8, Int32.toBitVec_toInt8, BitVec.getLsbD_signExtend, BitVec.getLsbD_signExtend, if_pos (by omega), if_pos (by omega), low_bit hk hi]
  have e : (nI (a / 2 ^ k % 256)).toBitVec = BitVec.ofNat 32 (a / 2 ^ k % 2 ^ 8) := rfl
  rw [e, BitVec.getLsbD_ofNat, Nat.testBit_mod_two_pow]
  simp only [hi, show i < 32 by omega, decide_true, Bool.true_and]
theorem sh_sb {a k : Nat} (hk : K8 k) : vp_nar .byte ((Int32.toInt8 (nI a >>> (nI k &&& nI 31))).toInt32) = sb (a / 2 ^ k % 256) := by
  rw [sh_t8 hk, sb]
