/-! call text: what the class does; what the reference copies -/
def gz_Lw (La : gz_L) (n : Nat) : gz_L := (La.1 + 1, La.2.1, fun j => if j = 101 + 2 * La.1 then n else La.2.2 j)
def gz_Le (La : gz_L) (n : Nat) : gz_L := (La.1, La.2.1 + 1, fun j => if j = 111 + 2 * La.2.1 then n else La.2.2 j)
def fX11_text (La : gz_L) (x : Int32) (g : gz_S) : Option (Int32 × gz_L × gz_S) :=
  if x = 0 then (fX7_readShore La g).bind (fun q => if q.1 = 0 then some (-1, La, q.2) else (fX11_takeShore La q.2).bind (fun r => if r.1 = -1 then none else some (r.1, La, gz_wi r.2 1 1 0)))
  else if x = 1 then (if (4 : Int32) ≤ g.1 0 13 then some (-1, La, g) else (fX4_readLaw La g).bind (fun q => if q.1 = 0 then some (-1, La, q.2) else if q.2.1 0 13 = nI La.1 ∧ La.1 < 4 ∧ 0 ≤ (q.2.1 3 2).toInt ∧ (q.2.1 3 2).toInt < 241 ∧ (q.2.2.2 0).getD 0 < 100 + 2 * La.1 ∧ (q.2.2.2 1).getD 0 < 100 then
    some (nI La.1, gz_Lw La (q.2.1 3 2).toInt.toNat, gz_wi (gz_wi (gz_wa q.2 (101 + 2 * La.1) (q.2.1 19)) 0 13 (nI (La.1 + 1))) 1 1 0) else none))
  else if x = 2 then (if (4 : Int32) ≤ g.1 0 14 then some (-1, La, g) else (fX1_readEvening La g).bind (fun q => if q.1 = 0 then some (-1, La, q.2) else if q.2.1 0 14 = nI La.2.1 ∧ La.2.1 < 4 ∧ 0 ≤ (q.2.1 4 2).toInt ∧ (q.2.1 4 2).toInt ≤ 16 ∧ (q.2.2.2 0).getD 0 < 100 + 2 * La.1 ∧ (q.2.2.2 1).getD 0 < 100 then
    some (nI La.2.1, gz_Le La (3 * (q.2.1 4 2).toInt.toNat), gz_wi (gz_wi (gz_wi (gz_wa q.2 (111 + 2 * La.2.1) (q.2.1 20)) (110 + 2 * La.2.1) 0 (q.2.1 4 2)) 0 14 (nI (La.2.1 + 1))) 1 1 0) else none))
  else some (-1, La, g)
def TextOk (La : gz_L) (x : Int32) (g : gz_S) (B : Nat) : Prop := ∃ v La' g1 g2, fX11_text La x g = some (v, La', g1) ∧ fX12_text La' x g1 = some (v, g2) ∧ WR La' g2 B
section TC
variable {La : gz_L} {g : gz_S}
theorem r_tx71 {k : Int32 → gz_S → Option (Int32 × gz_S)} {n L : Nat} (hn : n ≤ 240) (hL : L < 4) (h7 : g.1 39 7 = nI L) :
    ∃ g', fX12_text_71 La k gz_FU (nI n) 0 g = k (nI n) g' ∧ Fz (fun _ => False) (fun j => j = 41) g g' ∧ (∀ i, i < n → g'.1 41 (240 * L + i) = vp_nar .byte (g.1 40 i)) ∧ ∀ j, j < 240 * L → g'.1 41 j = g.1 41 j := by
  refine lp (fun f i z => fX12_text_71 La k f (nI n) (nI i) z) (fun i z => Fz (fun _ => False) (fun j => j = 41) g z ∧ (∀ i', i' < i → z.1 41 (240 * L + i') = vp_nar .byte (g.1 40 i')) ∧ ∀ j, j < 240 * L → z.1 41 j = g.1 41 j) n
    (fun q => ∃ g', q = k (nI n) g' ∧ Fz (fun _ => False) (fun j => j = 41) g g' ∧ (∀ i, i < n → g'.1 41 (240 * L + i) = vp_nar .byte (g.1 40 i)) ∧ ∀ j, j < 240 * L → g'.1 41 j = g.1 41 j) ?_ ?_ gz_FU 0 g (by omega) (by unfold gz_FU; omega) ⟨Fz.z0, fun i hi => absurd hi (Nat.not_lt_zero _), fun _ _ => rfl⟩
  · intro f i z hi ⟨q1, q2, q3⟩
    have e7 : z.1 39 7 = nI L := by rw [q1.2.1 7 id]; exact h7
    have ex : ((240 : Int32) * nI L) + nI i = nI (240 * L + i) := by rw [show (240 : Int32) * nI L = nI (240 * L) from n_mul 240 L, n_add]
    refine Or.inr ⟨gz_wi z 41 (240 * L + i) (vp_nar .byte (g.1 40 i)), ?_, q1.s (by omega) rfl, fun i' hi' => ?_, fun j hj => ?_⟩
    · rw [fX12_text_71, if_neg (show ¬ nI n ≤ nI i by rw [n_le (by omega) (by omega)]; omega), if_pos (n_okP (by omega) (by omega)), e7, ex, if_pos (n_okP (by omega) (by omega)), n_cl (by omega), n_cl (by omega), gz_let_eq, gz_let_eq, q1.1 40 (by omega) (by omega), show nI i + (1 : Int32) = nI (i + 1) from n_add _ _]
    · by_cases c : i' = i
      · rw [c, wi_ss]
      · rw [wi_sn (by omega)]; exact q2 i' (by omega)
    · rw [wi_sn (by omega)]; exact q3 j hj
  · intro f z ⟨q1, q2, q3⟩
    exact ⟨z, by rw [fX12_text_71, if_pos (Int32.le_refl _)], q1, q2, q3⟩
theorem r_tx137 {k : gz_S → Option (Int32 × gz_S)} {n : Nat} (hn : n < 4) (h30 : g.1 39 30 = nI n) :
    ∃ g', fX12_text_137 La k gz_FU 0 g = k g' ∧ Fz (fun _ => False) (fun j => j = 51) g g' ∧ (∀ i, i < 48 → g'.1 51 (48 * n + i) = g.1 51 (192 + i)) ∧ ∀ j, ¬ (48 * n ≤ j ∧ j < 48 * n + 48) → g'.1 51 j = g.1 51 j := by
  refine lp (fun f i z => fX12_text_137 La k f (nI i) z) (fun i z => Fz (fun _ => False) (fun j => j = 51) g z ∧ (∀ i', i' < i → z.1 51 (48 * n + i') = g.1 51 (192 + i')) ∧ ∀ j, ¬ (48 * n ≤ j ∧ j < 48 * n + 48) → z.1 51 j = g.1 51 j) 48
    (fun q => ∃ g', q = k g' ∧ Fz (fun _ => False) (fun j => j = 51) g g' ∧ (∀ i, i < 48 → g'.1 51 (48 * n + i) = g.1 51 (192 + i)) ∧ ∀ j, ¬ (48 * n ≤ j ∧ j < 48 * n + 48) → g'.1 51 j = g.1 51 j) ?_ ?_ gz_FU 0 g (by omega) (by unfold gz_FU; omega) ⟨Fz.z0, fun i hi => absurd hi (Nat.not_lt_zero _), fun _ _ => rfl⟩
  · intro f i z hi ⟨q1, q2, q3⟩
    have e30 : z.1 39 30 = nI n := by rw [q1.2.1 30 id]; exact h30
    have ex : ((48 : Int32) * nI n) + nI i = nI (48 * n + i) := by rw [show (48 : Int32) * nI n = nI (48 * n) from n_mul 48 n, n_add]
    refine Or.inr ⟨gz_wi z 51 (48 * n + i) (g.1 51 (192 + i)), ?_, q1.s (by omega) rfl, fun i' hi' => ?_, fun j hj => ?_⟩
    · rw [fX12_text_137, if_neg (show ¬ (48 : Int32) ≤ nI i by show ¬ nI 48 ≤ nI i; rw [n_le (by omega) (by omega)]; omega), show (192 : Int32) + nI i = nI (192 + i) from n_add 192 i, if_pos (n_okP (by omega) (by omega)), e30, ex, if_pos (n_okP (by omega) (by omega)), n_cl (by omega), n_cl (by omega), gz_let_eq, gz_let_eq, q3 (192 + i) (by omega), show nI i + (1 : Int32) = nI (i + 1) from n_add _ _]
    · by_cases c : i' = i
      · rw [c, wi_ss]
      · rw [wi_sn (by omega)]; exact q2 i' (by omega)
    · rw [wi_sn (by omega)]; exact q3 j hj
  · intro f z ⟨q1, q2, q3⟩
    exact ⟨z, by rw [fX12_text_137]; exact if_pos (by decide), q1, q2, q3⟩
theorem r_tx215 {k : gz_S → Option (Int32 × gz_S)} :
    ∃ g', fX12_text_215 La k gz_FU 0 g = k g' ∧ Fz (fun _ => False) (fun j => j = 44) g g' ∧ ∀ i, i < 4 → g'.1 44 i = g.1 45 i := by
  refine lp (fun f i z => fX12_text_215 La k f (nI i) z) (fun i z => Fz (fun _ => False) (fun j => j = 44) g z ∧ ∀ i', i' < i → z.1 44 i' = g.1 45 i') 4
    (fun q => ∃ g', q = k g' ∧ Fz (fun _ => False) (fun j => j = 44) g g' ∧ ∀ i, i < 4 → g'.1 44 i = g.1 45 i) ?_ ?_ gz_FU 0 g (by omega) (by unfold gz_FU; omega) ⟨Fz.z0, fun i hi => absurd hi (Nat.not_lt_zero _)⟩
  · intro f i z hi ⟨q1, q2⟩
    refine Or.inr ⟨gz_wi z 44 i (g.1 45 i), ?_, q1.s (by omega) rfl, fun i' hi' => ?_⟩
    · rw [fX12_text_215, if_neg (show ¬ (4 : Int32) ≤ nI i by show ¬ nI 4 ≤ nI i; rw [n_le (by omega) (by omega)]; omega), if_pos (n_okP (by omega) (by omega)), if_pos (n_okP (by omega) (by omega)), n_cl (by omega), gz_let_eq, gz_let_eq, q1.1 45 (by omega) (by omega), show nI i + (1 : Int32) = nI (i + 1) from n_add _ _]
    · by_cases c : i' = i
      · rw [c, wi_ss]
      · rw [wi_sn (by omega)]; exact q2 i' (by omega)
  · intro f z ⟨q1, q2⟩
    exact ⟨z, by rw [fX12_text_215]; exact if_pos (by decide), q1, q2⟩
theorem r_tx240 {k : gz_S → Option (Int32 × gz_S)} :
    ∃ g', fX12_text_240 La k gz_FU 0 g = k g' ∧ Fz (fun _ => False) (fun j => j = 46) g g' ∧ ∀ i, i < 16 → g'.1 46 i = g.1 47 i := by
  refine lp (fun f i z => fX12_text_240 La k f (nI i) z) (fun i z => Fz (fun _ => False) (fun j => j = 46) g z ∧ ∀ i', i' < i → z.1 46 i' = g.1 47 i') 16
    (fun q => ∃ g', q = k g' ∧ Fz (fun _ => False) (fun j => j = 46) g g' ∧ ∀ i, i < 16 → g'.1 46 i = g.1 47 i) ?_ ?_ gz_FU 0 g (by omega) (by unfold gz_FU; omega) ⟨Fz.z0, fun i hi => absurd hi (Nat.not_lt_zero _)⟩
  · intro f i z hi ⟨q1, q2⟩
    refine Or.inr ⟨gz_wi z 46 i (g.1 47 i), ?_, q1.s (by omega) rfl, fun i' hi' => ?_⟩
    · rw [fX12_text_240, if_neg (show ¬ (16 : Int32) ≤ nI i by show ¬ nI 16 ≤ nI i; rw [n_le (by omega) (by omega)]; omega), if_pos (n_okP (by omega) (by omega)), if_pos (n_okP (by omega) (by omega)), n_cl (by omega), gz_let_eq, gz_let_eq, q1.1 47 (by omega) (by omega), show nI i + (1 : Int32) = nI (i + 1) from n_add _ _]
    · by_cases c : i' = i
      · rw [c, wi_ss]
      · rw [wi_sn (by omega)]; exact q2 i' (by omega)
  · intro f z ⟨q1, q2⟩
    exact ⟨z, by rw [fX12_text_240]; exact if_pos (by decide), q1, q2⟩
theorem r_tx266 {k : gz_S → Option (Int32 × gz_S)} :
    ∃ g', fX12_text_266 La k gz_FU 0 g = k g' ∧ Fz (fun _ => False) (fun j => j = 48) g g' ∧ ∀ i, i < 30 → g'.1 48 i = g.1 49 i := by
  refine lp (fun f i z => fX12_text_266 La k f (nI i) z) (fun i z => Fz (fun _ => False) (fun j => j = 48) g z ∧ ∀ i', i' < i → z.1 48 i' = g.1 49 i') 30
    (fun q => ∃ g', q = k g' ∧ Fz (fun _ => False) (fun j => j = 48) g g' ∧ ∀ i, i < 30 → g'.1 48 i = g.1 49 i) ?_ ?_ gz_FU 0 g (by omega) (by unfold gz_FU; omega) ⟨Fz.z0, fun i hi => absurd hi (Nat.not_lt_zero _)⟩
  · intro f i z hi ⟨q1, q2⟩
    refine Or.inr ⟨gz_wi z 48 i (g.1 49 i), ?_, q1.s (by omega) rfl, fun i' hi' => ?_⟩
    · rw [fX12_text_266, if_neg (show ¬ (30 : Int32) ≤ nI i by show ¬ nI 30 ≤ nI i; rw [n_le (by omega) (by omega)]; omega), if_pos (n_okP (by omega) (by omega)), if_pos (n_okP (by omega) (by omega)), n_cl (by omega), gz_let_eq, gz_let_eq, q1.1 49 (by omega) (by omega), show nI i + (1 : Int32) = nI (i + 1) from n_add _ _]
    · by_cases c : i' = i
      · rw [c, wi_ss]
      · rw [wi_sn (by omega)]; exact q2 i' (by omega)
  · intro f z ⟨q1, q2⟩
    exact ⟨z, by rw [fX12_text_266]; exact if_pos (by decide), q1, q2⟩
end TC
