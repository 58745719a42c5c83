/-! the reference's log and what it remembers -/
def RowA (A : Nat → Int32) (V : Nat → Nat) (Lg : Nat → Nat) : Prop := (∀ k, k < 50 → A (rp k) = nI (V k)) ∧ A 50 = nI (min 60 (V 49)) ∧
  ∀ k, k < min 60 (V 49) → A (51 + 3 * k) = nI (Lg (V 49 - min 60 (V 49) + k) / 256) ∧ A (51 + 3 * k + 1) = nI (Lg (V 49 - min 60 (V 49) + k) / 16 % 16) ∧ A (51 + 3 * k + 2) = nI (Lg (V 49 - min 60 (V 49) + k) % 16)
theorem RowA.cg {A A' : Nat → Int32} {V Lg : Nat → Nat} (h : RowA A V Lg) (he : ∀ j, j < 231 → A' j = A j) : RowA A' V Lg := by
  refine ⟨fun k hk => ?_, ?_, fun k hk => ?_⟩
  · rw [he _ (by have := rp_lt hk; omega)]; exact h.1 k hk
  · rw [he 50 (by omega)]; exact h.2.1
  · rw [he _ (by omega), he _ (by omega), he _ (by omega)]; exact h.2.2 k hk
theorem RowA.lg {A : Nat → Int32} {V Lg Lg' : Nat → Nat} (h : RowA A V Lg) (he : ∀ k, k < V 49 → Lg' k = Lg k) : RowA A V Lg' := by
  refine ⟨h.1, h.2.1, fun k hk => ?_⟩
  rw [he _ (by omega)]; exact h.2.2 k hk
/-- an act that is no hour -/
theorem RowA.act {A A' : Nat → Int32} {V V' Lg : Nat → Nat} (h : RowA A V Lg) (h49 : V' 49 = V 49) (h1 : ∀ k, k < 50 → A' (rp k) = nI (V' k)) (h2 : ∀ j, 50 ≤ j → A' j = A j) : RowA A' V' Lg := by
  refine ⟨h1, ?_, fun k hk => ?_⟩
  · rw [h49, h2 50 (by omega)]; exact h.2.1
  · rw [h49] at hk ⊢
    rw [h2 _ (by omega), h2 _ (by omega), h2 _ (by omega)]; exact h.2.2 k hk
section RW
variable {g : gz_S} {w : Nat} {V : Nat → Nat} {B : Nat} {La : gz_L} {Ls : List (List Nat)} {cur : Option Nat} {Lg : Nat → Nat}
/-- the last note is written -/
theorem r_hour52 {c m e t : Nat} (hc : c < 60) (h50 : g.1 53 50 = nI c) (h39 : g.1 39 39 = nI e) (h46 : g.1 53 46 = nI t) :
    ∃ g', fX12_goHour_52 La 53 (nI m) g = some (nI m, g') ∧ Fz (fun _ => False) (fun j => j = 53) g g' ∧ g'.1 53 50 = nI (c + 1) ∧ g'.1 53 (51 + 3 * c) = nI m ∧ g'.1 53 (51 + 3 * c + 1) = nI e ∧ g'.1 53 (51 + 3 * c + 2) = nI t ∧ ∀ j, j ≠ 50 → ¬ (51 + 3 * c ≤ j ∧ j < 51 + 3 * c + 3) → g'.1 53 j = g.1 53 j := by
  refine ⟨gz_wi (gz_wi (gz_wi (gz_wi g 53 (51 + 3 * c) (nI m)) 53 (51 + 3 * c + 1) (nI e)) 53 (51 + 3 * c + 2) (nI t)) 53 50 (nI (c + 1)), ?_, Fz.s (Fz.s (Fz.s (Fz.s (Fz.z0 (K := fun _ => False) (S := fun j => j = 53)) (j := 53) (by omega) rfl) (j := 53) (by omega) rfl) (j := 53) (by omega) rfl) (j := 53) (by omega) rfl, wi_ss, ?_, ?_, ?_, fun j h1 h2 => ?_⟩
  · unfold fX12_goHour_52
    have ei : (51 : Int32) + (3 : Int32) * nI c = nI (51 + 3 * c) := by rw [show (3 : Int32) * nI c = nI (3 * c) from n_mul 3 c, show (51 : Int32) = nI 51 from rfl, n_add]
    rw [h50, ei, gz_let_eq, if_pos (n_okP (by omega) (by omega)), gz_let_eq, show nI (51 + 3 * c) + (1 : Int32) = nI (51 + 3 * c + 1) from n_add _ _, if_pos (n_okP (by omega) (by omega)), gz_let_eq,
      show nI (51 + 3 * c) + (2 : Int32) = nI (51 + 3 * c + 2) from n_add _ _, if_pos (n_okP (by omega) (by omega)), gz_let_eq, gz_let_eq, n_cl (by omega), n_cl (by omega), n_cl (by omega)]
    have a1 : (gz_wi g 53 (51 + 3 * c) (nI m)).1 39 39 = nI e := by rw [wi_39 (by omega)]; exact h39
    rw [a1]
    have a2 : (gz_wi (gz_wi g 53 (51 + 3 * c) (nI m)) 53 (51 + 3 * c + 1) (nI e)).1 53 46 = nI t := by rw [wi_sn (by omega), wi_sn (by omega)]; exact h46
    rw [a2]
    have a3 : (gz_wi (gz_wi (gz_wi g 53 (51 + 3 * c) (nI m)) 53 (51 + 3 * c + 1) (nI e)) 53 (51 + 3 * c + 2) (nI t)).1 53 50 = nI c := by rw [wi_sn (by omega), wi_sn (by omega), wi_sn (by omega)]; exact h50
    rw [a3, show nI c + (1 : Int32) = nI (c + 1) from n_add _ _]
  · rw [wi_sn (by omega), wi_sn (by omega), wi_sn (by omega), wi_ss]
  · rw [wi_sn (by omega), wi_sn (by omega), wi_ss]
  · rw [wi_sn (by omega), wi_ss]
  · rw [wi_sn h1, wi_sn (by omega), wi_sn (by omega), wi_sn (by omega)]
theorem r_hour17 (K : Int32 → gz_S → Option (Int32 × gz_S)) (x : Int32) :
    ∃ g', fX12_goHour_17 La 53 K gz_FU x 1 g = K x g' ∧ Fz (fun _ => False) (fun j => j = 53) g g' ∧ (∀ j, 51 ≤ j → j < 228 → g'.1 53 j = g.1 53 (j + 3)) ∧ ∀ j, j ≤ 50 → g'.1 53 j = g.1 53 j := by
  refine lp (fun f n g1 => fX12_goHour_17 La 53 K f x (nI n) g1) (fun n g1 => 1 ≤ n ∧ Fz (fun _ => False) (fun j => j = 53) g g1 ∧ (∀ j, 51 ≤ j → j < 50 + n → g1.1 53 j = g.1 53 (j + 3)) ∧ ∀ j, (j ≤ 50 ∨ 50 + n ≤ j) → g1.1 53 j = g.1 53 j) 178
    (fun q => ∃ g', q = K x g' ∧ Fz (fun _ => False) (fun j => j = 53) g g' ∧ (∀ j, 51 ≤ j → j < 228 → g'.1 53 j = g.1 53 (j + 3)) ∧ ∀ j, j ≤ 50 → g'.1 53 j = g.1 53 j) ?_ ?_ gz_FU 1 g (by omega) (by unfold gz_FU; omega) ⟨by omega, Fz.z0, fun j h1 h2 => by omega, fun j _ => rfl⟩
  · intro f n g1 hn ⟨q0, q1, q2, q3⟩
    refine Or.inr ⟨gz_wi g1 53 (50 + n) (g.1 53 (50 + n + 3)), ?_, by omega, q1.s (by omega) rfl, fun j h1 h2 => ?_, fun j hj => ?_⟩
    · show fX12_goHour_17 La 53 K (f + 1) x (nI n) g1 = _
      rw [fX12_goHour_17, if_neg (show ¬ (177 : Int32) < nI n by show ¬ nI 177 < nI n; rw [n_lt (by omega) (by omega)]; omega), show (50 : Int32) + nI n = nI (50 + n) from n_add 50 n, show nI (50 + n) + (3 : Int32) = nI (50 + n + 3) from n_add _ 3, if_pos (n_okP (by omega) (by omega)), if_pos (n_okP (by omega) (by omega)), gz_let_eq, n_cl (by omega), n_cl (by omega), q3 (50 + n + 3) (by omega), gz_let_eq, show nI n + (1 : Int32) = nI (n + 1) from n_add _ _]
    · by_cases c : j = 50 + n
      · rw [c, wi_ss]
      · rw [wi_sn c]; exact q2 j h1 (by omega)
    · rw [wi_sn (by omega)]; exact q3 j (by omega)
  · intro f g1 ⟨q0, q1, q2, q3⟩
    refine ⟨g1, ?_, q1, fun j h1 h2 => q2 j h1 (by omega), fun j hj => q3 j (by omega)⟩
    show fX12_goHour_17 La 53 K (f + 1) x (nI 178) g1 = _
    rw [fX12_goHour_17]
    exact if_pos (by decide)
theorem dec_code {m e t : Nat} (he : e < 16) (ht : t < 16) : (m * 256 + e * 16 + t) / 256 = m ∧ (m * 256 + e * 16 + t) / 16 % 16 = e ∧ (m * 256 + e * 16 + t) % 16 = t := by omega
theorem sEnd_lt {T : sT} {V : Nat → Nat} : ∀ n, n ≤ 4 → sEnd T V n < 2 ^ n := by
  intro n
  induction n with
  | zero => intro _; exact Nat.zero_lt_one
  | succ n ih =>
    intro hn
    have h1 := ih (by omega)
    rw [sEnd_s]
    have h2 : (2 : Nat) ^ (n + 1) = 2 ^ n + 2 ^ n := by rw [Nat.pow_succ]; omega
    split
    · exact Nat.or_lt_two_pow (by omega) (by omega)
    · omega
/-- frames of what changes the shore as it is now -/
abbrev KN : Nat → Prop := fun k => (8 ≤ k ∧ k ≤ 14 ∨ k = 17) ∨ k = 38 ∨ k = 39
abbrev SN : Nat → Prop := fun j => j = 53 ∨ j = 43 ∨ j = 55 ∨ j = 56
theorem r_goHour (h : CX g 53 V Ls cur) (hp : RKp g V) (hW : Wf B V) (hB : B < 700000) (hA : RowA (g.1 53) V Lg) :
    ∃ g', fX12_goHour La 53 g = some (nI (sMet (sTof Ls cur) V), g') ∧ Fy KN SN g g' ∧ CX g' 53 (sHour (sTof Ls cur) V) Ls cur ∧
      RowA (g'.1 53) (sHour (sTof Ls cur) V) (uN Lg (V 49) (sMet (sTof Ls cur) V * 256 + sEnd (sTof Ls cur) V (V 60) * 16 + V 46)) := by
  have h60 := hW.2.2.2.1.2
  obtain ⟨g1, u1, u2, u3, u4, _⟩ := r_passes (La := La) (Or.inl rfl) h hp hW hB
  have hm := sMet_le (T := sTof Ls cur) (V := V) h60
  have he : sEnd (sTof Ls cur) V (V 60) < 16 := by
    have h1 := sEnd_lt (T := sTof Ls cur) (V := V) (V 60) h60
    have h2 : 2 ^ V 60 ≤ 2 ^ 4 := Nat.pow_le_pow_right (by omega) h60
    omega
  have h49 : sHour (sTof Ls cur) V 49 = V 49 + 1 := uN_s _ _ _
  have h46 : sHour (sTof Ls cur) V 46 = V 46 := sHour_fix h60 (by omega)
  have b46 := hW.2.2.2.2.1
  have k46 := u3.at46 (k := 46) (by omega)
  rw [h46] at k46
  have b50 : g1.1 53 50 = nI (min 60 (V 49)) := by rw [u2.2 50 (by omega)]; exact hA.2.1
  have hdc := dec_code (m := sMet (sTof Ls cur) V) he (show V 46 < 16 by omega)
  unfold fX12_goHour
  rw [u1, Option.bind_some]
  -- the end, once there is room for one more
  have fin : ∀ g2 c, c < 60 → Fz (fun _ => False) (fun j => j = 53) g1 g2 → g2.1 53 50 = nI c → (∀ j, j < 50 → g2.1 53 j = g1.1 53 j) → c + 1 = min 60 (V 49 + 1) →
      (∀ k, k < c → g2.1 53 (51 + 3 * k) = nI (Lg (V 49 - c + k) / 256) ∧ g2.1 53 (51 + 3 * k + 1) = nI (Lg (V 49 - c + k) / 16 % 16) ∧ g2.1 53 (51 + 3 * k + 2) = nI (Lg (V 49 - c + k) % 16)) →
      ∃ g', fX12_goHour_52 La 53 (nI (sMet (sTof Ls cur) V)) g2 = some (nI (sMet (sTof Ls cur) V), g') ∧ Fy KN SN g g' ∧ CX g' 53 (sHour (sTof Ls cur) V) Ls cur ∧ RowA (g'.1 53) (sHour (sTof Ls cur) V) (uN Lg (V 49) (sMet (sTof Ls cur) V * 256 + sEnd (sTof Ls cur) V (V 60) * 16 + V 46)) := by
    intro g2 c hc F2 e50 elo hcm hent
    obtain ⟨g3, v1, v2, v3, v4, v5, v6, v7⟩ := r_hour52 (La := La) (m := sMet (sTof Ls cur) V) hc e50 ((F2.2.1 39 id).trans u4) ((elo 46 (by omega)).trans k46)
    have F3 : Fz (fun _ => False) (fun j => j = 53) g1 g3 := F2.tr v2
    have Fy3 : Fy (fun _ => False) (fun j => j = 53) g1 g3 := ⟨F3.1, F3.2.1, by rw [F3.2.2], Tq.ww F3.2.2⟩
    have elo3 : ∀ j, j < 50 → g3.1 53 j = g1.1 53 j := fun j hj => by rw [v7 j (by omega) (by omega)]; exact elo j hj
    have hRV : RV g3 53 (sHour (sTof Ls cur) V) := fun k hk => by rw [elo3 _ (rp_lt hk)]; exact u3.1 k hk
    refine ⟨g3, v1, u2.1.tr (Fy3.mo (fun k hk => hk.elim) (fun j hj => Or.inl hj)), ⟨hRV, u3.2.1.fr Fy3 (by omega) (by omega) id, u3.2.2.fr Fy3 id id (by omega) (by omega) (by omega) (by omega) (by omega)⟩, hRV, ?_, fun k hk => ?_⟩
    · rw [h49, v3, hcm]
    · rw [h49] at hk ⊢
      by_cases ck : k = c
      · subst ck
        rw [show V 49 + 1 - min 60 (V 49 + 1) + k = V 49 by omega, uN_s, hdc.1, hdc.2.1, hdc.2.2]
        exact ⟨v4, v5, v6⟩
      · have hk2 : k < c := by omega
        rw [show V 49 + 1 - min 60 (V 49 + 1) + k = V 49 - c + k by omega, uN_n (by omega), v7 _ (by omega) (by omega), v7 _ (by omega) (by omega), v7 _ (by omega) (by omega)]
        exact hent k hk2
  by_cases c60 : 60 ≤ V 49
  · have e60 : min 60 (V 49) = 60 := by omega
    rw [e60] at b50
    refine Eq.subst (motive := fun z => ∃ g', z = some (nI (sMet (sTof Ls cur) V), g') ∧ Fy KN SN g g' ∧ CX g' 53 (sHour (sTof Ls cur) V) Ls cur ∧ RowA (g'.1 53) (sHour (sTof Ls cur) V) (uN Lg (V 49) (sMet (sTof Ls cur) V * 256 + sEnd (sTof Ls cur) V (V 60) * 16 + V 46))) (if_pos (show (nI (sMet (sTof Ls cur) V), g1).2.1 53 50 = 60 from b50)).symm ?_
    obtain ⟨g2, v1, v2, v3, v4⟩ := r_hour17 (La := La) (g := g1) (fun (x2 : Int32) g => gz_let (gz_wi g 53 50 ((g.1 53 50) - 1)) (fun g51 => fX12_goHour_52 La 53 x2 g51)) (nI (sMet (sTof Ls cur) V))
    show ∃ g', fX12_goHour_17 La 53 _ gz_FU (nI (sMet (sTof Ls cur) V)) 1 g1 = _ ∧ _
    have e50 : g2.1 53 50 - 1 = nI 59 := by rw [v4 50 (by omega), b50]; decide
    rw [v1, gz_let_eq, e50]
    refine fin (gz_wi g2 53 50 (nI 59)) 59 (by omega) (v2.s (by omega) rfl) wi_ss (fun j hj => by rw [wi_sn (by omega)]; exact v4 j (by omega)) (by omega) (fun k hk => ?_)
    have ho := hA.2.2 (k + 1) (by omega)
    rw [wi_sn (by omega), wi_sn (by omega), wi_sn (by omega), v3 _ (by omega) (by omega), v3 _ (by omega) (by omega), v3 _ (by omega) (by omega), u2.2 _ (by omega), u2.2 _ (by omega), u2.2 _ (by omega)]
    rw [e60] at ho
    rw [show V 49 - 59 + k = V 49 - 60 + (k + 1) by omega]
    exact ho
  · have e60 : min 60 (V 49) = V 49 := by omega
    rw [e60] at b50
    refine Eq.subst (motive := fun z => ∃ g', z = some (nI (sMet (sTof Ls cur) V), g') ∧ Fy KN SN g g' ∧ CX g' 53 (sHour (sTof Ls cur) V) Ls cur ∧ RowA (g'.1 53) (sHour (sTof Ls cur) V) (uN Lg (V 49) (sMet (sTof Ls cur) V * 256 + sEnd (sTof Ls cur) V (V 60) * 16 + V 46))) (if_neg (show ¬ (nI (sMet (sTof Ls cur) V), g1).2.1 53 50 = 60 by show ¬ g1.1 53 50 = nI 60; rw [b50, n_eq (by omega) (by omega)]; omega)).symm ?_
    refine fin g1 (V 49) (by omega) Fz.z0 b50 (fun _ _ => rfl) (by omega) (fun k hk => ?_)
    have ho := hA.2.2 k (by omega)
    rw [u2.2 _ (by omega), u2.2 _ (by omega), u2.2 _ (by omega)]
    rw [e60] at ho
    exact ho
/-! what is remembered -/
def RU (g : gz_S) (a : Nat) (K : Nat → Nat → Nat) (Lg : Nat → Nat) : Prop := g.1 39 41 = nI a ∧ a ≤ 40 ∧ ∀ i, i < a → RowA (fun j => g.1 57 (231 * (a - 1 - i) + j)) (K i) Lg
abbrev KM : Nat → Prop := fun k => k = 41
abbrev SM : Nat → Prop := fun j => j = 57
theorem r_rem50 {a : Nat} (ha : a < 40) (h41 : g.1 39 41 = nI a) :
    ∃ g', fX12_remember_50 La g = some g' ∧ Fz KM SM g g' ∧ g'.1 39 41 = nI (a + 1) ∧ (∀ j, j < 231 → g'.1 57 (231 * a + j) = g.1 53 j) ∧ ∀ j, j < 231 * a → g'.1 57 j = g.1 57 j := by
  unfold fX12_remember_50
  refine lp (fun f n g1 => fX12_remember_52 La (fun g => gz_let (gz_wi g 39 41 ((g.1 39 41) + 1)) (fun g93 => some g93)) f (nI n) g1)
    (fun n g1 => Fz (fun _ => False) SM g g1 ∧ (∀ j, j < n → g1.1 57 (231 * a + j) = g.1 53 j) ∧ ∀ j, j < 231 * a → g1.1 57 j = g.1 57 j) 231
    (fun q => ∃ g', q = some g' ∧ Fz KM SM g g' ∧ g'.1 39 41 = nI (a + 1) ∧ (∀ j, j < 231 → g'.1 57 (231 * a + j) = g.1 53 j) ∧ ∀ j, j < 231 * a → g'.1 57 j = g.1 57 j) ?_ ?_ gz_FU 0 g (by omega) (by unfold gz_FU; omega) ⟨Fz.z0, fun j hj => absurd hj (Nat.not_lt_zero _), fun _ _ => rfl⟩
  · intro f n g1 hn ⟨q1, q2, q3⟩
    refine Or.inr ⟨gz_wi g1 57 (231 * a + n) (g.1 53 n), ?_, q1.s (by omega) rfl, fun j hj => ?_, fun j hj => ?_⟩
    · show fX12_remember_52 La _ (f + 1) (nI n) g1 = _
      have e41 : g1.1 39 41 = nI a := (q1.2.1 41 id).trans h41
      have ei : (231 : Int32) * nI a + nI n = nI (231 * a + n) := by rw [show (231 : Int32) * nI a = nI (231 * a) from n_mul 231 a, n_add]
      rw [fX12_remember_52, if_neg (show ¬ (231 : Int32) ≤ nI n by show ¬ nI 231 ≤ nI n; rw [n_le (by omega) (by omega)]; omega), if_pos (n_okP (by omega) (by omega)), e41, ei, if_pos (n_okP (by omega) (by omega)), gz_let_eq, n_cl (by omega), n_cl (by omega), q1.1 53 (by omega) (by omega), gz_let_eq, show nI n + (1 : Int32) = nI (n + 1) from n_add _ _]
    · by_cases c : j = n
      · rw [c, wi_ss]
      · rw [wi_sn (by omega)]; exact q2 j (by omega)
    · rw [wi_sn (by omega)]; exact q3 j hj
  · intro f g1 ⟨q1, q2, q3⟩
    have e41 : g1.1 39 41 = nI a := (q1.2.1 41 id).trans h41
    refine ⟨gz_wi g1 39 41 (nI (a + 1)), ?_, (q1.mo (fun k hk => hk.elim) (fun j hj => hj)).w rfl, wi_ss, fun j hj => by rw [wi_no (by omega)]; exact q2 j hj, fun j hj => by rw [wi_no (by omega)]; exact q3 j hj⟩
    show fX12_remember_52 La _ (f + 1) (nI 231) g1 = _
    rw [fX12_remember_52, if_pos (show (231 : Int32) ≤ nI 231 by decide), e41, show nI a + (1 : Int32) = nI (a + 1) from n_add _ _, gz_let_eq]
theorem r_rem11 (K : gz_S → Option gz_S) :
    ∃ g', fX12_remember_11 La K gz_FU 0 g = K g' ∧ Fz (fun _ => False) SM g g' ∧ ∀ j, j < 9009 → g'.1 57 j = g.1 57 (j + 231) := by
  refine lp (fun f n g1 => fX12_remember_11 La K f (nI n) g1) (fun n g1 => Fz (fun _ => False) SM g g1 ∧ (∀ j, j < n → g1.1 57 j = g.1 57 (j + 231)) ∧ ∀ j, n ≤ j → g1.1 57 j = g.1 57 j) 9009
    (fun q => ∃ g', q = K g' ∧ Fz (fun _ => False) SM g g' ∧ ∀ j, j < 9009 → g'.1 57 j = g.1 57 (j + 231)) ?_ ?_ gz_FU 0 g (by omega) (by unfold gz_FU; omega) ⟨Fz.z0, fun j hj => absurd hj (Nat.not_lt_zero _), fun _ _ => rfl⟩
  · intro f n g1 hn ⟨q1, q2, q3⟩
    refine Or.inr ⟨gz_wi g1 57 n (g.1 57 (n + 231)), ?_, q1.s (by omega) rfl, fun j hj => ?_, fun j hj => ?_⟩
    · show fX12_remember_11 La K (f + 1) (nI n) g1 = _
      rw [fX12_remember_11, if_neg (show ¬ (9009 : Int32) ≤ nI n by show ¬ nI 9009 ≤ nI n; rw [n_le (by omega) (by omega)]; omega), show nI n + (231 : Int32) = nI (n + 231) from n_add n 231, if_pos (n_okP (by omega) (by omega)), if_pos (n_okP (by omega) (by omega)), gz_let_eq, n_cl (by omega), n_cl (by omega), q3 (n + 231) (by omega), gz_let_eq, show nI n + (1 : Int32) = nI (n + 1) from n_add _ _]
    · by_cases c : j = n
      · rw [c, wi_ss]
      · rw [wi_sn c]; exact q2 j (by omega)
    · rw [wi_sn (by omega)]; exact q3 j (by omega)
  · intro f g1 ⟨q1, q2, q3⟩
    refine ⟨g1, ?_, q1, q2⟩
    show fX12_remember_11 La K (f + 1) (nI 9009) g1 = _
    rw [fX12_remember_11]
    exact if_pos (by decide)
theorem r_remember {a : Nat} {K : Nat → Nat → Nat} (hU : RU g a K Lg) (hA : RowA (g.1 53) V Lg) : ∃ g', fX12_remember La g = some g' ∧ Fz KM SM g g' ∧ RU g' (min 40 (a + 1)) (kPush V K) Lg := by
  obtain ⟨h41, ha, hr⟩ := hU
  unfold fX12_remember
  by_cases c : a = 40
  · subst c
    rw [if_pos (show g.1 39 41 = 40 from h41)]
    obtain ⟨g1, u1, u2, u3⟩ := r_rem11 (La := La) (g := g) (fun g => gz_let (gz_wi g 39 41 ((g.1 39 41) - 1)) (fun g47 => fX12_remember_50 La g47))
    have e41 : g1.1 39 41 - 1 = nI 39 := by rw [u2.2.1 41 id, h41]; decide
    have F2 : Fz KM SM g (gz_wi g1 39 41 (nI 39)) := (u2.mo (fun k hk => hk.elim) (fun j hj => hj)).w rfl
    obtain ⟨g3, v1, v2, v3, v4, v5⟩ := r_rem50 (La := La) (g := gz_wi g1 39 41 (nI 39)) (a := 39) (by omega) wi_ss
    refine ⟨g3, ?_, F2.tr v2, v3, by omega, fun i hi => ?_⟩
    · rw [u1, gz_let_eq, e41]; exact v1
    · have e40 : min 40 (40 + 1) = 40 := by decide
      rw [e40] at hi ⊢
      unfold kPush
      by_cases ci : i = 0
      · subst ci
        rw [if_pos rfl]
        refine hA.cg (fun j hj => ?_)
        show g3.1 57 (231 * (40 - 1 - 0) + j) = _
        rw [v4 j hj, F2.1 53 (by omega) (by omega)]
      · rw [if_neg ci]
        refine (hr (i - 1) (by omega)).cg (fun j hj => ?_)
        show g3.1 57 (231 * (40 - 1 - i) + j) = g.1 57 (231 * (40 - 1 - (i - 1)) + j)
        rw [v5 _ (by omega), wi_no (by omega), u3 _ (by omega), show 231 * (40 - 1 - i) + j + 231 = 231 * (40 - 1 - (i - 1)) + j by omega]
  · rw [if_neg (show ¬ g.1 39 41 = 40 by rw [h41]; show ¬ nI a = nI 40; rw [n_eq (by omega) (by omega)]; exact c)]
    obtain ⟨g3, v1, v2, v3, v4, v5⟩ := r_rem50 (La := La) (a := a) (by omega) h41
    have e40 : min 40 (a + 1) = a + 1 := by omega
    refine ⟨g3, v1, v2, by rw [e40]; exact v3, by omega, fun i hi => ?_⟩
    rw [e40] at hi ⊢
    unfold kPush
    by_cases ci : i = 0
    · subst ci
      rw [if_pos rfl]
      refine hA.cg (fun j hj => ?_)
      show g3.1 57 (231 * (a + 1 - 1 - 0) + j) = _
      rw [show a + 1 - 1 - 0 = a by omega]
      exact v4 j hj
    · rw [if_neg ci]
      refine (hr (i - 1) (by omega)).cg (fun j hj => ?_)
      show g3.1 57 (231 * (a + 1 - 1 - i) + j) = g.1 57 (231 * (a - 1 - (i - 1)) + j)
      rw [v5 _ (by omega), show a + 1 - 1 - i = a - 1 - (i - 1) by omega]
end RW
