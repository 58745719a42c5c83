/-! call all: dry cells, dry parts -/
section US
variable {V : Nat → Nat} {dry : Nat}
theorem sBes_sy {c d e : Nat} (h8 : 2 ≤ V 58) (hc : c < V 58 * V 59) (hd : d < 4) (h : sBes V c d = some e) : ∃ d', d' < 4 ∧ sBes V e d' = some c := by
  unfold sBes at h
  by_cases d0 : d = 0
  · rw [if_pos d0] at h
    by_cases c1 : V 58 ≤ c
    · rw [if_pos c1] at h
      have : c - V 58 = e := by injection h
      subst this
      refine ⟨2, by omega, ?_⟩
      unfold sBes
      rw [if_neg (by omega), if_neg (by omega), if_pos rfl, if_neg (by omega)]
      congr 1; omega
    · rw [if_neg c1] at h; cases h
  · rw [if_neg d0] at h
    by_cases d1 : d = 1
    · rw [if_pos d1] at h
      by_cases c1 : (c + 1) % V 58 = 0
      · rw [if_pos c1] at h; cases h
      · rw [if_neg c1] at h
        have : c + 1 = e := by injection h
        subst this
        refine ⟨3, by omega, ?_⟩
        unfold sBes
        rw [if_neg (by omega), if_neg (by omega), if_neg (by omega), if_neg c1]
        congr 1
    · rw [if_neg d1] at h
      by_cases d2 : d = 2
      · rw [if_pos d2] at h
        by_cases c1 : V 58 * V 59 ≤ c + V 58
        · rw [if_pos c1] at h; cases h
        · rw [if_neg c1] at h
          have : c + V 58 = e := by injection h
          subst this
          refine ⟨0, by omega, ?_⟩
          unfold sBes
          rw [if_pos rfl, if_pos (by omega)]
          congr 1; omega
      · rw [if_neg d2] at h
        by_cases c1 : c % V 58 = 0
        · rw [if_pos c1] at h; cases h
        · rw [if_neg c1] at h
          have e1 : c - 1 = e := by injection h
          have c0 : ¬ c = 0 := fun hh => c1 (by rw [hh]; exact Nat.zero_mod _)
          subst e1
          refine ⟨1, by omega, ?_⟩
          unfold sBes
          rw [if_neg (by omega), if_pos rfl, if_neg (by rw [show c - 1 + 1 = c by omega]; exact c1)]
          congr 1; omega
theorem rch_in {bits : Nat} {n : Nat} : ∀ k e, (sRch V dry k bits).testBit e = true → bits.testBit e = true ∨ dry.testBit e = true := by
  intro k
  induction k with
  | zero => intro e h; exact Or.inl h
  | succ k ih =>
    intro e h
    rw [rch_s, wid_t] at h
    rcases h with h | h
    · exact ih e h
    · exact Or.inr h.1
def Closed (V : Nat → Nat) (dry u : Nat) : Prop := ∀ e f d, u.testBit e = true → dry.testBit f = true → e < V 58 * V 59 → d < 4 → sBes V e d = some f → u.testBit f = true
theorem rch_same {rem u n : Nat} (h8 : 2 ≤ V 58) (hdl : ∀ e, dry.testBit e = true → e < V 58 * V 59) (hn : dry.testBit n = true) (hu : ¬ u.testBit n = true) (hr : ∀ e, rem.testBit e = true ↔ dry.testBit e = true ∧ ¬ u.testBit e = true) (hc : Closed V dry u) : ∀ k, sRch V rem k (2 ^ n) = sRch V dry k (2 ^ n) := by
  intro k
  induction k with
  | zero => rfl
  | succ k ih =>
    refine Nat.eq_of_testBit_eq (fun e => ?_)
    have : (sRch V rem (k + 1) (2 ^ n)).testBit e = true ↔ (sRch V dry (k + 1) (2 ^ n)).testBit e = true := by
      rw [rch_s, rch_s, wid_t, wid_t, ih]
      constructor
      · rintro (h | ⟨h1, h2⟩)
        · exact Or.inl h
        · exact Or.inr ⟨((hr e).mp h1).1, h2⟩
      · rintro (h | ⟨h1, c, hcN, h2, d, hd, h3⟩)
        · exact Or.inl h
        · refine Or.inr ⟨(hr e).mpr ⟨h1, fun hue => ?_⟩, c, hcN, h2, d, hd, h3⟩
          obtain ⟨d', hd', h4⟩ := sBes_sy h8 hcN hd h3
          have hin : c = n ∨ rem.testBit c = true := by
            rw [← ih] at h2
            rcases rch_in (n := n) k c h2 with h5 | h5
            · rw [Nat.testBit_two_pow, decide_eq_true_eq] at h5; exact Or.inl h5.symm
            · exact Or.inr h5
          have hdc : dry.testBit c = true := by
            rcases hin with h5 | h5
            · rw [h5]; exact hn
            · exact ((hr c).mp h5).1
          have huc := hc e c d' hue hdc (hdl e h1) hd' h4
          rcases hin with h5 | h5
          · rw [h5] at huc; exact hu huc
          · exact ((hr c).mp h5).2 huc
    cases h1 : (sRch V rem (k + 1) (2 ^ n)).testBit e with
    | true => exact (this.mp h1).symm
    | false =>
      cases h2 : (sRch V dry (k + 1) (2 ^ n)).testBit e with
      | true => rw [this.mpr h2] at h1; cases h1
      | false => rfl
theorem rch_31 {n : Nat} (hd : dry < 1073741824) (hn : n < 30) : sRch V dry 31 (2 ^ n) = sRch V dry 30 (2 ^ n) := by
  have : sRch V dry 30 (2 ^ n) = sRch V dry 29 (2 ^ n) := by
    refine Nat.eq_of_testBit_eq (fun e => ?_)
    cases h1 : (sRch V dry 30 (2 ^ n)).testBit e with
    | true => exact (rch_30 hd hn h1).symm
    | false =>
      cases h2 : (sRch V dry 29 (2 ^ n)).testBit e with
      | true => rw [rch_up h2 1] at h1; cases h1
      | false => rfl
  show sWid V (sRch V dry 30 (2 ^ n)) dry (V 58 * V 59) = _
  rw [this]; exact this
theorem dst_ne {n e : Nat} : dst V dry n 30 e ≠ none ↔ (sRch V dry 30 (2 ^ n)).testBit e = true := by
  constructor
  · intro h
    cases hd : dst V dry n 30 e with
    | none => exact absurd hd h
    | some k =>
      have := ff_lt hd
      have h2 := rch_up (V := V) (dry := dry) (bits := 2 ^ n) (e := e) (n := k) this.2 (30 - k)
      rw [show k + (30 - k) = 30 by omega] at h2; exact h2
  · intro h hh
    have := ff_no hh 30 (by omega)
    rw [h] at this; cases this
/-- one part more -/
theorem part_nx {rem u u' n : Nat} (h8 : 2 ≤ V 58) (hd : dry < 1073741824) (hdl : ∀ e, dry.testBit e = true → e < V 58 * V 59) (hn : dry.testBit n = true) (hn30 : n < 30) (hu : ¬ u.testBit n = true) (hr : ∀ e, rem.testBit e = true ↔ dry.testBit e = true ∧ ¬ u.testBit e = true) (hc : Closed V dry u)
    (hu' : ∀ e, u'.testBit e = true ↔ u.testBit e = true ∨ (e < V 58 * V 59 ∧ dst V dry n 30 e ≠ none)) :
    (∀ e, (rem ^^^ (rem &&& sRch V rem 30 (2 ^ n))).testBit e = true ↔ dry.testBit e = true ∧ ¬ u'.testBit e = true) ∧ Closed V dry u' := by
  have hin : ∀ e, (sRch V dry 30 (2 ^ n)).testBit e = true → e < V 58 * V 59 := by
    intro e he
    rcases rch_in (n := n) 30 e he with h5 | h5
    · rw [Nat.testBit_two_pow, decide_eq_true_eq] at h5; rw [← h5]; exact hdl n hn
    · exact hdl e h5
  have hu2 : ∀ e, u'.testBit e = true ↔ u.testBit e = true ∨ (sRch V dry 30 (2 ^ n)).testBit e = true := by
    intro e
    rw [hu', dst_ne]
    exact ⟨fun h => h.elim Or.inl (fun h => Or.inr h.2), fun h => h.elim Or.inl (fun h => Or.inr ⟨hin e h, h⟩)⟩
  refine ⟨fun e => ?_, fun e f d h1 h2 h3 h4 h5 => ?_⟩
  · rw [rch_same h8 hdl hn hu hr hc, Nat.testBit_xor, Nat.testBit_and, hu2]
    have h1 := hr e
    cases a1 : rem.testBit e with
    | false =>
      rw [a1] at h1
      show (false ^^ (false && _)) = true ↔ _
      rw [Bool.false_and]
      constructor
      · intro h; cases h
      · rintro ⟨h2, h3⟩; exact h1.mpr ⟨h2, fun hh => h3 (Or.inl hh)⟩
    | true =>
      rw [a1] at h1
      have h1 := h1.mp rfl
      cases a2 : (sRch V dry 30 (2 ^ n)).testBit e with
      | false => exact ⟨fun _ => ⟨h1.1, fun hh => hh.elim h1.2 (fun hh => by cases hh)⟩, fun _ => rfl⟩
      | true => exact ⟨fun hh => (by cases hh), fun hh => absurd (Or.inr rfl) hh.2⟩
  · rw [hu2] at h1 ⊢
    rcases h1 with h1 | h1
    · exact Or.inl (hc e f d h1 h2 h3 h4 h5)
    · refine Or.inr ?_
      rw [← rch_31 hd hn30]
      show (sWid V (sRch V dry 30 (2 ^ n)) dry (V 58 * V 59)).testBit f = true
      rw [wid_t]
      exact Or.inr ⟨h2, e, h3, h1, d, h4, h5⟩
end US
section RW
variable {g : gz_S} {V W U : Nat → Nat} {B : Nat} {La : gz_L} {Ls : List (List Nat)} {cur : Option Nat}
theorem r_dry41 (h : CX g 53 V Ls cur) (hW : Wf B V) {u n cnt : Nat} {x1 : Int32} {z : gz_S} (hz : F8 g z) (hu : u < 1073741824) (hn : n < V 58 * V 59) {k7 : Int32 → Int32 → Int32 → Int32 → gz_S → Option (Int32 × gz_S)} :
    ∃ p : gz_S × Nat, fX12_dry_41 La k7 x1 (nI cnt) (nI u) (nI n) z = k7 x1 (nI (cnt + 1)) (nI p.2) (nI (n + 1)) p.1 ∧ F8 g p.1 ∧ p.2 < 1073741824 ∧ ∀ e, p.2.testBit e = true ↔ u.testBit e = true ∨ (e < V 58 * V 59 ∧ dstO V n 30 e ≠ none) := by
  have c30 := hW.cells
  obtain ⟨z2, v1, v2, v3⟩ := r_goSteps (La := La) (h.f8 hz) hW hn
  have F2 : F8 g z2 := Fz.tr hz v2
  have X := h.f8 F2
  unfold fX12_dry_41
  rw [gz_let_eq, v1, Option.bind_some, show nI cnt + (1 : Int32) = nI (cnt + 1) from n_add _ _]
  refine lp (fun f j (u' : Nat) => fX12_dry_53 La (fX12_dry_90 La k7) f x1 (nI (cnt + 1)) (nI u') (nI n) (nI j) z2) (fun j u' => u' < 1073741824 ∧ ∀ e, u'.testBit e = true ↔ u.testBit e = true ∨ (e < j ∧ dstO V n 30 e ≠ none)) (V 58 * V 59)
    (fun q => ∃ p : gz_S × Nat, q = k7 x1 (nI (cnt + 1)) (nI p.2) (nI (n + 1)) p.1 ∧ F8 g p.1 ∧ p.2 < 1073741824 ∧ ∀ e, p.2.testBit e = true ↔ u.testBit e = true ∨ (e < V 58 * V 59 ∧ dstO V n 30 e ≠ none)) ?_ ?_ gz_FU 0 u (by omega) (by unfold gz_FU; omega) ⟨hu, fun e => ⟨Or.inl, fun hh => hh.elim id (fun hh => absurd hh.1 (Nat.not_lt_zero _))⟩⟩
  · intro f j u' hj ⟨q1, q2⟩
    have hm : (z2.1 58 j = -1) = (dstO V n 30 j = none) := by
      rw [v3 j (by omega)]
      refine oI_m (fun k hk => ?_)
      unfold dstO at hk
      split at hk
      · have := (ff_lt hk).1; omega
      · cases hk
    refine Or.inr ?_
    rw [fX12_dry_53, r_cells X hW, Option.bind_some, if_neg (show ¬ nI (V 58 * V 59) ≤ nI j by rw [n_le (by omega) (by omega)]; omega), if_pos (n_okP (by omega) (by omega)), n_cl (by omega)]
    unfold fX12_dry_82
    by_cases c : dstO V n 30 j = none
    · refine ⟨u', ?_, q1, fun e => ?_⟩
      · rw [if_pos (hm.symm ▸ c), gz_let_eq, gz_let_eq, show nI j + (1 : Int32) = nI (j + 1) from n_add _ _, show nI u' ||| (0 : Int32) = nI (u' ||| 0) from n_or _ 0, Nat.or_zero]
      · rw [q2]
        constructor
        · rintro (hh | hh)
          · exact Or.inl hh
          · exact Or.inr ⟨by omega, hh.2⟩
        · rintro (hh | hh)
          · exact Or.inl hh
          · by_cases ce : e = j
            · subst ce; exact absurd c hh.2
            · exact Or.inr ⟨by omega, hh.2⟩
    · refine ⟨u' ||| 2 ^ j, ?_, b_or q1 (b_pow (by omega)), fun e => ?_⟩
      · rw [if_neg (fun hh => c (hm ▸ hh)), gz_let_eq, gz_let_eq, show nI j + (1 : Int32) = nI (j + 1) from n_add _ _, show (1 : Int32) <<< (nI j &&& 31) = nI (2 ^ j) from n_shl1 (by omega), n_or]
      · rw [Nat.testBit_or, Bool.or_eq_true, q2, Nat.testBit_two_pow, decide_eq_true_eq]
        constructor
        · rintro ((hh | hh) | hh)
          · exact Or.inl hh
          · exact Or.inr ⟨by omega, hh.2⟩
          · subst hh; exact Or.inr ⟨by omega, c⟩
        · rintro (hh | hh)
          · exact Or.inl (Or.inl hh)
          · by_cases ce : j = e
            · exact Or.inr ce
            · exact Or.inl (Or.inr ⟨by omega, hh.2⟩)
  · intro f u' ⟨q1, q2⟩
    refine ⟨(z2, u'), ?_, F2, q1, q2⟩
    show fX12_dry_53 La (fX12_dry_90 La k7) (f + 1) x1 (nI (cnt + 1)) (nI u') (nI n) (nI (V 58 * V 59)) z2 = k7 x1 (nI (cnt + 1)) (nI u') (nI (n + 1)) z2
    rw [fX12_dry_53, r_cells X hW, Option.bind_some, if_pos (show nI (V 58 * V 59) ≤ nI (V 58 * V 59) by rw [n_le (by omega) (by omega)]; omega)]
    unfold fX12_dry_90
    rw [gz_let_eq, show nI n + (1 : Int32) = nI (n + 1) from n_add _ _]
theorem r_dry (h : CX g 53 V Ls cur) (hW : Wf B V) {q : Nat} (hq : q ≤ 1) :
    ∃ g', fX12_dry La (nI q) g = some (nI (if q = 0 then pc (V 58 * V 59) (sDry V (V 58 * V 59)) else (sParts V (V 58 * V 59)).2), g') ∧ F8 g g' := by
  have c30 := hW.cells
  have hdry := sDry_lt (V := V) (n := V 58 * V 59) c30
  have hdt := dry_t (V := V) (V 58 * V 59)
  unfold fX12_dry
  refine lp (fun f n (p : gz_S × Nat × Nat) => fX12_dry_7 La f (nI q) (nI p.2.1) (nI p.2.2) (nI n) p.1)
    (fun n p => F8 g p.1 ∧ p.2.2 < 1073741824 ∧ (q = 0 → p.2.1 = pc n (sDry V (V 58 * V 59))) ∧ (q = 1 → p.2.1 = (sParts V n).2 ∧ (∀ e, (sParts V n).1.testBit e = true ↔ (sDry V (V 58 * V 59)).testBit e = true ∧ ¬ p.2.2.testBit e = true) ∧ Closed V (sDry V (V 58 * V 59)) p.2.2)) (V 58 * V 59)
    (fun r => ∃ g', r = some (nI (if q = 0 then pc (V 58 * V 59) (sDry V (V 58 * V 59)) else (sParts V (V 58 * V 59)).2), g') ∧ F8 g g') ?_ ?_ gz_FU 0 (g, 0, 0) (by omega) (by unfold gz_FU; omega)
    ⟨Fz.z0, show (0 : Nat) < 1073741824 by decide, fun _ => rfl, fun _ => ⟨rfl, fun e => ⟨fun hh => ⟨hh, by rw [Nat.zero_testBit]; decide⟩, fun hh => hh.1⟩, fun e f d hh => by (rw [Nat.zero_testBit] at hh; cases hh)⟩⟩
  · intro f n p hn ⟨q1, q2, q3, q4⟩
    obtain ⟨z, cnt, u⟩ := p
    have q2 : u < 1073741824 := q2
    have X := h.f8 q1
    refine Or.inr ?_
    show ∃ p', fX12_dry_7 La (f + 1) (nI q) (nI cnt) (nI u) (nI n) z = _ ∧ _
    rw [fX12_dry_7, r_cells X hW, Option.bind_some, if_neg (show ¬ nI (V 58 * V 59) ≤ nI n by rw [n_le (by omega) (by omega)]; omega), r_isDry X hW (by omega), Option.bind_some]
    have d90 : ∀ z', fX12_dry_90 La (fX12_dry_7 La f) (nI q) (nI cnt) (nI u) (nI n) z' = fX12_dry_7 La f (nI q) (nI cnt) (nI u) (nI (n + 1)) z' := by
      intro z'; unfold fX12_dry_90; rw [gz_let_eq, show nI n + (1 : Int32) = nI (n + 1) from n_add _ _]
    by_cases cd : sDryP V n
    · have hb : (sDry V (V 58 * V 59)).testBit n = true := (hdt n).mpr ⟨hn, cd⟩
      refine ex_q (if_neg (pI1 cd)) ?_
      obtain ⟨⟨z2, u2⟩, v1, v2, v3, v4⟩ := r_dry41 (La := La) h hW (u := u) (n := n) (cnt := cnt) (x1 := nI q) q1 q2 hn (k7 := fX12_dry_7 La f)
      have v4 : ∀ e, u2.testBit e = true ↔ u.testBit e = true ∨ (e < V 58 * V 59 ∧ dst V (sDry V (V 58 * V 59)) n 30 e ≠ none) := by
        intro e; have := v4 e; unfold dstO at this; rw [if_pos hb] at this; exact this
      by_cases c0 : q = 0
      · refine ⟨(z2, cnt + 1, u2), ?_, v2, v3, fun _ => ?_, fun hh => by omega⟩
        · exact (if_pos (show nI q = 0 by rw [c0]; rfl)).trans v1
        · show cnt + 1 = _
          rw [pc_s, if_pos hb]; have := q3 c0; simp only at this; omega
      · refine ex_q (if_neg (show ¬ nI q = 0 by show ¬ _ = nI 0; rw [n_eq (by omega) (by omega)]; exact c0)) ?_
        obtain ⟨w1, w2, w3⟩ := q4 (by omega)
        rw [r_has (by omega) (by omega), Option.bind_some]
        by_cases cu : u.testBit n = true
        · refine ⟨(z, cnt, u), ?_, q1, q2, fun hh => absurd hh c0, fun _ => ?_⟩
          · exact (if_neg (pI1 cu)).trans (d90 z)
          · have : ¬ (sParts V n).1.testBit n = true := fun hh => ((w2 n).mp hh).2 cu
            rw [sParts_s, if_neg this]; exact ⟨w1, w2, w3⟩
        · refine ⟨(z2, cnt + 1, u2), ?_, v2, v3, fun hh => absurd hh c0, fun _ => ?_⟩
          · exact (if_pos (pI0 cu)).trans v1
          · have hr : (sParts V n).1.testBit n = true := (w2 n).mpr ⟨hb, cu⟩
            obtain ⟨x1, x2⟩ := part_nx hW.2.1.1 hdry (fun e he => ((hdt e).mp he).1) hb (by omega) cu w2 w3 v4
            rw [sParts_s, if_pos hr]
            refine ⟨?_, x1, x2⟩
            show cnt + 1 = (sParts V n).2 + 1
            simp only at w1; omega
    · have hb : ¬ (sDry V (V 58 * V 59)).testBit n = true := fun hh => cd ((hdt n).mp hh).2
      refine ⟨(z, cnt, u), (if_pos (pI0 cd)).trans (d90 z), q1, q2, fun hh => ?_, fun hh => ?_⟩
      · rw [pc_s, if_neg hb]; exact q3 hh
      · obtain ⟨w1, w2, w3⟩ := q4 hh
        have : ¬ (sParts V n).1.testBit n = true := fun hh => hb ((w2 n).mp hh).1
        rw [sParts_s, if_neg this]; exact ⟨w1, w2, w3⟩
  · intro f p ⟨q1, q2, q3, q4⟩
    obtain ⟨z, cnt, u⟩ := p
    refine ⟨z, ?_, q1⟩
    show fX12_dry_7 La (f + 1) (nI q) (nI cnt) (nI u) (nI (V 58 * V 59)) z = _
    rw [fX12_dry_7, r_cells (h.f8 q1) hW, Option.bind_some, if_pos (show nI (V 58 * V 59) ≤ nI (V 58 * V 59) by rw [n_le (by omega) (by omega)]; omega)]
    by_cases c0 : q = 0
    · have := q3 c0
      rw [if_pos c0]; simp only at this; rw [this]
    · have := (q4 (by omega)).1
      rw [if_neg c0]; simp only at this; rw [this]
end RW
