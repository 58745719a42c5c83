/-! what the Statement gives of the start -/
theorem gx_ins {ci : Nat} (h : ci < 13) : Cond.instantiable (gz_kR ci) (gz_nf ci) ∈ lw_tbl := by
  match ci, h with
  | 0, _ => exact List.mem_of_getElem? (i := 664) (by decide +kernel)
  | 1, _ => exact List.mem_of_getElem? (i := 220) (by decide +kernel)
  | 2, _ => exact List.mem_of_getElem? (i := 311) (by decide +kernel)
  | 3, _ => exact List.mem_of_getElem? (i := 636) (by decide +kernel)
  | 4, _ => exact List.mem_of_getElem? (i := 204) (by decide +kernel)
  | 5, _ => exact List.mem_of_getElem? (i := 282) (by decide +kernel)
  | 6, _ => exact List.mem_of_getElem? (i := 240) (by decide +kernel)
  | 7, _ => exact List.mem_of_getElem? (i := 173) (by decide +kernel)
  | 8, _ => exact List.mem_of_getElem? (i := 347) (by decide +kernel)
  | 9, _ => exact List.mem_of_getElem? (i := 142) (by decide +kernel)
  | 10, _ => exact List.mem_of_getElem? (i := 257) (by decide +kernel)
  | 11, _ => exact List.mem_of_getElem? (i := 134) (by decide +kernel)
  | 12, _ => exact List.mem_of_getElem? (i := 1268) (by decide +kernel)
theorem gx_wi : Cond.arrayClass .int ∈ lw_tbl := List.mem_of_getElem? (i := 171) (by decide +kernel)
theorem gx_wb : Cond.arrayClass .byte ∈ lw_tbl := List.mem_of_getElem? (i := 1265) (by decide +kernel)
theorem gx_wl : Cond.arrayClass .long ∈ lw_tbl := List.mem_of_getElem? (i := 1991) (by decide +kernel)
theorem gx_wo3 : Cond.arrayOver (.object "PrintsGoOn$Law") ∈ lw_tbl := List.mem_of_getElem? (i := 236) (by decide +kernel)
theorem gx_wo4 : Cond.arrayOver (.object "PrintsGoOn$Evening") ∈ lw_tbl := List.mem_of_getElem? (i := 238) (by decide +kernel)
theorem gx_yRI : Cond.laysStatic "PrintsGoOn$ShoreReader" "RULE_ITEMS" "[I" ∈ lw_tbl := List.mem_of_getElem? (i := 471) (by decide +kernel)
theorem gx_yGI : Cond.laysStatic "PrintsGoOn$ShoreReader" "GOER_ITEMS" "[I" ∈ lw_tbl := List.mem_of_getElem? (i := 514) (by decide +kernel)
theorem gx_yLS : Cond.laysStatic "PrintsGoOn$Law" "LETTER_SIGNS" "[C" ∈ lw_tbl := List.mem_of_getElem? (i := 551) (by decide +kernel)
theorem gx_yCS : Cond.laysStatic "java/lang/String" "COMPACT_STRINGS" "Z" ∈ lw_tbl := List.mem_of_getElem? (i := 1493) (by decide +kernel)
theorem gx_ySF : Cond.laysStatic "jdk/internal/util/Preconditions" "SIOOBE_FORMATTER" "Ljava/util/function/BiFunction;" ∈ lw_tbl := List.mem_of_getElem? (i := 1512) (by decide +kernel)
theorem gx_xU : Cond.laysStatic Bundle.tN "UNASSIGNED_STACK" Bundle.steD ∈ lw_tbl := List.mem_of_getElem? (i := 1227) (by decide +kernel)
theorem gx_xN : Cond.laysStatic Bundle.tN "SUPPRESSED_SENTINEL" Bundle.listD ∈ lw_tbl := List.mem_of_getElem? (i := 1229) (by decide +kernel)
theorem gx_iST : Cond.initialized "java/lang/String" ∈ lw_tbl := List.mem_of_getElem? (i := 121) (by decide +kernel)
theorem gx_iPC : Cond.initialized "jdk/internal/util/Preconditions" ∈ lw_tbl := List.mem_of_getElem? (i := 123) (by decide +kernel)
theorem gx_iSR : Cond.initialized "PrintsGoOn$ShoreReader" ∈ lw_tbl := List.mem_of_getElem? (i := 110) (by decide +kernel)
theorem gx_iLW : Cond.initialized "PrintsGoOn$Law" ∈ lw_tbl := List.mem_of_getElem? (i := 120) (by decide +kernel)
theorem gx_iT : Cond.initialized Bundle.tN ∈ lw_tbl := List.mem_of_getElem? (i := 128) (by decide +kernel)
theorem gx_xc : Cond.castable gx_N gx_N ∈ lw_tbl := List.mem_of_getElem? (i := 1202) (by decide +kernel)
theorem gx_xd1 : Cond.declares (Bundle.initS "java/lang/RuntimeException") ∈ lw_tbl := List.mem_of_getElem? (i := 1204) (by decide +kernel)
theorem gx_xd2 : Cond.declares (Bundle.initS "java/lang/Exception") ∈ lw_tbl := List.mem_of_getElem? (i := 1206) (by decide +kernel)
theorem gx_xd3 : Cond.declares (Bundle.initS Bundle.tN) ∈ lw_tbl := List.mem_of_getElem? (i := 1208) (by decide +kernel)
theorem gx_xs1 : Cond.stringRef "PrintsGoOn" 171 "no such goer" ∈ lw_tbl := List.mem_of_getElem? (i := 1239) (by decide +kernel)
theorem gx_xs2 : Cond.stringRef "PrintsGoOn" 180 "nothing of this kind is told of a goer" ∈ lw_tbl := List.mem_of_getElem? (i := 1266) (by decide +kernel)
theorem gx_n9 : Cond.methodLinkNest "PrintsGoOn" 9 yX9_init "PrintsGoOn" ∈ lw_tbl := List.mem_of_getElem? (i := 143) (by decide +kernel)
theorem gx_n53 : Cond.methodLinkNest "PrintsGoOn" 53 yX6_init "PrintsGoOn" ∈ lw_tbl := List.mem_of_getElem? (i := 241) (by decide +kernel)
theorem gx_n66 : Cond.methodLinkNest "PrintsGoOn" 66 yX10_init "PrintsGoOn" ∈ lw_tbl := List.mem_of_getElem? (i := 258) (by decide +kernel)
theorem gx_n73 : Cond.methodLinkNest "PrintsGoOn" 73 yX5_init "PrintsGoOn" ∈ lw_tbl := List.mem_of_getElem? (i := 283) (by decide +kernel)
theorem gx_cC : Cond.castable "[I" "java/lang/Cloneable" ∈ lw_tbl := List.mem_of_getElem? (i := 645) (by decide +kernel)
/-- what the Statement gives of the start -/
def lw_fl : List Cond := flatC (Cond.and given_1 narrow_1)
abbrev lw_A (s : State) : Nat → Prop := fun q => s.heap.size ≤ q
theorem lw_hA {s : State} : ∀ q : Nat, q < s.heap.size → ¬ lw_A s q := fun q h k => Nat.not_le.mpr h k
theorem ls_K {s : State} {args : Array Value} (hts : ∀ w ∈ lw_tbl, w.before args s = true) : ∃ (D : va_G) (c0 c1 c2 c3 c4 : ClassId), va_K D vwCl [(c0, .int), (c1, .byte), (c2, .long), (c3, .object "PrintsGoOn$Law"), (c4, .object "PrintsGoOn$Evening")] s := by
  have hU : ∀ w ∈ gz_U, w.before args s = true := fun w hw => hts w (List.mem_filter.mp hw).1
  have h0 : ∀ ci : Nat, ∃ q : ClassId × (Nat → Nat), ci < 13 → u_Kn s (gz_kR ci) (gz_kT ci) (gz_nf ci) q.1 q.2 := by
    intro ci
    by_cases h : ci < 13
    · obtain ⟨cC, iS, hk⟩ := u_known (C := gz_kR ci) (T := gz_kT ci) (N := gz_nf ci) hU (gz_uw h) (hts _ (gx_ins h))
      exact ⟨(cC, iS), fun _ => hk⟩
    · exact ⟨(0, fun _ => 0), fun hh => absurd hh h⟩
  obtain ⟨f, hf⟩ := Classical.axiomOfChoice h0
  obtain ⟨c0, k0, m0, a1, a2, a3⟩ := Cond.arrayClass_spec (hts _ gx_wi)
  obtain ⟨c1, k1, m1, b1, b2, b3⟩ := Cond.arrayClass_spec (hts _ gx_wb)
  obtain ⟨c2, k2, m2, d1, d2, d3⟩ := Cond.arrayClass_spec (hts _ gx_wl)
  obtain ⟨m3, c3, k3, e1, e2, e3, e4, e5⟩ := Cond.arrayOver_spec (hts _ gx_wo3)
  obtain ⟨m4, c4, k4, f1, f2, f3, f4, f5⟩ := Cond.arrayOver_spec (hts _ gx_wo4)
  refine ⟨(fun ci => (f ci).1, fun ci => (f ci).2), c0, c1, c2, c3, c4, fun ci q hq => ?_, fun k q hq => ?_⟩
  · have hlt : ci < 13 := (List.getElem?_eq_some_iff.mp hq).1
    have h2 := gz_cl hlt
    rw [h2] at hq
    cases hq
    exact hf ci hlt
  · have hlt : k < 5 := (List.getElem?_eq_some_iff.mp hq).1
    match k, hlt with
    | 0, _ => cases hq; exact ⟨fun n z => ⟨fun k h => (by cases h), k0, a2, m0, a3⟩, a1⟩
    | 1, _ => cases hq; exact ⟨fun n z => ⟨fun k h => (by cases h), k1, b2, m1, b3⟩, b1⟩
    | 2, _ => cases hq; exact ⟨fun n z => ⟨fun k h => (by cases h), k2, d2, m2, d3⟩, d1⟩
    | 3, _ => cases hq; exact ⟨fun n z => ⟨fun k h => (by cases h), k3, e3, m3, e4⟩, k3, m3, e3, e4, e1, e5⟩
    | 4, _ => cases hq; exact ⟨fun n z => ⟨fun k h => (by cases h), k4, f3, m4, f4⟩, k4, m4, f3, f4, f1, f5⟩
def lw_si (i : Nat) : Nat := ([26, 32, 259, 268, 276] : List Nat).getD i 0
abbrev lw_tm (i : Nat) : Term := .string "PrintsGoOnModel" (lw_si i)
abbrev lw_tS (c n d : String) : Term := .static c n d
theorem lw_f0 : ∀ w ∈ [Cond.arrayOf (lw_tS "PrintsGoOn$ShoreReader" "RULE_ITEMS" "[I") .int, .eq (.length (lw_tS "PrintsGoOn$ShoreReader" "RULE_ITEMS" "[I")) (.int (Int32.ofNat 16)), .arrayOf (lw_tS "PrintsGoOn$ShoreReader" "GOER_ITEMS" "[I") .int, .eq (.length (lw_tS "PrintsGoOn$ShoreReader" "GOER_ITEMS" "[I")) (.int (Int32.ofNat 16)),
    .arrayOf (lw_tS "PrintsGoOn$Law" "LETTER_SIGNS" "[C") .char, .eq (.length (lw_tS "PrintsGoOn$Law" "LETTER_SIGNS" "[C")) (.int (Int32.ofNat 6)), .eq (lw_tS "java/lang/String" "COMPACT_STRINGS" "Z") (.int 1), .isRef (lw_tS "jdk/internal/util/Preconditions" "SIOOBE_FORMATTER" "Ljava/util/function/BiFunction;"),
    .isRef (lw_tS Bundle.tN "UNASSIGNED_STACK" Bundle.steD), .isRef (lw_tS Bundle.tN "SUPPRESSED_SENTINEL" Bundle.listD), .exactly (.string "PrintsGoOn" 171) "java/lang/String", .exactly (.string "PrintsGoOn" 180) "java/lang/String"], w ∈ lw_fl := by decide +kernel
theorem lw_f1 : ∀ j, j < 16 → Cond.eq (.elem (lw_tS "PrintsGoOn$ShoreReader" "RULE_ITEMS" "[I") (.int (Int32.ofNat j))) (.int (gz_t0 j)) ∈ lw_fl := by decide +kernel
theorem lw_f2 : ∀ j, j < 16 → Cond.eq (.elem (lw_tS "PrintsGoOn$ShoreReader" "GOER_ITEMS" "[I") (.int (Int32.ofNat j))) (.int (gz_t1 j)) ∈ lw_fl := by decide +kernel
theorem lw_f3 : ∀ j, j < 6 → Cond.eq (.elem (lw_tS "PrintsGoOn$Law" "LETTER_SIGNS" "[C") (.int (Int32.ofNat j))) (.int (gz_t2 j)) ∈ lw_fl := by decide +kernel
theorem lw_f4 : ∀ i, i < 5 → Cond.exactly (lw_tm i) "java/lang/String" ∈ lw_fl ∧ Cond.eq (.field (lw_tm i) "java/lang/String" "coder" "B") (.int 0) ∈ lw_fl ∧ Cond.arrayOf (.field (lw_tm i) "java/lang/String" "value" "[B") .byte ∈ lw_fl ∧ Cond.eq (.length (.field (lw_tm i) "java/lang/String" "value" "[B")) (.int (Int32.ofNat (gz_sl.getD i 0))) ∈ lw_fl := by decide +kernel
theorem lw_f5 : ∀ i, i < 5 → ∀ j, j < gz_sl.getD i 0 → Cond.eq (.elem (.field (lw_tm i) "java/lang/String" "value" "[B") (.int (Int32.ofNat j))) (.int ((gz_sb.getD i []).getD j 0)) ∈ lw_fl := by decide +kernel
theorem lw_f6 : ∀ i, i < 5 → ∀ j, j < 5 → i ≠ j → Cond.not (Cond.eq (lw_tm i) (lw_tm j)) ∈ lw_fl ∨ Cond.not (Cond.eq (lw_tm j) (lw_tm i)) ∈ lw_fl := by decide +kernel
theorem lw_f7 : ∀ i, i < 5 → Cond.stringRef "PrintsGoOnModel" (lw_si i) (["y", "barpnt", "whtc", "xybp", "hgts"].getD i "") ∈ lw_tbl := by decide +kernel
/-- what lies about at the start -/
theorem ls_RO {s : State} {args : Array Value} (hts : ∀ w ∈ lw_tbl, w.before args s = true) (hgv : (Cond.and given_1 narrow_1).before args s = true) :
    ∃ ra : Nat → Nat, (∀ a : Nat → Nat, (∀ j, 200 ≤ j → a j = ra j) → gz_RO a (lw_A s) s s.heap) ∧ vk_R "PrintsGoOnModel" 26 "y" (ra 210) s ∧ vk_R "PrintsGoOnModel" 32 "barpnt" (ra 211) s := by
  have hf : ∀ w ∈ lw_fl, w.before args s = true := flat_of_before _ hgv
  have h0 := fun w (h : w ∈ _) => hf w (lw_f0 w h)
  obtain ⟨t0, u0, v0⟩ := va_Tof (A := lw_A s) (ty := .int) (N := 16) (f := fun j => .int (gz_t0 j)) (tm := lw_tS "PrintsGoOn$ShoreReader" "RULE_ITEMS" "[I") (by decide) (h0 _ (by simp)) (va_eqt (h0 _ (by simp))) (fun j hj => va_eqt (hf _ (lw_f1 j hj))) lw_hA
  obtain ⟨t1, u1, v1⟩ := va_Tof (A := lw_A s) (ty := .int) (N := 16) (f := fun j => .int (gz_t1 j)) (tm := lw_tS "PrintsGoOn$ShoreReader" "GOER_ITEMS" "[I") (by decide) (h0 _ (by simp)) (va_eqt (h0 _ (by simp))) (fun j hj => va_eqt (hf _ (lw_f2 j hj))) lw_hA
  obtain ⟨t2, u2, v2⟩ := va_Tof (A := lw_A s) (ty := .char) (N := 6) (f := fun j => .int (gz_t2 j)) (tm := lw_tS "PrintsGoOn$Law" "LETTER_SIGNS" "[C") (by decide) (h0 _ (by simp)) (va_eqt (h0 _ (by simp))) (fun j hj => va_eqt (hf _ (lw_f3 j hj))) lw_hA
  obtain ⟨sK, sV, hSS, hse⟩ := vk_Sof (A := lw_A s) (N := 5) (tm := lw_tm) (len := gz_sl) (byt := gz_sb) (by decide) (fun i hi => hf _ (lw_f4 i hi).1) (fun i hi => hf _ (lw_f4 i hi).2.1) (fun i hi => hf _ (lw_f4 i hi).2.2.1) (fun i hi => hf _ (lw_f4 i hi).2.2.2) (fun i hi j hj => hf _ (lw_f5 i hi j hj))
    (fun i j hi hj hn => (lw_f6 i hi j hj hn).imp (fun h => hf _ h) (fun h => hf _ h)) lw_hA
  have hCS := va_Zof (A := lw_A s) (hts _ gx_yCS) (hts _ gx_iST) (va_eqt (h0 (.eq (lw_tS "java/lang/String" "COMPACT_STRINGS" "Z") (.int 1)) (by simp))) lw_hA
  have hSF := va_Zqof (A := lw_A s) (hts _ gx_ySF) (hts _ gx_iPC) (h0 (.isRef (lw_tS "jdk/internal/util/Preconditions" "SIOOBE_FORMATTER" "Ljava/util/function/BiFunction;")) (by simp)) lw_hA
  have hZ0 := va_Zof (A := lw_A s) (hts _ gx_yRI) (hts _ gx_iSR) u0 lw_hA
  have hZ1 := va_Zof (A := lw_A s) (hts _ gx_yGI) (hts _ gx_iSR) u1 lw_hA
  have hZ2 := va_Zof (A := lw_A s) (hts _ gx_yLS) (hts _ gx_iLW) u2 lw_hA
  have hR : ∀ i, i < 5 → vk_R "PrintsGoOnModel" (lw_si i) (["y", "barpnt", "whtc", "xybp", "hgts"].getD i "") (sK i) s := fun i hi => vk_R.of (hts _ (lw_f7 i hi)) (hse i hi)
  have hP : ∃ t3 : Nat, va_Z "jdk/internal/util/Preconditions" "SIOOBE_FORMATTER" "Ljava/util/function/BiFunction;" .null (lw_A s) s s.heap ∨ va_Z "jdk/internal/util/Preconditions" "SIOOBE_FORMATTER" "Ljava/util/function/BiFunction;" (.ref t3) (lw_A s) s s.heap := by
    rcases hSF with h | ⟨t, h⟩
    · exact ⟨0, Or.inl h⟩
    · exact ⟨t, Or.inr h⟩
  obtain ⟨t3, hP⟩ := hP
  refine ⟨fun j => if j = 200 then t0 else if j = 201 then t1 else if j = 202 then t2 else if j = 230 then t3 else if j < 220 then sK (j - 210) else sV (j - 220), fun a ha => ?_, hR 0 (by decide), hR 1 (by decide)⟩
  have a0 : a 200 = t0 := ha 200 (by decide)
  have a1 : a 201 = t1 := ha 201 (by decide)
  have a2 : a 202 = t2 := ha 202 (by decide)
  have a3 : a 230 = t3 := ha 230 (by decide)
  have aK : ∀ i, i < 5 → a (210 + i) = sK i := fun i hi => by
    rw [ha (210 + i) (by omega)]
    show (if 210 + i = 200 then t0 else if 210 + i = 201 then t1 else if 210 + i = 202 then t2 else if 210 + i = 230 then t3 else if 210 + i < 220 then sK (210 + i - 210) else sV (210 + i - 220)) = sK i
    rw [if_neg (by omega), if_neg (by omega), if_neg (by omega), if_neg (by omega), if_pos (by omega), Nat.add_sub_cancel_left]
  have aV : ∀ i, i < 5 → a (220 + i) = sV i := fun i hi => by
    rw [ha (220 + i) (by omega)]
    show (if 220 + i = 200 then t0 else if 220 + i = 201 then t1 else if 220 + i = 202 then t2 else if 220 + i = 230 then t3 else if 220 + i < 220 then sK (220 + i - 210) else sV (220 + i - 220)) = sV i
    rw [if_neg (by omega), if_neg (by omega), if_neg (by omega), if_neg (by omega), if_neg (by omega), Nat.add_sub_cancel_left]
  refine ⟨⟨⟨by rw [a0]; exact hZ0, by rw [a0]; exact v0⟩, ⟨by rw [a1]; exact hZ1, by rw [a1]; exact v1⟩, ⟨by rw [a2]; exact hZ2, by rw [a2]; exact v2⟩⟩, ⟨fun i hi => ?_, fun i j hi hj e => ?_⟩, hCS, by rw [a3]; exact hP, ?_⟩
  · show va_O "java/lang/String" (a (210 + i)) _ _ _ ∧ va_OF _ _ _ _ (a (210 + i)) _ _ _ ∧ va_OF _ _ _ (.ref (a (220 + i))) (a (210 + i)) _ _ _ ∧ va_T _ (a (220 + i)) _ _ _ _ _
    rw [aK i hi, aV i hi]
    exact hSS.1 i hi
  · exact hSS.2 i j hi hj (by rw [← aK i hi, ← aK j hj]; exact e)
  · refine ⟨?_, ?_, ?_, ?_, ?_⟩
    · rw [show a 212 = sK 2 from aK 2 (by decide)]; exact hR 2 (by decide)
    · rw [show a 213 = sK 3 from aK 3 (by decide)]; exact hR 3 (by decide)
    · rw [show a 214 = sK 4 from aK 4 (by decide)]; exact hR 4 (by decide)
    · rw [show a 210 = sK 0 from aK 0 (by decide)]; exact hR 0 (by decide)
    · rw [show a 211 = sK 1 from aK 1 (by decide)]; exact hR 1 (by decide)
theorem ls_EX {s : State} {args : Array Value} (hts : ∀ w ∈ lw_tbl, w.before args s = true) (hgv : (Cond.and given_1 narrow_1).before args s = true) :
    ∃ z1 z2 : Nat, ∀ cs : Nat → ClassId, cs 12 = z1 → cs 13 = z2 → gx_EX cs (lw_A s) s s.heap := by
  have hf : ∀ w ∈ lw_fl, w.before args s = true := flat_of_before _ hgv
  have h0 := fun w (h : w ∈ _) => hf w (lw_f0 w h)
  obtain ⟨z1, -, -, -, p1, -⟩ := Cond.exactly_spec (args := args) (first := s) (o := none) (s := s) (idx := []) (t := .string "PrintsGoOn" 171) (cls := "java/lang/String") (h0 _ (by simp))
  obtain ⟨z2, -, -, -, p2, -⟩ := Cond.exactly_spec (args := args) (first := s) (o := none) (s := s) (idx := []) (t := .string "PrintsGoOn" 180) (cls := "java/lang/String") (h0 _ (by simp))
  refine ⟨z1, z2, fun cs e1 e2 => ⟨⟨va_Nw.of rfl (hts _ gx_xc), va_Nw.of rfl (hts _ gx_xd1), va_Nw.of rfl (hts _ gx_xd2), va_Nw.of rfl (hts _ gx_xd3)⟩, ⟨by rw [e1]; exact vk_R.of (hts _ gx_xs1) p1, by rw [e2]; exact vk_R.of (hts _ gx_xs2) p2⟩, ?_, ?_⟩⟩
  · exact vx_Zqof (hts _ gx_xU) (hts _ gx_iT) (h0 (.isRef (lw_tS Bundle.tN "UNASSIGNED_STACK" Bundle.steD)) (by simp)) lw_hA
  · exact vx_Zqof (hts _ gx_xN) (hts _ gx_iT) (h0 (.isRef (lw_tS Bundle.tN "SUPPRESSED_SENTINEL" Bundle.listD)) (by simp)) lw_hA
theorem ls_X {s : State} {args : Array Value} {cs : Nat → ClassId} (hts : ∀ w ∈ lw_tbl, w.before args s = true) (h1 : vk_R "PrintsGoOnModel" 26 "y" (cs 10) s) (h2 : vk_R "PrintsGoOnModel" 32 "barpnt" (cs 11) s) : gx_X cs s :=
  ⟨va_Nw.of rfl (hts _ gx_n9), va_Nw.of rfl (hts _ gx_n53), va_Nw.of rfl (hts _ gx_n66), va_Nw.of rfl (hts _ gx_n73), ⟨va_AO.of (A := args) (hts _ gx_wo3), va_AO.of (A := args) (hts _ gx_wo4)⟩, va_Nw.of rfl (hts _ gx_cC), h1, h2⟩

