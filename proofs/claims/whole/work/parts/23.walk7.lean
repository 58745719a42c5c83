def fX1_putStep (La : gz_L)  (x1 : Int32) (x2 : Int32) (x3 : Int32) (x4 : Int32) (g : gz_S) : Option (Int32 × gz_S) :=
  if gz_ok x1 48 then gz_let (gz_wi g 20 (Int32.toNatClampNeg x1) x2) (fun g6 => if gz_ok (x1 + 1) 48 then gz_let (gz_wi g6 20 (Int32.toNatClampNeg (x1 + 1)) x3) (fun g15 => if gz_ok (x1 + 2) 48 then gz_let (gz_wi g15 20 (Int32.toNatClampNeg (x1 + 2)) x4) (fun g25 => some (1, g25)) else none) else none) else none
set_option maxRecDepth 100000 in
set_option maxHeartbeats 4000000 in
theorem kX1_putStep {La : gz_L}  {x1 : Int32} {x2 : Int32} {x3 : Int32} {x4 : Int32} {g : gz_S} {r : Int32 × gz_S}  (hf : fX1_putStep La  x1 x2 x3 x4 g = some r) : gz_K La 1 mX1_putStep [.ref 4, .int x1, .int x2, .int x3, .int x4] g (gz_Fi r) := by
  unfold fX1_putStep at hf
  refine gz_K.of 0 (by decide +kernel) rfl ?_
  show gz_J La 1 mX1_putStep 0 [some (.ref 4), some (.int x1), some (.int x2), some (.int x3), some (.int x4)] [] g (gz_Fi r)
  refine sz_aload_n dX1_putStep_0 rfl ?_
  refine sz_getR dX1_putStep_1 flX1_11 kd4 rfl rf4_1 ?_
  refine sz_iload_n dX1_putStep_4 rfl ?_
  refine sz_iload_n dX1_putStep_5 rfl ?_
  obtain ⟨c6, hf⟩ := gz_gd hf
  obtain ⟨g6, eg6, hf⟩ := gz_lt hf
  refine sz_iastL dX1_putStep_6 kd20 c6 rfl eg6 ?_
  refine sz_aload_n dX1_putStep_7 rfl ?_
  refine sz_getR dX1_putStep_8 flX1_11 kd4 rfl rf4_1 ?_
  refine sz_iload_n dX1_putStep_11 rfl ?_
  refine sz_iconst dX1_putStep_12 (cI1) ?_
  refine sz_iadd dX1_putStep_13 ?_
  refine sz_iload_n dX1_putStep_14 rfl ?_
  obtain ⟨c15, hf⟩ := gz_gd hf
  obtain ⟨g15, eg15, hf⟩ := gz_lt hf
  refine sz_iastL dX1_putStep_15 kd20 c15 rfl eg15 ?_
  refine sz_aload_n dX1_putStep_16 rfl ?_
  refine sz_getR dX1_putStep_17 flX1_11 kd4 rfl rf4_1 ?_
  refine sz_iload_n dX1_putStep_20 rfl ?_
  refine sz_iconst dX1_putStep_21 (cI2) ?_
  refine sz_iadd dX1_putStep_22 ?_
  refine sz_iload dX1_putStep_23 rfl ?_
  obtain ⟨c25, hf⟩ := gz_gd hf
  obtain ⟨g25, eg25, hf⟩ := gz_lt hf
  refine sz_iastL dX1_putStep_25 kd20 c25 rfl eg25 ?_
  refine sz_iconst dX1_putStep_26 (cI1) ?_
  cases hf
  exact sz_iret dX1_putStep_27 rfl rfl ⟨rfl, rfl⟩
def fX1_readDigits (La : gz_L)  (x1 : Int32) (x2 : Int32) (x3 : Int32) (g : gz_S) : Option (Int32 × gz_S) :=
  gz_let (gz_wi g 1 2 ((g.1 1 2) + 1)) (fun g10 => (fX9_readDigit La   g10).bind (fun q17 => if q17.1 = 0 then some (0, q17.2) else gz_let (q17.2.1 1 4) (fun y32 => if x3 = 0 then (fX1_putStep La  x1 x2 y32 (-1) q17.2).bind (fun q44 => if q44.1 = 0 ∨ q44.1 = 1 then some (q44.1, q44.2) else none) else (fX9_readDigit La   q17.2).bind (fun q52 => if q52.1 = 0 then some (0, q52.2) else if x2 = 3 then (fX1_putStep La  x1 x2 ((y32 * 10) + (q52.2.1 1 4)) (-1) q52.2).bind (fun q82 => if q82.1 = 0 ∨ q82.1 = 1 then some (q82.1, q82.2) else none) else (fX1_putStep La  x1 x2 y32 (q52.2.1 1 4) q52.2).bind (fun q98 => if q98.1 = 0 ∨ q98.1 = 1 then some (q98.1, q98.2) else none)))))
set_option maxRecDepth 100000 in
set_option maxHeartbeats 4000000 in
theorem kX1_readDigits {La : gz_L}  {x1 : Int32} {x2 : Int32} {x3 : Int32} {g : gz_S} {r : Int32 × gz_S}  (hf : fX1_readDigits La  x1 x2 x3 g = some r) : gz_K La 4 mX1_readDigits [.ref 4, .int x1, .int x2, .int x3] g (gz_Fi r) := by
  unfold fX1_readDigits at hf
  refine gz_K.of 1 (by decide +kernel) rfl ?_
  show gz_J La 4 mX1_readDigits 0 [some (.ref 4), some (.int x1), some (.int x2), some (.int x3), none] [] g (gz_Fi r)
  refine sz_aload_n dX1_readDigits_0 rfl ?_
  refine sz_getR dX1_readDigits_1 flX1_17 kd4 rfl rf4_0 ?_
  refine sz_dup dX1_readDigits_4 rfl ?_
  refine sz_getI dX1_readDigits_5 flX1_50 kd1 rfl ?_
  refine sz_iconst dX1_readDigits_8 (cI1) ?_
  refine sz_iadd dX1_readDigits_9 ?_
  obtain ⟨g10, eg10, hf⟩ := gz_lt hf
  refine sz_putI2 dX1_readDigits_10 flX1_50 kd1 fi9_2 eg10 ?_
  refine sz_aload_n dX1_readDigits_13 rfl ?_
  refine sz_getR dX1_readDigits_14 flX1_17 kd4 rfl rf4_0 ?_
  obtain ⟨q17, eq17, hf⟩ := gz_bd hf
  refine sz_callVi [] [] dX1_readDigits_17 mvX1_64 (Nat.le_of_ble_eq_true rfl) (by decide : 9 < 13) kd1 rfl (Nat.le_of_ble_eq_true rfl) (kX9_readDigit   eq17) ?_
  refine sz_if_ne 25 dX1_readDigits_20 (by decide) (fun c20 => ?_) (fun c20 => ?_)
  · have hf := gz_in1 c20 hf
    refine sz_aload_n dX1_readDigits_25 rfl ?_
    refine sz_getR dX1_readDigits_26 flX1_17 kd4 rfl rf4_0 ?_
    refine sz_getI dX1_readDigits_29 flX1_68 kd1 rfl ?_
    obtain ⟨y32, ey32, hf⟩ := gz_lt hf
    refine sz_topi ey32 ?_
    refine sz_istore dX1_readDigits_32 (Nat.le_of_ble_eq_true rfl) rfl ?_
    refine sz_ls (l2 := [some (.ref 4), some (.int x1), some (.int x2), some (.int x3), some (.int y32)]) rfl ?_
    refine sz_iload_n dX1_readDigits_34 rfl ?_
    refine sz_if_ne 48 dX1_readDigits_35 (by decide) (fun c35 => ?_) (fun c35 => ?_)
    · have hf := gz_in1 c35 hf
      refine sz_aload_n dX1_readDigits_48 rfl ?_
      refine sz_getR dX1_readDigits_49 flX1_17 kd4 rfl rf4_0 ?_
      obtain ⟨q52, eq52, hf⟩ := gz_bd hf
      refine sz_callVi [] [] dX1_readDigits_52 mvX1_64 (Nat.le_of_ble_eq_true rfl) (by decide : 9 < 13) kd1 rfl (Nat.le_of_ble_eq_true rfl) (kX9_readDigit   eq52) ?_
      refine sz_if_ne 60 dX1_readDigits_55 (by decide) (fun c55 => ?_) (fun c55 => ?_)
      · have hf := gz_in1 c55 hf
        refine sz_iload_n dX1_readDigits_60 rfl ?_
        refine sz_iconst dX1_readDigits_61 (cI3) ?_
        refine sz_icmp_ne 86 dX1_readDigits_62 (by decide) (fun c62 => ?_) (fun c62 => ?_)
        · have hf := gz_in1 c62 hf
          refine sz_aload_n dX1_readDigits_86 rfl ?_
          refine sz_iload_n dX1_readDigits_87 rfl ?_
          refine sz_iload_n dX1_readDigits_88 rfl ?_
          refine sz_iload dX1_readDigits_89 rfl ?_
          refine sz_aload_n dX1_readDigits_91 rfl ?_
          refine sz_getR dX1_readDigits_92 flX1_17 kd4 rfl rf4_0 ?_
          refine sz_getI dX1_readDigits_95 flX1_68 kd1 rfl ?_
          obtain ⟨q98, eq98, hf⟩ := gz_bd hf
          refine sz_callVi [.int x1, .int x2, .int y32, .int (q52.2.1 1 4)] [] dX1_readDigits_98 mvX1_56 (Nat.le_of_ble_eq_true rfl) (by decide : 1 < 13) kd4 rfl (Nat.le_of_ble_eq_true rfl) (kX1_putStep   eq98) ?_
          obtain ⟨c101, hf⟩ := gz_gd hf
          cases hf
          exact sz_iret dX1_readDigits_101 rfl (gz_nbx c101) ⟨rfl, rfl⟩
        · have hf := gz_ip c62 hf
          refine sz_aload_n dX1_readDigits_65 rfl ?_
          refine sz_iload_n dX1_readDigits_66 rfl ?_
          refine sz_iload_n dX1_readDigits_67 rfl ?_
          refine sz_iload dX1_readDigits_68 rfl ?_
          refine sz_bipush dX1_readDigits_70 (cB10) ?_
          refine sz_imul dX1_readDigits_72 ?_
          refine sz_aload_n dX1_readDigits_73 rfl ?_
          refine sz_getR dX1_readDigits_74 flX1_17 kd4 rfl rf4_0 ?_
          refine sz_getI dX1_readDigits_77 flX1_68 kd1 rfl ?_
          refine sz_iadd dX1_readDigits_80 ?_
          refine sz_iconst dX1_readDigits_81 (cIm1) ?_
          obtain ⟨q82, eq82, hf⟩ := gz_bd hf
          refine sz_callVi [.int x1, .int x2, .int ((y32 * 10) + (q52.2.1 1 4)), .int (-1)] [] dX1_readDigits_82 mvX1_56 (Nat.le_of_ble_eq_true rfl) (by decide : 1 < 13) kd4 rfl (Nat.le_of_ble_eq_true rfl) (kX1_putStep   eq82) ?_
          obtain ⟨c85, hf⟩ := gz_gd hf
          cases hf
          exact sz_iret dX1_readDigits_85 rfl (gz_nbx c85) ⟨rfl, rfl⟩
      · have hf := gz_ip c55 hf
        refine sz_iconst dX1_readDigits_58 (cI0) ?_
        cases hf
        exact sz_iret dX1_readDigits_59 rfl rfl ⟨rfl, rfl⟩
    · have hf := gz_ip c35 hf
      refine sz_aload_n dX1_readDigits_38 rfl ?_
      refine sz_iload_n dX1_readDigits_39 rfl ?_
      refine sz_iload_n dX1_readDigits_40 rfl ?_
      refine sz_iload dX1_readDigits_41 rfl ?_
      refine sz_iconst dX1_readDigits_43 (cIm1) ?_
      obtain ⟨q44, eq44, hf⟩ := gz_bd hf
      refine sz_callVi [.int x1, .int x2, .int y32, .int (-1)] [] dX1_readDigits_44 mvX1_56 (Nat.le_of_ble_eq_true rfl) (by decide : 1 < 13) kd4 rfl (Nat.le_of_ble_eq_true rfl) (kX1_putStep   eq44) ?_
      obtain ⟨c47, hf⟩ := gz_gd hf
      cases hf
      exact sz_iret dX1_readDigits_47 rfl (gz_nbx c47) ⟨rfl, rfl⟩
  · have hf := gz_ip c20 hf
    refine sz_iconst dX1_readDigits_23 (cI0) ?_
    cases hf
    exact sz_iret dX1_readDigits_24 rfl rfl ⟨rfl, rfl⟩
def fX1_readStep (La : gz_L)  (x1 : Int32) (g : gz_S) : Option (Int32 × gz_S) :=
  (fX9_next La   g).bind (fun q4 => if q4.1 = 103 then (fX1_readDigits La  x1 1 1 q4.2).bind (fun q74 => if q74.1 = 0 ∨ q74.1 = 1 then some (q74.1, q74.2) else none) else if q4.1 = 104 then gz_let (gz_wi q4.2 1 2 ((q4.2.1 1 2) + 1)) (fun g58 => (fX1_putStep La  x1 0 (-1) (-1) g58).bind (fun q66 => if q66.1 = 0 ∨ q66.1 = 1 then some (q66.1, q66.2) else none)) else if q4.1 = 115 then (fX1_readDigits La  x1 3 1 q4.2).bind (fun q90 => if q90.1 = 0 ∨ q90.1 = 1 then some (q90.1, q90.2) else none) else if q4.1 = 116 then (fX1_readDigits La  x1 2 0 q4.2).bind (fun q82 => if q82.1 = 0 ∨ q82.1 = 1 then some (q82.1, q82.2) else none) else (fX9_refuse La  (q4.2.1 1 2) q4.2).bind (fun q105 => if q105.1 = 0 ∨ q105.1 = 1 then some (q105.1, q105.2) else none))
set_option maxRecDepth 100000 in
set_option maxHeartbeats 4000000 in
theorem kX1_readStep {La : gz_L}  {x1 : Int32} {g : gz_S} {r : Int32 × gz_S}  (hf : fX1_readStep La  x1 g = some r) : gz_K La 5 mX1_readStep [.ref 4, .int x1] g (gz_Fi r) := by
  unfold fX1_readStep at hf
  refine gz_K.of 0 (by decide +kernel) rfl ?_
  show gz_J La 5 mX1_readStep 0 [some (.ref 4), some (.int x1)] [] g (gz_Fi r)
  refine sz_aload_n dX1_readStep_0 rfl ?_
  refine sz_getR dX1_readStep_1 flX1_17 kd4 rfl rf4_0 ?_
  obtain ⟨q4, eq4, hf⟩ := gz_bd hf
  refine sz_callVi [] [] dX1_readStep_4 mvX1_43 (Nat.le_of_ble_eq_true rfl) (by decide : 9 < 13) kd1 rfl (Nat.le_of_ble_eq_true rfl) (kX9_next   eq4) ?_
  by_cases c7_103 : q4.1 = 103
  · have hf := gz_ip c7_103 hf
    refine sz_lookup (off := 63) 70 dX1_readStep_7 (by decide) (by first | (rw [c7_103]; done) | (rw [c7_103]; rfl)) (by decide) ?_
    refine sz_aload_n dX1_readStep_70 rfl ?_
    refine sz_iload_n dX1_readStep_71 rfl ?_
    refine sz_iconst dX1_readStep_72 (cI1) ?_
    refine sz_iconst dX1_readStep_73 (cI1) ?_
    obtain ⟨q74, eq74, hf⟩ := gz_bd hf
    refine sz_callVi [.int x1, .int 1, .int 1] [] dX1_readStep_74 mvX1_60 (Nat.le_of_ble_eq_true rfl) (by decide : 1 < 13) kd4 rfl (Nat.le_of_ble_eq_true rfl) (kX1_readDigits   eq74) ?_
    obtain ⟨c77, hf⟩ := gz_gd hf
    cases hf
    exact sz_iret dX1_readStep_77 rfl (gz_nbx c77) ⟨rfl, rfl⟩
  have hf := gz_in1 c7_103 hf
  by_cases c7_104 : q4.1 = 104
  · have hf := gz_ip c7_104 hf
    refine sz_lookup (off := 41) 48 dX1_readStep_7 (by decide) (by first | (rw [c7_104]; done) | (rw [c7_104]; rfl)) (by decide) ?_
    refine sz_aload_n dX1_readStep_48 rfl ?_
    refine sz_getR dX1_readStep_49 flX1_17 kd4 rfl rf4_0 ?_
    refine sz_dup dX1_readStep_52 rfl ?_
    refine sz_getI dX1_readStep_53 flX1_50 kd1 rfl ?_
    refine sz_iconst dX1_readStep_56 (cI1) ?_
    refine sz_iadd dX1_readStep_57 ?_
    obtain ⟨g58, eg58, hf⟩ := gz_lt hf
    refine sz_putI2 dX1_readStep_58 flX1_50 kd1 fi9_2 eg58 ?_
    refine sz_aload_n dX1_readStep_61 rfl ?_
    refine sz_iload_n dX1_readStep_62 rfl ?_
    refine sz_iconst dX1_readStep_63 (cI0) ?_
    refine sz_iconst dX1_readStep_64 (cIm1) ?_
    refine sz_iconst dX1_readStep_65 (cIm1) ?_
    obtain ⟨q66, eq66, hf⟩ := gz_bd hf
    refine sz_callVi [.int x1, .int 0, .int (-1), .int (-1)] [] dX1_readStep_66 mvX1_56 (Nat.le_of_ble_eq_true rfl) (by decide : 1 < 13) kd4 rfl (Nat.le_of_ble_eq_true rfl) (kX1_putStep   eq66) ?_
    obtain ⟨c69, hf⟩ := gz_gd hf
    cases hf
    exact sz_iret dX1_readStep_69 rfl (gz_nbx c69) ⟨rfl, rfl⟩
  have hf := gz_in1 c7_104 hf
  by_cases c7_115 : q4.1 = 115
  · have hf := gz_ip c7_115 hf
    refine sz_lookup (off := 79) 86 dX1_readStep_7 (by decide) (by first | (rw [c7_115]; done) | (rw [c7_115]; rfl)) (by decide) ?_
    refine sz_aload_n dX1_readStep_86 rfl ?_
    refine sz_iload_n dX1_readStep_87 rfl ?_
    refine sz_iconst dX1_readStep_88 (cI3) ?_
    refine sz_iconst dX1_readStep_89 (cI1) ?_
    obtain ⟨q90, eq90, hf⟩ := gz_bd hf
    refine sz_callVi [.int x1, .int 3, .int 1] [] dX1_readStep_90 mvX1_60 (Nat.le_of_ble_eq_true rfl) (by decide : 1 < 13) kd4 rfl (Nat.le_of_ble_eq_true rfl) (kX1_readDigits   eq90) ?_
    obtain ⟨c93, hf⟩ := gz_gd hf
    cases hf
    exact sz_iret dX1_readStep_93 rfl (gz_nbx c93) ⟨rfl, rfl⟩
  have hf := gz_in1 c7_115 hf
  by_cases c7_116 : q4.1 = 116
  · have hf := gz_ip c7_116 hf
    refine sz_lookup (off := 71) 78 dX1_readStep_7 (by decide) (by first | (rw [c7_116]; done) | (rw [c7_116]; rfl)) (by decide) ?_
    refine sz_aload_n dX1_readStep_78 rfl ?_
    refine sz_iload_n dX1_readStep_79 rfl ?_
    refine sz_iconst dX1_readStep_80 (cI2) ?_
    refine sz_iconst dX1_readStep_81 (cI0) ?_
    obtain ⟨q82, eq82, hf⟩ := gz_bd hf
    refine sz_callVi [.int x1, .int 2, .int 0] [] dX1_readStep_82 mvX1_60 (Nat.le_of_ble_eq_true rfl) (by decide : 1 < 13) kd4 rfl (Nat.le_of_ble_eq_true rfl) (kX1_readDigits   eq82) ?_
    obtain ⟨c85, hf⟩ := gz_gd hf
    cases hf
    exact sz_iret dX1_readStep_85 rfl (gz_nbx c85) ⟨rfl, rfl⟩
  have hf := gz_in1 c7_116 hf
  refine sz_lookup (off := 87) 94 dX1_readStep_7 (by decide) (by show Op.lookupswitch.offset [(103, 63), (104, 41), (115, 79), (116, 71)] _ _ = _; first | (rw [lv_osw c7_103 (by decide), lv_osw c7_104 (by decide), lv_osw c7_115 (by decide), lv_osw c7_116 (by decide)]; done) | (rw [lv_osw c7_103 (by decide), lv_osw c7_104 (by decide), lv_osw c7_115 (by decide), lv_osw c7_116 (by decide)]; rfl)) (by decide) ?_
  refine sz_aload_n dX1_readStep_94 rfl ?_
  refine sz_getR dX1_readStep_95 flX1_17 kd4 rfl rf4_0 ?_
  refine sz_aload_n dX1_readStep_98 rfl ?_
  refine sz_getR dX1_readStep_99 flX1_17 kd4 rfl rf4_0 ?_
  refine sz_getI dX1_readStep_102 flX1_50 kd1 rfl ?_
  obtain ⟨q105, eq105, hf⟩ := gz_bd hf
  refine sz_callVi [.int (q4.2.1 1 2)] [] dX1_readStep_105 mvX1_53 (Nat.le_of_ble_eq_true rfl) (by decide : 9 < 13) kd1 rfl (Nat.le_of_ble_eq_true rfl) (kX9_refuse   eq105) ?_
  obtain ⟨c108, hf⟩ := gz_gd hf
  cases hf
  exact sz_iret dX1_readStep_108 rfl (gz_nbx c108) ⟨rfl, rfl⟩
def fX1_readEvening_14 (La : gz_L)   (k97 : gz_S → Option (Int32 × gz_S)) (k76 : gz_S → Option (Int32 × gz_S)) : Nat → Int32 → gz_S → Option (Int32 × gz_S)
  | 0, _, _ => none
  | n + 1, x1, g => if 16 ≤ x1 then k97  g else (fX1_readStep La  (x1 * 3) g).bind (fun q24 => if q24.1 = 0 then some (0, q24.2) else gz_let (gz_wi q24.2 4 2 ((q24.2.1 4 2) + 1)) (fun g39 => (fX9_next La   g39).bind (fun q46 => if q46.1 = (-1) then some (1, q46.2) else if (q46.2.1 4 2) = 16 then k76  q46.2 else (fX9_expect La  59 q46.2).bind (fun q70 => if q70.1 = 0 then k76  q70.2 else gz_let (x1 + 1) (fun y91 => fX1_readEvening_14 La   k97 k76 n y91 q70.2)))))
set_option maxRecDepth 100000 in
set_option maxHeartbeats 4000000 in
theorem tX1_readEvening_14 {La : gz_L}   {k97 : gz_S → Option (Int32 × gz_S)} {k76 : gz_S → Option (Int32 × gz_S)}  (hk97 : ∀  (g : gz_S) (r : Int32 × gz_S), k97  g = some r → gz_J La 6 mX1_readEvening 97 [some (.ref 4), none] [] g (gz_Fi r)) (hk76 : ∀  (g : gz_S) (r : Int32 × gz_S), k76  g = some r → gz_J La 6 mX1_readEvening 76 [some (.ref 4), none] [] g (gz_Fi r)) : ∀ (n : Nat) (x1 : Int32) (g : gz_S) (r : Int32 × gz_S), fX1_readEvening_14 La   k97 k76 n x1 g = some r → gz_J La 6 mX1_readEvening 14 [some (.ref 4), some (.int x1)] [] g (gz_Fi r) := by
  intro n
  induction n with
  | zero => intro x1 g r hf; exact nomatch (show (none : Option (Int32 × gz_S)) = some r from hf)
  | succ n ih =>
    intro x1 g r hf
    unfold fX1_readEvening_14 at hf
    refine sz_iload_n dX1_readEvening_14 rfl ?_
    refine sz_bipush dX1_readEvening_15 (cB16) ?_
    refine sz_icmp_ge 97 dX1_readEvening_17 (by decide) (fun c17 => ?_) (fun c17 => ?_)
    · have hf := gz_ip c17 hf
      refine sz_weak (l2 := [some (.ref 4), none]) (gz_subk (gz_subn gz_sub0)) ?_
      exact hk97  _ _ hf
    · have hf := gz_in1 c17 hf
      refine sz_aload_n dX1_readEvening_20 rfl ?_
      refine sz_iload_n dX1_readEvening_21 rfl ?_
      refine sz_iconst dX1_readEvening_22 (cI3) ?_
      refine sz_imul dX1_readEvening_23 ?_
      obtain ⟨q24, eq24, hf⟩ := gz_bd hf
      refine sz_callVi [.int (x1 * 3)] [] dX1_readEvening_24 mvX1_39 (Nat.le_of_ble_eq_true rfl) (by decide : 1 < 13) kd4 rfl (Nat.le_of_ble_eq_true rfl) (kX1_readStep   eq24) ?_
      refine sz_if_ne 32 dX1_readEvening_27 (by decide) (fun c27 => ?_) (fun c27 => ?_)
      · have hf := gz_in1 c27 hf
        refine sz_aload_n dX1_readEvening_32 rfl ?_
        refine sz_dup dX1_readEvening_33 rfl ?_
        refine sz_getI dX1_readEvening_34 flX1_21 kd4 rfl ?_
        refine sz_iconst dX1_readEvening_37 (cI1) ?_
        refine sz_iadd dX1_readEvening_38 ?_
        obtain ⟨g39, eg39, hf⟩ := gz_lt hf
        refine sz_putI2 dX1_readEvening_39 flX1_21 kd4 fi1_2 eg39 ?_
        refine sz_aload_n dX1_readEvening_42 rfl ?_
        refine sz_getR dX1_readEvening_43 flX1_17 kd4 rfl rf4_0 ?_
        obtain ⟨q46, eq46, hf⟩ := gz_bd hf
        refine sz_callVi [] [] dX1_readEvening_46 mvX1_43 (Nat.le_of_ble_eq_true rfl) (by decide : 9 < 13) kd1 rfl (Nat.le_of_ble_eq_true rfl) (kX9_next   eq46) ?_
        refine sz_iconst dX1_readEvening_49 (cIm1) ?_
        refine sz_icmp_ne 55 dX1_readEvening_50 (by decide) (fun c50 => ?_) (fun c50 => ?_)
        · have hf := gz_in1 c50 hf
          refine sz_aload_n dX1_readEvening_55 rfl ?_
          refine sz_getI dX1_readEvening_56 flX1_21 kd4 rfl ?_
          refine sz_bipush dX1_readEvening_59 (cB16) ?_
          refine sz_icmp_eq 76 dX1_readEvening_61 (by decide) (fun c61 => ?_) (fun c61 => ?_)
          · have hf := gz_ip c61 hf
            refine sz_weak (l2 := [some (.ref 4), none]) (gz_subk (gz_subn gz_sub0)) ?_
            exact hk76  _ _ hf
          · have hf := gz_in1 c61 hf
            refine sz_aload_n dX1_readEvening_64 rfl ?_
            refine sz_getR dX1_readEvening_65 flX1_17 kd4 rfl rf4_0 ?_
            refine sz_bipush dX1_readEvening_68 (cB59) ?_
            obtain ⟨q70, eq70, hf⟩ := gz_bd hf
            refine sz_callVi [.int 59] [] dX1_readEvening_70 mvX1_47 (Nat.le_of_ble_eq_true rfl) (by decide : 9 < 13) kd1 rfl (Nat.le_of_ble_eq_true rfl) (kX9_expect   eq70) ?_
            refine sz_if_ne 91 dX1_readEvening_73 (by decide) (fun c73 => ?_) (fun c73 => ?_)
            · have hf := gz_in1 c73 hf
              obtain ⟨y91, ey91, hf⟩ := gz_lt hf
              refine sz_iinc (v := y91) dX1_readEvening_91 rfl (by rw [ey91, cI1]) (Nat.le_of_ble_eq_true rfl) rfl ?_
              refine sz_ls (l2 := [some (.ref 4), some (.int y91)]) rfl ?_
              refine sz_goto 14 dX1_readEvening_94 (by decide) ?_
              exact ih _ _ _ hf
            · have hf := gz_ip c73 hf
              refine sz_weak (l2 := [some (.ref 4), none]) (gz_subk (gz_subn gz_sub0)) ?_
              exact hk76  _ _ hf
        · have hf := gz_ip c50 hf
          refine sz_iconst dX1_readEvening_53 (cI1) ?_
          cases hf
          exact sz_iret dX1_readEvening_54 rfl rfl ⟨rfl, rfl⟩
      · have hf := gz_ip c27 hf
        refine sz_iconst dX1_readEvening_30 (cI0) ?_
        cases hf
        exact sz_iret dX1_readEvening_31 rfl rfl ⟨rfl, rfl⟩
def fX1_readEvening_76 (La : gz_L)     (g : gz_S) : Option (Int32 × gz_S) := (fX9_refuse La  (g.1 1 2) g).bind (fun q87 => if q87.1 = 0 ∨ q87.1 = 1 then some (q87.1, q87.2) else none)
set_option maxRecDepth 100000 in
set_option maxHeartbeats 4000000 in
theorem tX1_readEvening_76 {La : gz_L}      : ∀  (g : gz_S) (r : Int32 × gz_S), fX1_readEvening_76 La     g = some r → gz_J La 6 mX1_readEvening 76 [some (.ref 4), none] [] g (gz_Fi r) := by
  intro  g r hf
  unfold fX1_readEvening_76 at hf
  refine sz_aload_n dX1_readEvening_76 rfl ?_
  refine sz_getR dX1_readEvening_77 flX1_17 kd4 rfl rf4_0 ?_
  refine sz_aload_n dX1_readEvening_80 rfl ?_
  refine sz_getR dX1_readEvening_81 flX1_17 kd4 rfl rf4_0 ?_
  refine sz_getI dX1_readEvening_84 flX1_50 kd1 rfl ?_
  obtain ⟨q87, eq87, hf⟩ := gz_bd hf
  refine sz_callVi [.int (g.1 1 2)] [] dX1_readEvening_87 mvX1_53 (Nat.le_of_ble_eq_true rfl) (by decide : 9 < 13) kd1 rfl (Nat.le_of_ble_eq_true rfl) (kX9_refuse   eq87) ?_
  obtain ⟨c90, hf⟩ := gz_gd hf
  cases hf
  exact sz_iret dX1_readEvening_90 rfl (gz_nbx c90) ⟨rfl, rfl⟩
def fX1_readEvening (La : gz_L)   (g : gz_S) : Option (Int32 × gz_S) :=
  (fX9_rewind La   g).bind (fun q4 => gz_let (gz_wi q4 4 2 0) (fun g9 => fX1_readEvening_14 La   (fun  g => (fX9_refuse La  (g.1 1 2) g).bind (fun q108 => if q108.1 = 0 ∨ q108.1 = 1 then some (q108.1, q108.2) else none)) (fX1_readEvening_76 La    ) gz_FU 0 g9))
set_option maxRecDepth 100000 in
set_option maxHeartbeats 4000000 in
theorem kX1_readEvening {La : gz_L}   {g : gz_S} {r : Int32 × gz_S}  (hf : fX1_readEvening La   g = some r) : gz_K La 6 mX1_readEvening [.ref 4] g (gz_Fi r) := by
  unfold fX1_readEvening at hf
  refine gz_K.of 1 (by decide +kernel) rfl ?_
  show gz_J La 6 mX1_readEvening 0 [some (.ref 4), none] [] g (gz_Fi r)
  refine sz_aload_n dX1_readEvening_0 rfl ?_
  refine sz_getR dX1_readEvening_1 flX1_17 kd4 rfl rf4_0 ?_
  obtain ⟨q4, eq4, hf⟩ := gz_bd hf
  refine sz_callVv [] [] dX1_readEvening_4 mvX1_34 (Nat.le_of_ble_eq_true rfl) (by decide : 9 < 13) kd1 rfl (Nat.le_of_ble_eq_true rfl) (kX9_rewind   eq4) ?_
  refine sz_aload_n dX1_readEvening_7 rfl ?_
  refine sz_iconst dX1_readEvening_8 (cI0) ?_
  obtain ⟨g9, eg9, hf⟩ := gz_lt hf
  refine sz_putI2 dX1_readEvening_9 flX1_21 kd4 fi1_2 eg9 ?_
  refine sz_iconst dX1_readEvening_12 (cI0) ?_
  refine sz_istore_n dX1_readEvening_13 rfl (Nat.le_of_ble_eq_true rfl) rfl ?_
  refine sz_ls (l2 := [some (.ref 4), some (.int 0)]) rfl ?_
  have hk97 : ∀  (g : gz_S) (r : Int32 × gz_S), (fun  g => (fX9_refuse La  (g.1 1 2) g).bind (fun q108 => if q108.1 = 0 ∨ q108.1 = 1 then some (q108.1, q108.2) else none))  g = some r → gz_J La 6 mX1_readEvening 97 [some (.ref 4), none] [] g (gz_Fi r) := by
    intro  g r hf
    refine sz_aload_n dX1_readEvening_97 rfl ?_
    refine sz_getR dX1_readEvening_98 flX1_17 kd4 rfl rf4_0 ?_
    refine sz_aload_n dX1_readEvening_101 rfl ?_
    refine sz_getR dX1_readEvening_102 flX1_17 kd4 rfl rf4_0 ?_
    refine sz_getI dX1_readEvening_105 flX1_50 kd1 rfl ?_
    obtain ⟨q108, eq108, hf⟩ := gz_bd hf
    refine sz_callVi [.int (g.1 1 2)] [] dX1_readEvening_108 mvX1_53 (Nat.le_of_ble_eq_true rfl) (by decide : 9 < 13) kd1 rfl (Nat.le_of_ble_eq_true rfl) (kX9_refuse   eq108) ?_
    obtain ⟨c111, hf⟩ := gz_gd hf
    cases hf
    exact sz_iret dX1_readEvening_111 rfl (gz_nbx c111) ⟨rfl, rfl⟩
  exact tX1_readEvening_14   hk97 (tX1_readEvening_76   ) _ _ _ _ hf
def fX4_put (La : gz_L)  (x1 : Int32) (g : gz_S) : Option (gz_S) :=
  if (Int32.ofNat 241) ≤ (g.1 3 2) then some g else if gz_ok (g.1 3 2) 241 then gz_let (gz_wi g 19 (Int32.toNatClampNeg (g.1 3 2)) x1) (fun g21 => gz_let (gz_wi g21 3 2 ((g21.1 3 2) + 1)) (fun g29 => some g29)) else none
set_option maxRecDepth 100000 in
set_option maxHeartbeats 4000000 in
theorem kX4_put {La : gz_L}  {x1 : Int32} {g : gz_S} {r : gz_S}  (hf : fX4_put La  x1 g = some r) : gz_K La 1 mX4_put [.ref 3, .int x1] g (gz_Fv r) := by
  unfold fX4_put at hf
  refine gz_K.of 0 (by decide +kernel) rfl ?_
  show gz_J La 1 mX4_put 0 [some (.ref 3), some (.int x1)] [] g (gz_Fv r)
  refine sz_aload_n dX4_put_0 rfl ?_
  refine sz_getI dX4_put_1 flX4_23 kd3 rfl ?_
  refine sz_aload_n dX4_put_4 rfl ?_
  refine sz_getR dX4_put_5 flX4_11 kd3 rfl rf3_1 ?_
  refine sz_alen (v := Int32.ofNat 241) (kn := 0) dX4_put_8 kd19 rfl ?_
  refine sz_icmp_ge 32 dX4_put_9 (by decide) (fun c9 => ?_) (fun c9 => ?_)
  · have hf := gz_ip c9 hf
    cases hf
    exact sz_ret dX4_put_32 rfl ⟨rfl, rfl⟩
  · have hf := gz_in1 c9 hf
    refine sz_aload_n dX4_put_12 rfl ?_
    refine sz_getR dX4_put_13 flX4_11 kd3 rfl rf3_1 ?_
    refine sz_aload_n dX4_put_16 rfl ?_
    refine sz_getI dX4_put_17 flX4_23 kd3 rfl ?_
    refine sz_iload_n dX4_put_20 rfl ?_
    obtain ⟨c21, hf⟩ := gz_gd hf
    obtain ⟨g21, eg21, hf⟩ := gz_lt hf
    refine sz_iastL dX4_put_21 kd19 c21 rfl eg21 ?_
    refine sz_aload_n dX4_put_22 rfl ?_
    refine sz_dup dX4_put_23 rfl ?_
    refine sz_getI dX4_put_24 flX4_23 kd3 rfl ?_
    refine sz_iconst dX4_put_27 (cI1) ?_
    refine sz_iadd dX4_put_28 ?_
    obtain ⟨g29, eg29, hf⟩ := gz_lt hf
    refine sz_putI2 dX4_put_29 flX4_23 kd3 fi4_2 eg29 ?_
    cases hf
    exact sz_ret dX4_put_32 rfl ⟨rfl, rfl⟩
def fX4_readAtom_95 (La : gz_L) (FX4_readSum : Int32 → gz_S → Option (Int32 × gz_S))   (x2 : Int32) (g : gz_S) : Option (Int32 × gz_S) := (fX3_letterOf La  x2 g).bind (fun q96 => if q96.1 = (-1) then (fX9_refuse La  (q96.2.1 1 2) q96.2).bind (fun q116 => if q116.1 = 0 ∨ q116.1 = 1 then some (q116.1, q116.2) else none) else gz_let (gz_wi q96.2 1 2 ((q96.2.1 1 2) + 1)) (fun g130 => (fX4_put La  (((-1) : Int32) - q96.1) g130).bind (fun q137 => some (1, q137))))
set_option maxRecDepth 100000 in
set_option maxHeartbeats 4000000 in
theorem tX4_readAtom_95 {La : gz_L} {hr : Nat} {FX4_readSum : Int32 → gz_S → Option (Int32 × gz_S)} (HX4_readSum : ∀ (x1 : Int32) (g : gz_S) (r : Int32 × gz_S), FX4_readSum x1 g = some r → gz_K La hr mX4_readSum [.ref 3, .int x1] g (gz_Fi r)) (hB : 20 ≤ hr)     : ∀ (x2 : Int32) (g : gz_S) (r : Int32 × gz_S), fX4_readAtom_95 La FX4_readSum   x2 g = some r → gz_J La (hr + 1) mX4_readAtom 95 [some (.ref 3), none, some (.int x2), none] [] g (gz_Fi r) := by
  intro x2 g r hf
  unfold fX4_readAtom_95 at hf
  refine sz_iload_n dX4_readAtom_95 rfl ?_
  obtain ⟨q96, eq96, hf⟩ := gz_bd hf
  refine sz_callSi [.int x2] [] dX4_readAtom_96 msX4_93 (by omega) (Nat.le_of_ble_eq_true rfl) (kX3_letterOf   eq96) ?_
  refine sz_istore_n dX4_readAtom_99 rfl (Nat.le_of_ble_eq_true rfl) rfl ?_
  refine sz_ls (l2 := [some (.ref 3), none, some (.int x2), some (.int q96.1)]) rfl ?_
  refine sz_iload_n dX4_readAtom_100 rfl ?_
  refine sz_iconst dX4_readAtom_101 (cIm1) ?_
  refine sz_icmp_ne 120 dX4_readAtom_102 (by decide) (fun c102 => ?_) (fun c102 => ?_)
  · have hf := gz_in1 c102 hf
    refine sz_aload_n dX4_readAtom_120 rfl ?_
    refine sz_getR dX4_readAtom_121 flX4_17 kd3 rfl rf3_0 ?_
    refine sz_dup dX4_readAtom_124 rfl ?_
    refine sz_getI dX4_readAtom_125 flX4_55 kd1 rfl ?_
    refine sz_iconst dX4_readAtom_128 (cI1) ?_
    refine sz_iadd dX4_readAtom_129 ?_
    obtain ⟨g130, eg130, hf⟩ := gz_lt hf
    refine sz_putI2 dX4_readAtom_130 flX4_55 kd1 fi9_2 eg130 ?_
    refine sz_aload_n dX4_readAtom_133 rfl ?_
    refine sz_iconst dX4_readAtom_134 (cIm1) ?_
    refine sz_iload_n dX4_readAtom_135 rfl ?_
    refine sz_isub dX4_readAtom_136 ?_
    obtain ⟨q137, eq137, hf⟩ := gz_bd hf
    refine sz_callVv [.int (((-1) : Int32) - q96.1)] [] dX4_readAtom_137 mvX4_47 (by omega) (by decide : 4 < 13) kd3 rfl (Nat.le_of_ble_eq_true rfl) (kX4_put   eq137) ?_
    refine sz_iconst dX4_readAtom_140 (cI1) ?_
    cases hf
    exact sz_iret dX4_readAtom_141 rfl rfl ⟨rfl, rfl⟩
  · have hf := gz_ip c102 hf
    refine sz_aload_n dX4_readAtom_105 rfl ?_
    refine sz_getR dX4_readAtom_106 flX4_17 kd3 rfl rf3_0 ?_
    refine sz_aload_n dX4_readAtom_109 rfl ?_
    refine sz_getR dX4_readAtom_110 flX4_17 kd3 rfl rf3_0 ?_
    refine sz_getI dX4_readAtom_113 flX4_55 kd1 rfl ?_
    obtain ⟨q116, eq116, hf⟩ := gz_bd hf
    refine sz_callVi [.int (q96.2.1 1 2)] [] dX4_readAtom_116 mvX4_58 (by omega) (by decide : 9 < 13) kd1 rfl (Nat.le_of_ble_eq_true rfl) (kX9_refuse   eq116) ?_
    obtain ⟨c119, hf⟩ := gz_gd hf
    cases hf
    exact sz_iret dX4_readAtom_119 rfl (gz_nbx c119) ⟨rfl, rfl⟩
def fX4_readAtom_42 (La : gz_L) (FX4_readSum : Int32 → gz_S → Option (Int32 × gz_S))   (x1 : Int32) (x2 : Int32) (g : gz_S) : Option (Int32 × gz_S) := if x2 = 91 then if 6 ≤ x1 then fX4_readAtom_95 La FX4_readSum    x2 g else gz_let (gz_wi g 1 2 ((g.1 1 2) + 1)) (fun g64 => (FX4_readSum (x1 + 1) g64).bind (fun q71 => if q71.1 = 0 then some (0, q71.2) else (fX9_expect La  93 q71.2).bind (fun q83 => if q83.1 = 0 then some (0, q83.2) else some (1, q83.2)))) else fX4_readAtom_95 La FX4_readSum    x2 g
set_option maxRecDepth 100000 in
set_option maxHeartbeats 4000000 in
theorem tX4_readAtom_42 {La : gz_L} {hr : Nat} {FX4_readSum : Int32 → gz_S → Option (Int32 × gz_S)} (HX4_readSum : ∀ (x1 : Int32) (g : gz_S) (r : Int32 × gz_S), FX4_readSum x1 g = some r → gz_K La hr mX4_readSum [.ref 3, .int x1] g (gz_Fi r)) (hB : 20 ≤ hr)     : ∀ (x1 : Int32) (x2 : Int32) (g : gz_S) (r : Int32 × gz_S), fX4_readAtom_42 La FX4_readSum   x1 x2 g = some r → gz_J La (hr + 1) mX4_readAtom 42 [some (.ref 3), some (.int x1), some (.int x2), none] [] g (gz_Fi r) := by
  intro x1 x2 g r hf
  unfold fX4_readAtom_42 at hf
  refine sz_iload_n dX4_readAtom_42 rfl ?_
  refine sz_bipush dX4_readAtom_43 (cB91) ?_
  refine sz_icmp_ne 95 dX4_readAtom_45 (by decide) (fun c45 => ?_) (fun c45 => ?_)
  · have hf := gz_in1 c45 hf
    refine sz_weak (l2 := [some (.ref 3), none, some (.int x2), none]) (gz_subk (gz_subn (gz_subk (gz_subk gz_sub0)))) ?_
    exact tX4_readAtom_95 HX4_readSum hB   _ _ _ hf
  · have hf := gz_ip c45 hf
    refine sz_iload_n dX4_readAtom_48 rfl ?_
    refine sz_bipush dX4_readAtom_49 (cB6) ?_
    refine sz_icmp_ge 95 dX4_readAtom_51 (by decide) (fun c51 => ?_) (fun c51 => ?_)
    · have hf := gz_ip c51 hf
      refine sz_weak (l2 := [some (.ref 3), none, some (.int x2), none]) (gz_subk (gz_subn (gz_subk (gz_subk gz_sub0)))) ?_
      exact tX4_readAtom_95 HX4_readSum hB   _ _ _ hf
    · have hf := gz_in1 c51 hf
      refine sz_aload_n dX4_readAtom_54 rfl ?_
      refine sz_getR dX4_readAtom_55 flX4_17 kd3 rfl rf3_0 ?_
      refine sz_dup dX4_readAtom_58 rfl ?_
      refine sz_getI dX4_readAtom_59 flX4_55 kd1 rfl ?_
      refine sz_iconst dX4_readAtom_62 (cI1) ?_
      refine sz_iadd dX4_readAtom_63 ?_
      obtain ⟨g64, eg64, hf⟩ := gz_lt hf
      refine sz_putI2 dX4_readAtom_64 flX4_55 kd1 fi9_2 eg64 ?_
      refine sz_aload_n dX4_readAtom_67 rfl ?_
      refine sz_iload_n dX4_readAtom_68 rfl ?_
      refine sz_iconst dX4_readAtom_69 (cI1) ?_
      refine sz_iadd dX4_readAtom_70 ?_
      obtain ⟨q71, eq71, hf⟩ := gz_bd hf
      refine sz_callVi [.int (x1 + 1)] [] dX4_readAtom_71 mvX4_61 (by omega) (by decide : 4 < 13) kd3 rfl (Nat.le_of_ble_eq_true rfl) (HX4_readSum _ _ _ eq71) ?_
      refine sz_if_eq 93 dX4_readAtom_74 (by decide) (fun c74 => ?_) (fun c74 => ?_)
      · have hf := gz_ip c74 hf
        refine sz_iconst dX4_readAtom_93 (cI0) ?_
        cases hf
        exact sz_iret dX4_readAtom_94 rfl rfl ⟨rfl, rfl⟩
      · have hf := gz_in1 c74 hf
        refine sz_aload_n dX4_readAtom_77 rfl ?_
        refine sz_getR dX4_readAtom_78 flX4_17 kd3 rfl rf3_0 ?_
        refine sz_bipush dX4_readAtom_81 (cB93) ?_
        obtain ⟨q83, eq83, hf⟩ := gz_bd hf
        refine sz_callVi [.int 93] [] dX4_readAtom_83 mvX4_39 (by omega) (by decide : 9 < 13) kd1 rfl (Nat.le_of_ble_eq_true rfl) (kX9_expect   eq83) ?_
        refine sz_if_eq 93 dX4_readAtom_86 (by decide) (fun c86 => ?_) (fun c86 => ?_)
        · have hf := gz_ip c86 hf
          refine sz_iconst dX4_readAtom_93 (cI0) ?_
          cases hf
          exact sz_iret dX4_readAtom_94 rfl rfl ⟨rfl, rfl⟩
        · have hf := gz_in1 c86 hf
          refine sz_iconst dX4_readAtom_89 (cI1) ?_
          refine sz_goto 94 dX4_readAtom_90 (by decide) ?_
          cases hf
          exact sz_iret dX4_readAtom_94 rfl rfl ⟨rfl, rfl⟩
def fX4_readAtom (La : gz_L) (FX4_readSum : Int32 → gz_S → Option (Int32 × gz_S)) (x1 : Int32) (g : gz_S) : Option (Int32 × gz_S) :=
  (fX9_next La   g).bind (fun q4 => if q4.1 < 48 then fX4_readAtom_42 La FX4_readSum    x1 q4.1 q4.2 else if 57 < q4.1 then fX4_readAtom_42 La FX4_readSum    x1 q4.1 q4.2 else (fX9_readNumber La  4 q4.2).bind (fun q25 => (fX4_put La  (q25.2.1 1 4) q25.2).bind (fun q37 => if q25.1 = 0 ∨ q25.1 = 1 then some (q25.1, q37) else none)))
set_option maxRecDepth 100000 in
set_option maxHeartbeats 4000000 in
theorem kX4_readAtom {La : gz_L} {hr : Nat} {FX4_readSum : Int32 → gz_S → Option (Int32 × gz_S)} (HX4_readSum : ∀ (x1 : Int32) (g : gz_S) (r : Int32 × gz_S), FX4_readSum x1 g = some r → gz_K La hr mX4_readSum [.ref 3, .int x1] g (gz_Fi r)) (hB : 20 ≤ hr) {x1 : Int32} {g : gz_S} {r : Int32 × gz_S}  (hf : fX4_readAtom La FX4_readSum x1 g = some r) : gz_K La (hr + 1) mX4_readAtom [.ref 3, .int x1] g (gz_Fi r) := by
  unfold fX4_readAtom at hf
  refine gz_K.of 2 (by decide +kernel) rfl ?_
  show gz_J La (hr + 1) mX4_readAtom 0 [some (.ref 3), some (.int x1), none, none] [] g (gz_Fi r)
  refine sz_aload_n dX4_readAtom_0 rfl ?_
  refine sz_getR dX4_readAtom_1 flX4_17 kd3 rfl rf3_0 ?_
  obtain ⟨q4, eq4, hf⟩ := gz_bd hf
  refine sz_callVi [] [] dX4_readAtom_4 mvX4_51 (by omega) (by decide : 9 < 13) kd1 rfl (Nat.le_of_ble_eq_true rfl) (kX9_next   eq4) ?_
  refine sz_istore_n dX4_readAtom_7 rfl (Nat.le_of_ble_eq_true rfl) rfl ?_
  refine sz_ls (l2 := [some (.ref 3), some (.int x1), some (.int q4.1), none]) rfl ?_
  refine sz_iload_n dX4_readAtom_8 rfl ?_
  refine sz_bipush dX4_readAtom_9 (cB48) ?_
  refine sz_icmp_lt 42 dX4_readAtom_11 (by decide) (fun c11 => ?_) (fun c11 => ?_)
  · have hf := gz_ip c11 hf
    exact tX4_readAtom_42 HX4_readSum hB   _ _ _ _ hf
  · have hf := gz_in1 c11 hf
    refine sz_iload_n dX4_readAtom_14 rfl ?_
    refine sz_bipush dX4_readAtom_15 (cB57) ?_
    refine sz_icmp_gt 42 dX4_readAtom_17 (by decide) (fun c17 => ?_) (fun c17 => ?_)
    · have hf := gz_ip c17 hf
      exact tX4_readAtom_42 HX4_readSum hB   _ _ _ _ hf
    · have hf := gz_in1 c17 hf
      refine sz_aload_n dX4_readAtom_20 rfl ?_
      refine sz_getR dX4_readAtom_21 flX4_17 kd3 rfl rf3_0 ?_
      refine sz_iconst dX4_readAtom_24 (cI4) ?_
      obtain ⟨q25, eq25, hf⟩ := gz_bd hf
      refine sz_callVi [.int 4] [] dX4_readAtom_25 mvX4_87 (by omega) (by decide : 9 < 13) kd1 rfl (Nat.le_of_ble_eq_true rfl) (kX9_readNumber   eq25) ?_
      refine sz_istore_n dX4_readAtom_28 rfl (Nat.le_of_ble_eq_true rfl) rfl ?_
      refine sz_ls (l2 := [some (.ref 3), some (.int x1), some (.int q4.1), some (.int q25.1)]) rfl ?_
      refine sz_aload_n dX4_readAtom_29 rfl ?_
      refine sz_aload_n dX4_readAtom_30 rfl ?_
      refine sz_getR dX4_readAtom_31 flX4_17 kd3 rfl rf3_0 ?_
      refine sz_getI dX4_readAtom_34 flX4_90 kd1 rfl ?_
      obtain ⟨q37, eq37, hf⟩ := gz_bd hf
      refine sz_callVv [.int (q25.2.1 1 4)] [] dX4_readAtom_37 mvX4_47 (by omega) (by decide : 4 < 13) kd3 rfl (Nat.le_of_ble_eq_true rfl) (kX4_put   eq37) ?_
      refine sz_iload_n dX4_readAtom_40 rfl ?_
      obtain ⟨c41, hf⟩ := gz_gd hf
      cases hf
      exact sz_iret dX4_readAtom_41 rfl (gz_nbx c41) ⟨rfl, rfl⟩
def fX4_joining (La : gz_L)  (x0 : Int32) (g : gz_S) : Option (Int32 × gz_S) :=
  if x0 = 42 then some ((-13), g) else if x0 = 43 then some ((-11), g) else if x0 = 44 then some ((-1), g) else if x0 = 45 then some ((-12), g) else if x0 = 46 then some ((-1), g) else if x0 = 47 then some ((-14), g) else some ((-1), g)
set_option maxRecDepth 100000 in
set_option maxHeartbeats 4000000 in
theorem kX4_joining {La : gz_L}  {x0 : Int32} {g : gz_S} {r : Int32 × gz_S}  (hf : fX4_joining La  x0 g = some r) : gz_K La 1 mX4_joining [.int x0] g (gz_Fi r) := by
  unfold fX4_joining at hf
  refine gz_K.of 0 (by decide +kernel) rfl ?_
  show gz_J La 1 mX4_joining 0 [some (.int x0)] [] g (gz_Fi r)
  refine sz_iload_n dX4_joining_0 rfl ?_
  by_cases c1_42 : x0 = 42
  · have hf := gz_ip c1_42 hf
    refine sz_tableIn 46 dX4_joining_1 (by rw [c1_42]; decide) (by rw [c1_42]; decide) (by rw [c1_42]; rfl) (by decide) ?_
    refine sz_bipush dX4_joining_46 (cBm13) ?_
    cases hf
    exact sz_iret dX4_joining_48 rfl rfl ⟨rfl, rfl⟩
  have hf := gz_in1 c1_42 hf
  by_cases c1_43 : x0 = 43
  · have hf := gz_ip c1_43 hf
    refine sz_tableIn 40 dX4_joining_1 (by rw [c1_43]; decide) (by rw [c1_43]; decide) (by rw [c1_43]; rfl) (by decide) ?_
    refine sz_bipush dX4_joining_40 (cBm11) ?_
    cases hf
    exact sz_iret dX4_joining_42 rfl rfl ⟨rfl, rfl⟩
  have hf := gz_in1 c1_43 hf
  by_cases c1_44 : x0 = 44
  · have hf := gz_ip c1_44 hf
    refine sz_tableIn 52 dX4_joining_1 (by rw [c1_44]; decide) (by rw [c1_44]; decide) (by rw [c1_44]; rfl) (by decide) ?_
    refine sz_iconst dX4_joining_52 (cIm1) ?_
    cases hf
    exact sz_iret dX4_joining_53 rfl rfl ⟨rfl, rfl⟩
  have hf := gz_in1 c1_44 hf
  by_cases c1_45 : x0 = 45
  · have hf := gz_ip c1_45 hf
    refine sz_tableIn 43 dX4_joining_1 (by rw [c1_45]; decide) (by rw [c1_45]; decide) (by rw [c1_45]; rfl) (by decide) ?_
    refine sz_bipush dX4_joining_43 (cBm12) ?_
    cases hf
    exact sz_iret dX4_joining_45 rfl rfl ⟨rfl, rfl⟩
  have hf := gz_in1 c1_45 hf
  by_cases c1_46 : x0 = 46
  · have hf := gz_ip c1_46 hf
    refine sz_tableIn 52 dX4_joining_1 (by rw [c1_46]; decide) (by rw [c1_46]; decide) (by rw [c1_46]; rfl) (by decide) ?_
    refine sz_iconst dX4_joining_52 (cIm1) ?_
    cases hf
    exact sz_iret dX4_joining_53 rfl rfl ⟨rfl, rfl⟩
  have hf := gz_in1 c1_46 hf
  by_cases c1_47 : x0 = 47
  · have hf := gz_ip c1_47 hf
    refine sz_tableIn 49 dX4_joining_1 (by rw [c1_47]; decide) (by rw [c1_47]; decide) (by rw [c1_47]; rfl) (by decide) ?_
    refine sz_bipush dX4_joining_49 (cBm14) ?_
    cases hf
    exact sz_iret dX4_joining_51 rfl rfl ⟨rfl, rfl⟩
  have hf := gz_in1 c1_47 hf
  refine sz_tableOut 52 dX4_joining_1 (by have z0 := lv_neT c1_42 (a := 42) (by decide); have z1 := lv_neT c1_43 (a := 43) (by decide); have z2 := lv_neT c1_44 (a := 44) (by decide); have z3 := lv_neT c1_45 (a := 45) (by decide); have z4 := lv_neT c1_46 (a := 46) (by decide); have z5 := lv_neT c1_47 (a := 47) (by decide); omega) (by decide) ?_
  refine sz_iconst dX4_joining_52 (cIm1) ?_
  cases hf
  exact sz_iret dX4_joining_53 rfl rfl ⟨rfl, rfl⟩
def fX4_readSum_60 (La : gz_L) (FX4_readSum : Int32 → gz_S → Option (Int32 × gz_S))  (k33 : Int32 → Int32 → Int32 → Int32 → Int32 → Int32 → gz_S → Option (Int32 × gz_S)) (x1 : Int32) (x2 : Int32) (x3 : Int32) (x5 : Int32) (x6 : Int32) (g : gz_S) : Option (Int32 × gz_S) := gz_let (gz_wi g 1 2 ((g.1 1 2) + 1)) (fun g70 => (fX4_readAtom La FX4_readSum x1 g70).bind (fun q75 => (fX4_put La  x5 q75.2).bind (fun q83 => (fX9_next La   q83).bind (fun q90 => (fX4_joining La  q90.1 q90.2).bind (fun q93 => gz_let (x6 + 1) (fun y98 => k33 x1 x2 x3 q75.1 q93.1 y98 q93.2))))))
set_option maxRecDepth 100000 in
set_option maxHeartbeats 4000000 in
theorem tX4_readSum_60 {La : gz_L} {hr : Nat} {FX4_readSum : Int32 → gz_S → Option (Int32 × gz_S)} (HX4_readSum : ∀ (x1 : Int32) (g : gz_S) (r : Int32 × gz_S), FX4_readSum x1 g = some r → gz_K La hr mX4_readSum [.ref 3, .int x1] g (gz_Fi r)) (hB : 20 ≤ hr)  {k33 : Int32 → Int32 → Int32 → Int32 → Int32 → Int32 → gz_S → Option (Int32 × gz_S)}  (hk33 : ∀ (x1 : Int32) (x2 : Int32) (x3 : Int32) (x4 : Int32) (x5 : Int32) (x6 : Int32) (g : gz_S) (r : Int32 × gz_S), k33 x1 x2 x3 x4 x5 x6 g = some r → gz_J La (hr + 2) mX4_readSum 33 [some (.ref 3), some (.int x1), some (.int x2), some (.int x3), some (.int x4), some (.int x5), some (.int x6)] [] g (gz_Fi r)) : ∀ (x1 : Int32) (x2 : Int32) (x3 : Int32) (x5 : Int32) (x6 : Int32) (g : gz_S) (r : Int32 × gz_S), fX4_readSum_60 La FX4_readSum  k33 x1 x2 x3 x5 x6 g = some r → gz_J La (hr + 2) mX4_readSum 60 [some (.ref 3), some (.int x1), some (.int x2), some (.int x3), none, some (.int x5), some (.int x6)] [] g (gz_Fi r) := by
  intro x1 x2 x3 x5 x6 g r hf
  unfold fX4_readSum_60 at hf
  refine sz_aload_n dX4_readSum_60 rfl ?_
  refine sz_getR dX4_readSum_61 flX4_17 kd3 rfl rf3_0 ?_
  refine sz_dup dX4_readSum_64 rfl ?_
  refine sz_getI dX4_readSum_65 flX4_55 kd1 rfl ?_
  refine sz_iconst dX4_readSum_68 (cI1) ?_
  refine sz_iadd dX4_readSum_69 ?_
  obtain ⟨g70, eg70, hf⟩ := gz_lt hf
  refine sz_putI2 dX4_readSum_70 flX4_55 kd1 fi9_2 eg70 ?_
  refine sz_aload_n dX4_readSum_73 rfl ?_
  refine sz_iload_n dX4_readSum_74 rfl ?_
  obtain ⟨q75, eq75, hf⟩ := gz_bd hf
  refine sz_callVi [.int x1] [] dX4_readSum_75 mvX4_81 (by omega) (by decide : 4 < 13) kd3 rfl (Nat.le_of_ble_eq_true rfl) (kX4_readAtom HX4_readSum hB  eq75) ?_
  refine sz_istore dX4_readSum_78 (Nat.le_of_ble_eq_true rfl) rfl ?_
  refine sz_ls (l2 := [some (.ref 3), some (.int x1), some (.int x2), some (.int x3), some (.int q75.1), some (.int x5), some (.int x6)]) rfl ?_
  refine sz_aload_n dX4_readSum_80 rfl ?_
  refine sz_iload dX4_readSum_81 rfl ?_
  obtain ⟨q83, eq83, hf⟩ := gz_bd hf
  refine sz_callVv [.int x5] [] dX4_readSum_83 mvX4_47 (by omega) (by decide : 4 < 13) kd3 rfl (Nat.le_of_ble_eq_true rfl) (kX4_put   eq83) ?_
  refine sz_aload_n dX4_readSum_86 rfl ?_
  refine sz_getR dX4_readSum_87 flX4_17 kd3 rfl rf3_0 ?_
  obtain ⟨q90, eq90, hf⟩ := gz_bd hf
  refine sz_callVi [] [] dX4_readSum_90 mvX4_51 (by omega) (by decide : 9 < 13) kd1 rfl (Nat.le_of_ble_eq_true rfl) (kX9_next   eq90) ?_
  obtain ⟨q93, eq93, hf⟩ := gz_bd hf
  refine sz_callSi [.int q90.1] [] dX4_readSum_93 msX4_84 (by omega) (Nat.le_of_ble_eq_true rfl) (kX4_joining   eq93) ?_
  refine sz_istore dX4_readSum_96 (Nat.le_of_ble_eq_true rfl) rfl ?_
  refine sz_ls (l2 := [some (.ref 3), some (.int x1), some (.int x2), some (.int x3), some (.int q75.1), some (.int q93.1), some (.int x6)]) rfl ?_
  obtain ⟨y98, ey98, hf⟩ := gz_lt hf
  refine sz_iinc (v := y98) dX4_readSum_98 rfl (by rw [ey98, cI1]) (Nat.le_of_ble_eq_true rfl) rfl ?_
  refine sz_ls (l2 := [some (.ref 3), some (.int x1), some (.int x2), some (.int x3), some (.int q75.1), some (.int q93.1), some (.int y98)]) rfl ?_
  refine sz_goto 33 dX4_readSum_101 (by decide) ?_
  exact hk33 _ _ _ _ _ _ _ _ hf
def fX4_readSum_33 (La : gz_L) (FX4_readSum : Int32 → gz_S → Option (Int32 × gz_S))  (k104 : Int32 → Int32 → Int32 → Int32 → Int32 → gz_S → Option (Int32 × gz_S)) : Nat → Int32 → Int32 → Int32 → Int32 → Int32 → Int32 → gz_S → Option (Int32 × gz_S)
  | 0, _, _, _, _, _, _, _ => none
  | n + 1, x1, x2, x3, x4, x5, x6, g => if 240 ≤ x6 then k104 x1 x2 x3 x4 x5 g else if x4 = 0 then k104 x1 x2 x3 x4 x5 g else if x5 = (-13) then fX4_readSum_60 La FX4_readSum  (fX4_readSum_33 La FX4_readSum  k104 n)  x1 x2 x3 x5 x6 g else if x5 = (-14) then fX4_readSum_60 La FX4_readSum  (fX4_readSum_33 La FX4_readSum  k104 n)  x1 x2 x3 x5 x6 g else k104 x1 x2 x3 x4 x5 g
set_option maxRecDepth 100000 in
set_option maxHeartbeats 4000000 in
theorem tX4_readSum_33 {La : gz_L} {hr : Nat} {FX4_readSum : Int32 → gz_S → Option (Int32 × gz_S)} (HX4_readSum : ∀ (x1 : Int32) (g : gz_S) (r : Int32 × gz_S), FX4_readSum x1 g = some r → gz_K La hr mX4_readSum [.ref 3, .int x1] g (gz_Fi r)) (hB : 20 ≤ hr)  {k104 : Int32 → Int32 → Int32 → Int32 → Int32 → gz_S → Option (Int32 × gz_S)}  (hk104 : ∀ (x1 : Int32) (x2 : Int32) (x3 : Int32) (x4 : Int32) (x5 : Int32) (g : gz_S) (r : Int32 × gz_S), k104 x1 x2 x3 x4 x5 g = some r → gz_J La (hr + 2) mX4_readSum 104 [some (.ref 3), some (.int x1), some (.int x2), some (.int x3), some (.int x4), some (.int x5), none] [] g (gz_Fi r)) : ∀ (n : Nat) (x1 : Int32) (x2 : Int32) (x3 : Int32) (x4 : Int32) (x5 : Int32) (x6 : Int32) (g : gz_S) (r : Int32 × gz_S), fX4_readSum_33 La FX4_readSum  k104 n x1 x2 x3 x4 x5 x6 g = some r → gz_J La (hr + 2) mX4_readSum 33 [some (.ref 3), some (.int x1), some (.int x2), some (.int x3), some (.int x4), some (.int x5), some (.int x6)] [] g (gz_Fi r) := by
  intro n
  induction n with
  | zero => intro x1 x2 x3 x4 x5 x6 g r hf; exact nomatch (show (none : Option (Int32 × gz_S)) = some r from hf)
  | succ n ih =>
    intro x1 x2 x3 x4 x5 x6 g r hf
    unfold fX4_readSum_33 at hf
    refine sz_iload dX4_readSum_33 rfl ?_
    refine sz_sipush dX4_readSum_35 (cH240) ?_
    refine sz_icmp_ge 104 dX4_readSum_38 (by decide) (fun c38 => ?_) (fun c38 => ?_)
    · have hf := gz_ip c38 hf
      refine sz_weak (l2 := [some (.ref 3), some (.int x1), some (.int x2), some (.int x3), some (.int x4), some (.int x5), none]) (gz_subk (gz_subk (gz_subk (gz_subk (gz_subk (gz_subk (gz_subn gz_sub0))))))) ?_
      exact hk104 _ _ _ _ _ _ _ hf
    · have hf := gz_in1 c38 hf
      refine sz_iload dX4_readSum_41 rfl ?_
      refine sz_if_eq 104 dX4_readSum_43 (by decide) (fun c43 => ?_) (fun c43 => ?_)
      · have hf := gz_ip c43 hf
        refine sz_weak (l2 := [some (.ref 3), some (.int x1), some (.int x2), some (.int x3), some (.int x4), some (.int x5), none]) (gz_subk (gz_subk (gz_subk (gz_subk (gz_subk (gz_subk (gz_subn gz_sub0))))))) ?_
        exact hk104 _ _ _ _ _ _ _ hf
      · have hf := gz_in1 c43 hf
        refine sz_iload dX4_readSum_46 rfl ?_
        refine sz_bipush dX4_readSum_48 (cBm13) ?_
        refine sz_icmp_eq 60 dX4_readSum_50 (by decide) (fun c50 => ?_) (fun c50 => ?_)
        · have hf := gz_ip c50 hf
          refine sz_weak (l2 := [some (.ref 3), some (.int x1), some (.int x2), some (.int x3), none, some (.int x5), some (.int x6)]) (gz_subk (gz_subk (gz_subk (gz_subk (gz_subn (gz_subk (gz_subk gz_sub0))))))) ?_
          exact tX4_readSum_60 HX4_readSum hB  ih _ _ _ _ _ _ _ hf
        · have hf := gz_in1 c50 hf
          refine sz_iload dX4_readSum_53 rfl ?_
          refine sz_bipush dX4_readSum_55 (cBm14) ?_
          refine sz_icmp_ne 104 dX4_readSum_57 (by decide) (fun c57 => ?_) (fun c57 => ?_)
          · have hf := gz_in1 c57 hf
            refine sz_weak (l2 := [some (.ref 3), some (.int x1), some (.int x2), some (.int x3), some (.int x4), some (.int x5), none]) (gz_subk (gz_subk (gz_subk (gz_subk (gz_subk (gz_subk (gz_subn gz_sub0))))))) ?_
            exact hk104 _ _ _ _ _ _ _ hf
          · have hf := gz_ip c57 hf
            refine sz_weak (l2 := [some (.ref 3), some (.int x1), some (.int x2), some (.int x3), none, some (.int x5), some (.int x6)]) (gz_subk (gz_subk (gz_subk (gz_subk (gz_subn (gz_subk (gz_subk gz_sub0))))))) ?_
            exact tX4_readSum_60 HX4_readSum hB  ih _ _ _ _ _ _ _ hf
def fX4_readSum_114 (La : gz_L) (FX4_readSum : Int32 → gz_S → Option (Int32 × gz_S))  (k4 : Int32 → Int32 → Int32 → gz_S → Option (Int32 × gz_S)) (x1 : Int32) (x3 : Int32) (x4 : Int32) (x5 : Int32) (g : gz_S) : Option (Int32 × gz_S) := if x4 = 0 then if x4 = 0 ∨ x4 = 1 then some (x4, g) else none else if x5 = (-1) then if x4 = 0 ∨ x4 = 1 then some (x4, g) else none else gz_let (gz_wi g 1 2 ((g.1 1 2) + 1)) (fun g138 => gz_let (x3 + 1) (fun y144 => k4 x1 x5 y144 g138))
set_option maxRecDepth 100000 in
set_option maxHeartbeats 4000000 in
theorem tX4_readSum_114 {La : gz_L} {hr : Nat} {FX4_readSum : Int32 → gz_S → Option (Int32 × gz_S)} (HX4_readSum : ∀ (x1 : Int32) (g : gz_S) (r : Int32 × gz_S), FX4_readSum x1 g = some r → gz_K La hr mX4_readSum [.ref 3, .int x1] g (gz_Fi r)) (hB : 20 ≤ hr)  {k4 : Int32 → Int32 → Int32 → gz_S → Option (Int32 × gz_S)}  (hk4 : ∀ (x1 : Int32) (x2 : Int32) (x3 : Int32) (g : gz_S) (r : Int32 × gz_S), k4 x1 x2 x3 g = some r → gz_J La (hr + 2) mX4_readSum 4 [some (.ref 3), some (.int x1), some (.int x2), some (.int x3), none, none, none] [] g (gz_Fi r)) : ∀ (x1 : Int32) (x3 : Int32) (x4 : Int32) (x5 : Int32) (g : gz_S) (r : Int32 × gz_S), fX4_readSum_114 La FX4_readSum  k4 x1 x3 x4 x5 g = some r → gz_J La (hr + 2) mX4_readSum 114 [some (.ref 3), some (.int x1), none, some (.int x3), some (.int x4), some (.int x5), none] [] g (gz_Fi r) := by
  intro x1 x3 x4 x5 g r hf
  unfold fX4_readSum_114 at hf
  refine sz_iload dX4_readSum_114 rfl ?_
  refine sz_if_eq 125 dX4_readSum_116 (by decide) (fun c116 => ?_) (fun c116 => ?_)
  · have hf := gz_ip c116 hf
    refine sz_iload dX4_readSum_125 rfl ?_
    obtain ⟨c127, hf⟩ := gz_gd hf
    cases hf
    exact sz_iret dX4_readSum_127 rfl (gz_nbx c127) ⟨rfl, rfl⟩
  · have hf := gz_in1 c116 hf
    refine sz_iload dX4_readSum_119 rfl ?_
    refine sz_iconst dX4_readSum_121 (cIm1) ?_
    refine sz_icmp_ne 128 dX4_readSum_122 (by decide) (fun c122 => ?_) (fun c122 => ?_)
    · have hf := gz_in1 c122 hf
      refine sz_aload_n dX4_readSum_128 rfl ?_
      refine sz_getR dX4_readSum_129 flX4_17 kd3 rfl rf3_0 ?_
      refine sz_dup dX4_readSum_132 rfl ?_
      refine sz_getI dX4_readSum_133 flX4_55 kd1 rfl ?_
      refine sz_iconst dX4_readSum_136 (cI1) ?_
      refine sz_iadd dX4_readSum_137 ?_
      obtain ⟨g138, eg138, hf⟩ := gz_lt hf
      refine sz_putI2 dX4_readSum_138 flX4_55 kd1 fi9_2 eg138 ?_
      refine sz_iload dX4_readSum_141 rfl ?_
      refine sz_istore_n dX4_readSum_143 rfl (Nat.le_of_ble_eq_true rfl) rfl ?_
      refine sz_ls (l2 := [some (.ref 3), some (.int x1), some (.int x5), some (.int x3), some (.int x4), some (.int x5), none]) rfl ?_
      obtain ⟨y144, ey144, hf⟩ := gz_lt hf
      refine sz_iinc (v := y144) dX4_readSum_144 rfl (by rw [ey144, cI1]) (Nat.le_of_ble_eq_true rfl) rfl ?_
      refine sz_ls (l2 := [some (.ref 3), some (.int x1), some (.int x5), some (.int y144), some (.int x4), some (.int x5), none]) rfl ?_
      refine sz_goto 4 dX4_readSum_147 (by decide) ?_
      refine sz_weak (l2 := [some (.ref 3), some (.int x1), some (.int x5), some (.int y144), none, none, none]) (gz_subk (gz_subk (gz_subk (gz_subk (gz_subn (gz_subn (gz_subk gz_sub0))))))) ?_
      exact hk4 _ _ _ _ _ hf
    · have hf := gz_ip c122 hf
      refine sz_iload dX4_readSum_125 rfl ?_
      obtain ⟨c127, hf⟩ := gz_gd hf
      cases hf
      exact sz_iret dX4_readSum_127 rfl (gz_nbx c127) ⟨rfl, rfl⟩
def fX4_readSum_104 (La : gz_L) (FX4_readSum : Int32 → gz_S → Option (Int32 × gz_S))  (k4 : Int32 → Int32 → Int32 → gz_S → Option (Int32 × gz_S)) (x1 : Int32) (x2 : Int32) (x3 : Int32) (x4 : Int32) (x5 : Int32) (g : gz_S) : Option (Int32 × gz_S) := if x2 = (-1) then fX4_readSum_114 La FX4_readSum  k4  x1 x3 x4 x5 g else (fX4_put La  x2 g).bind (fun q111 => fX4_readSum_114 La FX4_readSum  k4  x1 x3 x4 x5 q111)
set_option maxRecDepth 100000 in
set_option maxHeartbeats 4000000 in
theorem tX4_readSum_104 {La : gz_L} {hr : Nat} {FX4_readSum : Int32 → gz_S → Option (Int32 × gz_S)} (HX4_readSum : ∀ (x1 : Int32) (g : gz_S) (r : Int32 × gz_S), FX4_readSum x1 g = some r → gz_K La hr mX4_readSum [.ref 3, .int x1] g (gz_Fi r)) (hB : 20 ≤ hr)  {k4 : Int32 → Int32 → Int32 → gz_S → Option (Int32 × gz_S)}  (hk4 : ∀ (x1 : Int32) (x2 : Int32) (x3 : Int32) (g : gz_S) (r : Int32 × gz_S), k4 x1 x2 x3 g = some r → gz_J La (hr + 2) mX4_readSum 4 [some (.ref 3), some (.int x1), some (.int x2), some (.int x3), none, none, none] [] g (gz_Fi r)) : ∀ (x1 : Int32) (x2 : Int32) (x3 : Int32) (x4 : Int32) (x5 : Int32) (g : gz_S) (r : Int32 × gz_S), fX4_readSum_104 La FX4_readSum  k4 x1 x2 x3 x4 x5 g = some r → gz_J La (hr + 2) mX4_readSum 104 [some (.ref 3), some (.int x1), some (.int x2), some (.int x3), some (.int x4), some (.int x5), none] [] g (gz_Fi r) := by
  intro x1 x2 x3 x4 x5 g r hf
  unfold fX4_readSum_104 at hf
  refine sz_iload_n dX4_readSum_104 rfl ?_
  refine sz_iconst dX4_readSum_105 (cIm1) ?_
  refine sz_icmp_eq 114 dX4_readSum_106 (by decide) (fun c106 => ?_) (fun c106 => ?_)
  · have hf := gz_ip c106 hf
    refine sz_weak (l2 := [some (.ref 3), some (.int x1), none, some (.int x3), some (.int x4), some (.int x5), none]) (gz_subk (gz_subk (gz_subn (gz_subk (gz_subk (gz_subk (gz_subk gz_sub0))))))) ?_
    exact tX4_readSum_114 HX4_readSum hB  hk4 _ _ _ _ _ _ hf
  · have hf := gz_in1 c106 hf
    refine sz_aload_n dX4_readSum_109 rfl ?_
    refine sz_iload_n dX4_readSum_110 rfl ?_
    obtain ⟨q111, eq111, hf⟩ := gz_bd hf
    refine sz_callVv [.int x2] [] dX4_readSum_111 mvX4_47 (by omega) (by decide : 4 < 13) kd3 rfl (Nat.le_of_ble_eq_true rfl) (kX4_put   eq111) ?_
    refine sz_weak (l2 := [some (.ref 3), some (.int x1), none, some (.int x3), some (.int x4), some (.int x5), none]) (gz_subk (gz_subk (gz_subn (gz_subk (gz_subk (gz_subk (gz_subk gz_sub0))))))) ?_
    exact tX4_readSum_114 HX4_readSum hB  hk4 _ _ _ _ _ _ hf
def fX4_readSum_4 (La : gz_L) (FX4_readSum : Int32 → gz_S → Option (Int32 × gz_S))  (k150 : gz_S → Option (Int32 × gz_S)) : Nat → Int32 → Int32 → Int32 → gz_S → Option (Int32 × gz_S)
  | 0, _, _, _, _ => none
  | n + 1, x1, x2, x3, g => if 240 ≤ x3 then k150  g else (fX4_readAtom La FX4_readSum x1 g).bind (fun q13 => (fX9_next La   q13.2).bind (fun q22 => (fX4_joining La  q22.1 q22.2).bind (fun q25 => fX4_readSum_33 La FX4_readSum  (fX4_readSum_104 La FX4_readSum  (fX4_readSum_4 La FX4_readSum  k150 n) ) gz_FU x1 x2 x3 q13.1 q25.1 0 q25.2)))
set_option maxRecDepth 100000 in
set_option maxHeartbeats 4000000 in
theorem tX4_readSum_4 {La : gz_L} {hr : Nat} {FX4_readSum : Int32 → gz_S → Option (Int32 × gz_S)} (HX4_readSum : ∀ (x1 : Int32) (g : gz_S) (r : Int32 × gz_S), FX4_readSum x1 g = some r → gz_K La hr mX4_readSum [.ref 3, .int x1] g (gz_Fi r)) (hB : 20 ≤ hr)  {k150 : gz_S → Option (Int32 × gz_S)}  (hk150 : ∀  (g : gz_S) (r : Int32 × gz_S), k150  g = some r → gz_J La (hr + 2) mX4_readSum 150 [some (.ref 3), none, none, none, none, none, none] [] g (gz_Fi r)) : ∀ (n : Nat) (x1 : Int32) (x2 : Int32) (x3 : Int32) (g : gz_S) (r : Int32 × gz_S), fX4_readSum_4 La FX4_readSum  k150 n x1 x2 x3 g = some r → gz_J La (hr + 2) mX4_readSum 4 [some (.ref 3), some (.int x1), some (.int x2), some (.int x3), none, none, none] [] g (gz_Fi r) := by
  intro n
  induction n with
  | zero => intro x1 x2 x3 g r hf; exact nomatch (show (none : Option (Int32 × gz_S)) = some r from hf)
  | succ n ih =>
    intro x1 x2 x3 g r hf
    unfold fX4_readSum_4 at hf
    refine sz_iload_n dX4_readSum_4 rfl ?_
    refine sz_sipush dX4_readSum_5 (cH240) ?_
    refine sz_icmp_ge 150 dX4_readSum_8 (by decide) (fun c8 => ?_) (fun c8 => ?_)
    · have hf := gz_ip c8 hf
      refine sz_weak (l2 := [some (.ref 3), none, none, none, none, none, none]) (gz_subk (gz_subn (gz_subn (gz_subn (gz_subk (gz_subk (gz_subk gz_sub0))))))) ?_
      exact hk150  _ _ hf
    · have hf := gz_in1 c8 hf
      refine sz_aload_n dX4_readSum_11 rfl ?_
      refine sz_iload_n dX4_readSum_12 rfl ?_
      obtain ⟨q13, eq13, hf⟩ := gz_bd hf
      refine sz_callVi [.int x1] [] dX4_readSum_13 mvX4_81 (by omega) (by decide : 4 < 13) kd3 rfl (Nat.le_of_ble_eq_true rfl) (kX4_readAtom HX4_readSum hB  eq13) ?_
      refine sz_istore dX4_readSum_16 (Nat.le_of_ble_eq_true rfl) rfl ?_
      refine sz_ls (l2 := [some (.ref 3), some (.int x1), some (.int x2), some (.int x3), some (.int q13.1), none, none]) rfl ?_
      refine sz_aload_n dX4_readSum_18 rfl ?_
      refine sz_getR dX4_readSum_19 flX4_17 kd3 rfl rf3_0 ?_
      obtain ⟨q22, eq22, hf⟩ := gz_bd hf
      refine sz_callVi [] [] dX4_readSum_22 mvX4_51 (by omega) (by decide : 9 < 13) kd1 rfl (Nat.le_of_ble_eq_true rfl) (kX9_next   eq22) ?_
      obtain ⟨q25, eq25, hf⟩ := gz_bd hf
      refine sz_callSi [.int q22.1] [] dX4_readSum_25 msX4_84 (by omega) (Nat.le_of_ble_eq_true rfl) (kX4_joining   eq25) ?_
      refine sz_istore dX4_readSum_28 (Nat.le_of_ble_eq_true rfl) rfl ?_
      refine sz_ls (l2 := [some (.ref 3), some (.int x1), some (.int x2), some (.int x3), some (.int q13.1), some (.int q25.1), none]) rfl ?_
      refine sz_iconst dX4_readSum_30 (cI0) ?_
      refine sz_istore dX4_readSum_31 (Nat.le_of_ble_eq_true rfl) rfl ?_
      refine sz_ls (l2 := [some (.ref 3), some (.int x1), some (.int x2), some (.int x3), some (.int q13.1), some (.int q25.1), some (.int 0)]) rfl ?_
      exact tX4_readSum_33 HX4_readSum hB  (tX4_readSum_104 HX4_readSum hB  ih) _ _ _ _ _ _ _ _ _ hf
def fX4_readSum (La : gz_L) (FX4_readSum : Int32 → gz_S → Option (Int32 × gz_S)) (x1 : Int32) (g : gz_S) : Option (Int32 × gz_S) :=
  fX4_readSum_4 La FX4_readSum  (fun  g => (fX9_refuse La  (g.1 1 2) g).bind (fun q161 => if q161.1 = 0 ∨ q161.1 = 1 then some (q161.1, q161.2) else none)) gz_FU x1 (-1) 0 g
set_option maxRecDepth 100000 in
set_option maxHeartbeats 4000000 in
theorem kX4_readSum {La : gz_L} {hr : Nat} {FX4_readSum : Int32 → gz_S → Option (Int32 × gz_S)} (HX4_readSum : ∀ (x1 : Int32) (g : gz_S) (r : Int32 × gz_S), FX4_readSum x1 g = some r → gz_K La hr mX4_readSum [.ref 3, .int x1] g (gz_Fi r)) (hB : 20 ≤ hr) {x1 : Int32} {g : gz_S} {r : Int32 × gz_S}  (hf : fX4_readSum La FX4_readSum x1 g = some r) : gz_K La (hr + 2) mX4_readSum [.ref 3, .int x1] g (gz_Fi r) := by
  unfold fX4_readSum at hf
  refine gz_K.of 5 (by decide +kernel) rfl ?_
  show gz_J La (hr + 2) mX4_readSum 0 [some (.ref 3), some (.int x1), none, none, none, none, none] [] g (gz_Fi r)
  refine sz_iconst dX4_readSum_0 (cIm1) ?_
  refine sz_istore_n dX4_readSum_1 rfl (Nat.le_of_ble_eq_true rfl) rfl ?_
  refine sz_ls (l2 := [some (.ref 3), some (.int x1), some (.int (-1)), none, none, none, none]) rfl ?_
  refine sz_iconst dX4_readSum_2 (cI0) ?_
  refine sz_istore_n dX4_readSum_3 rfl (Nat.le_of_ble_eq_true rfl) rfl ?_
  refine sz_ls (l2 := [some (.ref 3), some (.int x1), some (.int (-1)), some (.int 0), none, none, none]) rfl ?_
  have hk150 : ∀  (g : gz_S) (r : Int32 × gz_S), (fun  g => (fX9_refuse La  (g.1 1 2) g).bind (fun q161 => if q161.1 = 0 ∨ q161.1 = 1 then some (q161.1, q161.2) else none))  g = some r → gz_J La (hr + 2) mX4_readSum 150 [some (.ref 3), none, none, none, none, none, none] [] g (gz_Fi r) := by
    intro  g r hf
    refine sz_aload_n dX4_readSum_150 rfl ?_
    refine sz_getR dX4_readSum_151 flX4_17 kd3 rfl rf3_0 ?_
    refine sz_aload_n dX4_readSum_154 rfl ?_
    refine sz_getR dX4_readSum_155 flX4_17 kd3 rfl rf3_0 ?_
    refine sz_getI dX4_readSum_158 flX4_55 kd1 rfl ?_
    obtain ⟨q161, eq161, hf⟩ := gz_bd hf
    refine sz_callVi [.int (g.1 1 2)] [] dX4_readSum_161 mvX4_58 (by omega) (by decide : 9 < 13) kd1 rfl (Nat.le_of_ble_eq_true rfl) (kX9_refuse   eq161) ?_
    obtain ⟨c164, hf⟩ := gz_gd hf
    cases hf
    exact sz_iret dX4_readSum_164 rfl (gz_nbx c164) ⟨rfl, rfl⟩
  exact tX4_readSum_4 HX4_readSum hB  hk150 _ _ _ _ _ _ hf
def fX4_readSumD (La : gz_L) : Nat → Int32 → gz_S → Option (Int32 × gz_S)
  | 0, _, _ => none
  | d + 1, x1, g => fX4_readSum La (fX4_readSumD La d) x1 g
theorem kX4_readSumD {La : gz_L} : ∀ (d : Nat) (x1 : Int32) (g : gz_S) (r : Int32 × gz_S), fX4_readSumD La d x1 g = some r → gz_K La (20 + 2 * d) mX4_readSum [.ref 3, .int x1] g (gz_Fi r) := by
  intro d
  induction d with
  | zero => intro x1 g r hf; exact nomatch (show (none : Option (Int32 × gz_S)) = some r from hf)
  | succ d ih =>
    intro x1 g r hf
    have e : 20 + 2 * (d + 1) = (20 + 2 * d) + 2 := by omega
    rw [e]
    exact kX4_readSum (hr := 20 + 2 * d) ih (Nat.le_add_right _ _) hf
def fX4_readSumT (La : gz_L) (x1 : Int32) (g : gz_S) : Option (Int32 × gz_S) := fX4_readSumD La 12 x1 g
theorem kX4_readSumT {La : gz_L} {x1 : Int32} {g : gz_S} {r : Int32 × gz_S} (hf : fX4_readSumT La x1 g = some r) : gz_K La 44 mX4_readSum [.ref 3, .int x1] g (gz_Fi r) := kX4_readSumD 12 x1 g r hf

def fX4_comparing (La : gz_L)  (x0 : Int32) (g : gz_S) : Option (Int32 × gz_S) :=
  if x0 = 60 then some ((-16), g) else if x0 = 61 then some ((-15), g) else if x0 = 62 then some ((-17), g) else some ((-1), g)
set_option maxRecDepth 100000 in
set_option maxHeartbeats 4000000 in
theorem kX4_comparing {La : gz_L}  {x0 : Int32} {g : gz_S} {r : Int32 × gz_S}  (hf : fX4_comparing La  x0 g = some r) : gz_K La 1 mX4_comparing [.int x0] g (gz_Fi r) := by
  unfold fX4_comparing at hf
  refine gz_K.of 0 (by decide +kernel) rfl ?_
  show gz_J La 1 mX4_comparing 0 [some (.int x0)] [] g (gz_Fi r)
  refine sz_iload_n dX4_comparing_0 rfl ?_
  by_cases c1_60 : x0 = 60
  · have hf := gz_ip c1_60 hf
    refine sz_tableIn 31 dX4_comparing_1 (by rw [c1_60]; decide) (by rw [c1_60]; decide) (by rw [c1_60]; rfl) (by decide) ?_
    refine sz_bipush dX4_comparing_31 (cBm16) ?_
    cases hf
    exact sz_iret dX4_comparing_33 rfl rfl ⟨rfl, rfl⟩
  have hf := gz_in1 c1_60 hf
  by_cases c1_61 : x0 = 61
  · have hf := gz_ip c1_61 hf
    refine sz_tableIn 28 dX4_comparing_1 (by rw [c1_61]; decide) (by rw [c1_61]; decide) (by rw [c1_61]; rfl) (by decide) ?_
    refine sz_bipush dX4_comparing_28 (cBm15) ?_
    cases hf
    exact sz_iret dX4_comparing_30 rfl rfl ⟨rfl, rfl⟩
  have hf := gz_in1 c1_61 hf
  by_cases c1_62 : x0 = 62
  · have hf := gz_ip c1_62 hf
    refine sz_tableIn 34 dX4_comparing_1 (by rw [c1_62]; decide) (by rw [c1_62]; decide) (by rw [c1_62]; rfl) (by decide) ?_
    refine sz_bipush dX4_comparing_34 (cBm17) ?_
    cases hf
    exact sz_iret dX4_comparing_36 rfl rfl ⟨rfl, rfl⟩
  have hf := gz_in1 c1_62 hf
  refine sz_tableOut 37 dX4_comparing_1 (by have z0 := lv_neT c1_60 (a := 60) (by decide); have z1 := lv_neT c1_61 (a := 61) (by decide); have z2 := lv_neT c1_62 (a := 62) (by decide); omega) (by decide) ?_
  refine sz_iconst dX4_comparing_37 (cIm1) ?_
  cases hf
  exact sz_iret dX4_comparing_38 rfl rfl ⟨rfl, rfl⟩
def fX4_readCompared (La : gz_L)  (x1 : Int32) (g : gz_S) : Option (Int32 × gz_S) :=
  (fX9_next La   g).bind (fun q4 => (fX4_comparing La  q4.1 q4.2).bind (fun q7 => if q7.1 = (-1) then (fX9_refuse La  (q7.2.1 1 2) q7.2).bind (fun q27 => if q27.1 = 0 ∨ q27.1 = 1 then some (q27.1, q27.2) else none) else gz_let (gz_wi q7.2 1 2 ((q7.2.1 1 2) + 1)) (fun g41 => (fX4_readSumT La x1 g41).bind (fun q46 => (fX4_put La  q7.1 q46.2).bind (fun q52 => if q46.1 = 0 ∨ q46.1 = 1 then some (q46.1, q52) else none)))))
set_option maxRecDepth 100000 in
set_option maxHeartbeats 4000000 in
theorem kX4_readCompared {La : gz_L}  {x1 : Int32} {g : gz_S} {r : Int32 × gz_S}  (hf : fX4_readCompared La  x1 g = some r) : gz_K La 45 mX4_readCompared [.ref 3, .int x1] g (gz_Fi r) := by
  unfold fX4_readCompared at hf
  refine gz_K.of 2 (by decide +kernel) rfl ?_
  show gz_J La 45 mX4_readCompared 0 [some (.ref 3), some (.int x1), none, none] [] g (gz_Fi r)
  refine sz_aload_n dX4_readCompared_0 rfl ?_
  refine sz_getR dX4_readCompared_1 flX4_17 kd3 rfl rf3_0 ?_
  obtain ⟨q4, eq4, hf⟩ := gz_bd hf
  refine sz_callVi [] [] dX4_readCompared_4 mvX4_51 (Nat.le_of_ble_eq_true rfl) (by decide : 9 < 13) kd1 rfl (Nat.le_of_ble_eq_true rfl) (kX9_next   eq4) ?_
  obtain ⟨q7, eq7, hf⟩ := gz_bd hf
  refine sz_callSi [.int q4.1] [] dX4_readCompared_7 msX4_64 (Nat.le_of_ble_eq_true rfl) (Nat.le_of_ble_eq_true rfl) (kX4_comparing   eq7) ?_
  refine sz_istore_n dX4_readCompared_10 rfl (Nat.le_of_ble_eq_true rfl) rfl ?_
  refine sz_ls (l2 := [some (.ref 3), some (.int x1), some (.int q7.1), none]) rfl ?_
  refine sz_iload_n dX4_readCompared_11 rfl ?_
  refine sz_iconst dX4_readCompared_12 (cIm1) ?_
  refine sz_icmp_ne 31 dX4_readCompared_13 (by decide) (fun c13 => ?_) (fun c13 => ?_)
  · have hf := gz_in1 c13 hf
    refine sz_aload_n dX4_readCompared_31 rfl ?_
    refine sz_getR dX4_readCompared_32 flX4_17 kd3 rfl rf3_0 ?_
    refine sz_dup dX4_readCompared_35 rfl ?_
    refine sz_getI dX4_readCompared_36 flX4_55 kd1 rfl ?_
    refine sz_iconst dX4_readCompared_39 (cI1) ?_
    refine sz_iadd dX4_readCompared_40 ?_
    obtain ⟨g41, eg41, hf⟩ := gz_lt hf
    refine sz_putI2 dX4_readCompared_41 flX4_55 kd1 fi9_2 eg41 ?_
    refine sz_aload_n dX4_readCompared_44 rfl ?_
    refine sz_iload_n dX4_readCompared_45 rfl ?_
    obtain ⟨q46, eq46, hf⟩ := gz_bd hf
    refine sz_callVi [.int x1] [] dX4_readCompared_46 mvX4_61 (Nat.le_of_ble_eq_true rfl) (by decide : 4 < 13) kd3 rfl (Nat.le_of_ble_eq_true rfl) (kX4_readSumT eq46) ?_
    refine sz_istore_n dX4_readCompared_49 rfl (Nat.le_of_ble_eq_true rfl) rfl ?_
    refine sz_ls (l2 := [some (.ref 3), some (.int x1), some (.int q7.1), some (.int q46.1)]) rfl ?_
    refine sz_aload_n dX4_readCompared_50 rfl ?_
    refine sz_iload_n dX4_readCompared_51 rfl ?_
    obtain ⟨q52, eq52, hf⟩ := gz_bd hf
    refine sz_callVv [.int q7.1] [] dX4_readCompared_52 mvX4_47 (Nat.le_of_ble_eq_true rfl) (by decide : 4 < 13) kd3 rfl (Nat.le_of_ble_eq_true rfl) (kX4_put   eq52) ?_
    refine sz_iload_n dX4_readCompared_55 rfl ?_
    obtain ⟨c56, hf⟩ := gz_gd hf
    cases hf
    exact sz_iret dX4_readCompared_56 rfl (gz_nbx c56) ⟨rfl, rfl⟩
  · have hf := gz_ip c13 hf
    refine sz_aload_n dX4_readCompared_16 rfl ?_
    refine sz_getR dX4_readCompared_17 flX4_17 kd3 rfl rf3_0 ?_
    refine sz_aload_n dX4_readCompared_20 rfl ?_
    refine sz_getR dX4_readCompared_21 flX4_17 kd3 rfl rf3_0 ?_
    refine sz_getI dX4_readCompared_24 flX4_55 kd1 rfl ?_
    obtain ⟨q27, eq27, hf⟩ := gz_bd hf
    refine sz_callVi [.int (q7.2.1 1 2)] [] dX4_readCompared_27 mvX4_58 (Nat.le_of_ble_eq_true rfl) (by decide : 9 < 13) kd1 rfl (Nat.le_of_ble_eq_true rfl) (kX9_refuse   eq27) ?_
    obtain ⟨c30, hf⟩ := gz_gd hf
    cases hf
    exact sz_iret dX4_readCompared_30 rfl (gz_nbx c30) ⟨rfl, rfl⟩
def fX4_readCondition_35 (La : gz_L) (FX4_readUnit : Int32 → gz_S → Option (Int32 × gz_S))  (k79 : Int32 → Int32 → Int32 → Int32 → gz_S → Option (Int32 × gz_S)) : Nat → Int32 → Int32 → Int32 → Int32 → Int32 → gz_S → Option (Int32 × gz_S)
  | 0, _, _, _, _, _, _ => none
  | n + 1, x1, x2, x3, x4, x5, g => if 240 ≤ x5 then k79 x1 x2 x3 x4 g else if x4 = 0 then k79 x1 x2 x3 x4 g else (fX9_accept La  38 g).bind (fun q54 => if q54.1 = 0 then k79 x1 x2 x3 x4 q54.2 else (FX4_readUnit x1 q54.2).bind (fun q62 => (fX4_put La  (-18) q62.2).bind (fun q70 => gz_let (x5 + 1) (fun y73 => fX4_readCondition_35 La FX4_readUnit  k79 n x1 x2 x3 q62.1 y73 q70))))
set_option maxRecDepth 100000 in
set_option maxHeartbeats 4000000 in
theorem tX4_readCondition_35 {La : gz_L} {hr : Nat} {FX4_readUnit : Int32 → gz_S → Option (Int32 × gz_S)} (HX4_readUnit : ∀ (x1 : Int32) (g : gz_S) (r : Int32 × gz_S), FX4_readUnit x1 g = some r → gz_K La hr mX4_readUnit [.ref 3, .int x1] g (gz_Fi r)) (hB : 100 ≤ hr)  {k79 : Int32 → Int32 → Int32 → Int32 → gz_S → Option (Int32 × gz_S)}  (hk79 : ∀ (x1 : Int32) (x2 : Int32) (x3 : Int32) (x4 : Int32) (g : gz_S) (r : Int32 × gz_S), k79 x1 x2 x3 x4 g = some r → gz_J La (hr + 1) mX4_readCondition 79 [some (.ref 3), some (.int x1), some (.int x2), some (.int x3), some (.int x4), none] [] g (gz_Fi r)) : ∀ (n : Nat) (x1 : Int32) (x2 : Int32) (x3 : Int32) (x4 : Int32) (x5 : Int32) (g : gz_S) (r : Int32 × gz_S), fX4_readCondition_35 La FX4_readUnit  k79 n x1 x2 x3 x4 x5 g = some r → gz_J La (hr + 1) mX4_readCondition 35 [some (.ref 3), some (.int x1), some (.int x2), some (.int x3), some (.int x4), some (.int x5)] [] g (gz_Fi r) := by
  intro n
  induction n with
  | zero => intro x1 x2 x3 x4 x5 g r hf; exact nomatch (show (none : Option (Int32 × gz_S)) = some r from hf)
  | succ n ih =>
    intro x1 x2 x3 x4 x5 g r hf
    unfold fX4_readCondition_35 at hf
    refine sz_iload dX4_readCondition_35 rfl ?_
    refine sz_sipush dX4_readCondition_37 (cH240) ?_
    refine sz_icmp_ge 79 dX4_readCondition_40 (by decide) (fun c40 => ?_) (fun c40 => ?_)
    · have hf := gz_ip c40 hf
      refine sz_weak (l2 := [some (.ref 3), some (.int x1), some (.int x2), some (.int x3), some (.int x4), none]) (gz_subk (gz_subk (gz_subk (gz_subk (gz_subk (gz_subn gz_sub0)))))) ?_
      exact hk79 _ _ _ _ _ _ hf
    · have hf := gz_in1 c40 hf
      refine sz_iload dX4_readCondition_43 rfl ?_
      refine sz_if_eq 79 dX4_readCondition_45 (by decide) (fun c45 => ?_) (fun c45 => ?_)
      · have hf := gz_ip c45 hf
        refine sz_weak (l2 := [some (.ref 3), some (.int x1), some (.int x2), some (.int x3), some (.int x4), none]) (gz_subk (gz_subk (gz_subk (gz_subk (gz_subk (gz_subn gz_sub0)))))) ?_
        exact hk79 _ _ _ _ _ _ hf
      · have hf := gz_in1 c45 hf
        refine sz_aload_n dX4_readCondition_48 rfl ?_
        refine sz_getR dX4_readCondition_49 flX4_17 kd3 rfl rf3_0 ?_
        refine sz_bipush dX4_readCondition_52 (cB38) ?_
        obtain ⟨q54, eq54, hf⟩ := gz_bd hf
        refine sz_callVi [.int 38] [] dX4_readCondition_54 mvX4_78 (by omega) (by decide : 9 < 13) kd1 rfl (Nat.le_of_ble_eq_true rfl) (kX9_accept   eq54) ?_
        refine sz_if_eq 79 dX4_readCondition_57 (by decide) (fun c57 => ?_) (fun c57 => ?_)
        · have hf := gz_ip c57 hf
          refine sz_weak (l2 := [some (.ref 3), some (.int x1), some (.int x2), some (.int x3), some (.int x4), none]) (gz_subk (gz_subk (gz_subk (gz_subk (gz_subk (gz_subn gz_sub0)))))) ?_
          exact hk79 _ _ _ _ _ _ hf
        · have hf := gz_in1 c57 hf
          refine sz_aload_n dX4_readCondition_60 rfl ?_
          refine sz_iload_n dX4_readCondition_61 rfl ?_
          obtain ⟨q62, eq62, hf⟩ := gz_bd hf
          refine sz_callVi [.int x1] [] dX4_readCondition_62 mvX4_75 (by omega) (by decide : 4 < 13) kd3 rfl (Nat.le_of_ble_eq_true rfl) (HX4_readUnit _ _ _ eq62) ?_
          refine sz_istore dX4_readCondition_65 (Nat.le_of_ble_eq_true rfl) rfl ?_
          refine sz_ls (l2 := [some (.ref 3), some (.int x1), some (.int x2), some (.int x3), some (.int q62.1), some (.int x5)]) rfl ?_
          refine sz_aload_n dX4_readCondition_67 rfl ?_
          refine sz_bipush dX4_readCondition_68 (cBm18) ?_
          obtain ⟨q70, eq70, hf⟩ := gz_bd hf
          refine sz_callVv [.int (-18)] [] dX4_readCondition_70 mvX4_47 (by omega) (by decide : 4 < 13) kd3 rfl (Nat.le_of_ble_eq_true rfl) (kX4_put   eq70) ?_
          obtain ⟨y73, ey73, hf⟩ := gz_lt hf
          refine sz_iinc (v := y73) dX4_readCondition_73 rfl (by rw [ey73, cI1]) (Nat.le_of_ble_eq_true rfl) rfl ?_
          refine sz_ls (l2 := [some (.ref 3), some (.int x1), some (.int x2), some (.int x3), some (.int q62.1), some (.int y73)]) rfl ?_
          refine sz_goto 35 dX4_readCondition_76 (by decide) ?_
          exact ih _ _ _ _ _ _ _ hf
def fX4_readCondition_89 (La : gz_L) (FX4_readUnit : Int32 → gz_S → Option (Int32 × gz_S))  (k2 : Int32 → Int32 → Int32 → gz_S → Option (Int32 × gz_S)) (x1 : Int32) (x2 : Int32) (x3 : Int32) (x4 : Int32) (g : gz_S) : Option (Int32 × gz_S) := if x4 = 0 then if x4 = 0 ∨ x4 = 1 then some (x4, g) else none else (fX9_accept La  124 g).bind (fun q100 => if q100.1 = 0 then if x4 = 0 ∨ x4 = 1 then some (x4, q100.2) else none else gz_let (x3 + 1) (fun y109 => k2 x1 x2 y109 q100.2))
set_option maxRecDepth 100000 in
set_option maxHeartbeats 4000000 in
theorem tX4_readCondition_89 {La : gz_L} {hr : Nat} {FX4_readUnit : Int32 → gz_S → Option (Int32 × gz_S)} (HX4_readUnit : ∀ (x1 : Int32) (g : gz_S) (r : Int32 × gz_S), FX4_readUnit x1 g = some r → gz_K La hr mX4_readUnit [.ref 3, .int x1] g (gz_Fi r)) (hB : 100 ≤ hr)  {k2 : Int32 → Int32 → Int32 → gz_S → Option (Int32 × gz_S)}  (hk2 : ∀ (x1 : Int32) (x2 : Int32) (x3 : Int32) (g : gz_S) (r : Int32 × gz_S), k2 x1 x2 x3 g = some r → gz_J La (hr + 1) mX4_readCondition 2 [some (.ref 3), some (.int x1), some (.int x2), some (.int x3), none, none] [] g (gz_Fi r)) : ∀ (x1 : Int32) (x2 : Int32) (x3 : Int32) (x4 : Int32) (g : gz_S) (r : Int32 × gz_S), fX4_readCondition_89 La FX4_readUnit  k2 x1 x2 x3 x4 g = some r → gz_J La (hr + 1) mX4_readCondition 89 [some (.ref 3), some (.int x1), some (.int x2), some (.int x3), some (.int x4), none] [] g (gz_Fi r) := by
  intro x1 x2 x3 x4 g r hf
  unfold fX4_readCondition_89 at hf
  refine sz_iload dX4_readCondition_89 rfl ?_
  refine sz_if_eq 106 dX4_readCondition_91 (by decide) (fun c91 => ?_) (fun c91 => ?_)
  · have hf := gz_ip c91 hf
    refine sz_iload dX4_readCondition_106 rfl ?_
    obtain ⟨c108, hf⟩ := gz_gd hf
    cases hf
    exact sz_iret dX4_readCondition_108 rfl (gz_nbx c108) ⟨rfl, rfl⟩
  · have hf := gz_in1 c91 hf
    refine sz_aload_n dX4_readCondition_94 rfl ?_
    refine sz_getR dX4_readCondition_95 flX4_17 kd3 rfl rf3_0 ?_
    refine sz_bipush dX4_readCondition_98 (cB124) ?_
    obtain ⟨q100, eq100, hf⟩ := gz_bd hf
    refine sz_callVi [.int 124] [] dX4_readCondition_100 mvX4_78 (by omega) (by decide : 9 < 13) kd1 rfl (Nat.le_of_ble_eq_true rfl) (kX9_accept   eq100) ?_
    refine sz_if_ne 109 dX4_readCondition_103 (by decide) (fun c103 => ?_) (fun c103 => ?_)
    · have hf := gz_in1 c103 hf
      obtain ⟨y109, ey109, hf⟩ := gz_lt hf
      refine sz_iinc (v := y109) dX4_readCondition_109 rfl (by rw [ey109, cI1]) (Nat.le_of_ble_eq_true rfl) rfl ?_
      refine sz_ls (l2 := [some (.ref 3), some (.int x1), some (.int x2), some (.int y109), some (.int x4), none]) rfl ?_
      refine sz_goto 2 dX4_readCondition_112 (by decide) ?_
      refine sz_weak (l2 := [some (.ref 3), some (.int x1), some (.int x2), some (.int y109), none, none]) (gz_subk (gz_subk (gz_subk (gz_subk (gz_subn (gz_subk gz_sub0)))))) ?_
      exact hk2 _ _ _ _ _ hf
    · have hf := gz_ip c103 hf
      refine sz_iload dX4_readCondition_106 rfl ?_
      obtain ⟨c108, hf⟩ := gz_gd hf
      cases hf
      exact sz_iret dX4_readCondition_108 rfl (gz_nbx c108) ⟨rfl, rfl⟩
def fX4_readCondition_79 (La : gz_L) (FX4_readUnit : Int32 → gz_S → Option (Int32 × gz_S))  (k2 : Int32 → Int32 → Int32 → gz_S → Option (Int32 × gz_S)) (x1 : Int32) (x2 : Int32) (x3 : Int32) (x4 : Int32) (g : gz_S) : Option (Int32 × gz_S) := if x3 ≤ 0 then fX4_readCondition_89 La FX4_readUnit  k2  x1 x2 x3 x4 g else (fX4_put La  (-19) g).bind (fun q86 => fX4_readCondition_89 La FX4_readUnit  k2  x1 x2 x3 x4 q86)
set_option maxRecDepth 100000 in
set_option maxHeartbeats 4000000 in
theorem tX4_readCondition_79 {La : gz_L} {hr : Nat} {FX4_readUnit : Int32 → gz_S → Option (Int32 × gz_S)} (HX4_readUnit : ∀ (x1 : Int32) (g : gz_S) (r : Int32 × gz_S), FX4_readUnit x1 g = some r → gz_K La hr mX4_readUnit [.ref 3, .int x1] g (gz_Fi r)) (hB : 100 ≤ hr)  {k2 : Int32 → Int32 → Int32 → gz_S → Option (Int32 × gz_S)}  (hk2 : ∀ (x1 : Int32) (x2 : Int32) (x3 : Int32) (g : gz_S) (r : Int32 × gz_S), k2 x1 x2 x3 g = some r → gz_J La (hr + 1) mX4_readCondition 2 [some (.ref 3), some (.int x1), some (.int x2), some (.int x3), none, none] [] g (gz_Fi r)) : ∀ (x1 : Int32) (x2 : Int32) (x3 : Int32) (x4 : Int32) (g : gz_S) (r : Int32 × gz_S), fX4_readCondition_79 La FX4_readUnit  k2 x1 x2 x3 x4 g = some r → gz_J La (hr + 1) mX4_readCondition 79 [some (.ref 3), some (.int x1), some (.int x2), some (.int x3), some (.int x4), none] [] g (gz_Fi r) := by
  intro x1 x2 x3 x4 g r hf
  unfold fX4_readCondition_79 at hf
  refine sz_iload_n dX4_readCondition_79 rfl ?_
  refine sz_if_le 89 dX4_readCondition_80 (by decide) (fun c80 => ?_) (fun c80 => ?_)
  · have hf := gz_ip c80 hf
    exact tX4_readCondition_89 HX4_readUnit hB  hk2 _ _ _ _ _ _ hf
  · have hf := gz_in1 c80 hf
    refine sz_aload_n dX4_readCondition_83 rfl ?_
    refine sz_bipush dX4_readCondition_84 (cBm19) ?_
    obtain ⟨q86, eq86, hf⟩ := gz_bd hf
    refine sz_callVv [.int (-19)] [] dX4_readCondition_86 mvX4_47 (by omega) (by decide : 4 < 13) kd3 rfl (Nat.le_of_ble_eq_true rfl) (kX4_put   eq86) ?_
    exact tX4_readCondition_89 HX4_readUnit hB  hk2 _ _ _ _ _ _ hf
def fX4_readCondition_30 (La : gz_L) (FX4_readUnit : Int32 → gz_S → Option (Int32 × gz_S))  (k2 : Int32 → Int32 → Int32 → gz_S → Option (Int32 × gz_S)) (x1 : Int32) (x2 : Int32) (x3 : Int32) (s0 : Int32) (g : gz_S) : Option (Int32 × gz_S) := fX4_readCondition_35 La FX4_readUnit  (fX4_readCondition_79 La FX4_readUnit  k2 ) gz_FU x1 x2 x3 s0 0 g
set_option maxRecDepth 100000 in
set_option maxHeartbeats 4000000 in
theorem tX4_readCondition_30 {La : gz_L} {hr : Nat} {FX4_readUnit : Int32 → gz_S → Option (Int32 × gz_S)} (HX4_readUnit : ∀ (x1 : Int32) (g : gz_S) (r : Int32 × gz_S), FX4_readUnit x1 g = some r → gz_K La hr mX4_readUnit [.ref 3, .int x1] g (gz_Fi r)) (hB : 100 ≤ hr)  {k2 : Int32 → Int32 → Int32 → gz_S → Option (Int32 × gz_S)}  (hk2 : ∀ (x1 : Int32) (x2 : Int32) (x3 : Int32) (g : gz_S) (r : Int32 × gz_S), k2 x1 x2 x3 g = some r → gz_J La (hr + 1) mX4_readCondition 2 [some (.ref 3), some (.int x1), some (.int x2), some (.int x3), none, none] [] g (gz_Fi r)) : ∀ (x1 : Int32) (x2 : Int32) (x3 : Int32) (s0 : Int32) (g : gz_S) (r : Int32 × gz_S), fX4_readCondition_30 La FX4_readUnit  k2 x1 x2 x3 s0 g = some r → gz_J La (hr + 1) mX4_readCondition 30 [some (.ref 3), some (.int x1), some (.int x2), some (.int x3), none, none] [.int s0] g (gz_Fi r) := by
  intro x1 x2 x3 s0 g r hf
  unfold fX4_readCondition_30 at hf
  refine sz_istore dX4_readCondition_30 (Nat.le_of_ble_eq_true rfl) rfl ?_
  refine sz_ls (l2 := [some (.ref 3), some (.int x1), some (.int x2), some (.int x3), some (.int s0), none]) rfl ?_
  refine sz_iconst dX4_readCondition_32 (cI0) ?_
  refine sz_istore dX4_readCondition_33 (Nat.le_of_ble_eq_true rfl) rfl ?_
  refine sz_ls (l2 := [some (.ref 3), some (.int x1), some (.int x2), some (.int x3), some (.int s0), some (.int 0)]) rfl ?_
  exact tX4_readCondition_35 HX4_readUnit hB  (tX4_readCondition_79 HX4_readUnit hB  hk2) _ _ _ _ _ _ _ _ hf
def fX4_readCondition_25 (La : gz_L) (FX4_readUnit : Int32 → gz_S → Option (Int32 × gz_S))  (k2 : Int32 → Int32 → Int32 → gz_S → Option (Int32 × gz_S)) (x1 : Int32) (x2 : Int32) (x3 : Int32) (g : gz_S) : Option (Int32 × gz_S) := (FX4_readUnit x1 g).bind (fun q27 => fX4_readCondition_30 La FX4_readUnit  k2  x1 x2 x3 q27.1 q27.2)
set_option maxRecDepth 100000 in
set_option maxHeartbeats 4000000 in
theorem tX4_readCondition_25 {La : gz_L} {hr : Nat} {FX4_readUnit : Int32 → gz_S → Option (Int32 × gz_S)} (HX4_readUnit : ∀ (x1 : Int32) (g : gz_S) (r : Int32 × gz_S), FX4_readUnit x1 g = some r → gz_K La hr mX4_readUnit [.ref 3, .int x1] g (gz_Fi r)) (hB : 100 ≤ hr)  {k2 : Int32 → Int32 → Int32 → gz_S → Option (Int32 × gz_S)}  (hk2 : ∀ (x1 : Int32) (x2 : Int32) (x3 : Int32) (g : gz_S) (r : Int32 × gz_S), k2 x1 x2 x3 g = some r → gz_J La (hr + 1) mX4_readCondition 2 [some (.ref 3), some (.int x1), some (.int x2), some (.int x3), none, none] [] g (gz_Fi r)) : ∀ (x1 : Int32) (x2 : Int32) (x3 : Int32) (g : gz_S) (r : Int32 × gz_S), fX4_readCondition_25 La FX4_readUnit  k2 x1 x2 x3 g = some r → gz_J La (hr + 1) mX4_readCondition 25 [some (.ref 3), some (.int x1), some (.int x2), some (.int x3), none, none] [] g (gz_Fi r) := by
  intro x1 x2 x3 g r hf
  unfold fX4_readCondition_25 at hf
  refine sz_aload_n dX4_readCondition_25 rfl ?_
  refine sz_iload_n dX4_readCondition_26 rfl ?_
  obtain ⟨q27, eq27, hf⟩ := gz_bd hf
  refine sz_callVi [.int x1] [] dX4_readCondition_27 mvX4_75 (by omega) (by decide : 4 < 13) kd3 rfl (Nat.le_of_ble_eq_true rfl) (HX4_readUnit _ _ _ eq27) ?_
  exact tX4_readCondition_30 HX4_readUnit hB  hk2 _ _ _ _ _ _ hf
def fX4_readCondition_2 (La : gz_L) (FX4_readUnit : Int32 → gz_S → Option (Int32 × gz_S))  (k115 : gz_S → Option (Int32 × gz_S)) : Nat → Int32 → Int32 → Int32 → gz_S → Option (Int32 × gz_S)
  | 0, _, _, _, _ => none
  | n + 1, x1, x2, x3, g => if 240 ≤ x3 then k115  g else if x3 = 0 then if x2 = 0 then fX4_readCondition_25 La FX4_readUnit  (fX4_readCondition_2 La FX4_readUnit  k115 n)  x1 x2 x3 g else (fX4_readCompared La  x1 g).bind (fun q19 => fX4_readCondition_30 La FX4_readUnit  (fX4_readCondition_2 La FX4_readUnit  k115 n)  x1 x2 x3 q19.1 q19.2) else fX4_readCondition_25 La FX4_readUnit  (fX4_readCondition_2 La FX4_readUnit  k115 n)  x1 x2 x3 g
set_option maxRecDepth 100000 in
set_option maxHeartbeats 4000000 in
theorem tX4_readCondition_2 {La : gz_L} {hr : Nat} {FX4_readUnit : Int32 → gz_S → Option (Int32 × gz_S)} (HX4_readUnit : ∀ (x1 : Int32) (g : gz_S) (r : Int32 × gz_S), FX4_readUnit x1 g = some r → gz_K La hr mX4_readUnit [.ref 3, .int x1] g (gz_Fi r)) (hB : 100 ≤ hr)  {k115 : gz_S → Option (Int32 × gz_S)}  (hk115 : ∀  (g : gz_S) (r : Int32 × gz_S), k115  g = some r → gz_J La (hr + 1) mX4_readCondition 115 [some (.ref 3), none, none, none, none, none] [] g (gz_Fi r)) : ∀ (n : Nat) (x1 : Int32) (x2 : Int32) (x3 : Int32) (g : gz_S) (r : Int32 × gz_S), fX4_readCondition_2 La FX4_readUnit  k115 n x1 x2 x3 g = some r → gz_J La (hr + 1) mX4_readCondition 2 [some (.ref 3), some (.int x1), some (.int x2), some (.int x3), none, none] [] g (gz_Fi r) := by
  intro n
  induction n with
  | zero => intro x1 x2 x3 g r hf; exact nomatch (show (none : Option (Int32 × gz_S)) = some r from hf)
  | succ n ih =>
    intro x1 x2 x3 g r hf
    unfold fX4_readCondition_2 at hf
    refine sz_iload_n dX4_readCondition_2 rfl ?_
    refine sz_sipush dX4_readCondition_3 (cH240) ?_
    refine sz_icmp_ge 115 dX4_readCondition_6 (by decide) (fun c6 => ?_) (fun c6 => ?_)
    · have hf := gz_ip c6 hf
      refine sz_weak (l2 := [some (.ref 3), none, none, none, none, none]) (gz_subk (gz_subn (gz_subn (gz_subn (gz_subk (gz_subk gz_sub0)))))) ?_
      exact hk115  _ _ hf
    · have hf := gz_in1 c6 hf
      refine sz_iload_n dX4_readCondition_9 rfl ?_
      refine sz_if_ne 25 dX4_readCondition_10 (by decide) (fun c10 => ?_) (fun c10 => ?_)
      · have hf := gz_in1 c10 hf
        exact tX4_readCondition_25 HX4_readUnit hB  ih _ _ _ _ _ hf
      · have hf := gz_ip c10 hf
        refine sz_iload_n dX4_readCondition_13 rfl ?_
        refine sz_if_eq 25 dX4_readCondition_14 (by decide) (fun c14 => ?_) (fun c14 => ?_)
        · have hf := gz_ip c14 hf
          exact tX4_readCondition_25 HX4_readUnit hB  ih _ _ _ _ _ hf
        · have hf := gz_in1 c14 hf
          refine sz_aload_n dX4_readCondition_17 rfl ?_
          refine sz_iload_n dX4_readCondition_18 rfl ?_
          obtain ⟨q19, eq19, hf⟩ := gz_bd hf
          refine sz_callVi [.int x1] [] dX4_readCondition_19 mvX4_72 (by omega) (by decide : 4 < 13) kd3 rfl (Nat.le_of_ble_eq_true rfl) (kX4_readCompared   eq19) ?_
          refine sz_goto 30 dX4_readCondition_22 (by decide) ?_
          exact tX4_readCondition_30 HX4_readUnit hB  ih _ _ _ _ _ _ hf
def fX4_readCondition (La : gz_L) (FX4_readUnit : Int32 → gz_S → Option (Int32 × gz_S)) (x1 : Int32) (x2 : Int32) (g : gz_S) : Option (Int32 × gz_S) :=
  fX4_readCondition_2 La FX4_readUnit  (fun  g => (fX9_refuse La  (g.1 1 2) g).bind (fun q126 => if q126.1 = 0 ∨ q126.1 = 1 then some (q126.1, q126.2) else none)) gz_FU x1 x2 0 g
set_option maxRecDepth 100000 in
set_option maxHeartbeats 4000000 in
theorem kX4_readCondition {La : gz_L} {hr : Nat} {FX4_readUnit : Int32 → gz_S → Option (Int32 × gz_S)} (HX4_readUnit : ∀ (x1 : Int32) (g : gz_S) (r : Int32 × gz_S), FX4_readUnit x1 g = some r → gz_K La hr mX4_readUnit [.ref 3, .int x1] g (gz_Fi r)) (hB : 100 ≤ hr) {x1 : Int32} {x2 : Int32} {g : gz_S} {r : Int32 × gz_S}  (hf : fX4_readCondition La FX4_readUnit x1 x2 g = some r) : gz_K La (hr + 1) mX4_readCondition [.ref 3, .int x1, .int x2] g (gz_Fi r) := by
  unfold fX4_readCondition at hf
  refine gz_K.of 3 (by decide +kernel) rfl ?_
  show gz_J La (hr + 1) mX4_readCondition 0 [some (.ref 3), some (.int x1), some (.int x2), none, none, none] [] g (gz_Fi r)
  refine sz_iconst dX4_readCondition_0 (cI0) ?_
  refine sz_istore_n dX4_readCondition_1 rfl (Nat.le_of_ble_eq_true rfl) rfl ?_
  refine sz_ls (l2 := [some (.ref 3), some (.int x1), some (.int x2), some (.int 0), none, none]) rfl ?_
  have hk115 : ∀  (g : gz_S) (r : Int32 × gz_S), (fun  g => (fX9_refuse La  (g.1 1 2) g).bind (fun q126 => if q126.1 = 0 ∨ q126.1 = 1 then some (q126.1, q126.2) else none))  g = some r → gz_J La (hr + 1) mX4_readCondition 115 [some (.ref 3), none, none, none, none, none] [] g (gz_Fi r) := by
    intro  g r hf
    refine sz_aload_n dX4_readCondition_115 rfl ?_
    refine sz_getR dX4_readCondition_116 flX4_17 kd3 rfl rf3_0 ?_
    refine sz_aload_n dX4_readCondition_119 rfl ?_
    refine sz_getR dX4_readCondition_120 flX4_17 kd3 rfl rf3_0 ?_
    refine sz_getI dX4_readCondition_123 flX4_55 kd1 rfl ?_
    obtain ⟨q126, eq126, hf⟩ := gz_bd hf
    refine sz_callVi [.int (g.1 1 2)] [] dX4_readCondition_126 mvX4_58 (by omega) (by decide : 9 < 13) kd1 rfl (Nat.le_of_ble_eq_true rfl) (kX9_refuse   eq126) ?_
    obtain ⟨c129, hf⟩ := gz_gd hf
    cases hf
    exact sz_iret dX4_readCondition_129 rfl (gz_nbx c129) ⟨rfl, rfl⟩
  exact tX4_readCondition_2 HX4_readUnit hB  hk115 _ _ _ _ _ _ hf
def fX4_readUnit_42 (La : gz_L) (FX4_readUnit : Int32 → gz_S → Option (Int32 × gz_S))   (x1 : Int32) (x2 : Int32) (g : gz_S) : Option (Int32 × gz_S) := if x1 < 6 then gz_let (gz_wi g 1 2 ((g.1 1 2) + 1)) (fun g73 => if x2 = 40 then (fX4_readCondition La FX4_readUnit (x1 + 1) 0 g73).bind (fun q87 => if q87.1 = 0 then some (0, q87.2) else (fX9_expect La  41 q87.2).bind (fun q99 => if q99.1 = 0 then some (0, q99.2) else some (1, q99.2))) else (FX4_readUnit (x1 + 1) g73).bind (fun q115 => (fX4_put La  (-20) q115.2).bind (fun q122 => if q115.1 = 0 ∨ q115.1 = 1 then some (q115.1, q122) else none))) else (fX9_refuse La  (g.1 1 2) g).bind (fun q59 => if q59.1 = 0 ∨ q59.1 = 1 then some (q59.1, q59.2) else none)
set_option maxRecDepth 100000 in
set_option maxHeartbeats 4000000 in
theorem tX4_readUnit_42 {La : gz_L} {hr : Nat} {FX4_readUnit : Int32 → gz_S → Option (Int32 × gz_S)} (HX4_readUnit : ∀ (x1 : Int32) (g : gz_S) (r : Int32 × gz_S), FX4_readUnit x1 g = some r → gz_K La hr mX4_readUnit [.ref 3, .int x1] g (gz_Fi r)) (hB : 100 ≤ hr)     : ∀ (x1 : Int32) (x2 : Int32) (g : gz_S) (r : Int32 × gz_S), fX4_readUnit_42 La FX4_readUnit   x1 x2 g = some r → gz_J La (hr + 2) mX4_readUnit 42 [some (.ref 3), some (.int x1), some (.int x2), none] [] g (gz_Fi r) := by
  intro x1 x2 g r hf
  unfold fX4_readUnit_42 at hf
  refine sz_iload_n dX4_readUnit_42 rfl ?_
  refine sz_bipush dX4_readUnit_43 (cB6) ?_
  refine sz_icmp_lt 63 dX4_readUnit_45 (by decide) (fun c45 => ?_) (fun c45 => ?_)
  · have hf := gz_ip c45 hf
    refine sz_aload_n dX4_readUnit_63 rfl ?_
    refine sz_getR dX4_readUnit_64 flX4_17 kd3 rfl rf3_0 ?_
    refine sz_dup dX4_readUnit_67 rfl ?_
    refine sz_getI dX4_readUnit_68 flX4_55 kd1 rfl ?_
    refine sz_iconst dX4_readUnit_71 (cI1) ?_
    refine sz_iadd dX4_readUnit_72 ?_
    obtain ⟨g73, eg73, hf⟩ := gz_lt hf
    refine sz_putI2 dX4_readUnit_73 flX4_55 kd1 fi9_2 eg73 ?_
    refine sz_iload_n dX4_readUnit_76 rfl ?_
    refine sz_bipush dX4_readUnit_77 (cB40) ?_
    refine sz_icmp_ne 111 dX4_readUnit_79 (by decide) (fun c79 => ?_) (fun c79 => ?_)
    · have hf := gz_in1 c79 hf
      refine sz_aload_n dX4_readUnit_111 rfl ?_
      refine sz_iload_n dX4_readUnit_112 rfl ?_
      refine sz_iconst dX4_readUnit_113 (cI1) ?_
      refine sz_iadd dX4_readUnit_114 ?_
      obtain ⟨q115, eq115, hf⟩ := gz_bd hf
      refine sz_callVi [.int (x1 + 1)] [] dX4_readUnit_115 mvX4_75 (by omega) (by decide : 4 < 13) kd3 rfl (Nat.le_of_ble_eq_true rfl) (HX4_readUnit _ _ _ eq115) ?_
      refine sz_istore_n dX4_readUnit_118 rfl (Nat.le_of_ble_eq_true rfl) rfl ?_
      refine sz_ls (l2 := [some (.ref 3), some (.int x1), some (.int x2), some (.int q115.1)]) rfl ?_
      refine sz_aload_n dX4_readUnit_119 rfl ?_
      refine sz_bipush dX4_readUnit_120 (cBm20) ?_
      obtain ⟨q122, eq122, hf⟩ := gz_bd hf
      refine sz_callVv [.int (-20)] [] dX4_readUnit_122 mvX4_47 (by omega) (by decide : 4 < 13) kd3 rfl (Nat.le_of_ble_eq_true rfl) (kX4_put   eq122) ?_
      refine sz_iload_n dX4_readUnit_125 rfl ?_
      obtain ⟨c126, hf⟩ := gz_gd hf
      cases hf
      exact sz_iret dX4_readUnit_126 rfl (gz_nbx c126) ⟨rfl, rfl⟩
    · have hf := gz_ip c79 hf
      refine sz_aload_n dX4_readUnit_82 rfl ?_
      refine sz_iload_n dX4_readUnit_83 rfl ?_
      refine sz_iconst dX4_readUnit_84 (cI1) ?_
      refine sz_iadd dX4_readUnit_85 ?_
      refine sz_iconst dX4_readUnit_86 (cI0) ?_
      obtain ⟨q87, eq87, hf⟩ := gz_bd hf
      refine sz_callVi [.int (x1 + 1), .int 0] [] dX4_readUnit_87 mvX4_68 (by omega) (by decide : 4 < 13) kd3 rfl (Nat.le_of_ble_eq_true rfl) (kX4_readCondition HX4_readUnit hB  eq87) ?_
      refine sz_if_eq 109 dX4_readUnit_90 (by decide) (fun c90 => ?_) (fun c90 => ?_)
      · have hf := gz_ip c90 hf
        refine sz_iconst dX4_readUnit_109 (cI0) ?_
        cases hf
        exact sz_iret dX4_readUnit_110 rfl rfl ⟨rfl, rfl⟩
      · have hf := gz_in1 c90 hf
        refine sz_aload_n dX4_readUnit_93 rfl ?_
        refine sz_getR dX4_readUnit_94 flX4_17 kd3 rfl rf3_0 ?_
        refine sz_bipush dX4_readUnit_97 (cB41) ?_
        obtain ⟨q99, eq99, hf⟩ := gz_bd hf
        refine sz_callVi [.int 41] [] dX4_readUnit_99 mvX4_39 (by omega) (by decide : 9 < 13) kd1 rfl (Nat.le_of_ble_eq_true rfl) (kX9_expect   eq99) ?_
        refine sz_if_eq 109 dX4_readUnit_102 (by decide) (fun c102 => ?_) (fun c102 => ?_)
        · have hf := gz_ip c102 hf
          refine sz_iconst dX4_readUnit_109 (cI0) ?_
          cases hf
          exact sz_iret dX4_readUnit_110 rfl rfl ⟨rfl, rfl⟩
        · have hf := gz_in1 c102 hf
          refine sz_iconst dX4_readUnit_105 (cI1) ?_
          refine sz_goto 110 dX4_readUnit_106 (by decide) ?_
          cases hf
          exact sz_iret dX4_readUnit_110 rfl rfl ⟨rfl, rfl⟩
  · have hf := gz_in1 c45 hf
    refine sz_aload_n dX4_readUnit_48 rfl ?_
    refine sz_getR dX4_readUnit_49 flX4_17 kd3 rfl rf3_0 ?_
    refine sz_aload_n dX4_readUnit_52 rfl ?_
    refine sz_getR dX4_readUnit_53 flX4_17 kd3 rfl rf3_0 ?_
    refine sz_getI dX4_readUnit_56 flX4_55 kd1 rfl ?_
    obtain ⟨q59, eq59, hf⟩ := gz_bd hf
    refine sz_callVi [.int (g.1 1 2)] [] dX4_readUnit_59 mvX4_58 (by omega) (by decide : 9 < 13) kd1 rfl (Nat.le_of_ble_eq_true rfl) (kX9_refuse   eq59) ?_
    obtain ⟨c62, hf⟩ := gz_gd hf
    cases hf
    exact sz_iret dX4_readUnit_62 rfl (gz_nbx c62) ⟨rfl, rfl⟩
def fX4_readUnit (La : gz_L) (FX4_readUnit : Int32 → gz_S → Option (Int32 × gz_S)) (x1 : Int32) (g : gz_S) : Option (Int32 × gz_S) :=
  (fX9_next La   g).bind (fun q4 => if q4.1 = 33 then fX4_readUnit_42 La FX4_readUnit    x1 q4.1 q4.2 else if q4.1 = 40 then fX4_readUnit_42 La FX4_readUnit    x1 q4.1 q4.2 else (fX4_readSumT La x1 q4.2).bind (fun q22 => if q22.1 = 0 then some (0, q22.2) else (fX4_readCompared La  x1 q22.2).bind (fun q30 => if q30.1 = 0 then some (0, q30.2) else some (1, q30.2))))
set_option maxRecDepth 100000 in
set_option maxHeartbeats 4000000 in
theorem kX4_readUnit {La : gz_L} {hr : Nat} {FX4_readUnit : Int32 → gz_S → Option (Int32 × gz_S)} (HX4_readUnit : ∀ (x1 : Int32) (g : gz_S) (r : Int32 × gz_S), FX4_readUnit x1 g = some r → gz_K La hr mX4_readUnit [.ref 3, .int x1] g (gz_Fi r)) (hB : 100 ≤ hr) {x1 : Int32} {g : gz_S} {r : Int32 × gz_S}  (hf : fX4_readUnit La FX4_readUnit x1 g = some r) : gz_K La (hr + 2) mX4_readUnit [.ref 3, .int x1] g (gz_Fi r) := by
  unfold fX4_readUnit at hf
  refine gz_K.of 2 (by decide +kernel) rfl ?_
  show gz_J La (hr + 2) mX4_readUnit 0 [some (.ref 3), some (.int x1), none, none] [] g (gz_Fi r)
  refine sz_aload_n dX4_readUnit_0 rfl ?_
  refine sz_getR dX4_readUnit_1 flX4_17 kd3 rfl rf3_0 ?_
  obtain ⟨q4, eq4, hf⟩ := gz_bd hf
  refine sz_callVi [] [] dX4_readUnit_4 mvX4_51 (by omega) (by decide : 9 < 13) kd1 rfl (Nat.le_of_ble_eq_true rfl) (kX9_next   eq4) ?_
  refine sz_istore_n dX4_readUnit_7 rfl (Nat.le_of_ble_eq_true rfl) rfl ?_
  refine sz_ls (l2 := [some (.ref 3), some (.int x1), some (.int q4.1), none]) rfl ?_
  refine sz_iload_n dX4_readUnit_8 rfl ?_
  refine sz_bipush dX4_readUnit_9 (cB33) ?_
  refine sz_icmp_eq 42 dX4_readUnit_11 (by decide) (fun c11 => ?_) (fun c11 => ?_)
  · have hf := gz_ip c11 hf
    exact tX4_readUnit_42 HX4_readUnit hB   _ _ _ _ hf
  · have hf := gz_in1 c11 hf
    refine sz_iload_n dX4_readUnit_14 rfl ?_
    refine sz_bipush dX4_readUnit_15 (cB40) ?_
    refine sz_icmp_eq 42 dX4_readUnit_17 (by decide) (fun c17 => ?_) (fun c17 => ?_)
    · have hf := gz_ip c17 hf
      exact tX4_readUnit_42 HX4_readUnit hB   _ _ _ _ hf
    · have hf := gz_in1 c17 hf
      refine sz_aload_n dX4_readUnit_20 rfl ?_
      refine sz_iload_n dX4_readUnit_21 rfl ?_
      obtain ⟨q22, eq22, hf⟩ := gz_bd hf
      refine sz_callVi [.int x1] [] dX4_readUnit_22 mvX4_61 (by omega) (by decide : 4 < 13) kd3 rfl (Nat.le_of_ble_eq_true rfl) (kX4_readSumT eq22) ?_
      refine sz_if_eq 40 dX4_readUnit_25 (by decide) (fun c25 => ?_) (fun c25 => ?_)
      · have hf := gz_ip c25 hf
        refine sz_iconst dX4_readUnit_40 (cI0) ?_
        cases hf
        exact sz_iret dX4_readUnit_41 rfl rfl ⟨rfl, rfl⟩
      · have hf := gz_in1 c25 hf
        refine sz_aload_n dX4_readUnit_28 rfl ?_
        refine sz_iload_n dX4_readUnit_29 rfl ?_
        obtain ⟨q30, eq30, hf⟩ := gz_bd hf
        refine sz_callVi [.int x1] [] dX4_readUnit_30 mvX4_72 (by omega) (by decide : 4 < 13) kd3 rfl (Nat.le_of_ble_eq_true rfl) (kX4_readCompared   eq30) ?_
        refine sz_if_eq 40 dX4_readUnit_33 (by decide) (fun c33 => ?_) (fun c33 => ?_)
        · have hf := gz_ip c33 hf
          refine sz_iconst dX4_readUnit_40 (cI0) ?_
          cases hf
          exact sz_iret dX4_readUnit_41 rfl rfl ⟨rfl, rfl⟩
        · have hf := gz_in1 c33 hf
          refine sz_iconst dX4_readUnit_36 (cI1) ?_
          refine sz_goto 41 dX4_readUnit_37 (by decide) ?_
          cases hf
          exact sz_iret dX4_readUnit_41 rfl rfl ⟨rfl, rfl⟩
def fX4_readUnitD (La : gz_L) : Nat → Int32 → gz_S → Option (Int32 × gz_S)
  | 0, _, _ => none
  | d + 1, x1, g => fX4_readUnit La (fX4_readUnitD La d) x1 g
theorem kX4_readUnitD {La : gz_L} : ∀ (d : Nat) (x1 : Int32) (g : gz_S) (r : Int32 × gz_S), fX4_readUnitD La d x1 g = some r → gz_K La (100 + 2 * d) mX4_readUnit [.ref 3, .int x1] g (gz_Fi r) := by
  intro d
  induction d with
  | zero => intro x1 g r hf; exact nomatch (show (none : Option (Int32 × gz_S)) = some r from hf)
  | succ d ih =>
    intro x1 g r hf
    have e : 100 + 2 * (d + 1) = (100 + 2 * d) + 2 := by omega
    rw [e]
    exact kX4_readUnit (hr := 100 + 2 * d) ih (Nat.le_add_right _ _) hf
def fX4_readUnitT (La : gz_L) (x1 : Int32) (g : gz_S) : Option (Int32 × gz_S) := fX4_readUnitD La 12 x1 g
theorem kX4_readUnitT {La : gz_L} {x1 : Int32} {g : gz_S} {r : Int32 × gz_S} (hf : fX4_readUnitT La x1 g = some r) : gz_K La 124 mX4_readUnit [.ref 3, .int x1] g (gz_Fi r) := kX4_readUnitD 12 x1 g r hf

def fX4_readClause_60 (La : gz_L)    (x2 : Int32) (g : gz_S) : Option (Int32 × gz_S) := (fX4_readCondition La (fX4_readUnitD La 12) 0 x2 g).bind (fun q63 => if q63.1 = 0 then some (0, q63.2) else (fX9_expect La  63 q63.2).bind (fun q75 => if q75.1 = 0 then some (0, q75.2) else (fX4_put La  (-21) q75.2).bind (fun q86 => (fX4_readSumT La 0 q86).bind (fun q91 => if q91.1 = 0 ∨ q91.1 = 1 then some (q91.1, q91.2) else none))))
set_option maxRecDepth 100000 in
set_option maxHeartbeats 4000000 in
theorem tX4_readClause_60 {La : gz_L}      : ∀ (x2 : Int32) (g : gz_S) (r : Int32 × gz_S), fX4_readClause_60 La    x2 g = some r → gz_J La 126 mX4_readClause 60 [some (.ref 3), none, some (.int x2)] [] g (gz_Fi r) := by
  intro x2 g r hf
  unfold fX4_readClause_60 at hf
  refine sz_aload_n dX4_readClause_60 rfl ?_
  refine sz_iconst dX4_readClause_61 (cI0) ?_
  refine sz_iload_n dX4_readClause_62 rfl ?_
  obtain ⟨q63, eq63, hf⟩ := gz_bd hf
  refine sz_callVi [.int 0, .int x2] [] dX4_readClause_63 mvX4_68 (Nat.le_of_ble_eq_true rfl) (by decide : 4 < 13) kd3 rfl (Nat.le_of_ble_eq_true rfl) (kX4_readCondition (kX4_readUnitD 12) (Nat.le_of_ble_eq_true rfl)  eq63) ?_
  refine sz_if_eq 81 dX4_readClause_66 (by decide) (fun c66 => ?_) (fun c66 => ?_)
  · have hf := gz_ip c66 hf
    refine sz_iconst dX4_readClause_81 (cI0) ?_
    cases hf
    exact sz_iret dX4_readClause_82 rfl rfl ⟨rfl, rfl⟩
  · have hf := gz_in1 c66 hf
    refine sz_aload_n dX4_readClause_69 rfl ?_
    refine sz_getR dX4_readClause_70 flX4_17 kd3 rfl rf3_0 ?_
    refine sz_bipush dX4_readClause_73 (cB63) ?_
    obtain ⟨q75, eq75, hf⟩ := gz_bd hf
    refine sz_callVi [.int 63] [] dX4_readClause_75 mvX4_39 (Nat.le_of_ble_eq_true rfl) (by decide : 9 < 13) kd1 rfl (Nat.le_of_ble_eq_true rfl) (kX9_expect   eq75) ?_
    refine sz_if_ne 83 dX4_readClause_78 (by decide) (fun c78 => ?_) (fun c78 => ?_)
    · have hf := gz_in1 c78 hf
      refine sz_aload_n dX4_readClause_83 rfl ?_
      refine sz_bipush dX4_readClause_84 (cBm21) ?_
      obtain ⟨q86, eq86, hf⟩ := gz_bd hf
      refine sz_callVv [.int (-21)] [] dX4_readClause_86 mvX4_47 (Nat.le_of_ble_eq_true rfl) (by decide : 4 < 13) kd3 rfl (Nat.le_of_ble_eq_true rfl) (kX4_put   eq86) ?_
      refine sz_aload_n dX4_readClause_89 rfl ?_
      refine sz_iconst dX4_readClause_90 (cI0) ?_
      obtain ⟨q91, eq91, hf⟩ := gz_bd hf
      refine sz_callVi [.int 0] [] dX4_readClause_91 mvX4_61 (Nat.le_of_ble_eq_true rfl) (by decide : 4 < 13) kd3 rfl (Nat.le_of_ble_eq_true rfl) (kX4_readSumT eq91) ?_
      obtain ⟨c94, hf⟩ := gz_gd hf
      cases hf
      exact sz_iret dX4_readClause_94 rfl (gz_nbx c94) ⟨rfl, rfl⟩
    · have hf := gz_ip c78 hf
      refine sz_iconst dX4_readClause_81 (cI0) ?_
      cases hf
      exact sz_iret dX4_readClause_82 rfl rfl ⟨rfl, rfl⟩
def fX4_readClause_40 (La : gz_L)    (x2 : Int32) (g : gz_S) : Option (Int32 × gz_S) := if x2 = 0 then fX4_readClause_60 La     x2 g else (fX9_next La   g).bind (fun q48 => (fX4_comparing La  q48.1 q48.2).bind (fun q51 => if q51.1 = (-1) then some (1, q51.2) else fX4_readClause_60 La     x2 q51.2))
set_option maxRecDepth 100000 in
set_option maxHeartbeats 4000000 in
theorem tX4_readClause_40 {La : gz_L}      : ∀ (x2 : Int32) (g : gz_S) (r : Int32 × gz_S), fX4_readClause_40 La    x2 g = some r → gz_J La 126 mX4_readClause 40 [some (.ref 3), none, some (.int x2)] [] g (gz_Fi r) := by
  intro x2 g r hf
  unfold fX4_readClause_40 at hf
  refine sz_iload_n dX4_readClause_40 rfl ?_
  refine sz_if_eq 60 dX4_readClause_41 (by decide) (fun c41 => ?_) (fun c41 => ?_)
  · have hf := gz_ip c41 hf
    exact tX4_readClause_60    _ _ _ hf
  · have hf := gz_in1 c41 hf
    refine sz_aload_n dX4_readClause_44 rfl ?_
    refine sz_getR dX4_readClause_45 flX4_17 kd3 rfl rf3_0 ?_
    obtain ⟨q48, eq48, hf⟩ := gz_bd hf
    refine sz_callVi [] [] dX4_readClause_48 mvX4_51 (Nat.le_of_ble_eq_true rfl) (by decide : 9 < 13) kd1 rfl (Nat.le_of_ble_eq_true rfl) (kX9_next   eq48) ?_
    obtain ⟨q51, eq51, hf⟩ := gz_bd hf
    refine sz_callSi [.int q48.1] [] dX4_readClause_51 msX4_64 (Nat.le_of_ble_eq_true rfl) (Nat.le_of_ble_eq_true rfl) (kX4_comparing   eq51) ?_
    refine sz_iconst dX4_readClause_54 (cIm1) ?_
    refine sz_icmp_ne 60 dX4_readClause_55 (by decide) (fun c55 => ?_) (fun c55 => ?_)
    · have hf := gz_in1 c55 hf
      exact tX4_readClause_60    _ _ _ hf
    · have hf := gz_ip c55 hf
      refine sz_iconst dX4_readClause_58 (cI1) ?_
      cases hf
      exact sz_iret dX4_readClause_59 rfl rfl ⟨rfl, rfl⟩
def fX4_readClause_25 (La : gz_L)    (s0 : Int32) (g : gz_S) : Option (Int32 × gz_S) := if s0 = 0 then fX4_readClause_40 La     s0 g else (fX4_readSumT La 0 g).bind (fun q32 => if q32.1 = 0 then some (0, q32.2) else fX4_readClause_40 La     s0 q32.2)
set_option maxRecDepth 100000 in
set_option maxHeartbeats 4000000 in
theorem tX4_readClause_25 {La : gz_L}      : ∀ (s0 : Int32) (g : gz_S) (r : Int32 × gz_S), fX4_readClause_25 La    s0 g = some r → gz_J La 126 mX4_readClause 25 [some (.ref 3), none, none] [.int s0] g (gz_Fi r) := by
  intro s0 g r hf
  unfold fX4_readClause_25 at hf
  refine sz_istore_n dX4_readClause_25 rfl (Nat.le_of_ble_eq_true rfl) rfl ?_
  refine sz_ls (l2 := [some (.ref 3), none, some (.int s0)]) rfl ?_
  refine sz_iload_n dX4_readClause_26 rfl ?_
  refine sz_if_eq 40 dX4_readClause_27 (by decide) (fun c27 => ?_) (fun c27 => ?_)
  · have hf := gz_ip c27 hf
    exact tX4_readClause_40    _ _ _ hf
  · have hf := gz_in1 c27 hf
    refine sz_aload_n dX4_readClause_30 rfl ?_
    refine sz_iconst dX4_readClause_31 (cI0) ?_
    obtain ⟨q32, eq32, hf⟩ := gz_bd hf
    refine sz_callVi [.int 0] [] dX4_readClause_32 mvX4_61 (Nat.le_of_ble_eq_true rfl) (by decide : 4 < 13) kd3 rfl (Nat.le_of_ble_eq_true rfl) (kX4_readSumT eq32) ?_
    refine sz_if_ne 40 dX4_readClause_35 (by decide) (fun c35 => ?_) (fun c35 => ?_)
    · have hf := gz_in1 c35 hf
      exact tX4_readClause_40    _ _ _ hf
    · have hf := gz_ip c35 hf
      refine sz_iconst dX4_readClause_38 (cI0) ?_
      cases hf
      exact sz_iret dX4_readClause_39 rfl rfl ⟨rfl, rfl⟩
def fX4_readClause_24 (La : gz_L)     (g : gz_S) : Option (Int32 × gz_S) := fX4_readClause_25 La     0 g
set_option maxRecDepth 100000 in
set_option maxHeartbeats 4000000 in
theorem tX4_readClause_24 {La : gz_L}      : ∀  (g : gz_S) (r : Int32 × gz_S), fX4_readClause_24 La     g = some r → gz_J La 126 mX4_readClause 24 [some (.ref 3), none, none] [] g (gz_Fi r) := by
  intro  g r hf
  unfold fX4_readClause_24 at hf
  refine sz_iconst dX4_readClause_24 (cI0) ?_
  exact tX4_readClause_25    _ _ _ hf
def fX4_readClause (La : gz_L)   (g : gz_S) : Option (Int32 × gz_S) :=
  (fX9_next La   g).bind (fun q4 => if q4.1 = 33 then fX4_readClause_24 La      q4.2 else if q4.1 = 40 then fX4_readClause_24 La      q4.2 else fX4_readClause_25 La     1 q4.2)
set_option maxRecDepth 100000 in
set_option maxHeartbeats 4000000 in
theorem kX4_readClause {La : gz_L}   {g : gz_S} {r : Int32 × gz_S}  (hf : fX4_readClause La   g = some r) : gz_K La 126 mX4_readClause [.ref 3] g (gz_Fi r) := by
  unfold fX4_readClause at hf
  refine gz_K.of 2 (by decide +kernel) rfl ?_
  show gz_J La 126 mX4_readClause 0 [some (.ref 3), none, none] [] g (gz_Fi r)
  refine sz_aload_n dX4_readClause_0 rfl ?_
  refine sz_getR dX4_readClause_1 flX4_17 kd3 rfl rf3_0 ?_
  obtain ⟨q4, eq4, hf⟩ := gz_bd hf
  refine sz_callVi [] [] dX4_readClause_4 mvX4_51 (Nat.le_of_ble_eq_true rfl) (by decide : 9 < 13) kd1 rfl (Nat.le_of_ble_eq_true rfl) (kX9_next   eq4) ?_
  refine sz_istore_n dX4_readClause_7 rfl (Nat.le_of_ble_eq_true rfl) rfl ?_
  refine sz_ls (l2 := [some (.ref 3), some (.int q4.1), none]) rfl ?_
  refine sz_iload_n dX4_readClause_8 rfl ?_
  refine sz_bipush dX4_readClause_9 (cB33) ?_
  refine sz_icmp_eq 24 dX4_readClause_11 (by decide) (fun c11 => ?_) (fun c11 => ?_)
  · have hf := gz_ip c11 hf
    refine sz_weak (l2 := [some (.ref 3), none, none]) (gz_subk (gz_subn (gz_subk gz_sub0))) ?_
    exact tX4_readClause_24     _ _ hf
  · have hf := gz_in1 c11 hf
    refine sz_iload_n dX4_readClause_14 rfl ?_
    refine sz_bipush dX4_readClause_15 (cB40) ?_
    refine sz_icmp_eq 24 dX4_readClause_17 (by decide) (fun c17 => ?_) (fun c17 => ?_)
    · have hf := gz_ip c17 hf
      refine sz_weak (l2 := [some (.ref 3), none, none]) (gz_subk (gz_subn (gz_subk gz_sub0))) ?_
      exact tX4_readClause_24     _ _ hf
    · have hf := gz_in1 c17 hf
      refine sz_iconst dX4_readClause_20 (cI1) ?_
      refine sz_goto 25 dX4_readClause_21 (by decide) ?_
      refine sz_weak (l2 := [some (.ref 3), none, none]) (gz_subk (gz_subn (gz_subk gz_sub0))) ?_
      exact tX4_readClause_25    _ _ _ hf
def fX4_readLaw_14 (La : gz_L)   (k93 : gz_S → Option (Int32 × gz_S)) : Nat → Int32 → gz_S → Option (Int32 × gz_S)
  | 0, _, _ => none
  | n + 1, x1, g => if 240 < x1 then k93  g else (fX9_expect La  121 g).bind (fun q27 => if q27.1 = 0 then some (0, q27.2) else (fX9_expect La  58 q27.2).bind (fun q39 => if q39.1 = 0 then some (0, q39.2) else (fX4_readClause La   q39.2).bind (fun q46 => if q46.1 = 0 then some (0, q46.2) else (fX4_put La  (-22) q46.2).bind (fun q57 => (fX9_next La   q57).bind (fun q64 => if q64.1 = (-1) then some (1, q64.2) else (fX9_expect La  59 q64.2).bind (fun q79 => if q79.1 = 0 then some (0, q79.2) else gz_let (x1 + 1) (fun y87 => fX4_readLaw_14 La   k93 n y87 q79.2)))))))
set_option maxRecDepth 100000 in
set_option maxHeartbeats 4000000 in
theorem tX4_readLaw_14 {La : gz_L}   {k93 : gz_S → Option (Int32 × gz_S)}  (hk93 : ∀  (g : gz_S) (r : Int32 × gz_S), k93  g = some r → gz_J La 127 mX4_readLaw 93 [some (.ref 3), none] [] g (gz_Fi r)) : ∀ (n : Nat) (x1 : Int32) (g : gz_S) (r : Int32 × gz_S), fX4_readLaw_14 La   k93 n x1 g = some r → gz_J La 127 mX4_readLaw 14 [some (.ref 3), some (.int x1)] [] g (gz_Fi r) := by
  intro n
  induction n with
  | zero => intro x1 g r hf; exact nomatch (show (none : Option (Int32 × gz_S)) = some r from hf)
  | succ n ih =>
    intro x1 g r hf
    unfold fX4_readLaw_14 at hf
    refine sz_iload_n dX4_readLaw_14 rfl ?_
    refine sz_sipush dX4_readLaw_15 (cH240) ?_
    refine sz_icmp_gt 93 dX4_readLaw_18 (by decide) (fun c18 => ?_) (fun c18 => ?_)
    · have hf := gz_ip c18 hf
      refine sz_weak (l2 := [some (.ref 3), none]) (gz_subk (gz_subn gz_sub0)) ?_
      exact hk93  _ _ hf
    · have hf := gz_in1 c18 hf
      refine sz_aload_n dX4_readLaw_21 rfl ?_
      refine sz_getR dX4_readLaw_22 flX4_17 kd3 rfl rf3_0 ?_
      refine sz_bipush dX4_readLaw_25 (cB121) ?_
      obtain ⟨q27, eq27, hf⟩ := gz_bd hf
      refine sz_callVi [.int 121] [] dX4_readLaw_27 mvX4_39 (Nat.le_of_ble_eq_true rfl) (by decide : 9 < 13) kd1 rfl (Nat.le_of_ble_eq_true rfl) (kX9_expect   eq27) ?_
      refine sz_if_eq 52 dX4_readLaw_30 (by decide) (fun c30 => ?_) (fun c30 => ?_)
      · have hf := gz_ip c30 hf
        refine sz_iconst dX4_readLaw_52 (cI0) ?_
        cases hf
        exact sz_iret dX4_readLaw_53 rfl rfl ⟨rfl, rfl⟩
      · have hf := gz_in1 c30 hf
        refine sz_aload_n dX4_readLaw_33 rfl ?_
        refine sz_getR dX4_readLaw_34 flX4_17 kd3 rfl rf3_0 ?_
        refine sz_bipush dX4_readLaw_37 (cB58) ?_
        obtain ⟨q39, eq39, hf⟩ := gz_bd hf
        refine sz_callVi [.int 58] [] dX4_readLaw_39 mvX4_39 (Nat.le_of_ble_eq_true rfl) (by decide : 9 < 13) kd1 rfl (Nat.le_of_ble_eq_true rfl) (kX9_expect   eq39) ?_
        refine sz_if_eq 52 dX4_readLaw_42 (by decide) (fun c42 => ?_) (fun c42 => ?_)
        · have hf := gz_ip c42 hf
          refine sz_iconst dX4_readLaw_52 (cI0) ?_
          cases hf
          exact sz_iret dX4_readLaw_53 rfl rfl ⟨rfl, rfl⟩
        · have hf := gz_in1 c42 hf
          refine sz_aload_n dX4_readLaw_45 rfl ?_
          obtain ⟨q46, eq46, hf⟩ := gz_bd hf
          refine sz_callVi [] [] dX4_readLaw_46 mvX4_43 (Nat.le_of_ble_eq_true rfl) (by decide : 4 < 13) kd3 rfl (Nat.le_of_ble_eq_true rfl) (kX4_readClause   eq46) ?_
          refine sz_if_ne 54 dX4_readLaw_49 (by decide) (fun c49 => ?_) (fun c49 => ?_)
          · have hf := gz_in1 c49 hf
            refine sz_aload_n dX4_readLaw_54 rfl ?_
            refine sz_bipush dX4_readLaw_55 (cBm22) ?_
            obtain ⟨q57, eq57, hf⟩ := gz_bd hf
            refine sz_callVv [.int (-22)] [] dX4_readLaw_57 mvX4_47 (Nat.le_of_ble_eq_true rfl) (by decide : 4 < 13) kd3 rfl (Nat.le_of_ble_eq_true rfl) (kX4_put   eq57) ?_
            refine sz_aload_n dX4_readLaw_60 rfl ?_
            refine sz_getR dX4_readLaw_61 flX4_17 kd3 rfl rf3_0 ?_
            obtain ⟨q64, eq64, hf⟩ := gz_bd hf
            refine sz_callVi [] [] dX4_readLaw_64 mvX4_51 (Nat.le_of_ble_eq_true rfl) (by decide : 9 < 13) kd1 rfl (Nat.le_of_ble_eq_true rfl) (kX9_next   eq64) ?_
            refine sz_iconst dX4_readLaw_67 (cIm1) ?_
            refine sz_icmp_ne 73 dX4_readLaw_68 (by decide) (fun c68 => ?_) (fun c68 => ?_)
            · have hf := gz_in1 c68 hf
              refine sz_aload_n dX4_readLaw_73 rfl ?_
              refine sz_getR dX4_readLaw_74 flX4_17 kd3 rfl rf3_0 ?_
              refine sz_bipush dX4_readLaw_77 (cB59) ?_
              obtain ⟨q79, eq79, hf⟩ := gz_bd hf
              refine sz_callVi [.int 59] [] dX4_readLaw_79 mvX4_39 (Nat.le_of_ble_eq_true rfl) (by decide : 9 < 13) kd1 rfl (Nat.le_of_ble_eq_true rfl) (kX9_expect   eq79) ?_
              refine sz_if_ne 87 dX4_readLaw_82 (by decide) (fun c82 => ?_) (fun c82 => ?_)
              · have hf := gz_in1 c82 hf
                obtain ⟨y87, ey87, hf⟩ := gz_lt hf
                refine sz_iinc (v := y87) dX4_readLaw_87 rfl (by rw [ey87, cI1]) (Nat.le_of_ble_eq_true rfl) rfl ?_
                refine sz_ls (l2 := [some (.ref 3), some (.int y87)]) rfl ?_
                refine sz_goto 14 dX4_readLaw_90 (by decide) ?_
                exact ih _ _ _ hf
              · have hf := gz_ip c82 hf
                refine sz_iconst dX4_readLaw_85 (cI0) ?_
                cases hf
                exact sz_iret dX4_readLaw_86 rfl rfl ⟨rfl, rfl⟩
            · have hf := gz_ip c68 hf
              refine sz_iconst dX4_readLaw_71 (cI1) ?_
              cases hf
              exact sz_iret dX4_readLaw_72 rfl rfl ⟨rfl, rfl⟩
          · have hf := gz_ip c49 hf
            refine sz_iconst dX4_readLaw_52 (cI0) ?_
            cases hf
            exact sz_iret dX4_readLaw_53 rfl rfl ⟨rfl, rfl⟩
def fX4_readLaw (La : gz_L)   (g : gz_S) : Option (Int32 × gz_S) :=
  (fX9_rewind La   g).bind (fun q4 => gz_let (gz_wi q4 3 2 0) (fun g9 => fX4_readLaw_14 La   (fun  g => (fX9_refuse La  (g.1 1 2) g).bind (fun q104 => if q104.1 = 0 ∨ q104.1 = 1 then some (q104.1, q104.2) else none)) gz_FU 0 g9))
set_option maxRecDepth 100000 in
set_option maxHeartbeats 4000000 in
theorem kX4_readLaw {La : gz_L}   {g : gz_S} {r : Int32 × gz_S}  (hf : fX4_readLaw La   g = some r) : gz_K La 127 mX4_readLaw [.ref 3] g (gz_Fi r) := by
  unfold fX4_readLaw at hf
  refine gz_K.of 1 (by decide +kernel) rfl ?_
  show gz_J La 127 mX4_readLaw 0 [some (.ref 3), none] [] g (gz_Fi r)
  refine sz_aload_n dX4_readLaw_0 rfl ?_
  refine sz_getR dX4_readLaw_1 flX4_17 kd3 rfl rf3_0 ?_
  obtain ⟨q4, eq4, hf⟩ := gz_bd hf
  refine sz_callVv [] [] dX4_readLaw_4 mvX4_36 (Nat.le_of_ble_eq_true rfl) (by decide : 9 < 13) kd1 rfl (Nat.le_of_ble_eq_true rfl) (kX9_rewind   eq4) ?_
  refine sz_aload_n dX4_readLaw_7 rfl ?_
  refine sz_iconst dX4_readLaw_8 (cI0) ?_
  obtain ⟨g9, eg9, hf⟩ := gz_lt hf
  refine sz_putI2 dX4_readLaw_9 flX4_23 kd3 fi4_2 eg9 ?_
  refine sz_iconst dX4_readLaw_12 (cI0) ?_
  refine sz_istore_n dX4_readLaw_13 rfl (Nat.le_of_ble_eq_true rfl) rfl ?_
  refine sz_ls (l2 := [some (.ref 3), some (.int 0)]) rfl ?_
  have hk93 : ∀  (g : gz_S) (r : Int32 × gz_S), (fun  g => (fX9_refuse La  (g.1 1 2) g).bind (fun q104 => if q104.1 = 0 ∨ q104.1 = 1 then some (q104.1, q104.2) else none))  g = some r → gz_J La 127 mX4_readLaw 93 [some (.ref 3), none] [] g (gz_Fi r) := by
    intro  g r hf
    refine sz_aload_n dX4_readLaw_93 rfl ?_
    refine sz_getR dX4_readLaw_94 flX4_17 kd3 rfl rf3_0 ?_
    refine sz_aload_n dX4_readLaw_97 rfl ?_
    refine sz_getR dX4_readLaw_98 flX4_17 kd3 rfl rf3_0 ?_
    refine sz_getI dX4_readLaw_101 flX4_55 kd1 rfl ?_
    obtain ⟨q104, eq104, hf⟩ := gz_bd hf
    refine sz_callVi [.int (g.1 1 2)] [] dX4_readLaw_104 mvX4_58 (Nat.le_of_ble_eq_true rfl) (by decide : 9 < 13) kd1 rfl (Nat.le_of_ble_eq_true rfl) (kX9_refuse   eq104) ?_
    obtain ⟨c107, hf⟩ := gz_gd hf
    cases hf
    exact sz_iret dX4_readLaw_107 rfl (gz_nbx c107) ⟨rfl, rfl⟩
  exact tX4_readLaw_14   hk93 _ _ _ _ hf
def fX7_clear_40 (La : gz_L)    : Nat → Int32 → gz_S → Option (gz_S)
  | 0, _, _ => none
  | n + 1, x1, g => if 4 ≤ x1 then some g else if gz_ok ((x1 * 4) + 3) 16 then if gz_ok x1 4 then gz_let (gz_wi g 15 (Int32.toNatClampNeg x1) (gz_t0 (Int32.toNatClampNeg ((x1 * 4) + 3)))) (fun g59 => gz_let (x1 + 1) (fun y60 => fX7_clear_40 La    n y60 g59)) else none else none
set_option maxRecDepth 100000 in
set_option maxHeartbeats 4000000 in
theorem tX7_clear_40 {La : gz_L}      : ∀ (n : Nat) (x1 : Int32) (g : gz_S) (r : gz_S), fX7_clear_40 La    n x1 g = some r → gz_J La 2 mX7_clear 40 [some (.ref 2), some (.int x1)] [] g (gz_Fv r) := by
  intro n
  induction n with
  | zero => intro x1 g r hf; exact nomatch (show (none : Option (gz_S)) = some r from hf)
  | succ n ih =>
    intro x1 g r hf
    unfold fX7_clear_40 at hf
    refine sz_iload_n dX7_clear_40 rfl ?_
    refine sz_iconst dX7_clear_41 (cI4) ?_
    refine sz_icmp_ge 66 dX7_clear_42 (by decide) (fun c42 => ?_) (fun c42 => ?_)
    · have hf := gz_ip c42 hf
      cases hf
      exact sz_ret dX7_clear_66 rfl ⟨rfl, rfl⟩
    · have hf := gz_in1 c42 hf
      refine sz_aload_n dX7_clear_45 rfl ?_
      refine sz_getR dX7_clear_46 flX7_11 kd2 rfl rf2_1 ?_
      refine sz_iload_n dX7_clear_49 rfl ?_
      refine sz_gs0 dX7_clear_50 gsX7_76 ?_
      refine sz_iload_n dX7_clear_53 rfl ?_
      refine sz_iconst dX7_clear_54 (cI4) ?_
      refine sz_imul dX7_clear_55 ?_
      refine sz_iconst dX7_clear_56 (cI3) ?_
      refine sz_iadd dX7_clear_57 ?_
      obtain ⟨c58, hf⟩ := gz_gd hf
      refine sz_tb0 dX7_clear_58 c58 ?_
      obtain ⟨c59, hf⟩ := gz_gd hf
      obtain ⟨g59, eg59, hf⟩ := gz_lt hf
      refine sz_iastL dX7_clear_59 kd15 c59 rfl eg59 ?_
      obtain ⟨y60, ey60, hf⟩ := gz_lt hf
      refine sz_iinc (v := y60) dX7_clear_60 rfl (by rw [ey60, cI1]) (Nat.le_of_ble_eq_true rfl) rfl ?_
      refine sz_ls (l2 := [some (.ref 2), some (.int y60)]) rfl ?_
      refine sz_goto 40 dX7_clear_63 (by decide) ?_
      exact ih _ _ _ hf
def fX7_clear (La : gz_L)   (g : gz_S) : Option (gz_S) :=
  (fX9_rewind La   g).bind (fun q4 => gz_let (gz_wi q4 2 5 0) (fun g9 => gz_let (gz_wi g9 2 6 0) (fun g14 => gz_let (gz_wi g14 2 7 0) (fun g19 => (fJ7_fill_53178 La  17 0 g19).bind (fun q27 => (fJ7_fill_53178 La  18 0 q27).bind (fun q35 => fX7_clear_40 La    gz_FU 0 q35))))))
set_option maxRecDepth 100000 in
set_option maxHeartbeats 4000000 in
theorem kX7_clear {La : gz_L}   {g : gz_S} {r : gz_S}  (hf : fX7_clear La   g = some r) : gz_K La 2 mX7_clear [.ref 2] g (gz_Fv r) := by
  unfold fX7_clear at hf
  refine gz_K.of 1 (by decide +kernel) rfl ?_
  show gz_J La 2 mX7_clear 0 [some (.ref 2), none] [] g (gz_Fv r)
  refine sz_aload_n dX7_clear_0 rfl ?_
  refine sz_getR dX7_clear_1 flX7_24 kd2 rfl rf2_0 ?_
  obtain ⟨q4, eq4, hf⟩ := gz_bd hf
  refine sz_callVv [] [] dX7_clear_4 mvX7_55 (Nat.le_of_ble_eq_true rfl) (by decide : 9 < 13) kd1 rfl (Nat.le_of_ble_eq_true rfl) (kX9_rewind   eq4) ?_
  refine sz_aload_n dX7_clear_7 rfl ?_
  refine sz_iconst dX7_clear_8 (cI0) ?_
  obtain ⟨g9, eg9, hf⟩ := gz_lt hf
  refine sz_putZ2 dX7_clear_9 flX7_58 kd2 fi7_5 (Or.inl rfl) eg9 ?_
  refine sz_aload_n dX7_clear_12 rfl ?_
  refine sz_iconst dX7_clear_13 (cI0) ?_
  obtain ⟨g14, eg14, hf⟩ := gz_lt hf
  refine sz_putI2 dX7_clear_14 flX7_62 kd2 fi7_6 eg14 ?_
  refine sz_aload_n dX7_clear_17 rfl ?_
  refine sz_iconst dX7_clear_18 (cI0) ?_
  obtain ⟨g19, eg19, hf⟩ := gz_lt hf
  refine sz_putI2 dX7_clear_19 flX7_65 kd2 fi7_7 eg19 ?_
  refine sz_aload_n dX7_clear_22 rfl ?_
  refine sz_getR dX7_clear_23 flX7_18 kd2 rfl rf2_3 ?_
  refine sz_iconst dX7_clear_26 (cI0) ?_
  obtain ⟨q27, eq27, hf⟩ := gz_bd hf
  refine sz_callSv [.ref 17, .int 0] [] dX7_clear_27 msX7_70 (Nat.le_of_ble_eq_true rfl) (Nat.le_of_ble_eq_true rfl) (kJ7_fill_53178  (Or.inl rfl) eq27) ?_
  refine sz_aload_n dX7_clear_30 rfl ?_
  refine sz_getR dX7_clear_31 flX7_21 kd2 rfl rf2_4 ?_
  refine sz_iconst dX7_clear_34 (cI0) ?_
  obtain ⟨q35, eq35, hf⟩ := gz_bd hf
  refine sz_callSv [.ref 18, .int 0] [] dX7_clear_35 msX7_70 (Nat.le_of_ble_eq_true rfl) (Nat.le_of_ble_eq_true rfl) (kJ7_fill_53178  (Or.inr (Or.inl rfl)) eq35) ?_
  refine sz_iconst dX7_clear_38 (cI0) ?_
  refine sz_istore_n dX7_clear_39 rfl (Nat.le_of_ble_eq_true rfl) rfl ?_
  refine sz_ls (l2 := [some (.ref 2), some (.int 0)]) rfl ?_
  exact tX7_clear_40    _ _ _ _ hf
def fX7_itemOf_2 (La : gz_L)  (w0 : Nat)  : Nat → Int32 → Int32 → gz_S → Option (Int32 × gz_S)
  | 0, _, _, _ => none
  | n + 1, x1, x2, g => if 4 ≤ x2 then some ((-1), g) else if gz_ok (x2 * 4) 16 then if (gz_tt w0 (Int32.toNatClampNeg (x2 * 4))) = x1 then some (x2, g) else gz_let (x2 + 1) (fun y18 => fX7_itemOf_2 La  w0  n x1 y18 g) else none
set_option maxRecDepth 100000 in
set_option maxHeartbeats 4000000 in
theorem tX7_itemOf_2 {La : gz_L}  {w0 : Nat}  (hw0 : w0 = 200 ∨ w0 = 201)  : ∀ (n : Nat) (x1 : Int32) (x2 : Int32) (g : gz_S) (r : Int32 × gz_S), fX7_itemOf_2 La  w0  n x1 x2 g = some r → gz_J La 1 mX7_itemOf 2 [some (.ref w0), some (.int x1), some (.int x2)] [] g (gz_Fi r) := by
  intro n
  induction n with
  | zero => intro x1 x2 g r hf; exact nomatch (show (none : Option (Int32 × gz_S)) = some r from hf)
  | succ n ih =>
    intro x1 x2 g r hf
    unfold fX7_itemOf_2 at hf
    refine sz_iload_n dX7_itemOf_2 rfl ?_
    refine sz_iconst dX7_itemOf_3 (cI4) ?_
    refine sz_icmp_ge 24 dX7_itemOf_4 (by decide) (fun c4 => ?_) (fun c4 => ?_)
    · have hf := gz_ip c4 hf
      refine sz_iconst dX7_itemOf_24 (cIm1) ?_
      cases hf
      exact sz_iret dX7_itemOf_25 rfl rfl ⟨rfl, rfl⟩
    · have hf := gz_in1 c4 hf
      refine sz_aload_n dX7_itemOf_7 rfl ?_
      refine sz_iload_n dX7_itemOf_8 rfl ?_
      refine sz_iconst dX7_itemOf_9 (cI4) ?_
      refine sz_imul dX7_itemOf_10 ?_
      obtain ⟨c11, hf⟩ := gz_gd hf
      refine sz_tt hw0 dX7_itemOf_11 c11 ?_
      refine sz_iload_n dX7_itemOf_12 rfl ?_
      refine sz_icmp_ne 18 dX7_itemOf_13 (by decide) (fun c13 => ?_) (fun c13 => ?_)
      · have hf := gz_in1 c13 hf
        obtain ⟨y18, ey18, hf⟩ := gz_lt hf
        refine sz_iinc (v := y18) dX7_itemOf_18 rfl (by rw [ey18, cI1]) (Nat.le_of_ble_eq_true rfl) rfl ?_
        refine sz_ls (l2 := [some (.ref w0), some (.int x1), some (.int y18)]) rfl ?_
        refine sz_goto 2 dX7_itemOf_21 (by decide) ?_
        exact ih _ _ _ _ hf
      · have hf := gz_ip c13 hf
        refine sz_iload_n dX7_itemOf_16 rfl ?_
        cases hf
        exact sz_iret dX7_itemOf_17 rfl rfl ⟨rfl, rfl⟩
def fX7_itemOf (La : gz_L)  (w0 : Nat) (x1 : Int32) (g : gz_S) : Option (Int32 × gz_S) :=
  fX7_itemOf_2 La  w0  gz_FU x1 0 g
set_option maxRecDepth 100000 in
set_option maxHeartbeats 4000000 in
theorem kX7_itemOf {La : gz_L}  {w0 : Nat} {x1 : Int32} {g : gz_S} {r : Int32 × gz_S} (hw0 : w0 = 200 ∨ w0 = 201) (hf : fX7_itemOf La  w0 x1 g = some r) : gz_K La 1 mX7_itemOf [.ref w0, .int x1] g (gz_Fi r) := by
  unfold fX7_itemOf at hf
  refine gz_K.of 1 (by decide +kernel) rfl ?_
  show gz_J La 1 mX7_itemOf 0 [some (.ref w0), some (.int x1), none] [] g (gz_Fi r)
  refine sz_iconst dX7_itemOf_0 (cI0) ?_
  refine sz_istore_n dX7_itemOf_1 rfl (Nat.le_of_ble_eq_true rfl) rfl ?_
  refine sz_ls (l2 := [some (.ref w0), some (.int x1), some (.int 0)]) rfl ?_
  exact tX7_itemOf_2  hw0  _ _ _ _ _ hf
def fX7_endsClause (La : gz_L)   (g : gz_S) : Option (Int32 × gz_S) :=
  (fX9_next La   g).bind (fun q4 => if q4.1 = 59 then some (1, q4.2) else if q4.1 = (-1) then some (1, q4.2) else (fX9_refuse La  (q4.2.1 1 2) q4.2).bind (fun q30 => if q30.1 = 0 then some (0, q30.2) else some (1, q30.2)))
set_option maxRecDepth 100000 in
set_option maxHeartbeats 4000000 in
theorem kX7_endsClause {La : gz_L}   {g : gz_S} {r : Int32 × gz_S}  (hf : fX7_endsClause La   g = some r) : gz_K La 2 mX7_endsClause [.ref 2] g (gz_Fi r) := by
  unfold fX7_endsClause at hf
  refine gz_K.of 1 (by decide +kernel) rfl ?_
  show gz_J La 2 mX7_endsClause 0 [some (.ref 2), none] [] g (gz_Fi r)
  refine sz_aload_n dX7_endsClause_0 rfl ?_
  refine sz_getR dX7_endsClause_1 flX7_24 kd2 rfl rf2_0 ?_
  obtain ⟨q4, eq4, hf⟩ := gz_bd hf
  refine sz_callVi [] [] dX7_endsClause_4 mvX7_35 (Nat.le_of_ble_eq_true rfl) (by decide : 9 < 13) kd1 rfl (Nat.le_of_ble_eq_true rfl) (kX9_next   eq4) ?_
  refine sz_istore_n dX7_endsClause_7 rfl (Nat.le_of_ble_eq_true rfl) rfl ?_
  refine sz_ls (l2 := [some (.ref 2), some (.int q4.1)]) rfl ?_
  refine sz_iload_n dX7_endsClause_8 rfl ?_
  refine sz_bipush dX7_endsClause_9 (cB59) ?_
  refine sz_icmp_eq 36 dX7_endsClause_11 (by decide) (fun c11 => ?_) (fun c11 => ?_)
  · have hf := gz_ip c11 hf
    refine sz_iconst dX7_endsClause_36 (cI1) ?_
    refine sz_goto 41 dX7_endsClause_37 (by decide) ?_
    cases hf
    exact sz_iret dX7_endsClause_41 rfl rfl ⟨rfl, rfl⟩
  · have hf := gz_in1 c11 hf
    refine sz_iload_n dX7_endsClause_14 rfl ?_
    refine sz_iconst dX7_endsClause_15 (cIm1) ?_
    refine sz_icmp_eq 36 dX7_endsClause_16 (by decide) (fun c16 => ?_) (fun c16 => ?_)
    · have hf := gz_ip c16 hf
      refine sz_iconst dX7_endsClause_36 (cI1) ?_
      refine sz_goto 41 dX7_endsClause_37 (by decide) ?_
      cases hf
      exact sz_iret dX7_endsClause_41 rfl rfl ⟨rfl, rfl⟩
    · have hf := gz_in1 c16 hf
      refine sz_aload_n dX7_endsClause_19 rfl ?_
      refine sz_getR dX7_endsClause_20 flX7_24 kd2 rfl rf2_0 ?_
      refine sz_aload_n dX7_endsClause_23 rfl ?_
      refine sz_getR dX7_endsClause_24 flX7_24 kd2 rfl rf2_0 ?_
      refine sz_getI dX7_endsClause_27 flX7_44 kd1 rfl ?_
      obtain ⟨q30, eq30, hf⟩ := gz_bd hf
      refine sz_callVi [.int (q4.2.1 1 2)] [] dX7_endsClause_30 mvX7_48 (Nat.le_of_ble_eq_true rfl) (by decide : 9 < 13) kd1 rfl (Nat.le_of_ble_eq_true rfl) (kX9_refuse   eq30) ?_
      refine sz_if_eq 40 dX7_endsClause_33 (by decide) (fun c33 => ?_) (fun c33 => ?_)
      · have hf := gz_ip c33 hf
        refine sz_iconst dX7_endsClause_40 (cI0) ?_
        cases hf
        exact sz_iret dX7_endsClause_41 rfl rfl ⟨rfl, rfl⟩
      · have hf := gz_in1 c33 hf
        refine sz_iconst dX7_endsClause_36 (cI1) ?_
        refine sz_goto 41 dX7_endsClause_37 (by decide) ?_
        cases hf
        exact sz_iret dX7_endsClause_41 rfl rfl ⟨rfl, rfl⟩
def fX7_readItems_3 (La : gz_L)  (w1 : Nat) (w2 : Nat) (k29 : Int32 → gz_S → Option (Int32 × gz_S)) : Nat → Int32 → Int32 → gz_S → Option (Int32 × gz_S)
  | 0, _, _, _ => none
  | n + 1, x3, x4, g => if 4 ≤ x4 then k29 x3 g else if gz_ok ((x4 * 4) + 3) 16 then if gz_ok (x3 + x4) (gz_ln w2) then gz_let (gz_wi g w2 (Int32.toNatClampNeg (x3 + x4)) (gz_tt w1 (Int32.toNatClampNeg ((x4 * 4) + 3)))) (fun g22 => gz_let (x4 + 1) (fun y23 => fX7_readItems_3 La  w1 w2 k29 n x3 y23 g22)) else none else none
set_option maxRecDepth 100000 in
set_option maxHeartbeats 4000000 in
theorem tX7_readItems_3 {La : gz_L}  {w1 : Nat} {w2 : Nat} {k29 : Int32 → gz_S → Option (Int32 × gz_S)} (hw1 : w1 = 200 ∨ w1 = 201) (hw2 : w2 = 15 ∨ w2 = 16) (hk29 : ∀ (x3 : Int32) (g : gz_S) (r : Int32 × gz_S), k29 x3 g = some r → gz_J La 3 mX7_readItems 29 [some (.ref 2), some (.ref w1), some (.ref w2), some (.int x3), none, none, none] [] g (gz_Fi r)) : ∀ (n : Nat) (x3 : Int32) (x4 : Int32) (g : gz_S) (r : Int32 × gz_S), fX7_readItems_3 La  w1 w2 k29 n x3 x4 g = some r → gz_J La 3 mX7_readItems 3 [some (.ref 2), some (.ref w1), some (.ref w2), some (.int x3), some (.int x4), none, none] [] g (gz_Fi r) := by
  intro n
  induction n with
  | zero => intro x3 x4 g r hf; exact nomatch (show (none : Option (Int32 × gz_S)) = some r from hf)
  | succ n ih =>
    intro x3 x4 g r hf
    unfold fX7_readItems_3 at hf
    refine sz_iload dX7_readItems_3 rfl ?_
    refine sz_iconst dX7_readItems_5 (cI4) ?_
    refine sz_icmp_ge 29 dX7_readItems_6 (by decide) (fun c6 => ?_) (fun c6 => ?_)
    · have hf := gz_ip c6 hf
      refine sz_weak (l2 := [some (.ref 2), some (.ref w1), some (.ref w2), some (.int x3), none, none, none]) (gz_subk (gz_subk (gz_subk (gz_subk (gz_subn (gz_subk (gz_subk gz_sub0))))))) ?_
      exact hk29 _ _ _ hf
    · have hf := gz_in1 c6 hf
      refine sz_aload_n dX7_readItems_9 rfl ?_
      refine sz_iload_n dX7_readItems_10 rfl ?_
      refine sz_iload dX7_readItems_11 rfl ?_
      refine sz_iadd dX7_readItems_13 ?_
      refine sz_aload_n dX7_readItems_14 rfl ?_
      refine sz_iload dX7_readItems_15 rfl ?_
      refine sz_iconst dX7_readItems_17 (cI4) ?_
      refine sz_imul dX7_readItems_18 ?_
      refine sz_iconst dX7_readItems_19 (cI3) ?_
      refine sz_iadd dX7_readItems_20 ?_
      obtain ⟨c21, hf⟩ := gz_gd hf
      refine sz_tt hw1 dX7_readItems_21 c21 ?_
      obtain ⟨c22, hf⟩ := gz_gd hf
      obtain ⟨g22, eg22, hf⟩ := gz_lt hf
      refine sz_iastL dX7_readItems_22 (kds_in7 hw2) c22 rfl eg22 ?_
      obtain ⟨y23, ey23, hf⟩ := gz_lt hf
      refine sz_iinc (v := y23) dX7_readItems_23 rfl (by rw [ey23, cI1]) (Nat.le_of_ble_eq_true rfl) rfl ?_
      refine sz_ls (l2 := [some (.ref 2), some (.ref w1), some (.ref w2), some (.int x3), some (.int y23), none, none]) rfl ?_
      refine sz_goto 3 dX7_readItems_26 (by decide) ?_
      exact ih _ _ _ _ hf
def fX7_readItems_35 (La : gz_L)  (w1 : Nat) (w2 : Nat) (k70 : gz_S → Option (Int32 × gz_S)) (k146 : gz_S → Option (Int32 × gz_S)) : Nat → Int32 → Int32 → Int32 → gz_S → Option (Int32 × gz_S)
  | 0, _, _, _, _ => none
  | n + 1, x3, x4, x5, g => if 4 ≤ x5 then some (1, g) else (fX9_next La   g).bind (fun q46 => (fX7_itemOf La  w1 q46.1 q46.2).bind (fun q49 => if q49.1 = (-1) then k70  q49.2 else if ((x4 >>> (q49.1 &&& 31)) &&& (1 : Int32)) = 0 then gz_let (x4 ||| ((1 : Int32) <<< (q49.1 &&& 31))) (fun y82 => gz_let (gz_wi q49.2 1 2 ((q49.2.1 1 2) + 1)) (fun g94 => (fX9_readNumber La  2 g94).bind (fun q102 => if q102.1 = 0 then some (0, q102.2) else if gz_ok ((q49.1 * 4) + 1) 16 then if (q102.2.1 1 4) < (gz_tt w1 (Int32.toNatClampNeg ((q49.1 * 4) + 1))) then k146  q102.2 else if gz_ok ((q49.1 * 4) + 2) 16 then if (q102.2.1 1 4) ≤ (gz_tt w1 (Int32.toNatClampNeg ((q49.1 * 4) + 2))) then if gz_ok (x3 + q49.1) (gz_ln w2) then gz_let (gz_wi q102.2 w2 (Int32.toNatClampNeg (x3 + q49.1)) (q102.2.1 1 4)) (fun g175 => gz_let (x5 + 1) (fun y176 => fX7_readItems_35 La  w1 w2 k70 k146 n x3 y82 y176 g175)) else none else k146  q102.2 else none else none))) else k70  q49.2))
set_option maxRecDepth 100000 in
set_option maxHeartbeats 4000000 in
theorem tX7_readItems_35 {La : gz_L}  {w1 : Nat} {w2 : Nat} {k70 : gz_S → Option (Int32 × gz_S)} {k146 : gz_S → Option (Int32 × gz_S)} (hw1 : w1 = 200 ∨ w1 = 201) (hw2 : w2 = 15 ∨ w2 = 16) (hk70 : ∀  (g : gz_S) (r : Int32 × gz_S), k70  g = some r → gz_J La 3 mX7_readItems 70 [some (.ref 2), none, none, none, none, none, none] [] g (gz_Fi r)) (hk146 : ∀  (g : gz_S) (r : Int32 × gz_S), k146  g = some r → gz_J La 3 mX7_readItems 146 [some (.ref 2), none, none, none, none, none, none] [] g (gz_Fi r)) : ∀ (n : Nat) (x3 : Int32) (x4 : Int32) (x5 : Int32) (g : gz_S) (r : Int32 × gz_S), fX7_readItems_35 La  w1 w2 k70 k146 n x3 x4 x5 g = some r → gz_J La 3 mX7_readItems 35 [some (.ref 2), some (.ref w1), some (.ref w2), some (.int x3), some (.int x4), some (.int x5), none] [] g (gz_Fi r) := by
  intro n
  induction n with
  | zero => intro x3 x4 x5 g r hf; exact nomatch (show (none : Option (Int32 × gz_S)) = some r from hf)
  | succ n ih =>
    intro x3 x4 x5 g r hf
    unfold fX7_readItems_35 at hf
    refine sz_iload dX7_readItems_35 rfl ?_
    refine sz_iconst dX7_readItems_37 (cI4) ?_
    refine sz_icmp_ge 182 dX7_readItems_38 (by decide) (fun c38 => ?_) (fun c38 => ?_)
    · have hf := gz_ip c38 hf
      refine sz_iconst dX7_readItems_182 (cI1) ?_
      cases hf
      exact sz_iret dX7_readItems_183 rfl rfl ⟨rfl, rfl⟩
    · have hf := gz_in1 c38 hf
      refine sz_aload_n dX7_readItems_41 rfl ?_
      refine sz_aload_n dX7_readItems_42 rfl ?_
      refine sz_getR dX7_readItems_43 flX7_24 kd2 rfl rf2_0 ?_
      obtain ⟨q46, eq46, hf⟩ := gz_bd hf
      refine sz_callVi [] [.ref w1] dX7_readItems_46 mvX7_35 (Nat.le_of_ble_eq_true rfl) (by decide : 9 < 13) kd1 rfl (Nat.le_of_ble_eq_true rfl) (kX9_next   eq46) ?_
      obtain ⟨q49, eq49, hf⟩ := gz_bd hf
      refine sz_callSi [.ref w1, .int q46.1] [] dX7_readItems_49 msX7_89 (Nat.le_of_ble_eq_true rfl) (Nat.le_of_ble_eq_true rfl) (kX7_itemOf  hw1 eq49) ?_
      refine sz_istore dX7_readItems_52 (Nat.le_of_ble_eq_true rfl) rfl ?_
      refine sz_ls (l2 := [some (.ref 2), some (.ref w1), some (.ref w2), some (.int x3), some (.int x4), some (.int x5), some (.int q49.1)]) rfl ?_
      refine sz_iload dX7_readItems_54 rfl ?_
      refine sz_iconst dX7_readItems_56 (cIm1) ?_
      refine sz_icmp_eq 70 dX7_readItems_57 (by decide) (fun c57 => ?_) (fun c57 => ?_)
      · have hf := gz_ip c57 hf
        refine sz_weak (l2 := [some (.ref 2), none, none, none, none, none, none]) (gz_subk (gz_subn (gz_subn (gz_subn (gz_subn (gz_subn (gz_subn gz_sub0))))))) ?_
        exact hk70  _ _ hf
      · have hf := gz_in1 c57 hf
        refine sz_iload dX7_readItems_60 rfl ?_
        refine sz_iload dX7_readItems_62 rfl ?_
        refine sz_ishr dX7_readItems_64 ?_
        refine sz_iconst dX7_readItems_65 (cI1) ?_
        refine sz_iand dX7_readItems_66 ?_
        refine sz_if_eq 75 dX7_readItems_67 (by decide) (fun c67 => ?_) (fun c67 => ?_)
        · have hf := gz_ip c67 hf
          refine sz_iload dX7_readItems_75 rfl ?_
          refine sz_iconst dX7_readItems_77 (cI1) ?_
          refine sz_iload dX7_readItems_78 rfl ?_
          refine sz_ishl dX7_readItems_80 ?_
          refine sz_ior dX7_readItems_81 ?_
          obtain ⟨y82, ey82, hf⟩ := gz_lt hf
          refine sz_topi ey82 ?_
          refine sz_istore dX7_readItems_82 (Nat.le_of_ble_eq_true rfl) rfl ?_
          refine sz_ls (l2 := [some (.ref 2), some (.ref w1), some (.ref w2), some (.int x3), some (.int y82), some (.int x5), some (.int q49.1)]) rfl ?_
          refine sz_aload_n dX7_readItems_84 rfl ?_
          refine sz_getR dX7_readItems_85 flX7_24 kd2 rfl rf2_0 ?_
          refine sz_dup dX7_readItems_88 rfl ?_
          refine sz_getI dX7_readItems_89 flX7_44 kd1 rfl ?_
          refine sz_iconst dX7_readItems_92 (cI1) ?_
          refine sz_iadd dX7_readItems_93 ?_
          obtain ⟨g94, eg94, hf⟩ := gz_lt hf
          refine sz_putI2 dX7_readItems_94 flX7_44 kd1 fi9_2 eg94 ?_
          refine sz_aload_n dX7_readItems_97 rfl ?_
          refine sz_getR dX7_readItems_98 flX7_24 kd2 rfl rf2_0 ?_
          refine sz_iconst dX7_readItems_101 (cI2) ?_
          obtain ⟨q102, eq102, hf⟩ := gz_bd hf
          refine sz_callVi [.int 2] [] dX7_readItems_102 mvX7_96 (Nat.le_of_ble_eq_true rfl) (by decide : 9 < 13) kd1 rfl (Nat.le_of_ble_eq_true rfl) (kX9_readNumber   eq102) ?_
          refine sz_if_ne 110 dX7_readItems_105 (by decide) (fun c105 => ?_) (fun c105 => ?_)
          · have hf := gz_in1 c105 hf
            refine sz_aload_n dX7_readItems_110 rfl ?_
            refine sz_getR dX7_readItems_111 flX7_24 kd2 rfl rf2_0 ?_
            refine sz_getI dX7_readItems_114 flX7_99 kd1 rfl ?_
            refine sz_aload_n dX7_readItems_117 rfl ?_
            refine sz_iload dX7_readItems_118 rfl ?_
            refine sz_iconst dX7_readItems_120 (cI4) ?_
            refine sz_imul dX7_readItems_121 ?_
            refine sz_iconst dX7_readItems_122 (cI1) ?_
            refine sz_iadd dX7_readItems_123 ?_
            obtain ⟨c124, hf⟩ := gz_gd hf
            refine sz_tt hw1 dX7_readItems_124 c124 ?_
            refine sz_icmp_lt 146 dX7_readItems_125 (by decide) (fun c125 => ?_) (fun c125 => ?_)
            · have hf := gz_ip c125 hf
              refine sz_weak (l2 := [some (.ref 2), none, none, none, none, none, none]) (gz_subk (gz_subn (gz_subn (gz_subn (gz_subn (gz_subn (gz_subn gz_sub0))))))) ?_
              exact hk146  _ _ hf
            · have hf := gz_in1 c125 hf
              refine sz_aload_n dX7_readItems_128 rfl ?_
              refine sz_getR dX7_readItems_129 flX7_24 kd2 rfl rf2_0 ?_
              refine sz_getI dX7_readItems_132 flX7_99 kd1 rfl ?_
              refine sz_aload_n dX7_readItems_135 rfl ?_
              refine sz_iload dX7_readItems_136 rfl ?_
              refine sz_iconst dX7_readItems_138 (cI4) ?_
              refine sz_imul dX7_readItems_139 ?_
              refine sz_iconst dX7_readItems_140 (cI2) ?_
              refine sz_iadd dX7_readItems_141 ?_
              obtain ⟨c142, hf⟩ := gz_gd hf
              refine sz_tt hw1 dX7_readItems_142 c142 ?_
              refine sz_icmp_le 163 dX7_readItems_143 (by decide) (fun c143 => ?_) (fun c143 => ?_)
              · have hf := gz_ip c143 hf
                refine sz_aload_n dX7_readItems_163 rfl ?_
                refine sz_iload_n dX7_readItems_164 rfl ?_
                refine sz_iload dX7_readItems_165 rfl ?_
                refine sz_iadd dX7_readItems_167 ?_
                refine sz_aload_n dX7_readItems_168 rfl ?_
                refine sz_getR dX7_readItems_169 flX7_24 kd2 rfl rf2_0 ?_
                refine sz_getI dX7_readItems_172 flX7_99 kd1 rfl ?_
                obtain ⟨c175, hf⟩ := gz_gd hf
                obtain ⟨g175, eg175, hf⟩ := gz_lt hf
                refine sz_iastL dX7_readItems_175 (kds_in7 hw2) c175 rfl eg175 ?_
                obtain ⟨y176, ey176, hf⟩ := gz_lt hf
                refine sz_iinc (v := y176) dX7_readItems_176 rfl (by rw [ey176, cI1]) (Nat.le_of_ble_eq_true rfl) rfl ?_
                refine sz_ls (l2 := [some (.ref 2), some (.ref w1), some (.ref w2), some (.int x3), some (.int y82), some (.int y176), some (.int q49.1)]) rfl ?_
                refine sz_goto 35 dX7_readItems_179 (by decide) ?_
                refine sz_weak (l2 := [some (.ref 2), some (.ref w1), some (.ref w2), some (.int x3), some (.int y82), some (.int y176), none]) (gz_subk (gz_subk (gz_subk (gz_subk (gz_subk (gz_subk (gz_subn gz_sub0))))))) ?_
                exact ih _ _ _ _ _ hf
              · have hf := gz_in1 c143 hf
                refine sz_weak (l2 := [some (.ref 2), none, none, none, none, none, none]) (gz_subk (gz_subn (gz_subn (gz_subn (gz_subn (gz_subn (gz_subn gz_sub0))))))) ?_
                exact hk146  _ _ hf
          · have hf := gz_ip c105 hf
            refine sz_iconst dX7_readItems_108 (cI0) ?_
            cases hf
            exact sz_iret dX7_readItems_109 rfl rfl ⟨rfl, rfl⟩
        · have hf := gz_in1 c67 hf
          refine sz_weak (l2 := [some (.ref 2), none, none, none, none, none, none]) (gz_subk (gz_subn (gz_subn (gz_subn (gz_subn (gz_subn (gz_subn gz_sub0))))))) ?_
          exact hk70  _ _ hf
def fX7_readItems_70 (La : gz_L)  (w1 : Nat) (w2 : Nat)   (g : gz_S) : Option (Int32 × gz_S) := (fX7_endsClause La   g).bind (fun q71 => if q71.1 = 0 ∨ q71.1 = 1 then some (q71.1, q71.2) else none)
set_option maxRecDepth 100000 in
set_option maxHeartbeats 4000000 in
theorem tX7_readItems_70 {La : gz_L}  {w1 : Nat} {w2 : Nat}  (hw1 : w1 = 200 ∨ w1 = 201) (hw2 : w2 = 15 ∨ w2 = 16)  : ∀  (g : gz_S) (r : Int32 × gz_S), fX7_readItems_70 La  w1 w2   g = some r → gz_J La 3 mX7_readItems 70 [some (.ref 2), none, none, none, none, none, none] [] g (gz_Fi r) := by
  intro  g r hf
  unfold fX7_readItems_70 at hf
  refine sz_aload_n dX7_readItems_70 rfl ?_
  obtain ⟨q71, eq71, hf⟩ := gz_bd hf
  refine sz_callVi [] [] dX7_readItems_71 mvX7_93 (Nat.le_of_ble_eq_true rfl) (by decide : 7 < 13) kd2 rfl (Nat.le_of_ble_eq_true rfl) (kX7_endsClause   eq71) ?_
  obtain ⟨c74, hf⟩ := gz_gd hf
  cases hf
  exact sz_iret dX7_readItems_74 rfl (gz_nbx c74) ⟨rfl, rfl⟩
def fX7_readItems_146 (La : gz_L)  (w1 : Nat) (w2 : Nat)   (g : gz_S) : Option (Int32 × gz_S) := (fX9_refuse La  ((g.1 1 2) - 1) g).bind (fun q159 => if q159.1 = 0 ∨ q159.1 = 1 then some (q159.1, q159.2) else none)
set_option maxRecDepth 100000 in
set_option maxHeartbeats 4000000 in
theorem tX7_readItems_146 {La : gz_L}  {w1 : Nat} {w2 : Nat}  (hw1 : w1 = 200 ∨ w1 = 201) (hw2 : w2 = 15 ∨ w2 = 16)  : ∀  (g : gz_S) (r : Int32 × gz_S), fX7_readItems_146 La  w1 w2   g = some r → gz_J La 3 mX7_readItems 146 [some (.ref 2), none, none, none, none, none, none] [] g (gz_Fi r) := by
  intro  g r hf
  unfold fX7_readItems_146 at hf
  refine sz_aload_n dX7_readItems_146 rfl ?_
  refine sz_getR dX7_readItems_147 flX7_24 kd2 rfl rf2_0 ?_
  refine sz_aload_n dX7_readItems_150 rfl ?_
  refine sz_getR dX7_readItems_151 flX7_24 kd2 rfl rf2_0 ?_
  refine sz_getI dX7_readItems_154 flX7_44 kd1 rfl ?_
  refine sz_iconst dX7_readItems_157 (cI1) ?_
  refine sz_isub dX7_readItems_158 ?_
  obtain ⟨q159, eq159, hf⟩ := gz_bd hf
  refine sz_callVi [.int ((g.1 1 2) - 1)] [] dX7_readItems_159 mvX7_48 (Nat.le_of_ble_eq_true rfl) (by decide : 9 < 13) kd1 rfl (Nat.le_of_ble_eq_true rfl) (kX9_refuse   eq159) ?_
  obtain ⟨c162, hf⟩ := gz_gd hf
  cases hf
  exact sz_iret dX7_readItems_162 rfl (gz_nbx c162) ⟨rfl, rfl⟩
def fX7_readItems (La : gz_L)  (w1 : Nat) (w2 : Nat) (x3 : Int32) (g : gz_S) : Option (Int32 × gz_S) :=
  fX7_readItems_3 La  w1 w2 (fun (x3 : Int32) g => fX7_readItems_35 La  w1 w2 (fX7_readItems_70 La  w1 w2  ) (fX7_readItems_146 La  w1 w2  ) gz_FU x3 0 0 g) gz_FU x3 0 g
set_option maxRecDepth 100000 in
set_option maxHeartbeats 4000000 in
theorem kX7_readItems {La : gz_L}  {w1 : Nat} {w2 : Nat} {x3 : Int32} {g : gz_S} {r : Int32 × gz_S} (hw1 : w1 = 200 ∨ w1 = 201) (hw2 : w2 = 15 ∨ w2 = 16) (hf : fX7_readItems La  w1 w2 x3 g = some r) : gz_K La 3 mX7_readItems [.ref 2, .ref w1, .ref w2, .int x3] g (gz_Fi r) := by
  unfold fX7_readItems at hf
  refine gz_K.of 3 (by decide +kernel) rfl ?_
  show gz_J La 3 mX7_readItems 0 [some (.ref 2), some (.ref w1), some (.ref w2), some (.int x3), none, none, none] [] g (gz_Fi r)
  refine sz_iconst dX7_readItems_0 (cI0) ?_
  refine sz_istore dX7_readItems_1 (Nat.le_of_ble_eq_true rfl) rfl ?_
  refine sz_ls (l2 := [some (.ref 2), some (.ref w1), some (.ref w2), some (.int x3), some (.int 0), none, none]) rfl ?_
  have hk29 : ∀ (x3 : Int32) (g : gz_S) (r : Int32 × gz_S), (fun (x3 : Int32) g => fX7_readItems_35 La  w1 w2 (fX7_readItems_70 La  w1 w2  ) (fX7_readItems_146 La  w1 w2  ) gz_FU x3 0 0 g) x3 g = some r → gz_J La 3 mX7_readItems 29 [some (.ref 2), some (.ref w1), some (.ref w2), some (.int x3), none, none, none] [] g (gz_Fi r) := by
    intro x3 g r hf
    refine sz_iconst dX7_readItems_29 (cI0) ?_
    refine sz_istore dX7_readItems_30 (Nat.le_of_ble_eq_true rfl) rfl ?_
    refine sz_ls (l2 := [some (.ref 2), some (.ref w1), some (.ref w2), some (.int x3), some (.int 0), none, none]) rfl ?_
    refine sz_iconst dX7_readItems_32 (cI0) ?_
    refine sz_istore dX7_readItems_33 (Nat.le_of_ble_eq_true rfl) rfl ?_
    refine sz_ls (l2 := [some (.ref 2), some (.ref w1), some (.ref w2), some (.int x3), some (.int 0), some (.int 0), none]) rfl ?_
    exact tX7_readItems_35  hw1 hw2 (tX7_readItems_70  hw1 hw2 ) (tX7_readItems_146  hw1 hw2 ) _ _ _ _ _ _ hf
  exact tX7_readItems_3  hw1 hw2 hk29 _ _ _ _ _ hf
def fX7_readRow_2 (La : gz_L)   (k28 : gz_S → Option (Int32 × gz_S)) : Nat → Int32 → Int32 → gz_S → Option (Int32 × gz_S)
  | 0, _, _, _ => none
  | n + 1, x1, x2, g => if 6 ≤ x2 then some (1, g) else (fX9_nextDigit La   g).bind (fun q12 => if q12.1 = (-1) then some (1, q12.2) else if q12.1 ≤ 3 then gz_let (gz_wi q12.2 1 2 ((q12.2.1 1 2) + 1)) (fun g53 => if gz_ok ((x1 * 6) + x2) 30 then gz_let (gz_wi g53 17 (Int32.toNatClampNeg ((x1 * 6) + x2)) q12.1) (fun g67 => if gz_ok x1 5 then gz_let (gz_wi g67 18 (Int32.toNatClampNeg x1) (x2 + 1)) (fun g76 => gz_let (x2 + 1) (fun y77 => fX7_readRow_2 La   k28 n x1 y77 g76)) else none) else none) else k28  q12.2)
set_option maxRecDepth 100000 in
set_option maxHeartbeats 4000000 in
theorem tX7_readRow_2 {La : gz_L}   {k28 : gz_S → Option (Int32 × gz_S)}  (hk28 : ∀  (g : gz_S) (r : Int32 × gz_S), k28  g = some r → gz_J La 3 mX7_readRow 28 [some (.ref 2), none, none, none] [] g (gz_Fi r)) : ∀ (n : Nat) (x1 : Int32) (x2 : Int32) (g : gz_S) (r : Int32 × gz_S), fX7_readRow_2 La   k28 n x1 x2 g = some r → gz_J La 3 mX7_readRow 2 [some (.ref 2), some (.int x1), some (.int x2), none] [] g (gz_Fi r) := by
  intro n
  induction n with
  | zero => intro x1 x2 g r hf; exact nomatch (show (none : Option (Int32 × gz_S)) = some r from hf)
  | succ n ih =>
    intro x1 x2 g r hf
    unfold fX7_readRow_2 at hf
    refine sz_iload_n dX7_readRow_2 rfl ?_
    refine sz_bipush dX7_readRow_3 (cB6) ?_
    refine sz_icmp_ge 83 dX7_readRow_5 (by decide) (fun c5 => ?_) (fun c5 => ?_)
    · have hf := gz_ip c5 hf
      refine sz_iconst dX7_readRow_83 (cI1) ?_
      cases hf
      exact sz_iret dX7_readRow_84 rfl rfl ⟨rfl, rfl⟩
    · have hf := gz_in1 c5 hf
      refine sz_aload_n dX7_readRow_8 rfl ?_
      refine sz_getR dX7_readRow_9 flX7_24 kd2 rfl rf2_0 ?_
      obtain ⟨q12, eq12, hf⟩ := gz_bd hf
      refine sz_callVi [] [] dX7_readRow_12 mvX7_102 (Nat.le_of_ble_eq_true rfl) (by decide : 9 < 13) kd1 rfl (Nat.le_of_ble_eq_true rfl) (kX9_nextDigit   eq12) ?_
      refine sz_istore_n dX7_readRow_15 rfl (Nat.le_of_ble_eq_true rfl) rfl ?_
      refine sz_ls (l2 := [some (.ref 2), some (.int x1), some (.int x2), some (.int q12.1)]) rfl ?_
      refine sz_iload_n dX7_readRow_16 rfl ?_
      refine sz_iconst dX7_readRow_17 (cIm1) ?_
      refine sz_icmp_ne 23 dX7_readRow_18 (by decide) (fun c18 => ?_) (fun c18 => ?_)
      · have hf := gz_in1 c18 hf
        refine sz_iload_n dX7_readRow_23 rfl ?_
        refine sz_iconst dX7_readRow_24 (cI3) ?_
        refine sz_icmp_le 43 dX7_readRow_25 (by decide) (fun c25 => ?_) (fun c25 => ?_)
        · have hf := gz_ip c25 hf
          refine sz_aload_n dX7_readRow_43 rfl ?_
          refine sz_getR dX7_readRow_44 flX7_24 kd2 rfl rf2_0 ?_
          refine sz_dup dX7_readRow_47 rfl ?_
          refine sz_getI dX7_readRow_48 flX7_44 kd1 rfl ?_
          refine sz_iconst dX7_readRow_51 (cI1) ?_
          refine sz_iadd dX7_readRow_52 ?_
          obtain ⟨g53, eg53, hf⟩ := gz_lt hf
          refine sz_putI2 dX7_readRow_53 flX7_44 kd1 fi9_2 eg53 ?_
          refine sz_aload_n dX7_readRow_56 rfl ?_
          refine sz_getR dX7_readRow_57 flX7_18 kd2 rfl rf2_3 ?_
          refine sz_iload_n dX7_readRow_60 rfl ?_
          refine sz_bipush dX7_readRow_61 (cB6) ?_
          refine sz_imul dX7_readRow_63 ?_
          refine sz_iload_n dX7_readRow_64 rfl ?_
          refine sz_iadd dX7_readRow_65 ?_
          refine sz_iload_n dX7_readRow_66 rfl ?_
          obtain ⟨c67, hf⟩ := gz_gd hf
          obtain ⟨g67, eg67, hf⟩ := gz_lt hf
          refine sz_iastL dX7_readRow_67 kd17 c67 rfl eg67 ?_
          refine sz_aload_n dX7_readRow_68 rfl ?_
          refine sz_getR dX7_readRow_69 flX7_21 kd2 rfl rf2_4 ?_
          refine sz_iload_n dX7_readRow_72 rfl ?_
          refine sz_iload_n dX7_readRow_73 rfl ?_
          refine sz_iconst dX7_readRow_74 (cI1) ?_
          refine sz_iadd dX7_readRow_75 ?_
          obtain ⟨c76, hf⟩ := gz_gd hf
          obtain ⟨g76, eg76, hf⟩ := gz_lt hf
          refine sz_iastL dX7_readRow_76 kd18 c76 rfl eg76 ?_
          obtain ⟨y77, ey77, hf⟩ := gz_lt hf
          refine sz_iinc (v := y77) dX7_readRow_77 rfl (by rw [ey77, cI1]) (Nat.le_of_ble_eq_true rfl) rfl ?_
          refine sz_ls (l2 := [some (.ref 2), some (.int x1), some (.int y77), some (.int q12.1)]) rfl ?_
          refine sz_goto 2 dX7_readRow_80 (by decide) ?_
          refine sz_weak (l2 := [some (.ref 2), some (.int x1), some (.int y77), none]) (gz_subk (gz_subk (gz_subk (gz_subn gz_sub0)))) ?_
          exact ih _ _ _ _ hf
        · have hf := gz_in1 c25 hf
          refine sz_weak (l2 := [some (.ref 2), none, none, none]) (gz_subk (gz_subn (gz_subn (gz_subn gz_sub0)))) ?_
          exact hk28  _ _ hf
      · have hf := gz_ip c18 hf
        refine sz_iconst dX7_readRow_21 (cI1) ?_
        cases hf
        exact sz_iret dX7_readRow_22 rfl rfl ⟨rfl, rfl⟩
def fX7_readRow (La : gz_L)  (x1 : Int32) (g : gz_S) : Option (Int32 × gz_S) :=
  fX7_readRow_2 La   (fun  g => (fX9_refuse La  (g.1 1 2) g).bind (fun q39 => if q39.1 = 0 ∨ q39.1 = 1 then some (q39.1, q39.2) else none)) gz_FU x1 0 g
set_option maxRecDepth 100000 in
set_option maxHeartbeats 4000000 in
theorem kX7_readRow {La : gz_L}  {x1 : Int32} {g : gz_S} {r : Int32 × gz_S}  (hf : fX7_readRow La  x1 g = some r) : gz_K La 3 mX7_readRow [.ref 2, .int x1] g (gz_Fi r) := by
  unfold fX7_readRow at hf
  refine gz_K.of 2 (by decide +kernel) rfl ?_
  show gz_J La 3 mX7_readRow 0 [some (.ref 2), some (.int x1), none, none] [] g (gz_Fi r)
  refine sz_iconst dX7_readRow_0 (cI0) ?_
  refine sz_istore_n dX7_readRow_1 rfl (Nat.le_of_ble_eq_true rfl) rfl ?_
  refine sz_ls (l2 := [some (.ref 2), some (.int x1), some (.int 0), none]) rfl ?_
  have hk28 : ∀  (g : gz_S) (r : Int32 × gz_S), (fun  g => (fX9_refuse La  (g.1 1 2) g).bind (fun q39 => if q39.1 = 0 ∨ q39.1 = 1 then some (q39.1, q39.2) else none))  g = some r → gz_J La 3 mX7_readRow 28 [some (.ref 2), none, none, none] [] g (gz_Fi r) := by
    intro  g r hf
    refine sz_aload_n dX7_readRow_28 rfl ?_
    refine sz_getR dX7_readRow_29 flX7_24 kd2 rfl rf2_0 ?_
    refine sz_aload_n dX7_readRow_32 rfl ?_
    refine sz_getR dX7_readRow_33 flX7_24 kd2 rfl rf2_0 ?_
    refine sz_getI dX7_readRow_36 flX7_44 kd1 rfl ?_
    obtain ⟨q39, eq39, hf⟩ := gz_bd hf
    refine sz_callVi [.int (g.1 1 2)] [] dX7_readRow_39 mvX7_48 (Nat.le_of_ble_eq_true rfl) (by decide : 9 < 13) kd1 rfl (Nat.le_of_ble_eq_true rfl) (kX9_refuse   eq39) ?_
    obtain ⟨c42, hf⟩ := gz_gd hf
    cases hf
    exact sz_iret dX7_readRow_42 rfl (gz_nbx c42) ⟨rfl, rfl⟩
  exact tX7_readRow_2   hk28 _ _ _ _ _ hf
def fX7_readClause_157 (La : gz_L)     (g : gz_S) : Option (Int32 × gz_S) := (fX9_refuse La  (g.1 1 2) g).bind (fun q168 => if q168.1 = 0 ∨ q168.1 = 1 then some (q168.1, q168.2) else none)
set_option maxRecDepth 100000 in
set_option maxHeartbeats 4000000 in
theorem tX7_readClause_157 {La : gz_L}      : ∀  (g : gz_S) (r : Int32 × gz_S), fX7_readClause_157 La     g = some r → gz_J La 4 mX7_readClause 157 [some (.ref 2), none] [] g (gz_Fi r) := by
  intro  g r hf
  unfold fX7_readClause_157 at hf
  refine sz_aload_n dX7_readClause_157 rfl ?_
  refine sz_getR dX7_readClause_158 flX7_24 kd2 rfl rf2_0 ?_
  refine sz_aload_n dX7_readClause_161 rfl ?_
  refine sz_getR dX7_readClause_162 flX7_24 kd2 rfl rf2_0 ?_
  refine sz_getI dX7_readClause_165 flX7_44 kd1 rfl ?_
  obtain ⟨q168, eq168, hf⟩ := gz_bd hf
  refine sz_callVi [.int (g.1 1 2)] [] dX7_readClause_168 mvX7_48 (Nat.le_of_ble_eq_true rfl) (by decide : 9 < 13) kd1 rfl (Nat.le_of_ble_eq_true rfl) (kX9_refuse   eq168) ?_
  obtain ⟨c171, hf⟩ := gz_gd hf
  cases hf
  exact sz_iret dX7_readClause_171 rfl (gz_nbx c171) ⟨rfl, rfl⟩
def fX7_readClause_100 (La : gz_L)    (x1 : Int32) (g : gz_S) : Option (Int32 × gz_S) := if x1 = 103 then if 4 ≤ (g.1 2 7) then fX7_readClause_157 La      g else gz_let (gz_wi g 1 2 ((g.1 1 2) + 1)) (fun g124 => gz_let (gz_wi g124 2 7 ((g124.1 2 7) + 1)) (fun g134 => (fX7_readItems La  201 16 (((g134.1 2 7) - 1) * 4) g134).bind (fun q153 => if q153.1 = 0 ∨ q153.1 = 1 then some (q153.1, q153.2) else none))) else fX7_readClause_157 La      g
set_option maxRecDepth 100000 in
set_option maxHeartbeats 4000000 in
theorem tX7_readClause_100 {La : gz_L}      : ∀ (x1 : Int32) (g : gz_S) (r : Int32 × gz_S), fX7_readClause_100 La    x1 g = some r → gz_J La 4 mX7_readClause 100 [some (.ref 2), some (.int x1)] [] g (gz_Fi r) := by
  intro x1 g r hf
  unfold fX7_readClause_100 at hf
  refine sz_iload_n dX7_readClause_100 rfl ?_
  refine sz_bipush dX7_readClause_101 (cB103) ?_
  refine sz_icmp_ne 157 dX7_readClause_103 (by decide) (fun c103 => ?_) (fun c103 => ?_)
  · have hf := gz_in1 c103 hf
    refine sz_weak (l2 := [some (.ref 2), none]) (gz_subk (gz_subn gz_sub0)) ?_
    exact tX7_readClause_157     _ _ hf
  · have hf := gz_ip c103 hf
    refine sz_aload_n dX7_readClause_106 rfl ?_
    refine sz_getI dX7_readClause_107 flX7_65 kd2 rfl ?_
    refine sz_iconst dX7_readClause_110 (cI4) ?_
    refine sz_icmp_ge 157 dX7_readClause_111 (by decide) (fun c111 => ?_) (fun c111 => ?_)
    · have hf := gz_ip c111 hf
      refine sz_weak (l2 := [some (.ref 2), none]) (gz_subk (gz_subn gz_sub0)) ?_
      exact tX7_readClause_157     _ _ hf
    · have hf := gz_in1 c111 hf
      refine sz_aload_n dX7_readClause_114 rfl ?_
      refine sz_getR dX7_readClause_115 flX7_24 kd2 rfl rf2_0 ?_
      refine sz_dup dX7_readClause_118 rfl ?_
      refine sz_getI dX7_readClause_119 flX7_44 kd1 rfl ?_
      refine sz_iconst dX7_readClause_122 (cI1) ?_
      refine sz_iadd dX7_readClause_123 ?_
      obtain ⟨g124, eg124, hf⟩ := gz_lt hf
      refine sz_putI2 dX7_readClause_124 flX7_44 kd1 fi9_2 eg124 ?_
      refine sz_aload_n dX7_readClause_127 rfl ?_
      refine sz_dup dX7_readClause_128 rfl ?_
      refine sz_getI dX7_readClause_129 flX7_65 kd2 rfl ?_
      refine sz_iconst dX7_readClause_132 (cI1) ?_
      refine sz_iadd dX7_readClause_133 ?_
      obtain ⟨g134, eg134, hf⟩ := gz_lt hf
      refine sz_putI2 dX7_readClause_134 flX7_65 kd2 fi7_7 eg134 ?_
      refine sz_aload_n dX7_readClause_137 rfl ?_
      refine sz_gs1 dX7_readClause_138 gsX7_86 ?_
      refine sz_aload_n dX7_readClause_141 rfl ?_
      refine sz_getR dX7_readClause_142 flX7_15 kd2 rfl rf2_2 ?_
      refine sz_aload_n dX7_readClause_145 rfl ?_
      refine sz_getI dX7_readClause_146 flX7_65 kd2 rfl ?_
      refine sz_iconst dX7_readClause_149 (cI1) ?_
      refine sz_isub dX7_readClause_150 ?_
      refine sz_iconst dX7_readClause_151 (cI4) ?_
      refine sz_imul dX7_readClause_152 ?_
      obtain ⟨q153, eq153, hf⟩ := gz_bd hf
      refine sz_callVi [.ref 201, .ref 16, .int (((g134.1 2 7) - 1) * 4)] [] dX7_readClause_153 mvX7_79 (Nat.le_of_ble_eq_true rfl) (by decide : 7 < 13) kd2 rfl (Nat.le_of_ble_eq_true rfl) (kX7_readItems  (Or.inr rfl) (Or.inr rfl) eq153) ?_
      obtain ⟨c156, hf⟩ := gz_gd hf
      cases hf
      exact sz_iret dX7_readClause_156 rfl (gz_nbx c156) ⟨rfl, rfl⟩
def fX7_readClause_52 (La : gz_L)    (x1 : Int32) (g : gz_S) : Option (Int32 × gz_S) := if x1 = 114 then if 5 ≤ (g.1 2 6) then fX7_readClause_100 La     x1 g else gz_let (gz_wi g 1 2 ((g.1 1 2) + 1)) (fun g76 => gz_let (gz_wi g76 2 6 ((g76.1 2 6) + 1)) (fun g86 => (fX7_readRow La  ((g86.1 2 6) - 1) g86).bind (fun q96 => if q96.1 = 0 ∨ q96.1 = 1 then some (q96.1, q96.2) else none))) else fX7_readClause_100 La     x1 g
set_option maxRecDepth 100000 in
set_option maxHeartbeats 4000000 in
theorem tX7_readClause_52 {La : gz_L}      : ∀ (x1 : Int32) (g : gz_S) (r : Int32 × gz_S), fX7_readClause_52 La    x1 g = some r → gz_J La 4 mX7_readClause 52 [some (.ref 2), some (.int x1)] [] g (gz_Fi r) := by
  intro x1 g r hf
  unfold fX7_readClause_52 at hf
  refine sz_iload_n dX7_readClause_52 rfl ?_
  refine sz_bipush dX7_readClause_53 (cB114) ?_
  refine sz_icmp_ne 100 dX7_readClause_55 (by decide) (fun c55 => ?_) (fun c55 => ?_)
  · have hf := gz_in1 c55 hf
    exact tX7_readClause_100    _ _ _ hf
  · have hf := gz_ip c55 hf
    refine sz_aload_n dX7_readClause_58 rfl ?_
    refine sz_getI dX7_readClause_59 flX7_62 kd2 rfl ?_
    refine sz_iconst dX7_readClause_62 (cI5) ?_
    refine sz_icmp_ge 100 dX7_readClause_63 (by decide) (fun c63 => ?_) (fun c63 => ?_)
    · have hf := gz_ip c63 hf
      exact tX7_readClause_100    _ _ _ hf
    · have hf := gz_in1 c63 hf
      refine sz_aload_n dX7_readClause_66 rfl ?_
      refine sz_getR dX7_readClause_67 flX7_24 kd2 rfl rf2_0 ?_
      refine sz_dup dX7_readClause_70 rfl ?_
      refine sz_getI dX7_readClause_71 flX7_44 kd1 rfl ?_
      refine sz_iconst dX7_readClause_74 (cI1) ?_
      refine sz_iadd dX7_readClause_75 ?_
      obtain ⟨g76, eg76, hf⟩ := gz_lt hf
      refine sz_putI2 dX7_readClause_76 flX7_44 kd1 fi9_2 eg76 ?_
      refine sz_aload_n dX7_readClause_79 rfl ?_
      refine sz_dup dX7_readClause_80 rfl ?_
      refine sz_getI dX7_readClause_81 flX7_62 kd2 rfl ?_
      refine sz_iconst dX7_readClause_84 (cI1) ?_
      refine sz_iadd dX7_readClause_85 ?_
      obtain ⟨g86, eg86, hf⟩ := gz_lt hf
      refine sz_putI2 dX7_readClause_86 flX7_62 kd2 fi7_6 eg86 ?_
      refine sz_aload_n dX7_readClause_89 rfl ?_
      refine sz_aload_n dX7_readClause_90 rfl ?_
      refine sz_getI dX7_readClause_91 flX7_62 kd2 rfl ?_
      refine sz_iconst dX7_readClause_94 (cI1) ?_
      refine sz_isub dX7_readClause_95 ?_
      obtain ⟨q96, eq96, hf⟩ := gz_bd hf
      refine sz_callVi [.int ((g86.1 2 6) - 1)] [] dX7_readClause_96 mvX7_83 (Nat.le_of_ble_eq_true rfl) (by decide : 7 < 13) kd2 rfl (Nat.le_of_ble_eq_true rfl) (kX7_readRow   eq96) ?_
      obtain ⟨c99, hf⟩ := gz_gd hf
      cases hf
      exact sz_iret dX7_readClause_99 rfl (gz_nbx c99) ⟨rfl, rfl⟩
def fX7_readClause (La : gz_L)   (g : gz_S) : Option (Int32 × gz_S) :=
  (fX9_next La   g).bind (fun q4 => if q4.1 = 115 then if (q4.2.1 2 5) = 0 then gz_let (gz_wi q4.2 1 2 ((q4.2.1 1 2) + 1)) (fun g31 => gz_let (gz_wi g31 2 5 1) (fun g36 => (fX7_readItems La  200 15 0 g36).bind (fun q48 => if q48.1 = 0 ∨ q48.1 = 1 then some (q48.1, q48.2) else none))) else fX7_readClause_52 La     q4.1 q4.2 else fX7_readClause_52 La     q4.1 q4.2)
set_option maxRecDepth 100000 in
set_option maxHeartbeats 4000000 in
theorem kX7_readClause {La : gz_L}   {g : gz_S} {r : Int32 × gz_S}  (hf : fX7_readClause La   g = some r) : gz_K La 4 mX7_readClause [.ref 2] g (gz_Fi r) := by
  unfold fX7_readClause at hf
  refine gz_K.of 1 (by decide +kernel) rfl ?_
  show gz_J La 4 mX7_readClause 0 [some (.ref 2), none] [] g (gz_Fi r)
  refine sz_aload_n dX7_readClause_0 rfl ?_
  refine sz_getR dX7_readClause_1 flX7_24 kd2 rfl rf2_0 ?_
  obtain ⟨q4, eq4, hf⟩ := gz_bd hf
  refine sz_callVi [] [] dX7_readClause_4 mvX7_35 (Nat.le_of_ble_eq_true rfl) (by decide : 9 < 13) kd1 rfl (Nat.le_of_ble_eq_true rfl) (kX9_next   eq4) ?_
  refine sz_istore_n dX7_readClause_7 rfl (Nat.le_of_ble_eq_true rfl) rfl ?_
  refine sz_ls (l2 := [some (.ref 2), some (.int q4.1)]) rfl ?_
  refine sz_iload_n dX7_readClause_8 rfl ?_
  refine sz_bipush dX7_readClause_9 (cB115) ?_
  refine sz_icmp_ne 52 dX7_readClause_11 (by decide) (fun c11 => ?_) (fun c11 => ?_)
  · have hf := gz_in1 c11 hf
    exact tX7_readClause_52    _ _ _ hf
  · have hf := gz_ip c11 hf
    refine sz_aload_n dX7_readClause_14 rfl ?_
    refine sz_getI dX7_readClause_15 flX7_58 kd2 rfl ?_
    refine sz_if_ne 52 dX7_readClause_18 (by decide) (fun c18 => ?_) (fun c18 => ?_)
    · have hf := gz_in1 c18 hf
      exact tX7_readClause_52    _ _ _ hf
    · have hf := gz_ip c18 hf
      refine sz_aload_n dX7_readClause_21 rfl ?_
      refine sz_getR dX7_readClause_22 flX7_24 kd2 rfl rf2_0 ?_
      refine sz_dup dX7_readClause_25 rfl ?_
      refine sz_getI dX7_readClause_26 flX7_44 kd1 rfl ?_
      refine sz_iconst dX7_readClause_29 (cI1) ?_
      refine sz_iadd dX7_readClause_30 ?_
      obtain ⟨g31, eg31, hf⟩ := gz_lt hf
      refine sz_putI2 dX7_readClause_31 flX7_44 kd1 fi9_2 eg31 ?_
      refine sz_aload_n dX7_readClause_34 rfl ?_
      refine sz_iconst dX7_readClause_35 (cI1) ?_
      obtain ⟨g36, eg36, hf⟩ := gz_lt hf
      refine sz_putZ2 dX7_readClause_36 flX7_58 kd2 fi7_5 (Or.inr rfl) eg36 ?_
      refine sz_aload_n dX7_readClause_39 rfl ?_
      refine sz_gs0 dX7_readClause_40 gsX7_76 ?_
      refine sz_aload_n dX7_readClause_43 rfl ?_
      refine sz_getR dX7_readClause_44 flX7_11 kd2 rfl rf2_1 ?_
      refine sz_iconst dX7_readClause_47 (cI0) ?_
      obtain ⟨q48, eq48, hf⟩ := gz_bd hf
      refine sz_callVi [.ref 200, .ref 15, .int 0] [] dX7_readClause_48 mvX7_79 (Nat.le_of_ble_eq_true rfl) (by decide : 7 < 13) kd2 rfl (Nat.le_of_ble_eq_true rfl) (kX7_readItems  (Or.inl rfl) (Or.inl rfl) eq48) ?_
      obtain ⟨c51, hf⟩ := gz_gd hf
      cases hf
      exact sz_iret dX7_readClause_51 rfl (gz_nbx c51) ⟨rfl, rfl⟩
def fX7_agrees_25 (La : gz_L)   (k56 : gz_S → Option (Int32 × gz_S)) : Nat → Int32 → gz_S → Option (Int32 × gz_S)
  | 0, _, _ => none
  | n + 1, x1, g => if (g.1 2 6) ≤ x1 then k56  g else if gz_ok x1 5 then if (g.1 18 (Int32.toNatClampNeg x1)) ≤ (g.1 15 0) then gz_let (x1 + 1) (fun y50 => fX7_agrees_25 La   k56 n y50 g) else some (0, g) else none
set_option maxRecDepth 100000 in
set_option maxHeartbeats 4000000 in
theorem tX7_agrees_25 {La : gz_L}   {k56 : gz_S → Option (Int32 × gz_S)}  (hk56 : ∀  (g : gz_S) (r : Int32 × gz_S), k56  g = some r → gz_J La 1 mX7_agrees 56 [some (.ref 2), none] [] g (gz_Fi r)) : ∀ (n : Nat) (x1 : Int32) (g : gz_S) (r : Int32 × gz_S), fX7_agrees_25 La   k56 n x1 g = some r → gz_J La 1 mX7_agrees 25 [some (.ref 2), some (.int x1)] [] g (gz_Fi r) := by
  intro n
  induction n with
  | zero => intro x1 g r hf; exact nomatch (show (none : Option (Int32 × gz_S)) = some r from hf)
  | succ n ih =>
    intro x1 g r hf
    unfold fX7_agrees_25 at hf
    refine sz_iload_n dX7_agrees_25 rfl ?_
    refine sz_aload_n dX7_agrees_26 rfl ?_
    refine sz_getI dX7_agrees_27 flX7_62 kd2 rfl ?_
    refine sz_icmp_ge 56 dX7_agrees_30 (by decide) (fun c30 => ?_) (fun c30 => ?_)
    · have hf := gz_ip c30 hf
      refine sz_weak (l2 := [some (.ref 2), none]) (gz_subk (gz_subn gz_sub0)) ?_
      exact hk56  _ _ hf
    · have hf := gz_in1 c30 hf
      refine sz_aload_n dX7_agrees_33 rfl ?_
      refine sz_getR dX7_agrees_34 flX7_21 kd2 rfl rf2_4 ?_
      refine sz_iload_n dX7_agrees_37 rfl ?_
      obtain ⟨c38, hf⟩ := gz_gd hf
      refine sz_ialdL dX7_agrees_38 kd18 c38 rfl ?_
      refine sz_aload_n dX7_agrees_39 rfl ?_
      refine sz_getR dX7_agrees_40 flX7_11 kd2 rfl rf2_1 ?_
      refine sz_iconst dX7_agrees_43 (cI0) ?_
      refine sz_ialdL dX7_agrees_44 kd15 vi0_4 tn0 ?_
      refine sz_icmp_le 50 dX7_agrees_45 (by decide) (fun c45 => ?_) (fun c45 => ?_)
      · have hf := gz_ip c45 hf
        obtain ⟨y50, ey50, hf⟩ := gz_lt hf
        refine sz_iinc (v := y50) dX7_agrees_50 rfl (by rw [ey50, cI1]) (Nat.le_of_ble_eq_true rfl) rfl ?_
        refine sz_ls (l2 := [some (.ref 2), some (.int y50)]) rfl ?_
        refine sz_goto 25 dX7_agrees_53 (by decide) ?_
        exact ih _ _ _ hf
      · have hf := gz_in1 c45 hf
        refine sz_iconst dX7_agrees_48 (cI0) ?_
        cases hf
        exact sz_iret dX7_agrees_49 rfl rfl ⟨rfl, rfl⟩
def fX7_agrees_58 (La : gz_L)    : Nat → Int32 → gz_S → Option (Int32 × gz_S)
  | 0, _, _ => none
  | n + 1, x1, g => if (g.1 2 7) ≤ x1 then some (1, g) else if gz_ok (x1 * 4) 16 then if (g.1 15 0) ≤ (g.1 16 (Int32.toNatClampNeg (x1 * 4))) then some (0, g) else if gz_ok ((x1 * 4) + 1) 16 then if (g.1 16 (Int32.toNatClampNeg ((x1 * 4) + 1))) < (g.1 15 1) then gz_let (x1 + 1) (fun y104 => fX7_agrees_58 La    n y104 g) else some (0, g) else none else none
set_option maxRecDepth 100000 in
set_option maxHeartbeats 4000000 in
theorem tX7_agrees_58 {La : gz_L}      : ∀ (n : Nat) (x1 : Int32) (g : gz_S) (r : Int32 × gz_S), fX7_agrees_58 La    n x1 g = some r → gz_J La 1 mX7_agrees 58 [some (.ref 2), some (.int x1)] [] g (gz_Fi r) := by
  intro n
  induction n with
  | zero => intro x1 g r hf; exact nomatch (show (none : Option (Int32 × gz_S)) = some r from hf)
  | succ n ih =>
    intro x1 g r hf
    unfold fX7_agrees_58 at hf
    refine sz_iload_n dX7_agrees_58 rfl ?_
    refine sz_aload_n dX7_agrees_59 rfl ?_
    refine sz_getI dX7_agrees_60 flX7_65 kd2 rfl ?_
    refine sz_icmp_ge 110 dX7_agrees_63 (by decide) (fun c63 => ?_) (fun c63 => ?_)
    · have hf := gz_ip c63 hf
      refine sz_iconst dX7_agrees_110 (cI1) ?_
      cases hf
      exact sz_iret dX7_agrees_111 rfl rfl ⟨rfl, rfl⟩
    · have hf := gz_in1 c63 hf
      refine sz_aload_n dX7_agrees_66 rfl ?_
      refine sz_getR dX7_agrees_67 flX7_15 kd2 rfl rf2_2 ?_
      refine sz_iload_n dX7_agrees_70 rfl ?_
      refine sz_iconst dX7_agrees_71 (cI4) ?_
      refine sz_imul dX7_agrees_72 ?_
      obtain ⟨c73, hf⟩ := gz_gd hf
      refine sz_ialdL dX7_agrees_73 kd16 c73 rfl ?_
      refine sz_aload_n dX7_agrees_74 rfl ?_
      refine sz_getR dX7_agrees_75 flX7_11 kd2 rfl rf2_1 ?_
      refine sz_iconst dX7_agrees_78 (cI0) ?_
      refine sz_ialdL dX7_agrees_79 kd15 vi0_4 tn0 ?_
      refine sz_icmp_ge 102 dX7_agrees_80 (by decide) (fun c80 => ?_) (fun c80 => ?_)
      · have hf := gz_ip c80 hf
        refine sz_iconst dX7_agrees_102 (cI0) ?_
        cases hf
        exact sz_iret dX7_agrees_103 rfl rfl ⟨rfl, rfl⟩
      · have hf := gz_in1 c80 hf
        refine sz_aload_n dX7_agrees_83 rfl ?_
        refine sz_getR dX7_agrees_84 flX7_15 kd2 rfl rf2_2 ?_
        refine sz_iload_n dX7_agrees_87 rfl ?_
        refine sz_iconst dX7_agrees_88 (cI4) ?_
        refine sz_imul dX7_agrees_89 ?_
        refine sz_iconst dX7_agrees_90 (cI1) ?_
        refine sz_iadd dX7_agrees_91 ?_
        obtain ⟨c92, hf⟩ := gz_gd hf
        refine sz_ialdL dX7_agrees_92 kd16 c92 rfl ?_
        refine sz_aload_n dX7_agrees_93 rfl ?_
        refine sz_getR dX7_agrees_94 flX7_11 kd2 rfl rf2_1 ?_
        refine sz_iconst dX7_agrees_97 (cI1) ?_
        refine sz_ialdL dX7_agrees_98 kd15 vi1_4 tn1 ?_
        refine sz_icmp_lt 104 dX7_agrees_99 (by decide) (fun c99 => ?_) (fun c99 => ?_)
        · have hf := gz_ip c99 hf
          obtain ⟨y104, ey104, hf⟩ := gz_lt hf
          refine sz_iinc (v := y104) dX7_agrees_104 rfl (by rw [ey104, cI1]) (Nat.le_of_ble_eq_true rfl) rfl ?_
          refine sz_ls (l2 := [some (.ref 2), some (.int y104)]) rfl ?_
          refine sz_goto 58 dX7_agrees_107 (by decide) ?_
          exact ih _ _ _ hf
        · have hf := gz_in1 c99 hf
          refine sz_iconst dX7_agrees_102 (cI0) ?_
          cases hf
          exact sz_iret dX7_agrees_103 rfl rfl ⟨rfl, rfl⟩
def fX7_agrees (La : gz_L)   (g : gz_S) : Option (Int32 × gz_S) :=
  if (g.1 2 7) < 1 then some (0, g) else if (g.1 2 6) ≤ (g.1 15 1) then fX7_agrees_25 La   (fun  g => fX7_agrees_58 La    gz_FU 0 g) gz_FU 0 g else some (0, g)
set_option maxRecDepth 100000 in
set_option maxHeartbeats 4000000 in
theorem kX7_agrees {La : gz_L}   {g : gz_S} {r : Int32 × gz_S}  (hf : fX7_agrees La   g = some r) : gz_K La 1 mX7_agrees [.ref 2] g (gz_Fi r) := by
  unfold fX7_agrees at hf
  refine gz_K.of 1 (by decide +kernel) rfl ?_
  show gz_J La 1 mX7_agrees 0 [some (.ref 2), none] [] g (gz_Fi r)
  refine sz_aload_n dX7_agrees_0 rfl ?_
  refine sz_getI dX7_agrees_1 flX7_65 kd2 rfl ?_
  refine sz_iconst dX7_agrees_4 (cI1) ?_
  refine sz_icmp_lt 21 dX7_agrees_5 (by decide) (fun c5 => ?_) (fun c5 => ?_)
  · have hf := gz_ip c5 hf
    refine sz_iconst dX7_agrees_21 (cI0) ?_
    cases hf
    exact sz_iret dX7_agrees_22 rfl rfl ⟨rfl, rfl⟩
  · have hf := gz_in1 c5 hf
    refine sz_aload_n dX7_agrees_8 rfl ?_
    refine sz_getI dX7_agrees_9 flX7_62 kd2 rfl ?_
    refine sz_aload_n dX7_agrees_12 rfl ?_
    refine sz_getR dX7_agrees_13 flX7_11 kd2 rfl rf2_1 ?_
    refine sz_iconst dX7_agrees_16 (cI1) ?_
    refine sz_ialdL dX7_agrees_17 kd15 vi1_4 tn1 ?_
    refine sz_icmp_le 23 dX7_agrees_18 (by decide) (fun c18 => ?_) (fun c18 => ?_)
    · have hf := gz_ip c18 hf
      refine sz_iconst dX7_agrees_23 (cI0) ?_
      refine sz_istore_n dX7_agrees_24 rfl (Nat.le_of_ble_eq_true rfl) rfl ?_
      refine sz_ls (l2 := [some (.ref 2), some (.int 0)]) rfl ?_
      have hk56 : ∀  (g : gz_S) (r : Int32 × gz_S), (fun  g => fX7_agrees_58 La    gz_FU 0 g)  g = some r → gz_J La 1 mX7_agrees 56 [some (.ref 2), none] [] g (gz_Fi r) := by
        intro  g r hf
        refine sz_iconst dX7_agrees_56 (cI0) ?_
        refine sz_istore_n dX7_agrees_57 rfl (Nat.le_of_ble_eq_true rfl) rfl ?_
        refine sz_ls (l2 := [some (.ref 2), some (.int 0)]) rfl ?_
        exact tX7_agrees_58    _ _ _ _ hf
      exact tX7_agrees_25   hk56 _ _ _ _ hf
    · have hf := gz_in1 c18 hf
      refine sz_iconst dX7_agrees_21 (cI0) ?_
      cases hf
      exact sz_iret dX7_agrees_22 rfl rfl ⟨rfl, rfl⟩
def fX7_readShore_6 (La : gz_L)   (k82 : gz_S → Option (Int32 × gz_S)) (k32 : gz_S → Option (Int32 × gz_S)) : Nat → Int32 → gz_S → Option (Int32 × gz_S)
  | 0, _, _ => none
  | n + 1, x1, g => if 10 < x1 then k82  g else (fX7_readClause La   g).bind (fun q13 => if q13.1 = 0 then some (0, q13.2) else (fX9_next La   q13.2).bind (fun q25 => if q25.1 = (-1) then k32  q25.2 else (fX9_expect La  59 q25.2).bind (fun q68 => if q68.1 = 0 then some (0, q68.2) else gz_let (x1 + 1) (fun y76 => fX7_readShore_6 La   k82 k32 n y76 q68.2))))
set_option maxRecDepth 100000 in
set_option maxHeartbeats 4000000 in
theorem tX7_readShore_6 {La : gz_L}   {k82 : gz_S → Option (Int32 × gz_S)} {k32 : gz_S → Option (Int32 × gz_S)}  (hk82 : ∀  (g : gz_S) (r : Int32 × gz_S), k82  g = some r → gz_J La 5 mX7_readShore 82 [some (.ref 2), none] [] g (gz_Fi r)) (hk32 : ∀  (g : gz_S) (r : Int32 × gz_S), k32  g = some r → gz_J La 5 mX7_readShore 32 [some (.ref 2), none] [] g (gz_Fi r)) : ∀ (n : Nat) (x1 : Int32) (g : gz_S) (r : Int32 × gz_S), fX7_readShore_6 La   k82 k32 n x1 g = some r → gz_J La 5 mX7_readShore 6 [some (.ref 2), some (.int x1)] [] g (gz_Fi r) := by
  intro n
  induction n with
  | zero => intro x1 g r hf; exact nomatch (show (none : Option (Int32 × gz_S)) = some r from hf)
  | succ n ih =>
    intro x1 g r hf
    unfold fX7_readShore_6 at hf
    refine sz_iload_n dX7_readShore_6 rfl ?_
    refine sz_bipush dX7_readShore_7 (cB10) ?_
    refine sz_icmp_gt 82 dX7_readShore_9 (by decide) (fun c9 => ?_) (fun c9 => ?_)
    · have hf := gz_ip c9 hf
      refine sz_weak (l2 := [some (.ref 2), none]) (gz_subk (gz_subn gz_sub0)) ?_
      exact hk82  _ _ hf
    · have hf := gz_in1 c9 hf
      refine sz_aload_n dX7_readShore_12 rfl ?_
      obtain ⟨q13, eq13, hf⟩ := gz_bd hf
      refine sz_callVi [] [] dX7_readShore_13 mvX7_31 (Nat.le_of_ble_eq_true rfl) (by decide : 7 < 13) kd2 rfl (Nat.le_of_ble_eq_true rfl) (kX7_readClause   eq13) ?_
      refine sz_if_ne 21 dX7_readShore_16 (by decide) (fun c16 => ?_) (fun c16 => ?_)
      · have hf := gz_in1 c16 hf
        refine sz_aload_n dX7_readShore_21 rfl ?_
        refine sz_getR dX7_readShore_22 flX7_24 kd2 rfl rf2_0 ?_
        obtain ⟨q25, eq25, hf⟩ := gz_bd hf
        refine sz_callVi [] [] dX7_readShore_25 mvX7_35 (Nat.le_of_ble_eq_true rfl) (by decide : 9 < 13) kd1 rfl (Nat.le_of_ble_eq_true rfl) (kX9_next   eq25) ?_
        refine sz_iconst dX7_readShore_28 (cIm1) ?_
        refine sz_icmp_ne 62 dX7_readShore_29 (by decide) (fun c29 => ?_) (fun c29 => ?_)
        · have hf := gz_in1 c29 hf
          refine sz_aload_n dX7_readShore_62 rfl ?_
          refine sz_getR dX7_readShore_63 flX7_24 kd2 rfl rf2_0 ?_
          refine sz_bipush dX7_readShore_66 (cB59) ?_
          obtain ⟨q68, eq68, hf⟩ := gz_bd hf
          refine sz_callVi [.int 59] [] dX7_readShore_68 mvX7_52 (Nat.le_of_ble_eq_true rfl) (by decide : 9 < 13) kd1 rfl (Nat.le_of_ble_eq_true rfl) (kX9_expect   eq68) ?_
          refine sz_if_ne 76 dX7_readShore_71 (by decide) (fun c71 => ?_) (fun c71 => ?_)
          · have hf := gz_in1 c71 hf
            obtain ⟨y76, ey76, hf⟩ := gz_lt hf
            refine sz_iinc (v := y76) dX7_readShore_76 rfl (by rw [ey76, cI1]) (Nat.le_of_ble_eq_true rfl) rfl ?_
            refine sz_ls (l2 := [some (.ref 2), some (.int y76)]) rfl ?_
            refine sz_goto 6 dX7_readShore_79 (by decide) ?_
            exact ih _ _ _ hf
          · have hf := gz_ip c71 hf
            refine sz_iconst dX7_readShore_74 (cI0) ?_
            cases hf
            exact sz_iret dX7_readShore_75 rfl rfl ⟨rfl, rfl⟩
        · have hf := gz_ip c29 hf
          refine sz_weak (l2 := [some (.ref 2), none]) (gz_subk (gz_subn gz_sub0)) ?_
          exact hk32  _ _ hf
      · have hf := gz_ip c16 hf
        refine sz_iconst dX7_readShore_19 (cI0) ?_
        cases hf
        exact sz_iret dX7_readShore_20 rfl rfl ⟨rfl, rfl⟩
def fX7_readShore (La : gz_L)   (g : gz_S) : Option (Int32 × gz_S) :=
  (fX7_clear La   g).bind (fun q1 => fX7_readShore_6 La   (fun  g => (fX9_refuse La  (g.1 1 2) g).bind (fun q93 => if q93.1 = 0 ∨ q93.1 = 1 then some (q93.1, q93.2) else none)) (fun  g => (fX7_agrees La   g).bind (fun q33 => if q33.1 = 0 then (fX9_refuse La  (q33.2.1 1 2) q33.2).bind (fun q50 => if q50.1 = 0 then some (0, q50.2) else some (1, q50.2)) else some (1, q33.2))) gz_FU 0 q1)
set_option maxRecDepth 100000 in
set_option maxHeartbeats 4000000 in
theorem kX7_readShore {La : gz_L}   {g : gz_S} {r : Int32 × gz_S}  (hf : fX7_readShore La   g = some r) : gz_K La 5 mX7_readShore [.ref 2] g (gz_Fi r) := by
  unfold fX7_readShore at hf
  refine gz_K.of 1 (by decide +kernel) rfl ?_
  show gz_J La 5 mX7_readShore 0 [some (.ref 2), none] [] g (gz_Fi r)
  refine sz_aload_n dX7_readShore_0 rfl ?_
  obtain ⟨q1, eq1, hf⟩ := gz_bd hf
  refine sz_callVv [] [] dX7_readShore_1 mvX7_28 (Nat.le_of_ble_eq_true rfl) (by decide : 7 < 13) kd2 rfl (Nat.le_of_ble_eq_true rfl) (kX7_clear   eq1) ?_
  refine sz_iconst dX7_readShore_4 (cI0) ?_
  refine sz_istore_n dX7_readShore_5 rfl (Nat.le_of_ble_eq_true rfl) rfl ?_
  refine sz_ls (l2 := [some (.ref 2), some (.int 0)]) rfl ?_
  have hk82 : ∀  (g : gz_S) (r : Int32 × gz_S), (fun  g => (fX9_refuse La  (g.1 1 2) g).bind (fun q93 => if q93.1 = 0 ∨ q93.1 = 1 then some (q93.1, q93.2) else none))  g = some r → gz_J La 5 mX7_readShore 82 [some (.ref 2), none] [] g (gz_Fi r) := by
    intro  g r hf
    refine sz_aload_n dX7_readShore_82 rfl ?_
    refine sz_getR dX7_readShore_83 flX7_24 kd2 rfl rf2_0 ?_
    refine sz_aload_n dX7_readShore_86 rfl ?_
    refine sz_getR dX7_readShore_87 flX7_24 kd2 rfl rf2_0 ?_
    refine sz_getI dX7_readShore_90 flX7_44 kd1 rfl ?_
    obtain ⟨q93, eq93, hf⟩ := gz_bd hf
    refine sz_callVi [.int (g.1 1 2)] [] dX7_readShore_93 mvX7_48 (Nat.le_of_ble_eq_true rfl) (by decide : 9 < 13) kd1 rfl (Nat.le_of_ble_eq_true rfl) (kX9_refuse   eq93) ?_
    obtain ⟨c96, hf⟩ := gz_gd hf
    cases hf
    exact sz_iret dX7_readShore_96 rfl (gz_nbx c96) ⟨rfl, rfl⟩
  have hk32 : ∀  (g : gz_S) (r : Int32 × gz_S), (fun  g => (fX7_agrees La   g).bind (fun q33 => if q33.1 = 0 then (fX9_refuse La  (q33.2.1 1 2) q33.2).bind (fun q50 => if q50.1 = 0 then some (0, q50.2) else some (1, q50.2)) else some (1, q33.2)))  g = some r → gz_J La 5 mX7_readShore 32 [some (.ref 2), none] [] g (gz_Fi r) := by
    intro  g r hf
    refine sz_aload_n dX7_readShore_32 rfl ?_
    obtain ⟨q33, eq33, hf⟩ := gz_bd hf
    refine sz_callVi [] [] dX7_readShore_33 mvX7_41 (Nat.le_of_ble_eq_true rfl) (by decide : 7 < 13) kd2 rfl (Nat.le_of_ble_eq_true rfl) (kX7_agrees   eq33) ?_
    refine sz_if_ne 56 dX7_readShore_36 (by decide) (fun c36 => ?_) (fun c36 => ?_)
    · have hf := gz_in1 c36 hf
      refine sz_iconst dX7_readShore_56 (cI1) ?_
      refine sz_goto 61 dX7_readShore_57 (by decide) ?_
      cases hf
      exact sz_iret dX7_readShore_61 rfl rfl ⟨rfl, rfl⟩
    · have hf := gz_ip c36 hf
      refine sz_aload_n dX7_readShore_39 rfl ?_
      refine sz_getR dX7_readShore_40 flX7_24 kd2 rfl rf2_0 ?_
      refine sz_aload_n dX7_readShore_43 rfl ?_
      refine sz_getR dX7_readShore_44 flX7_24 kd2 rfl rf2_0 ?_
      refine sz_getI dX7_readShore_47 flX7_44 kd1 rfl ?_
      obtain ⟨q50, eq50, hf⟩ := gz_bd hf
      refine sz_callVi [.int (q33.2.1 1 2)] [] dX7_readShore_50 mvX7_48 (Nat.le_of_ble_eq_true rfl) (by decide : 9 < 13) kd1 rfl (Nat.le_of_ble_eq_true rfl) (kX9_refuse   eq50) ?_
      refine sz_if_eq 60 dX7_readShore_53 (by decide) (fun c53 => ?_) (fun c53 => ?_)
      · have hf := gz_ip c53 hf
        refine sz_iconst dX7_readShore_60 (cI0) ?_
        cases hf
        exact sz_iret dX7_readShore_61 rfl rfl ⟨rfl, rfl⟩
      · have hf := gz_in1 c53 hf
        refine sz_iconst dX7_readShore_56 (cI1) ?_
        refine sz_goto 61 dX7_readShore_57 (by decide) ?_
        cases hf
        exact sz_iret dX7_readShore_61 rfl rfl ⟨rfl, rfl⟩
  exact tX7_readShore_6   hk82 hk32 _ _ _ _ hf
def fX7_tell_87 (La : gz_L)   (k126 : Int32 → Int32 → Int32 → gz_S → Option (gz_S)) : Nat → Int32 → Int32 → Int32 → Int32 → gz_S → Option (gz_S)
  | 0, _, _, _, _, _ => none
  | n + 1, x2, x3, x4, x5, g => if x2 ≤ x5 then k126 x2 x3 x4 g else if gz_ok ((x4 * 6) + x5) 30 then if gz_ok (((0 : Int32) + (x4 * x2)) + x5) 61 then gz_let (gz_wi g 21 (Int32.toNatClampNeg (((0 : Int32) + (x4 * x2)) + x5)) (g.1 17 (Int32.toNatClampNeg ((x4 * 6) + x5)))) (fun g119 => gz_let (x5 + 1) (fun y120 => fX7_tell_87 La   k126 n x2 x3 x4 y120 g119)) else none else none
set_option maxRecDepth 100000 in
set_option maxHeartbeats 4000000 in
theorem tX7_tell_87 {La : gz_L}   {k126 : Int32 → Int32 → Int32 → gz_S → Option (gz_S)}  (hk126 : ∀ (x2 : Int32) (x3 : Int32) (x4 : Int32) (g : gz_S) (r : gz_S), k126 x2 x3 x4 g = some r → gz_J La 2 mX7_tell 126 [some (.ref 2), some (.ref 5), some (.int x2), some (.int x3), some (.int x4), none] [] g (gz_Fv r)) : ∀ (n : Nat) (x2 : Int32) (x3 : Int32) (x4 : Int32) (x5 : Int32) (g : gz_S) (r : gz_S), fX7_tell_87 La   k126 n x2 x3 x4 x5 g = some r → gz_J La 2 mX7_tell 87 [some (.ref 2), some (.ref 5), some (.int x2), some (.int x3), some (.int x4), some (.int x5)] [] g (gz_Fv r) := by
  intro n
  induction n with
  | zero => intro x2 x3 x4 x5 g r hf; exact nomatch (show (none : Option (gz_S)) = some r from hf)
  | succ n ih =>
    intro x2 x3 x4 x5 g r hf
    unfold fX7_tell_87 at hf
    refine sz_iload dX7_tell_87 rfl ?_
    refine sz_iload_n dX7_tell_89 rfl ?_
    refine sz_icmp_ge 126 dX7_tell_90 (by decide) (fun c90 => ?_) (fun c90 => ?_)
    · have hf := gz_ip c90 hf
      refine sz_weak (l2 := [some (.ref 2), some (.ref 5), some (.int x2), some (.int x3), some (.int x4), none]) (gz_subk (gz_subk (gz_subk (gz_subk (gz_subk (gz_subn gz_sub0)))))) ?_
      exact hk126 _ _ _ _ _ hf
    · have hf := gz_in1 c90 hf
      refine sz_aload_n dX7_tell_93 rfl ?_
      refine sz_getR dX7_tell_94 flX7_105 kd5 rfl rf5_0 ?_
      refine sz_iconst dX7_tell_97 (cI0) ?_
      refine sz_iload dX7_tell_98 rfl ?_
      refine sz_iload_n dX7_tell_100 rfl ?_
      refine sz_imul dX7_tell_101 ?_
      refine sz_iadd dX7_tell_102 ?_
      refine sz_iload dX7_tell_103 rfl ?_
      refine sz_iadd dX7_tell_105 ?_
      refine sz_aload_n dX7_tell_106 rfl ?_
      refine sz_getR dX7_tell_107 flX7_18 kd2 rfl rf2_3 ?_
      refine sz_iload dX7_tell_110 rfl ?_
      refine sz_bipush dX7_tell_112 (cB6) ?_
      refine sz_imul dX7_tell_114 ?_
      refine sz_iload dX7_tell_115 rfl ?_
      refine sz_iadd dX7_tell_117 ?_
      obtain ⟨c118, hf⟩ := gz_gd hf
      refine sz_ialdL dX7_tell_118 kd17 c118 rfl ?_
      obtain ⟨c119, hf⟩ := gz_gd hf
      obtain ⟨g119, eg119, hf⟩ := gz_lt hf
      refine sz_iastL dX7_tell_119 kd21 c119 rfl eg119 ?_
      obtain ⟨y120, ey120, hf⟩ := gz_lt hf
      refine sz_iinc (v := y120) dX7_tell_120 rfl (by rw [ey120, cI1]) (Nat.le_of_ble_eq_true rfl) rfl ?_
      refine sz_ls (l2 := [some (.ref 2), some (.ref 5), some (.int x2), some (.int x3), some (.int x4), some (.int y120)]) rfl ?_
      refine sz_goto 87 dX7_tell_123 (by decide) ?_
      exact ih _ _ _ _ _ _ hf
def fX7_tell_78 (La : gz_L)   (k132 : Int32 → gz_S → Option (gz_S)) : Nat → Int32 → Int32 → Int32 → gz_S → Option (gz_S)
  | 0, _, _, _, _ => none
  | n + 1, x2, x3, x4, g => if x3 ≤ x4 then k132 x2 g else fX7_tell_87 La   (fun (x2 : Int32) (x3 : Int32) (x4 : Int32) g => gz_let (x4 + 1) (fun y126 => fX7_tell_78 La   k132 n x2 x3 y126 g)) gz_FU x2 x3 x4 0 g
set_option maxRecDepth 100000 in
set_option maxHeartbeats 4000000 in
theorem tX7_tell_78 {La : gz_L}   {k132 : Int32 → gz_S → Option (gz_S)}  (hk132 : ∀ (x2 : Int32) (g : gz_S) (r : gz_S), k132 x2 g = some r → gz_J La 2 mX7_tell 132 [some (.ref 2), some (.ref 5), some (.int x2), none, none, none] [] g (gz_Fv r)) : ∀ (n : Nat) (x2 : Int32) (x3 : Int32) (x4 : Int32) (g : gz_S) (r : gz_S), fX7_tell_78 La   k132 n x2 x3 x4 g = some r → gz_J La 2 mX7_tell 78 [some (.ref 2), some (.ref 5), some (.int x2), some (.int x3), some (.int x4), none] [] g (gz_Fv r) := by
  intro n
  induction n with
  | zero => intro x2 x3 x4 g r hf; exact nomatch (show (none : Option (gz_S)) = some r from hf)
  | succ n ih =>
    intro x2 x3 x4 g r hf
    unfold fX7_tell_78 at hf
    refine sz_iload dX7_tell_78 rfl ?_
    refine sz_iload_n dX7_tell_80 rfl ?_
    refine sz_icmp_ge 132 dX7_tell_81 (by decide) (fun c81 => ?_) (fun c81 => ?_)
    · have hf := gz_ip c81 hf
      refine sz_weak (l2 := [some (.ref 2), some (.ref 5), some (.int x2), none, none, none]) (gz_subk (gz_subk (gz_subk (gz_subn (gz_subn (gz_subk gz_sub0)))))) ?_
      exact hk132 _ _ _ hf
    · have hf := gz_in1 c81 hf
      refine sz_iconst dX7_tell_84 (cI0) ?_
      refine sz_istore dX7_tell_85 (Nat.le_of_ble_eq_true rfl) rfl ?_
      refine sz_ls (l2 := [some (.ref 2), some (.ref 5), some (.int x2), some (.int x3), some (.int x4), some (.int 0)]) rfl ?_
      have hk126 : ∀ (x2 : Int32) (x3 : Int32) (x4 : Int32) (g : gz_S) (r : gz_S), (fun (x2 : Int32) (x3 : Int32) (x4 : Int32) g => gz_let (x4 + 1) (fun y126 => fX7_tell_78 La   k132 n x2 x3 y126 g)) x2 x3 x4 g = some r → gz_J La 2 mX7_tell 126 [some (.ref 2), some (.ref 5), some (.int x2), some (.int x3), some (.int x4), none] [] g (gz_Fv r) := by
        intro x2 x3 x4 g r hf
        obtain ⟨y126, ey126, hf⟩ := gz_lt hf
        refine sz_iinc (v := y126) dX7_tell_126 rfl (by rw [ey126, cI1]) (Nat.le_of_ble_eq_true rfl) rfl ?_
        refine sz_ls (l2 := [some (.ref 2), some (.ref 5), some (.int x2), some (.int x3), some (.int y126), none]) rfl ?_
        refine sz_goto 78 dX7_tell_129 (by decide) ?_
        exact ih _ _ _ _ _ hf
      exact tX7_tell_87   hk126 _ _ _ _ _ _ _ hf
def fX7_tell_135 (La : gz_L)    : Nat → Int32 → Int32 → gz_S → Option (gz_S)
  | 0, _, _, _ => none
  | n + 1, x2, x4, g => if (g.1 2 7) ≤ x4 then some g else if gz_ok ((x4 * 4) + 1) 16 then if gz_ok (x4 * 4) 16 then gz_let (((g.1 16 (Int32.toNatClampNeg ((x4 * 4) + 1))) * x2) + (g.1 16 (Int32.toNatClampNeg (x4 * 4)))) (fun y167 => if gz_ok ((54 : Int32) + x4) 61 then gz_let (gz_wi g 21 (Int32.toNatClampNeg ((54 : Int32) + x4)) y167) (fun g180 => if gz_ok ((30 : Int32) + x4) 61 then gz_let (gz_wi g180 21 (Int32.toNatClampNeg ((30 : Int32) + x4)) y167) (fun g192 => if gz_ok ((x4 * 4) + 2) 16 then if gz_ok ((34 : Int32) + x4) 61 then gz_let (gz_wi g192 21 (Int32.toNatClampNeg ((34 : Int32) + x4)) (g192.1 16 (Int32.toNatClampNeg ((x4 * 4) + 2)))) (fun g213 => if gz_ok ((x4 * 4) + 3) 16 then if gz_ok ((50 : Int32) + x4) 61 then gz_let (gz_wi g213 21 (Int32.toNatClampNeg ((50 : Int32) + x4)) (g213.1 16 (Int32.toNatClampNeg ((x4 * 4) + 3)))) (fun g234 => gz_let (x4 + 1) (fun y235 => fX7_tell_135 La    n x2 y235 g234)) else none else none) else none else none) else none) else none) else none else none
set_option maxRecDepth 100000 in
set_option maxHeartbeats 4000000 in
theorem tX7_tell_135 {La : gz_L}      : ∀ (n : Nat) (x2 : Int32) (x4 : Int32) (g : gz_S) (r : gz_S), fX7_tell_135 La    n x2 x4 g = some r → gz_J La 2 mX7_tell 135 [some (.ref 2), some (.ref 5), some (.int x2), none, some (.int x4), none] [] g (gz_Fv r) := by
  intro n
  induction n with
  | zero => intro x2 x4 g r hf; exact nomatch (show (none : Option (gz_S)) = some r from hf)
  | succ n ih =>
    intro x2 x4 g r hf
    unfold fX7_tell_135 at hf
    refine sz_iload dX7_tell_135 rfl ?_
    refine sz_aload_n dX7_tell_137 rfl ?_
    refine sz_getI dX7_tell_138 flX7_65 kd2 rfl ?_
    refine sz_icmp_ge 241 dX7_tell_141 (by decide) (fun c141 => ?_) (fun c141 => ?_)
    · have hf := gz_ip c141 hf
      cases hf
      exact sz_ret dX7_tell_241 rfl ⟨rfl, rfl⟩
    · have hf := gz_in1 c141 hf
      refine sz_aload_n dX7_tell_144 rfl ?_
      refine sz_getR dX7_tell_145 flX7_15 kd2 rfl rf2_2 ?_
      refine sz_iload dX7_tell_148 rfl ?_
      refine sz_iconst dX7_tell_150 (cI4) ?_
      refine sz_imul dX7_tell_151 ?_
      refine sz_iconst dX7_tell_152 (cI1) ?_
      refine sz_iadd dX7_tell_153 ?_
      obtain ⟨c154, hf⟩ := gz_gd hf
      refine sz_ialdL dX7_tell_154 kd16 c154 rfl ?_
      refine sz_iload_n dX7_tell_155 rfl ?_
      refine sz_imul dX7_tell_156 ?_
      refine sz_aload_n dX7_tell_157 rfl ?_
      refine sz_getR dX7_tell_158 flX7_15 kd2 rfl rf2_2 ?_
      refine sz_iload dX7_tell_161 rfl ?_
      refine sz_iconst dX7_tell_163 (cI4) ?_
      refine sz_imul dX7_tell_164 ?_
      obtain ⟨c165, hf⟩ := gz_gd hf
      refine sz_ialdL dX7_tell_165 kd16 c165 rfl ?_
      refine sz_iadd dX7_tell_166 ?_
      obtain ⟨y167, ey167, hf⟩ := gz_lt hf
      refine sz_topi ey167 ?_
      refine sz_istore dX7_tell_167 (Nat.le_of_ble_eq_true rfl) rfl ?_
      refine sz_ls (l2 := [some (.ref 2), some (.ref 5), some (.int x2), none, some (.int x4), some (.int y167)]) rfl ?_
      refine sz_aload_n dX7_tell_169 rfl ?_
      refine sz_getR dX7_tell_170 flX7_105 kd5 rfl rf5_0 ?_
      refine sz_bipush dX7_tell_173 (cB54) ?_
      refine sz_iload dX7_tell_175 rfl ?_
      refine sz_iadd dX7_tell_177 ?_
      refine sz_iload dX7_tell_178 rfl ?_
      obtain ⟨c180, hf⟩ := gz_gd hf
      obtain ⟨g180, eg180, hf⟩ := gz_lt hf
      refine sz_iastL dX7_tell_180 kd21 c180 rfl eg180 ?_
      refine sz_aload_n dX7_tell_181 rfl ?_
      refine sz_getR dX7_tell_182 flX7_105 kd5 rfl rf5_0 ?_
      refine sz_bipush dX7_tell_185 (cB30) ?_
      refine sz_iload dX7_tell_187 rfl ?_
      refine sz_iadd dX7_tell_189 ?_
      refine sz_iload dX7_tell_190 rfl ?_
      obtain ⟨c192, hf⟩ := gz_gd hf
      obtain ⟨g192, eg192, hf⟩ := gz_lt hf
      refine sz_iastL dX7_tell_192 kd21 c192 rfl eg192 ?_
      refine sz_aload_n dX7_tell_193 rfl ?_
      refine sz_getR dX7_tell_194 flX7_105 kd5 rfl rf5_0 ?_
      refine sz_bipush dX7_tell_197 (cB34) ?_
      refine sz_iload dX7_tell_199 rfl ?_
      refine sz_iadd dX7_tell_201 ?_
      refine sz_aload_n dX7_tell_202 rfl ?_
      refine sz_getR dX7_tell_203 flX7_15 kd2 rfl rf2_2 ?_
      refine sz_iload dX7_tell_206 rfl ?_
      refine sz_iconst dX7_tell_208 (cI4) ?_
      refine sz_imul dX7_tell_209 ?_
      refine sz_iconst dX7_tell_210 (cI2) ?_
      refine sz_iadd dX7_tell_211 ?_
      obtain ⟨c212, hf⟩ := gz_gd hf
      refine sz_ialdL dX7_tell_212 kd16 c212 rfl ?_
      obtain ⟨c213, hf⟩ := gz_gd hf
      obtain ⟨g213, eg213, hf⟩ := gz_lt hf
      refine sz_iastL dX7_tell_213 kd21 c213 rfl eg213 ?_
      refine sz_aload_n dX7_tell_214 rfl ?_
      refine sz_getR dX7_tell_215 flX7_105 kd5 rfl rf5_0 ?_
      refine sz_bipush dX7_tell_218 (cB50) ?_
      refine sz_iload dX7_tell_220 rfl ?_
      refine sz_iadd dX7_tell_222 ?_
      refine sz_aload_n dX7_tell_223 rfl ?_
      refine sz_getR dX7_tell_224 flX7_15 kd2 rfl rf2_2 ?_
      refine sz_iload dX7_tell_227 rfl ?_
      refine sz_iconst dX7_tell_229 (cI4) ?_
      refine sz_imul dX7_tell_230 ?_
      refine sz_iconst dX7_tell_231 (cI3) ?_
      refine sz_iadd dX7_tell_232 ?_
      obtain ⟨c233, hf⟩ := gz_gd hf
      refine sz_ialdL dX7_tell_233 kd16 c233 rfl ?_
      obtain ⟨c234, hf⟩ := gz_gd hf
      obtain ⟨g234, eg234, hf⟩ := gz_lt hf
      refine sz_iastL dX7_tell_234 kd21 c234 rfl eg234 ?_
      obtain ⟨y235, ey235, hf⟩ := gz_lt hf
      refine sz_iinc (v := y235) dX7_tell_235 rfl (by rw [ey235, cI1]) (Nat.le_of_ble_eq_true rfl) rfl ?_
      refine sz_ls (l2 := [some (.ref 2), some (.ref 5), some (.int x2), none, some (.int y235), some (.int y167)]) rfl ?_
      refine sz_goto 135 dX7_tell_238 (by decide) ?_
      refine sz_weak (l2 := [some (.ref 2), some (.ref 5), some (.int x2), none, some (.int y235), none]) (gz_subk (gz_subk (gz_subk (gz_subk (gz_subk (gz_subn gz_sub0)))))) ?_
      exact ih _ _ _ _ hf
def fX7_tell (La : gz_L)   (g : gz_S) : Option (gz_S) :=
  (fJ7_fill_53178 La  21 0 g).bind (fun q5 => gz_let (q5.1 15 0) (fun y14 => gz_let (q5.1 15 1) (fun y21 => gz_let (gz_wi q5 21 58 y14) (fun g29 => gz_let (gz_wi g29 21 59 y21) (fun g37 => gz_let (gz_wi g37 21 46 (g37.1 15 2)) (fun g50 => gz_let (gz_wi g50 21 48 (g50.1 15 3)) (fun g63 => gz_let (gz_wi g63 21 60 (g63.1 2 7)) (fun g74 => fX7_tell_78 La   (fun (x2 : Int32) g => fX7_tell_135 La    gz_FU x2 0 g) gz_FU y14 y21 0 g74))))))))
set_option maxRecDepth 100000 in
set_option maxHeartbeats 4000000 in
theorem kX7_tell {La : gz_L}   {g : gz_S} {r : gz_S}  (hf : fX7_tell La   g = some r) : gz_K La 2 mX7_tell [.ref 2, .ref 5] g (gz_Fv r) := by
  unfold fX7_tell at hf
  refine gz_K.of 4 (by decide +kernel) rfl ?_
  show gz_J La 2 mX7_tell 0 [some (.ref 2), some (.ref 5), none, none, none, none] [] g (gz_Fv r)
  refine sz_aload_n dX7_tell_0 rfl ?_
  refine sz_getR dX7_tell_1 flX7_105 kd5 rfl rf5_0 ?_
  refine sz_iconst dX7_tell_4 (cI0) ?_
  obtain ⟨q5, eq5, hf⟩ := gz_bd hf
  refine sz_callSv [.ref 21, .int 0] [] dX7_tell_5 msX7_70 (Nat.le_of_ble_eq_true rfl) (Nat.le_of_ble_eq_true rfl) (kJ7_fill_53178  (Or.inr (Or.inr (Or.inl rfl))) eq5) ?_
  refine sz_aload_n dX7_tell_8 rfl ?_
  refine sz_getR dX7_tell_9 flX7_11 kd2 rfl rf2_1 ?_
  refine sz_iconst dX7_tell_12 (cI0) ?_
  refine sz_ialdL dX7_tell_13 kd15 vi0_4 tn0 ?_
  obtain ⟨y14, ey14, hf⟩ := gz_lt hf
  refine sz_topi ey14 ?_
  refine sz_istore_n dX7_tell_14 rfl (Nat.le_of_ble_eq_true rfl) rfl ?_
  refine sz_ls (l2 := [some (.ref 2), some (.ref 5), some (.int y14), none, none, none]) rfl ?_
  refine sz_aload_n dX7_tell_15 rfl ?_
  refine sz_getR dX7_tell_16 flX7_11 kd2 rfl rf2_1 ?_
  refine sz_iconst dX7_tell_19 (cI1) ?_
  refine sz_ialdL dX7_tell_20 kd15 vi1_4 tn1 ?_
  obtain ⟨y21, ey21, hf⟩ := gz_lt hf
  refine sz_topi ey21 ?_
  refine sz_istore_n dX7_tell_21 rfl (Nat.le_of_ble_eq_true rfl) rfl ?_
  refine sz_ls (l2 := [some (.ref 2), some (.ref 5), some (.int y14), some (.int y21), none, none]) rfl ?_
  refine sz_aload_n dX7_tell_22 rfl ?_
  refine sz_getR dX7_tell_23 flX7_105 kd5 rfl rf5_0 ?_
  refine sz_bipush dX7_tell_26 (cB58) ?_
  refine sz_iload_n dX7_tell_28 rfl ?_
  obtain ⟨g29, eg29, hf⟩ := gz_lt hf
  refine sz_iastL dX7_tell_29 kd21 vi58_61 tn58 eg29 ?_
  refine sz_aload_n dX7_tell_30 rfl ?_
  refine sz_getR dX7_tell_31 flX7_105 kd5 rfl rf5_0 ?_
  refine sz_bipush dX7_tell_34 (cB59) ?_
  refine sz_iload_n dX7_tell_36 rfl ?_
  obtain ⟨g37, eg37, hf⟩ := gz_lt hf
  refine sz_iastL dX7_tell_37 kd21 vi59_61 tn59 eg37 ?_
  refine sz_aload_n dX7_tell_38 rfl ?_
  refine sz_getR dX7_tell_39 flX7_105 kd5 rfl rf5_0 ?_
  refine sz_bipush dX7_tell_42 (cB46) ?_
  refine sz_aload_n dX7_tell_44 rfl ?_
  refine sz_getR dX7_tell_45 flX7_11 kd2 rfl rf2_1 ?_
  refine sz_iconst dX7_tell_48 (cI2) ?_
  refine sz_ialdL dX7_tell_49 kd15 vi2_4 tn2 ?_
  obtain ⟨g50, eg50, hf⟩ := gz_lt hf
  refine sz_iastL dX7_tell_50 kd21 vi46_61 tn46 eg50 ?_
  refine sz_aload_n dX7_tell_51 rfl ?_
  refine sz_getR dX7_tell_52 flX7_105 kd5 rfl rf5_0 ?_
  refine sz_bipush dX7_tell_55 (cB48) ?_
  refine sz_aload_n dX7_tell_57 rfl ?_
  refine sz_getR dX7_tell_58 flX7_11 kd2 rfl rf2_1 ?_
  refine sz_iconst dX7_tell_61 (cI3) ?_
  refine sz_ialdL dX7_tell_62 kd15 vi3_4 tn3 ?_
  obtain ⟨g63, eg63, hf⟩ := gz_lt hf
  refine sz_iastL dX7_tell_63 kd21 vi48_61 tn48 eg63 ?_
  refine sz_aload_n dX7_tell_64 rfl ?_
  refine sz_getR dX7_tell_65 flX7_105 kd5 rfl rf5_0 ?_
  refine sz_bipush dX7_tell_68 (cB60) ?_
  refine sz_aload_n dX7_tell_70 rfl ?_
  refine sz_getI dX7_tell_71 flX7_65 kd2 rfl ?_
  obtain ⟨g74, eg74, hf⟩ := gz_lt hf
  refine sz_iastL dX7_tell_74 kd21 vi60_61 tn60 eg74 ?_
  refine sz_iconst dX7_tell_75 (cI0) ?_
  refine sz_istore dX7_tell_76 (Nat.le_of_ble_eq_true rfl) rfl ?_
  refine sz_ls (l2 := [some (.ref 2), some (.ref 5), some (.int y14), some (.int y21), some (.int 0), none]) rfl ?_
  have hk132 : ∀ (x2 : Int32) (g : gz_S) (r : gz_S), (fun (x2 : Int32) g => fX7_tell_135 La    gz_FU x2 0 g) x2 g = some r → gz_J La 2 mX7_tell 132 [some (.ref 2), some (.ref 5), some (.int x2), none, none, none] [] g (gz_Fv r) := by
    intro x2 g r hf
    refine sz_iconst dX7_tell_132 (cI0) ?_
    refine sz_istore dX7_tell_133 (Nat.le_of_ble_eq_true rfl) rfl ?_
    refine sz_ls (l2 := [some (.ref 2), some (.ref 5), some (.int x2), none, some (.int 0), none]) rfl ?_
    exact tX7_tell_135    _ _ _ _ _ hf
  exact tX7_tell_78   hk132 _ _ _ _ _ _ hf
