def fX11_feed (La : gz_L)  (x1 : Int32) (x2 : Int32) (x3 : Int32) (x4 : Int32) (x5 : Int32) (g : gz_S) : Option (Int32 × gz_S) :=
  (fX9_filled La  x1 g).bind (fun q1 => (fX9_filled La  x2 q1.2).bind (fun q5 => (fX9_filled La  x3 q5.2).bind (fun q10 => (fX9_filled La  x4 q10.2).bind (fun q16 => (fX9_filled La  x5 q16.2).bind (fun q22 => gz_let ((((q1.1 + q5.1) + q10.1) + q16.1) + q22.1) (fun y26 => if ((q22.2.1 1 1) + y26) ≤ 240 then (fX9_add La  x1 q22.2).bind (fun q51 => (fX9_add La  x2 q51).bind (fun q59 => (fX9_add La  x3 q59).bind (fun q67 => (fX9_add La  x4 q67).bind (fun q76 => (fX9_add La  x5 q76).bind (fun q85 => some (q85.1 1 1, q85)))))) else some ((-1), q22.2)))))))
set_option maxRecDepth 100000 in
set_option maxHeartbeats 4000000 in
theorem kX11_feed {La : gz_L}  {x1 : Int32} {x2 : Int32} {x3 : Int32} {x4 : Int32} {x5 : Int32} {g : gz_S} {r : Int32 × gz_S}  (hf : fX11_feed La  x1 x2 x3 x4 x5 g = some r) : gz_K La 2 mX11_feed [.ref 0, .int x1, .int x2, .int x3, .int x4, .int x5] g (gz_Fi r) := by
  unfold fX11_feed at hf
  refine gz_K.of 1 (by decide +kernel) rfl ?_
  show gz_J La 2 mX11_feed 0 [some (.ref 0), some (.int x1), some (.int x2), some (.int x3), some (.int x4), some (.int x5), none] [] g (gz_Fi r)
  refine sz_iload_n dX11_feed_0 rfl ?_
  obtain ⟨q1, eq1, hf⟩ := gz_bd hf
  refine sz_callSi [.int x1] [] dX11_feed_1 msX11_101 (Nat.le_of_ble_eq_true rfl) (Nat.le_of_ble_eq_true rfl) (kX9_filled   eq1) ?_
  refine sz_iload_n dX11_feed_4 rfl ?_
  obtain ⟨q5, eq5, hf⟩ := gz_bd hf
  refine sz_callSi [.int x2] [.int q1.1] dX11_feed_5 msX11_101 (Nat.le_of_ble_eq_true rfl) (Nat.le_of_ble_eq_true rfl) (kX9_filled   eq5) ?_
  refine sz_iadd dX11_feed_8 ?_
  refine sz_iload_n dX11_feed_9 rfl ?_
  obtain ⟨q10, eq10, hf⟩ := gz_bd hf
  refine sz_callSi [.int x3] [.int (q1.1 + q5.1)] dX11_feed_10 msX11_101 (Nat.le_of_ble_eq_true rfl) (Nat.le_of_ble_eq_true rfl) (kX9_filled   eq10) ?_
  refine sz_iadd dX11_feed_13 ?_
  refine sz_iload dX11_feed_14 rfl ?_
  obtain ⟨q16, eq16, hf⟩ := gz_bd hf
  refine sz_callSi [.int x4] [.int ((q1.1 + q5.1) + q10.1)] dX11_feed_16 msX11_101 (Nat.le_of_ble_eq_true rfl) (Nat.le_of_ble_eq_true rfl) (kX9_filled   eq16) ?_
  refine sz_iadd dX11_feed_19 ?_
  refine sz_iload dX11_feed_20 rfl ?_
  obtain ⟨q22, eq22, hf⟩ := gz_bd hf
  refine sz_callSi [.int x5] [.int (((q1.1 + q5.1) + q10.1) + q16.1)] dX11_feed_22 msX11_101 (Nat.le_of_ble_eq_true rfl) (Nat.le_of_ble_eq_true rfl) (kX9_filled   eq22) ?_
  refine sz_iadd dX11_feed_25 ?_
  obtain ⟨y26, ey26, hf⟩ := gz_lt hf
  refine sz_topi ey26 ?_
  refine sz_istore dX11_feed_26 (Nat.le_of_ble_eq_true rfl) rfl ?_
  refine sz_ls (l2 := [some (.ref 0), some (.int x1), some (.int x2), some (.int x3), some (.int x4), some (.int x5), some (.int y26)]) rfl ?_
  refine sz_aload_n dX11_feed_28 rfl ?_
  refine sz_getR dX11_feed_29 flX11_10 kd0 rfl rf0_0 ?_
  refine sz_getI dX11_feed_32 flX11_105 kd1 rfl ?_
  refine sz_iload dX11_feed_35 rfl ?_
  refine sz_iadd dX11_feed_37 ?_
  refine sz_sipush dX11_feed_38 (cH240) ?_
  refine sz_icmp_le 46 dX11_feed_41 (by decide) (fun c41 => ?_) (fun c41 => ?_)
  · have hf := gz_ip c41 hf
    refine sz_aload_n dX11_feed_46 rfl ?_
    refine sz_getR dX11_feed_47 flX11_10 kd0 rfl rf0_0 ?_
    refine sz_iload_n dX11_feed_50 rfl ?_
    obtain ⟨q51, eq51, hf⟩ := gz_bd hf
    refine sz_callVv [.int x1] [] dX11_feed_51 mvX11_108 (Nat.le_of_ble_eq_true rfl) (by decide : 9 < 13) kd1 rfl (Nat.le_of_ble_eq_true rfl) (kX9_add   eq51) ?_
    refine sz_aload_n dX11_feed_54 rfl ?_
    refine sz_getR dX11_feed_55 flX11_10 kd0 rfl rf0_0 ?_
    refine sz_iload_n dX11_feed_58 rfl ?_
    obtain ⟨q59, eq59, hf⟩ := gz_bd hf
    refine sz_callVv [.int x2] [] dX11_feed_59 mvX11_108 (Nat.le_of_ble_eq_true rfl) (by decide : 9 < 13) kd1 rfl (Nat.le_of_ble_eq_true rfl) (kX9_add   eq59) ?_
    refine sz_aload_n dX11_feed_62 rfl ?_
    refine sz_getR dX11_feed_63 flX11_10 kd0 rfl rf0_0 ?_
    refine sz_iload_n dX11_feed_66 rfl ?_
    obtain ⟨q67, eq67, hf⟩ := gz_bd hf
    refine sz_callVv [.int x3] [] dX11_feed_67 mvX11_108 (Nat.le_of_ble_eq_true rfl) (by decide : 9 < 13) kd1 rfl (Nat.le_of_ble_eq_true rfl) (kX9_add   eq67) ?_
    refine sz_aload_n dX11_feed_70 rfl ?_
    refine sz_getR dX11_feed_71 flX11_10 kd0 rfl rf0_0 ?_
    refine sz_iload dX11_feed_74 rfl ?_
    obtain ⟨q76, eq76, hf⟩ := gz_bd hf
    refine sz_callVv [.int x4] [] dX11_feed_76 mvX11_108 (Nat.le_of_ble_eq_true rfl) (by decide : 9 < 13) kd1 rfl (Nat.le_of_ble_eq_true rfl) (kX9_add   eq76) ?_
    refine sz_aload_n dX11_feed_79 rfl ?_
    refine sz_getR dX11_feed_80 flX11_10 kd0 rfl rf0_0 ?_
    refine sz_iload dX11_feed_83 rfl ?_
    obtain ⟨q85, eq85, hf⟩ := gz_bd hf
    refine sz_callVv [.int x5] [] dX11_feed_85 mvX11_108 (Nat.le_of_ble_eq_true rfl) (by decide : 9 < 13) kd1 rfl (Nat.le_of_ble_eq_true rfl) (kX9_add   eq85) ?_
    refine sz_aload_n dX11_feed_88 rfl ?_
    refine sz_getR dX11_feed_89 flX11_10 kd0 rfl rf0_0 ?_
    refine sz_getI dX11_feed_92 flX11_105 kd1 rfl ?_
    cases hf
    exact sz_iret dX11_feed_95 rfl rfl ⟨rfl, rfl⟩
  · have hf := gz_in1 c41 hf
    refine sz_iconst dX11_feed_44 (cIm1) ?_
    cases hf
    exact sz_iret dX11_feed_45 rfl rfl ⟨rfl, rfl⟩
def fX11_end (La : gz_L)  (x1 : Int32) (g : gz_S) : Option (Int32 × gz_S) :=
  if x1 < 0 then some (0, g) else if x1 ≤ (g.1 1 1) then gz_let (gz_wi g 1 1 x1) (fun g22 => some (1, g22)) else some (0, g)
set_option maxRecDepth 100000 in
set_option maxHeartbeats 4000000 in
theorem kX11_end {La : gz_L}  {x1 : Int32} {g : gz_S} {r : Int32 × gz_S}  (hf : fX11_end La  x1 g = some r) : gz_K La 1 mX11_end [.ref 0, .int x1] g (gz_Fi r) := by
  unfold fX11_end at hf
  refine gz_K.of 0 (by decide +kernel) rfl ?_
  show gz_J La 1 mX11_end 0 [some (.ref 0), some (.int x1)] [] g (gz_Fi r)
  refine sz_iload_n dX11_end_0 rfl ?_
  refine sz_if_lt 15 dX11_end_1 (by decide) (fun c1 => ?_) (fun c1 => ?_)
  · have hf := gz_ip c1 hf
    refine sz_iconst dX11_end_15 (cI0) ?_
    cases hf
    exact sz_iret dX11_end_16 rfl rfl ⟨rfl, rfl⟩
  · have hf := gz_in1 c1 hf
    refine sz_iload_n dX11_end_4 rfl ?_
    refine sz_aload_n dX11_end_5 rfl ?_
    refine sz_getR dX11_end_6 flX11_10 kd0 rfl rf0_0 ?_
    refine sz_getI dX11_end_9 flX11_105 kd1 rfl ?_
    refine sz_icmp_le 17 dX11_end_12 (by decide) (fun c12 => ?_) (fun c12 => ?_)
    · have hf := gz_ip c12 hf
      refine sz_aload_n dX11_end_17 rfl ?_
      refine sz_getR dX11_end_18 flX11_10 kd0 rfl rf0_0 ?_
      refine sz_iload_n dX11_end_21 rfl ?_
      obtain ⟨g22, eg22, hf⟩ := gz_lt hf
      refine sz_putI2 dX11_end_22 flX11_105 kd1 fi9_1 eg22 ?_
      refine sz_iconst dX11_end_25 (cI1) ?_
      cases hf
      exact sz_iret dX11_end_26 rfl rfl ⟨rfl, rfl⟩
    · have hf := gz_in1 c12 hf
      refine sz_iconst dX11_end_15 (cI0) ?_
      cases hf
      exact sz_iret dX11_end_16 rfl rfl ⟨rfl, rfl⟩
def fX11_fault (La : gz_L)  (x1 : Int32) (g : gz_S) : Option (Int32 × gz_S) :=
  if x1 = 0 then (fX7_readShore La   g).bind (fun q32 => if q32.1 = 0 then some (q32.2.1 1 3, q32.2) else some ((-1), q32.2)) else if x1 = 1 then (fX4_readLaw La   g).bind (fun q54 => if q54.1 = 0 then some (q54.2.1 1 3, q54.2) else some ((-1), q54.2)) else if x1 = 2 then (fX1_readEvening La   g).bind (fun q76 => if q76.1 = 0 then some (q76.2.1 1 3, q76.2) else some ((-1), q76.2)) else some ((-2), g)
set_option maxRecDepth 100000 in
set_option maxHeartbeats 4000000 in
theorem kX11_fault {La : gz_L}  {x1 : Int32} {g : gz_S} {r : Int32 × gz_S}  (hf : fX11_fault La  x1 g = some r) : gz_K La 128 mX11_fault [.ref 0, .int x1] g (gz_Fi r) := by
  unfold fX11_fault at hf
  refine gz_K.of 0 (by decide +kernel) rfl ?_
  show gz_J La 128 mX11_fault 0 [some (.ref 0), some (.int x1)] [] g (gz_Fi r)
  refine sz_iload_n dX11_fault_0 rfl ?_
  by_cases c1_0 : x1 = 0
  · have hf := gz_ip c1_0 hf
    refine sz_tableIn 28 dX11_fault_1 (by rw [c1_0]; decide) (by rw [c1_0]; decide) (by rw [c1_0]; rfl) (by decide) ?_
    refine sz_aload_n dX11_fault_28 rfl ?_
    refine sz_getR dX11_fault_29 flX11_21 kd0 rfl rf0_1 ?_
    obtain ⟨q32, eq32, hf⟩ := gz_bd hf
    refine sz_callVi [] [] dX11_fault_32 mvX11_112 (Nat.le_of_ble_eq_true rfl) (by decide : 7 < 13) kd2 rfl (Nat.le_of_ble_eq_true rfl) (kX7_readShore   eq32) ?_
    refine sz_if_eq 42 dX11_fault_35 (by decide) (fun c35 => ?_) (fun c35 => ?_)
    · have hf := gz_ip c35 hf
      refine sz_aload_n dX11_fault_42 rfl ?_
      refine sz_getR dX11_fault_43 flX11_10 kd0 rfl rf0_0 ?_
      refine sz_getI dX11_fault_46 flX11_116 kd1 rfl ?_
      cases hf
      exact sz_iret dX11_fault_49 rfl rfl ⟨rfl, rfl⟩
    · have hf := gz_in1 c35 hf
      refine sz_iconst dX11_fault_38 (cIm1) ?_
      refine sz_goto 49 dX11_fault_39 (by decide) ?_
      cases hf
      exact sz_iret dX11_fault_49 rfl rfl ⟨rfl, rfl⟩
  have hf := gz_in1 c1_0 hf
  by_cases c1_1 : x1 = 1
  · have hf := gz_ip c1_1 hf
    refine sz_tableIn 50 dX11_fault_1 (by rw [c1_1]; decide) (by rw [c1_1]; decide) (by rw [c1_1]; rfl) (by decide) ?_
    refine sz_aload_n dX11_fault_50 rfl ?_
    refine sz_getR dX11_fault_51 flX11_28 kd0 rfl rf0_2 ?_
    obtain ⟨q54, eq54, hf⟩ := gz_bd hf
    refine sz_callVi [] [] dX11_fault_54 mvX11_119 (Nat.le_of_ble_eq_true rfl) (by decide : 4 < 13) kd3 rfl (Nat.le_of_ble_eq_true rfl) (kX4_readLaw   eq54) ?_
    refine sz_if_eq 64 dX11_fault_57 (by decide) (fun c57 => ?_) (fun c57 => ?_)
    · have hf := gz_ip c57 hf
      refine sz_aload_n dX11_fault_64 rfl ?_
      refine sz_getR dX11_fault_65 flX11_10 kd0 rfl rf0_0 ?_
      refine sz_getI dX11_fault_68 flX11_116 kd1 rfl ?_
      cases hf
      exact sz_iret dX11_fault_71 rfl rfl ⟨rfl, rfl⟩
    · have hf := gz_in1 c57 hf
      refine sz_iconst dX11_fault_60 (cIm1) ?_
      refine sz_goto 71 dX11_fault_61 (by decide) ?_
      cases hf
      exact sz_iret dX11_fault_71 rfl rfl ⟨rfl, rfl⟩
  have hf := gz_in1 c1_1 hf
  by_cases c1_2 : x1 = 2
  · have hf := gz_ip c1_2 hf
    refine sz_tableIn 72 dX11_fault_1 (by rw [c1_2]; decide) (by rw [c1_2]; decide) (by rw [c1_2]; rfl) (by decide) ?_
    refine sz_aload_n dX11_fault_72 rfl ?_
    refine sz_getR dX11_fault_73 flX11_35 kd0 rfl rf0_3 ?_
    obtain ⟨q76, eq76, hf⟩ := gz_bd hf
    refine sz_callVi [] [] dX11_fault_76 mvX11_122 (Nat.le_of_ble_eq_true rfl) (by decide : 1 < 13) kd4 rfl (Nat.le_of_ble_eq_true rfl) (kX1_readEvening   eq76) ?_
    refine sz_if_eq 86 dX11_fault_79 (by decide) (fun c79 => ?_) (fun c79 => ?_)
    · have hf := gz_ip c79 hf
      refine sz_aload_n dX11_fault_86 rfl ?_
      refine sz_getR dX11_fault_87 flX11_10 kd0 rfl rf0_0 ?_
      refine sz_getI dX11_fault_90 flX11_116 kd1 rfl ?_
      cases hf
      exact sz_iret dX11_fault_93 rfl rfl ⟨rfl, rfl⟩
    · have hf := gz_in1 c79 hf
      refine sz_iconst dX11_fault_82 (cIm1) ?_
      refine sz_goto 93 dX11_fault_83 (by decide) ?_
      cases hf
      exact sz_iret dX11_fault_93 rfl rfl ⟨rfl, rfl⟩
  have hf := gz_in1 c1_2 hf
  refine sz_tableOut 94 dX11_fault_1 (by have z0 := lv_neT c1_0 (a := 0) (by decide); have z1 := lv_neT c1_1 (a := 1) (by decide); have z2 := lv_neT c1_2 (a := 2) (by decide); omega) (by decide) ?_
  refine sz_bipush dX11_fault_94 (cBm2) ?_
  cases hf
  exact sz_iret dX11_fault_96 rfl rfl ⟨rfl, rfl⟩
def fX11_takeShore (La : gz_L)   (g : gz_S) : Option (Int32 × gz_S) :=
  (fX7_tell La   g).bind (fun q8 => (fX6_copy La  6 5 q8).bind (fun q19 => (fX5_forget La   q19).bind (fun q26 => (fX8_forget La   q26).bind (fun q33 => (fX6_cells La  6 q33).bind (fun q40 => some (q40.1, q40.2))))))
set_option maxRecDepth 100000 in
set_option maxHeartbeats 4000000 in
theorem kX11_takeShore {La : gz_L}   {g : gz_S} {r : Int32 × gz_S}  (hf : fX11_takeShore La   g = some r) : gz_K La 3 mX11_takeShore [.ref 0] g (gz_Fi r) := by
  unfold fX11_takeShore at hf
  refine gz_K.of 0 (by decide +kernel) rfl ?_
  show gz_J La 3 mX11_takeShore 0 [some (.ref 0)] [] g (gz_Fi r)
  refine sz_aload_n dX11_takeShore_0 rfl ?_
  refine sz_getR dX11_takeShore_1 flX11_21 kd0 rfl rf0_1 ?_
  refine sz_aload_n dX11_takeShore_4 rfl ?_
  refine sz_getR dX11_takeShore_5 flX11_54 kd0 rfl rf0_6 ?_
  obtain ⟨q8, eq8, hf⟩ := gz_bd hf
  refine sz_callVv [.ref 5] [] dX11_takeShore_8 mvX11_142 (Nat.le_of_ble_eq_true rfl) (by decide : 7 < 13) kd2 rfl (Nat.le_of_ble_eq_true rfl) (kX7_tell   eq8) ?_
  refine sz_aload_n dX11_takeShore_11 rfl ?_
  refine sz_getR dX11_takeShore_12 flX11_58 kd0 rfl rf0_7 ?_
  refine sz_aload_n dX11_takeShore_15 rfl ?_
  refine sz_getR dX11_takeShore_16 flX11_54 kd0 rfl rf0_6 ?_
  obtain ⟨q19, eq19, hf⟩ := gz_bd hf
  refine sz_callVv [.ref 5] [] dX11_takeShore_19 mvX11_146 (Nat.le_of_ble_eq_true rfl) (by decide : 6 < 13) kd6 rfl (Nat.le_of_ble_eq_true rfl) (kX6_copy  (Or.inr (Or.inl rfl)) (Or.inl rfl) eq19) ?_
  refine sz_aload_n dX11_takeShore_22 rfl ?_
  refine sz_getR dX11_takeShore_23 flX11_74 kd0 rfl rf0_10 ?_
  obtain ⟨q26, eq26, hf⟩ := gz_bd hf
  refine sz_callVv [] [] dX11_takeShore_26 mvX11_149 (Nat.le_of_ble_eq_true rfl) (by decide : 5 < 13) kd9 rfl (Nat.le_of_ble_eq_true rfl) (kX5_forget   eq26) ?_
  refine sz_aload_n dX11_takeShore_29 rfl ?_
  refine sz_getR dX11_takeShore_30 flX11_90 kd0 rfl rf0_12 ?_
  obtain ⟨q33, eq33, hf⟩ := gz_bd hf
  refine sz_callVv [] [] dX11_takeShore_33 mvX11_152 (Nat.le_of_ble_eq_true rfl) (by decide : 8 < 13) kd11 rfl (Nat.le_of_ble_eq_true rfl) (kX8_forget   eq33) ?_
  refine sz_aload_n dX11_takeShore_36 rfl ?_
  refine sz_getR dX11_takeShore_37 flX11_58 kd0 rfl rf0_7 ?_
  obtain ⟨q40, eq40, hf⟩ := gz_bd hf
  refine sz_callVi [] [] dX11_takeShore_40 mvX11_153 (Nat.le_of_ble_eq_true rfl) (by decide : 6 < 13) kd6 rfl (Nat.le_of_ble_eq_true rfl) (kX6_cells  (Or.inr (Or.inl rfl)) eq40) ?_
  cases hf
  exact sz_iret dX11_takeShore_43 rfl rfl ⟨rfl, rfl⟩
def fX11_shore (La : gz_L)  (x1 : Int32) (x2 : Int32) (g : gz_S) : Option (Int32 × gz_S) :=
  (fX6_hasCell La  6 x1 g).bind (fun q5 => if q5.1 = 0 then some ((-1), q5.2) else if x2 = 0 then (fX6_kind La  6 x1 q5.2).bind (fun q22 => some (q22.1, q22.2)) else if x2 = 1 then (fX6_under La  6 x1 q5.2).bind (fun q36 => if q36.1 = 0 then some (0, q36.2) else some (1, q36.2)) else some ((-1), q5.2))
set_option maxRecDepth 100000 in
set_option maxHeartbeats 4000000 in
theorem kX11_shore {La : gz_L}  {x1 : Int32} {x2 : Int32} {g : gz_S} {r : Int32 × gz_S}  (hf : fX11_shore La  x1 x2 g = some r) : gz_K La 3 mX11_shore [.ref 0, .int x1, .int x2] g (gz_Fi r) := by
  unfold fX11_shore at hf
  refine gz_K.of 0 (by decide +kernel) rfl ?_
  show gz_J La 3 mX11_shore 0 [some (.ref 0), some (.int x1), some (.int x2)] [] g (gz_Fi r)
  refine sz_aload_n dX11_shore_0 rfl ?_
  refine sz_getR dX11_shore_1 flX11_58 kd0 rfl rf0_7 ?_
  refine sz_iload_n dX11_shore_4 rfl ?_
  obtain ⟨q5, eq5, hf⟩ := gz_bd hf
  refine sz_callVi [.int x1] [] dX11_shore_5 mvX11_156 (Nat.le_of_ble_eq_true rfl) (by decide : 6 < 13) kd6 rfl (Nat.le_of_ble_eq_true rfl) (kX6_hasCell  (Or.inr (Or.inl rfl)) eq5) ?_
  refine sz_if_ne 13 dX11_shore_8 (by decide) (fun c8 => ?_) (fun c8 => ?_)
  · have hf := gz_in1 c8 hf
    refine sz_iload_n dX11_shore_13 rfl ?_
    refine sz_if_ne 26 dX11_shore_14 (by decide) (fun c14 => ?_) (fun c14 => ?_)
    · have hf := gz_in1 c14 hf
      refine sz_iload_n dX11_shore_26 rfl ?_
      refine sz_iconst dX11_shore_27 (cI1) ?_
      refine sz_icmp_ne 48 dX11_shore_28 (by decide) (fun c28 => ?_) (fun c28 => ?_)
      · have hf := gz_in1 c28 hf
        refine sz_iconst dX11_shore_48 (cIm1) ?_
        cases hf
        exact sz_iret dX11_shore_49 rfl rfl ⟨rfl, rfl⟩
      · have hf := gz_ip c28 hf
        refine sz_aload_n dX11_shore_31 rfl ?_
        refine sz_getR dX11_shore_32 flX11_58 kd0 rfl rf0_7 ?_
        refine sz_iload_n dX11_shore_35 rfl ?_
        obtain ⟨q36, eq36, hf⟩ := gz_bd hf
        refine sz_callVi [.int x1] [] dX11_shore_36 mvX11_163 (Nat.le_of_ble_eq_true rfl) (by decide : 6 < 13) kd6 rfl (Nat.le_of_ble_eq_true rfl) (kX6_under  (Or.inr (Or.inl rfl)) eq36) ?_
        refine sz_if_eq 46 dX11_shore_39 (by decide) (fun c39 => ?_) (fun c39 => ?_)
        · have hf := gz_ip c39 hf
          refine sz_iconst dX11_shore_46 (cI0) ?_
          cases hf
          exact sz_iret dX11_shore_47 rfl rfl ⟨rfl, rfl⟩
        · have hf := gz_in1 c39 hf
          refine sz_iconst dX11_shore_42 (cI1) ?_
          refine sz_goto 47 dX11_shore_43 (by decide) ?_
          cases hf
          exact sz_iret dX11_shore_47 rfl rfl ⟨rfl, rfl⟩
    · have hf := gz_ip c14 hf
      refine sz_aload_n dX11_shore_17 rfl ?_
      refine sz_getR dX11_shore_18 flX11_58 kd0 rfl rf0_7 ?_
      refine sz_iload_n dX11_shore_21 rfl ?_
      obtain ⟨q22, eq22, hf⟩ := gz_bd hf
      refine sz_callVi [.int x1] [] dX11_shore_22 mvX11_160 (Nat.le_of_ble_eq_true rfl) (by decide : 6 < 13) kd6 rfl (Nat.le_of_ble_eq_true rfl) (kX6_kind  (Or.inr (Or.inl rfl)) eq22) ?_
      cases hf
      exact sz_iret dX11_shore_25 rfl rfl ⟨rfl, rfl⟩
  · have hf := gz_ip c8 hf
    refine sz_iconst dX11_shore_11 (cIm1) ?_
    cases hf
    exact sz_iret dX11_shore_12 rfl rfl ⟨rfl, rfl⟩
def fX11_law (La : gz_L)  (x1 : Int32) (g : gz_S) : Option (Int32 × gz_S) :=
  if x1 < (-1) then some (0, g) else if x1 < (g.1 0 13) then gz_let (gz_wi g 0 15 x1) (fun g17 => if x1 = (-1) then gz_let (gz_wd g17 0 none) (fun g39 => some (1, g39)) else if gz_ok x1 4 then gz_on (gz_rf La g17 12 (Int32.toNatClampNeg x1)) (gz_let (gz_wd g17 0 none) (fun g39 => some (1, g39))) (fun e38 => gz_let (gz_wd g17 0 (some e38)) (fun g39 => some (1, g39))) else none) else some (0, g)
set_option maxRecDepth 100000 in
set_option maxHeartbeats 4000000 in
theorem kX11_law {La : gz_L}  {x1 : Int32} {g : gz_S} {r : Int32 × gz_S}  (hf : fX11_law La  x1 g = some r) : gz_K La 1 mX11_law [.ref 0, .int x1] g (gz_Fi r) := by
  unfold fX11_law at hf
  refine gz_K.of 0 (by decide +kernel) rfl ?_
  show gz_J La 1 mX11_law 0 [some (.ref 0), some (.int x1)] [] g (gz_Fi r)
  refine sz_iload_n dX11_law_0 rfl ?_
  refine sz_iconst dX11_law_1 (cIm1) ?_
  refine sz_icmp_lt 13 dX11_law_2 (by decide) (fun c2 => ?_) (fun c2 => ?_)
  · have hf := gz_ip c2 hf
    refine sz_iconst dX11_law_13 (cI0) ?_
    cases hf
    exact sz_iret dX11_law_14 rfl rfl ⟨rfl, rfl⟩
  · have hf := gz_in1 c2 hf
    refine sz_iload_n dX11_law_5 rfl ?_
    refine sz_aload_n dX11_law_6 rfl ?_
    refine sz_getI dX11_law_7 flX11_129 kd0 rfl ?_
    refine sz_icmp_lt 15 dX11_law_10 (by decide) (fun c10 => ?_) (fun c10 => ?_)
    · have hf := gz_ip c10 hf
      refine sz_aload_n dX11_law_15 rfl ?_
      refine sz_iload_n dX11_law_16 rfl ?_
      obtain ⟨g17, eg17, hf⟩ := gz_lt hf
      refine sz_putI2 dX11_law_17 flX11_94 kd0 fi11_15 eg17 ?_
      refine sz_aload_n dX11_law_20 rfl ?_
      refine sz_getR dX11_law_21 flX11_67 kd0 rfl rf0_9 ?_
      refine sz_iload_n dX11_law_24 rfl ?_
      refine sz_iconst dX11_law_25 (cIm1) ?_
      refine sz_icmp_ne 33 dX11_law_26 (by decide) (fun c26 => ?_) (fun c26 => ?_)
      · have hf := gz_in1 c26 hf
        refine sz_aload_n dX11_law_33 rfl ?_
        refine sz_getR dX11_law_34 flX11_41 kd0 rfl rf0_4 ?_
        refine sz_iload_n dX11_law_37 rfl ?_
        obtain ⟨c38, hf⟩ := gz_gd hf
        rcases ho38 : gz_rf La g17 12 (Int32.toNatClampNeg x1) with _ | e38
        · have hf := gz_on0 ho38 hf
          refine sz_aald4n dX11_law_38 kd12 c38 ho38 ?_
          obtain ⟨g39, eg39, hf⟩ := gz_lt hf
          refine sz_putN (d := 0) dX11_law_39 flX11_182 kd8 rfl (Or.inl ⟨rfl, rfl, rfl⟩) rfl rfl rfl ?_
          refine sz_tog eg39 ?_
          refine sz_iconst dX11_law_42 (cI1) ?_
          cases hf
          exact sz_iret dX11_law_43 rfl rfl ⟨rfl, rfl⟩
        · have hf := gz_on1 ho38 hf
          refine sz_aald4q dX11_law_38 kd12 c38 ho38 ?_
          obtain ⟨g39, eg39, hf⟩ := gz_lt hf
          refine sz_putD (d := 0) dX11_law_39 flX11_182 kd8 rfl (Or.inl ⟨rfl, rfl, rfl⟩) (fun _ => rfl) (fun _ => rfl) rfl ?_
          refine sz_tog eg39 ?_
          refine sz_iconst dX11_law_42 (cI1) ?_
          cases hf
          exact sz_iret dX11_law_43 rfl rfl ⟨rfl, rfl⟩
      · have hf := gz_ip c26 hf
        refine sz_null dX11_law_29 ?_
        refine sz_goto 39 dX11_law_30 (by decide) ?_
        obtain ⟨g39, eg39, hf⟩ := gz_lt hf
        refine sz_putN (d := 0) dX11_law_39 flX11_182 kd8 rfl (Or.inl ⟨rfl, rfl, rfl⟩) rfl rfl rfl ?_
        refine sz_tog eg39 ?_
        refine sz_iconst dX11_law_42 (cI1) ?_
        cases hf
        exact sz_iret dX11_law_43 rfl rfl ⟨rfl, rfl⟩
    · have hf := gz_in1 c10 hf
      refine sz_iconst dX11_law_13 (cI0) ?_
      cases hf
      exact sz_iret dX11_law_14 rfl rfl ⟨rfl, rfl⟩
def fX11_children (La : gz_L)  (x1 : Int32) (g : gz_S) : Option (Int32 × gz_S) :=
  if x1 < 0 then some (0, g) else if 9 < x1 then some (0, g) else if x1 = (g.1 0 16) then some (0, g) else gz_let (gz_wi g 0 16 x1) (fun g22 => some (1, g22))
set_option maxRecDepth 100000 in
set_option maxHeartbeats 4000000 in
theorem kX11_children {La : gz_L}  {x1 : Int32} {g : gz_S} {r : Int32 × gz_S}  (hf : fX11_children La  x1 g = some r) : gz_K La 1 mX11_children [.ref 0, .int x1] g (gz_Fi r) := by
  unfold fX11_children at hf
  refine gz_K.of 0 (by decide +kernel) rfl ?_
  show gz_J La 1 mX11_children 0 [some (.ref 0), some (.int x1)] [] g (gz_Fi r)
  refine sz_iload_n dX11_children_0 rfl ?_
  refine sz_if_lt 18 dX11_children_1 (by decide) (fun c1 => ?_) (fun c1 => ?_)
  · have hf := gz_ip c1 hf
    refine sz_iconst dX11_children_18 (cI0) ?_
    cases hf
    exact sz_iret dX11_children_19 rfl rfl ⟨rfl, rfl⟩
  · have hf := gz_in1 c1 hf
    refine sz_iload_n dX11_children_4 rfl ?_
    refine sz_bipush dX11_children_5 (cB9) ?_
    refine sz_icmp_gt 18 dX11_children_7 (by decide) (fun c7 => ?_) (fun c7 => ?_)
    · have hf := gz_ip c7 hf
      refine sz_iconst dX11_children_18 (cI0) ?_
      cases hf
      exact sz_iret dX11_children_19 rfl rfl ⟨rfl, rfl⟩
    · have hf := gz_in1 c7 hf
      refine sz_iload_n dX11_children_10 rfl ?_
      refine sz_aload_n dX11_children_11 rfl ?_
      refine sz_getI dX11_children_12 flX11_98 kd0 rfl ?_
      refine sz_icmp_ne 20 dX11_children_15 (by decide) (fun c15 => ?_) (fun c15 => ?_)
      · have hf := gz_in1 c15 hf
        refine sz_aload_n dX11_children_20 rfl ?_
        refine sz_iload_n dX11_children_21 rfl ?_
        obtain ⟨g22, eg22, hf⟩ := gz_lt hf
        refine sz_putI2 dX11_children_22 flX11_98 kd0 fi11_16 eg22 ?_
        refine sz_iconst dX11_children_25 (cI1) ?_
        cases hf
        exact sz_iret dX11_children_26 rfl rfl ⟨rfl, rfl⟩
      · have hf := gz_ip c15 hf
        refine sz_iconst dX11_children_18 (cI0) ?_
        cases hf
        exact sz_iret dX11_children_19 rfl rfl ⟨rfl, rfl⟩
def fX11_passNow (La : gz_L)   (g : gz_S) : Option (Int32 × gz_S) :=
  (fX10_passHour La  6 g).bind (fun q8 => (fX5_note La  (q8.2.1 22 49) q8.1 (q8.2.1 8 1) (q8.2.1 22 46) q8.2).bind (fun q44 => some (q8.1, q44)))
set_option maxRecDepth 100000 in
set_option maxHeartbeats 4000000 in
theorem kX11_passNow {La : gz_L}   {g : gz_S} {r : Int32 × gz_S}  (hf : fX11_passNow La   g = some r) : gz_K La 6 mX11_passNow [.ref 0] g (gz_Fi r) := by
  unfold fX11_passNow at hf
  refine gz_K.of 1 (by decide +kernel) rfl ?_
  show gz_J La 6 mX11_passNow 0 [some (.ref 0), none] [] g (gz_Fi r)
  refine sz_aload_n dX11_passNow_0 rfl ?_
  refine sz_getR dX11_passNow_1 flX11_67 kd0 rfl rf0_9 ?_
  refine sz_aload_n dX11_passNow_4 rfl ?_
  refine sz_getR dX11_passNow_5 flX11_58 kd0 rfl rf0_7 ?_
  obtain ⟨q8, eq8, hf⟩ := gz_bd hf
  refine sz_callVi [.ref 6] [] dX11_passNow_8 mvX11_195 (Nat.le_of_ble_eq_true rfl) (by decide : 10 < 13) kd8 rfl (Nat.le_of_ble_eq_true rfl) (kX10_passHour  (Or.inr (Or.inl rfl)) eq8) ?_
  refine sz_istore_n dX11_passNow_11 rfl (Nat.le_of_ble_eq_true rfl) rfl ?_
  refine sz_ls (l2 := [some (.ref 0), some (.int q8.1)]) rfl ?_
  refine sz_aload_n dX11_passNow_12 rfl ?_
  refine sz_getR dX11_passNow_13 flX11_74 kd0 rfl rf0_10 ?_
  refine sz_aload_n dX11_passNow_16 rfl ?_
  refine sz_getR dX11_passNow_17 flX11_58 kd0 rfl rf0_7 ?_
  refine sz_getR dX11_passNow_20 flX11_176 kd6 rfl rf6_0 ?_
  refine sz_bipush dX11_passNow_23 (cB49) ?_
  refine sz_ialdL dX11_passNow_25 kd22 vi49_61 tn49 ?_
  refine sz_iload_n dX11_passNow_26 rfl ?_
  refine sz_aload_n dX11_passNow_27 rfl ?_
  refine sz_getR dX11_passNow_28 flX11_67 kd0 rfl rf0_9 ?_
  refine sz_getI dX11_passNow_31 flX11_199 kd8 rfl ?_
  refine sz_aload_n dX11_passNow_34 rfl ?_
  refine sz_getR dX11_passNow_35 flX11_58 kd0 rfl rf0_7 ?_
  refine sz_getR dX11_passNow_38 flX11_176 kd6 rfl rf6_0 ?_
  refine sz_bipush dX11_passNow_41 (cB46) ?_
  refine sz_ialdL dX11_passNow_43 kd22 vi46_61 tn46 ?_
  obtain ⟨q44, eq44, hf⟩ := gz_bd hf
  refine sz_callVv [.int (q8.2.1 22 49), .int q8.1, .int (q8.2.1 8 1), .int (q8.2.1 22 46)] [] dX11_passNow_44 mvX11_202 (Nat.le_of_ble_eq_true rfl) (by decide : 5 < 13) kd9 rfl (Nat.le_of_ble_eq_true rfl) (kX5_note   eq44) ?_
  refine sz_iload_n dX11_passNow_47 rfl ?_
  cases hf
  exact sz_iret dX11_passNow_48 rfl rfl ⟨rfl, rfl⟩
def fX11_hour (La : gz_L)   (g : gz_S) : Option (Int32 × gz_S) :=
  (fX6_mayPassHour La  6 g).bind (fun q4 => if q4.1 = 0 then some ((-1), q4.2) else (fX5_keep La  6 q4.2).bind (fun q20 => (fX11_passNow La   q20).bind (fun q24 => some (q24.1, q24.2))))
set_option maxRecDepth 100000 in
set_option maxHeartbeats 4000000 in
theorem kX11_hour {La : gz_L}   {g : gz_S} {r : Int32 × gz_S}  (hf : fX11_hour La   g = some r) : gz_K La 7 mX11_hour [.ref 0] g (gz_Fi r) := by
  unfold fX11_hour at hf
  refine gz_K.of 0 (by decide +kernel) rfl ?_
  show gz_J La 7 mX11_hour 0 [some (.ref 0)] [] g (gz_Fi r)
  refine sz_aload_n dX11_hour_0 rfl ?_
  refine sz_getR dX11_hour_1 flX11_58 kd0 rfl rf0_7 ?_
  obtain ⟨q4, eq4, hf⟩ := gz_bd hf
  refine sz_callVi [] [] dX11_hour_4 mvX11_186 (Nat.le_of_ble_eq_true rfl) (by decide : 6 < 13) kd6 rfl (Nat.le_of_ble_eq_true rfl) (kX6_mayPassHour  (Or.inr (Or.inl rfl)) eq4) ?_
  refine sz_if_ne 12 dX11_hour_7 (by decide) (fun c7 => ?_) (fun c7 => ?_)
  · have hf := gz_in1 c7 hf
    refine sz_aload_n dX11_hour_12 rfl ?_
    refine sz_getR dX11_hour_13 flX11_74 kd0 rfl rf0_10 ?_
    refine sz_aload_n dX11_hour_16 rfl ?_
    refine sz_getR dX11_hour_17 flX11_58 kd0 rfl rf0_7 ?_
    obtain ⟨q20, eq20, hf⟩ := gz_bd hf
    refine sz_callVv [.ref 6] [] dX11_hour_20 mvX11_189 (Nat.le_of_ble_eq_true rfl) (by decide : 5 < 13) kd9 rfl (Nat.le_of_ble_eq_true rfl) (kX5_keep  (Or.inr (Or.inl rfl)) eq20) ?_
    refine sz_aload_n dX11_hour_23 rfl ?_
    obtain ⟨q24, eq24, hf⟩ := gz_bd hf
    refine sz_callVi [] [] dX11_hour_24 mvX11_192 (Nat.le_of_ble_eq_true rfl) (by decide : 11 < 13) kd0 rfl (Nat.le_of_ble_eq_true rfl) (kX11_passNow   eq24) ?_
    cases hf
    exact sz_iret dX11_hour_27 rfl rfl ⟨rfl, rfl⟩
  · have hf := gz_ip c7 hf
    refine sz_iconst dX11_hour_10 (cIm1) ?_
    cases hf
    exact sz_iret dX11_hour_11 rfl rfl ⟨rfl, rfl⟩
def fX11_tide (La : gz_L)  (x1 : Int32) (g : gz_S) : Option (Int32 × gz_S) :=
  (fX6_mayTurnTide La  6 x1 g).bind (fun q5 => if q5.1 = 0 then some ((-1), q5.2) else gz_let (q5.2.1 22 46) (fun y23 => (fX5_keep La  6 q5.2).bind (fun q32 => gz_let (gz_wi q32 22 46 x1) (fun g45 => some (y23, g45)))))
set_option maxRecDepth 100000 in
set_option maxHeartbeats 4000000 in
theorem kX11_tide {La : gz_L}  {x1 : Int32} {g : gz_S} {r : Int32 × gz_S}  (hf : fX11_tide La  x1 g = some r) : gz_K La 3 mX11_tide [.ref 0, .int x1] g (gz_Fi r) := by
  unfold fX11_tide at hf
  refine gz_K.of 1 (by decide +kernel) rfl ?_
  show gz_J La 3 mX11_tide 0 [some (.ref 0), some (.int x1), none] [] g (gz_Fi r)
  refine sz_aload_n dX11_tide_0 rfl ?_
  refine sz_getR dX11_tide_1 flX11_58 kd0 rfl rf0_7 ?_
  refine sz_iload_n dX11_tide_4 rfl ?_
  obtain ⟨q5, eq5, hf⟩ := gz_bd hf
  refine sz_callVi [.int x1] [] dX11_tide_5 mvX11_206 (Nat.le_of_ble_eq_true rfl) (by decide : 6 < 13) kd6 rfl (Nat.le_of_ble_eq_true rfl) (kX6_mayTurnTide  (Or.inr (Or.inl rfl)) eq5) ?_
  refine sz_if_ne 13 dX11_tide_8 (by decide) (fun c8 => ?_) (fun c8 => ?_)
  · have hf := gz_in1 c8 hf
    refine sz_aload_n dX11_tide_13 rfl ?_
    refine sz_getR dX11_tide_14 flX11_58 kd0 rfl rf0_7 ?_
    refine sz_getR dX11_tide_17 flX11_176 kd6 rfl rf6_0 ?_
    refine sz_bipush dX11_tide_20 (cB46) ?_
    refine sz_ialdL dX11_tide_22 kd22 vi46_61 tn46 ?_
    obtain ⟨y23, ey23, hf⟩ := gz_lt hf
    refine sz_topi ey23 ?_
    refine sz_istore_n dX11_tide_23 rfl (Nat.le_of_ble_eq_true rfl) rfl ?_
    refine sz_ls (l2 := [some (.ref 0), some (.int x1), some (.int y23)]) rfl ?_
    refine sz_aload_n dX11_tide_24 rfl ?_
    refine sz_getR dX11_tide_25 flX11_74 kd0 rfl rf0_10 ?_
    refine sz_aload_n dX11_tide_28 rfl ?_
    refine sz_getR dX11_tide_29 flX11_58 kd0 rfl rf0_7 ?_
    obtain ⟨q32, eq32, hf⟩ := gz_bd hf
    refine sz_callVv [.ref 6] [] dX11_tide_32 mvX11_189 (Nat.le_of_ble_eq_true rfl) (by decide : 5 < 13) kd9 rfl (Nat.le_of_ble_eq_true rfl) (kX5_keep  (Or.inr (Or.inl rfl)) eq32) ?_
    refine sz_aload_n dX11_tide_35 rfl ?_
    refine sz_getR dX11_tide_36 flX11_58 kd0 rfl rf0_7 ?_
    refine sz_getR dX11_tide_39 flX11_176 kd6 rfl rf6_0 ?_
    refine sz_bipush dX11_tide_42 (cB46) ?_
    refine sz_iload_n dX11_tide_44 rfl ?_
    obtain ⟨g45, eg45, hf⟩ := gz_lt hf
    refine sz_iastL dX11_tide_45 kd22 vi46_61 tn46 eg45 ?_
    refine sz_iload_n dX11_tide_46 rfl ?_
    cases hf
    exact sz_iret dX11_tide_47 rfl rfl ⟨rfl, rfl⟩
  · have hf := gz_ip c8 hf
    refine sz_iconst dX11_tide_11 (cIm1) ?_
    cases hf
    exact sz_iret dX11_tide_12 rfl rfl ⟨rfl, rfl⟩
def fX11_stone (La : gz_L)  (x1 : Int32) (g : gz_S) : Option (Int32 × gz_S) :=
  (fX6_mayTurnStone La  6 x1 g).bind (fun q5 => if q5.1 = 0 then some ((-1), q5.2) else (fX5_keep La  6 q5.2).bind (fun q21 => (fX6_turnStone La  6 x1 q21).bind (fun q29 => (fX6_kind La  6 x1 q29).bind (fun q37 => some (q37.1, q37.2)))))
set_option maxRecDepth 100000 in
set_option maxHeartbeats 4000000 in
theorem kX11_stone {La : gz_L}  {x1 : Int32} {g : gz_S} {r : Int32 × gz_S}  (hf : fX11_stone La  x1 g = some r) : gz_K La 4 mX11_stone [.ref 0, .int x1] g (gz_Fi r) := by
  unfold fX11_stone at hf
  refine gz_K.of 0 (by decide +kernel) rfl ?_
  show gz_J La 4 mX11_stone 0 [some (.ref 0), some (.int x1)] [] g (gz_Fi r)
  refine sz_aload_n dX11_stone_0 rfl ?_
  refine sz_getR dX11_stone_1 flX11_58 kd0 rfl rf0_7 ?_
  refine sz_iload_n dX11_stone_4 rfl ?_
  obtain ⟨q5, eq5, hf⟩ := gz_bd hf
  refine sz_callVi [.int x1] [] dX11_stone_5 mvX11_209 (Nat.le_of_ble_eq_true rfl) (by decide : 6 < 13) kd6 rfl (Nat.le_of_ble_eq_true rfl) (kX6_mayTurnStone  (Or.inr (Or.inl rfl)) eq5) ?_
  refine sz_if_ne 13 dX11_stone_8 (by decide) (fun c8 => ?_) (fun c8 => ?_)
  · have hf := gz_in1 c8 hf
    refine sz_aload_n dX11_stone_13 rfl ?_
    refine sz_getR dX11_stone_14 flX11_74 kd0 rfl rf0_10 ?_
    refine sz_aload_n dX11_stone_17 rfl ?_
    refine sz_getR dX11_stone_18 flX11_58 kd0 rfl rf0_7 ?_
    obtain ⟨q21, eq21, hf⟩ := gz_bd hf
    refine sz_callVv [.ref 6] [] dX11_stone_21 mvX11_189 (Nat.le_of_ble_eq_true rfl) (by decide : 5 < 13) kd9 rfl (Nat.le_of_ble_eq_true rfl) (kX5_keep  (Or.inr (Or.inl rfl)) eq21) ?_
    refine sz_aload_n dX11_stone_24 rfl ?_
    refine sz_getR dX11_stone_25 flX11_58 kd0 rfl rf0_7 ?_
    refine sz_iload_n dX11_stone_28 rfl ?_
    obtain ⟨q29, eq29, hf⟩ := gz_bd hf
    refine sz_callVv [.int x1] [] dX11_stone_29 mvX11_212 (Nat.le_of_ble_eq_true rfl) (by decide : 6 < 13) kd6 rfl (Nat.le_of_ble_eq_true rfl) (kX6_turnStone  (Or.inr (Or.inl rfl)) eq29) ?_
    refine sz_aload_n dX11_stone_32 rfl ?_
    refine sz_getR dX11_stone_33 flX11_58 kd0 rfl rf0_7 ?_
    refine sz_iload_n dX11_stone_36 rfl ?_
    obtain ⟨q37, eq37, hf⟩ := gz_bd hf
    refine sz_callVi [.int x1] [] dX11_stone_37 mvX11_160 (Nat.le_of_ble_eq_true rfl) (by decide : 6 < 13) kd6 rfl (Nat.le_of_ble_eq_true rfl) (kX6_kind  (Or.inr (Or.inl rfl)) eq37) ?_
    cases hf
    exact sz_iret dX11_stone_40 rfl rfl ⟨rfl, rfl⟩
  · have hf := gz_ip c8 hf
    refine sz_iconst dX11_stone_11 (cIm1) ?_
    cases hf
    exact sz_iret dX11_stone_12 rfl rfl ⟨rfl, rfl⟩
def fX11_sweep (La : gz_L)  (x1 : Int32) (g : gz_S) : Option (Int32 × gz_S) :=
  (fX6_maySweep La  6 x1 g).bind (fun q5 => if q5.1 = 0 then some ((-1), q5.2) else (fX5_keep La  6 q5.2).bind (fun q21 => (fX6_sweepOff La  6 x1 q21).bind (fun q29 => some (q29.1, q29.2))))
set_option maxRecDepth 100000 in
set_option maxHeartbeats 4000000 in
theorem kX11_sweep {La : gz_L}  {x1 : Int32} {g : gz_S} {r : Int32 × gz_S}  (hf : fX11_sweep La  x1 g = some r) : gz_K La 4 mX11_sweep [.ref 0, .int x1] g (gz_Fi r) := by
  unfold fX11_sweep at hf
  refine gz_K.of 0 (by decide +kernel) rfl ?_
  show gz_J La 4 mX11_sweep 0 [some (.ref 0), some (.int x1)] [] g (gz_Fi r)
  refine sz_aload_n dX11_sweep_0 rfl ?_
  refine sz_getR dX11_sweep_1 flX11_58 kd0 rfl rf0_7 ?_
  refine sz_iload_n dX11_sweep_4 rfl ?_
  obtain ⟨q5, eq5, hf⟩ := gz_bd hf
  refine sz_callVi [.int x1] [] dX11_sweep_5 mvX11_215 (Nat.le_of_ble_eq_true rfl) (by decide : 6 < 13) kd6 rfl (Nat.le_of_ble_eq_true rfl) (kX6_maySweep  (Or.inr (Or.inl rfl)) eq5) ?_
  refine sz_if_ne 13 dX11_sweep_8 (by decide) (fun c8 => ?_) (fun c8 => ?_)
  · have hf := gz_in1 c8 hf
    refine sz_aload_n dX11_sweep_13 rfl ?_
    refine sz_getR dX11_sweep_14 flX11_74 kd0 rfl rf0_10 ?_
    refine sz_aload_n dX11_sweep_17 rfl ?_
    refine sz_getR dX11_sweep_18 flX11_58 kd0 rfl rf0_7 ?_
    obtain ⟨q21, eq21, hf⟩ := gz_bd hf
    refine sz_callVv [.ref 6] [] dX11_sweep_21 mvX11_189 (Nat.le_of_ble_eq_true rfl) (by decide : 5 < 13) kd9 rfl (Nat.le_of_ble_eq_true rfl) (kX5_keep  (Or.inr (Or.inl rfl)) eq21) ?_
    refine sz_aload_n dX11_sweep_24 rfl ?_
    refine sz_getR dX11_sweep_25 flX11_58 kd0 rfl rf0_7 ?_
    refine sz_iload_n dX11_sweep_28 rfl ?_
    obtain ⟨q29, eq29, hf⟩ := gz_bd hf
    refine sz_callVi [.int x1] [] dX11_sweep_29 mvX11_218 (Nat.le_of_ble_eq_true rfl) (by decide : 6 < 13) kd6 rfl (Nat.le_of_ble_eq_true rfl) (kX6_sweepOff  (Or.inr (Or.inl rfl)) eq29) ?_
    cases hf
    exact sz_iret dX11_sweep_32 rfl rfl ⟨rfl, rfl⟩
  · have hf := gz_ip c8 hf
    refine sz_iconst dX11_sweep_11 (cIm1) ?_
    cases hf
    exact sz_iret dX11_sweep_12 rfl rfl ⟨rfl, rfl⟩
def fX11_anew (La : gz_L)  (x1 : Int32) (x2 : Int32) (g : gz_S) : Option (Int32 × gz_S) :=
  (fX6_mayBegin La  6 x1 x2 g).bind (fun q6 => if q6.1 = 0 then some ((-1), q6.2) else (fX5_keep La  6 q6.2).bind (fun q22 => (fX6_payAndBegin La  6 x1 x2 q22).bind (fun q31 => if gz_ok ((30 : Int32) + x1) 61 then some (q31.1 22 (Int32.toNatClampNeg ((30 : Int32) + x1)), q31) else none)))
set_option maxRecDepth 100000 in
set_option maxHeartbeats 4000000 in
theorem kX11_anew {La : gz_L}  {x1 : Int32} {x2 : Int32} {g : gz_S} {r : Int32 × gz_S}  (hf : fX11_anew La  x1 x2 g = some r) : gz_K La 3 mX11_anew [.ref 0, .int x1, .int x2] g (gz_Fi r) := by
  unfold fX11_anew at hf
  refine gz_K.of 0 (by decide +kernel) rfl ?_
  show gz_J La 3 mX11_anew 0 [some (.ref 0), some (.int x1), some (.int x2)] [] g (gz_Fi r)
  refine sz_aload_n dX11_anew_0 rfl ?_
  refine sz_getR dX11_anew_1 flX11_58 kd0 rfl rf0_7 ?_
  refine sz_iload_n dX11_anew_4 rfl ?_
  refine sz_iload_n dX11_anew_5 rfl ?_
  obtain ⟨q6, eq6, hf⟩ := gz_bd hf
  refine sz_callVi [.int x1, .int x2] [] dX11_anew_6 mvX11_221 (Nat.le_of_ble_eq_true rfl) (by decide : 6 < 13) kd6 rfl (Nat.le_of_ble_eq_true rfl) (kX6_mayBegin  (Or.inr (Or.inl rfl)) eq6) ?_
  refine sz_if_ne 14 dX11_anew_9 (by decide) (fun c9 => ?_) (fun c9 => ?_)
  · have hf := gz_in1 c9 hf
    refine sz_aload_n dX11_anew_14 rfl ?_
    refine sz_getR dX11_anew_15 flX11_74 kd0 rfl rf0_10 ?_
    refine sz_aload_n dX11_anew_18 rfl ?_
    refine sz_getR dX11_anew_19 flX11_58 kd0 rfl rf0_7 ?_
    obtain ⟨q22, eq22, hf⟩ := gz_bd hf
    refine sz_callVv [.ref 6] [] dX11_anew_22 mvX11_189 (Nat.le_of_ble_eq_true rfl) (by decide : 5 < 13) kd9 rfl (Nat.le_of_ble_eq_true rfl) (kX5_keep  (Or.inr (Or.inl rfl)) eq22) ?_
    refine sz_aload_n dX11_anew_25 rfl ?_
    refine sz_getR dX11_anew_26 flX11_58 kd0 rfl rf0_7 ?_
    refine sz_iload_n dX11_anew_29 rfl ?_
    refine sz_iload_n dX11_anew_30 rfl ?_
    obtain ⟨q31, eq31, hf⟩ := gz_bd hf
    refine sz_callVv [.int x1, .int x2] [] dX11_anew_31 mvX11_225 (Nat.le_of_ble_eq_true rfl) (by decide : 6 < 13) kd6 rfl (Nat.le_of_ble_eq_true rfl) (kX6_payAndBegin  (Or.inr (Or.inl rfl)) eq31) ?_
    refine sz_aload_n dX11_anew_34 rfl ?_
    refine sz_getR dX11_anew_35 flX11_58 kd0 rfl rf0_7 ?_
    refine sz_getR dX11_anew_38 flX11_176 kd6 rfl rf6_0 ?_
    refine sz_bipush dX11_anew_41 (cB30) ?_
    refine sz_iload_n dX11_anew_43 rfl ?_
    refine sz_iadd dX11_anew_44 ?_
    obtain ⟨c45, hf⟩ := gz_gd hf
    refine sz_ialdL dX11_anew_45 kd22 c45 rfl ?_
    cases hf
    exact sz_iret dX11_anew_46 rfl rfl ⟨rfl, rfl⟩
  · have hf := gz_ip c9 hf
    refine sz_iconst dX11_anew_12 (cIm1) ?_
    cases hf
    exact sz_iret dX11_anew_13 rfl rfl ⟨rfl, rfl⟩
def fX11_give (La : gz_L)  (x1 : Int32) (g : gz_S) : Option (Int32 × gz_S) :=
  (fX6_mayBeGiven La  6 x1 g).bind (fun q5 => if q5.1 = 0 then some ((-1), q5.2) else (fX5_keep La  6 q5.2).bind (fun q21 => gz_let (gz_wi q21 22 48 ((q21.1 22 48) + x1)) (fun g37 => some (g37.1 22 48, g37))))
set_option maxRecDepth 100000 in
set_option maxHeartbeats 4000000 in
theorem kX11_give {La : gz_L}  {x1 : Int32} {g : gz_S} {r : Int32 × gz_S}  (hf : fX11_give La  x1 g = some r) : gz_K La 3 mX11_give [.ref 0, .int x1] g (gz_Fi r) := by
  unfold fX11_give at hf
  refine gz_K.of 0 (by decide +kernel) rfl ?_
  show gz_J La 3 mX11_give 0 [some (.ref 0), some (.int x1)] [] g (gz_Fi r)
  refine sz_aload_n dX11_give_0 rfl ?_
  refine sz_getR dX11_give_1 flX11_58 kd0 rfl rf0_7 ?_
  refine sz_iload_n dX11_give_4 rfl ?_
  obtain ⟨q5, eq5, hf⟩ := gz_bd hf
  refine sz_callVi [.int x1] [] dX11_give_5 mvX11_229 (Nat.le_of_ble_eq_true rfl) (by decide : 6 < 13) kd6 rfl (Nat.le_of_ble_eq_true rfl) (kX6_mayBeGiven  (Or.inr (Or.inl rfl)) eq5) ?_
  refine sz_if_ne 13 dX11_give_8 (by decide) (fun c8 => ?_) (fun c8 => ?_)
  · have hf := gz_in1 c8 hf
    refine sz_aload_n dX11_give_13 rfl ?_
    refine sz_getR dX11_give_14 flX11_74 kd0 rfl rf0_10 ?_
    refine sz_aload_n dX11_give_17 rfl ?_
    refine sz_getR dX11_give_18 flX11_58 kd0 rfl rf0_7 ?_
    obtain ⟨q21, eq21, hf⟩ := gz_bd hf
    refine sz_callVv [.ref 6] [] dX11_give_21 mvX11_189 (Nat.le_of_ble_eq_true rfl) (by decide : 5 < 13) kd9 rfl (Nat.le_of_ble_eq_true rfl) (kX5_keep  (Or.inr (Or.inl rfl)) eq21) ?_
    refine sz_aload_n dX11_give_24 rfl ?_
    refine sz_getR dX11_give_25 flX11_58 kd0 rfl rf0_7 ?_
    refine sz_getR dX11_give_28 flX11_176 kd6 rfl rf6_0 ?_
    refine sz_bipush dX11_give_31 (cB48) ?_
    refine sz_dup2 dX11_give_33 rfl rfl ?_
    refine sz_ialdL dX11_give_34 kd22 vi48_61 tn48 ?_
    refine sz_iload_n dX11_give_35 rfl ?_
    refine sz_iadd dX11_give_36 ?_
    obtain ⟨g37, eg37, hf⟩ := gz_lt hf
    refine sz_iastL dX11_give_37 kd22 vi48_61 tn48 eg37 ?_
    refine sz_aload_n dX11_give_38 rfl ?_
    refine sz_getR dX11_give_39 flX11_58 kd0 rfl rf0_7 ?_
    refine sz_getR dX11_give_42 flX11_176 kd6 rfl rf6_0 ?_
    refine sz_bipush dX11_give_45 (cB48) ?_
    refine sz_ialdL dX11_give_47 kd22 vi48_61 tn48 ?_
    cases hf
    exact sz_iret dX11_give_48 rfl rfl ⟨rfl, rfl⟩
  · have hf := gz_ip c8 hf
    refine sz_iconst dX11_give_11 (cIm1) ?_
    cases hf
    exact sz_iret dX11_give_12 rfl rfl ⟨rfl, rfl⟩
def fX11_draw (La : gz_L)  (x1 : Int32) (g : gz_S) : Option (Int32 × gz_S) :=
  gz_let (gz_wl g 0 17 (((g.2.1 0 17) * (6364136223846793005 : Int64)) + (1442695040888963407 : Int64))) (fun g13 => if 1 ≤ x1 then if ¬ (Int32.toInt64 x1) = 0 then some (Int64.toInt32 ((gz_lushr (g13.2.1 0 17) 33) - (gz_lushr (g13.2.1 0 17) 33) / (Int32.toInt64 x1) * (Int32.toInt64 x1)), g13) else none else some (0, g13))
set_option maxRecDepth 100000 in
set_option maxHeartbeats 4000000 in
theorem kX11_draw {La : gz_L}  {x1 : Int32} {g : gz_S} {r : Int32 × gz_S}  (hf : fX11_draw La  x1 g = some r) : gz_K La 1 mX11_draw [.ref 0, .int x1] g (gz_Fi r) := by
  unfold fX11_draw at hf
  refine gz_K.of 0 (by decide +kernel) rfl ?_
  show gz_J La 1 mX11_draw 0 [some (.ref 0), some (.int x1)] [] g (gz_Fi r)
  refine sz_aload_n dX11_draw_0 rfl ?_
  refine sz_aload_n dX11_draw_1 rfl ?_
  refine sz_getJ dX11_draw_2 flX11_235 kd0 rfl ?_
  refine sz_ldc2 dX11_draw_5 cstlX11_245 ?_
  refine sz_lmul dX11_draw_8 ?_
  refine sz_ldc2 dX11_draw_9 cstlX11_247 ?_
  refine sz_ladd dX11_draw_12 ?_
  obtain ⟨g13, eg13, hf⟩ := gz_lt hf
  refine sz_putJ2 dX11_draw_13 flX11_235 kd0 fi11_17 eg13 ?_
  refine sz_iload_n dX11_draw_16 rfl ?_
  refine sz_iconst dX11_draw_17 (cI1) ?_
  refine sz_icmp_ge 25 dX11_draw_18 (by decide) (fun c18 => ?_) (fun c18 => ?_)
  · have hf := gz_ip c18 hf
    refine sz_aload_n dX11_draw_25 rfl ?_
    refine sz_getJ dX11_draw_26 flX11_235 kd0 rfl ?_
    refine sz_bipush dX11_draw_29 (cB33) ?_
    refine sz_lushr dX11_draw_31 ?_
    refine sz_iload_n dX11_draw_32 rfl ?_
    refine sz_i2l dX11_draw_33 ?_
    obtain ⟨c34, hf⟩ := gz_gd hf
    refine sz_lrem dX11_draw_34 c34 ?_
    refine sz_l2i dX11_draw_35 ?_
    cases hf
    exact sz_iret dX11_draw_36 rfl rfl ⟨rfl, rfl⟩
  · have hf := gz_in1 c18 hf
    refine sz_iconst dX11_draw_21 (cI0) ?_
    refine sz_goto 36 dX11_draw_22 (by decide) ?_
    cases hf
    exact sz_iret dX11_draw_36 rfl rfl ⟨rfl, rfl⟩
def fX11_years_153 (La : gz_L)   (k49 : Int32 → Int32 → gz_S → Option (Int32 × gz_S)) (x1 : Int32) (x4 : Int32) (g : gz_S) : Option (Int32 × gz_S) := (fX11_passNow La   g).bind (fun q154 => gz_let (x4 + 1) (fun y158 => k49 x1 y158 q154.2))
set_option maxRecDepth 100000 in
set_option maxHeartbeats 4000000 in
theorem tX11_years_153 {La : gz_L}   {k49 : Int32 → Int32 → gz_S → Option (Int32 × gz_S)}  (hk49 : ∀ (x1 : Int32) (x4 : Int32) (g : gz_S) (r : Int32 × gz_S), k49 x1 x4 g = some r → gz_J La 7 mX11_years 49 [some (.ref 0), some (.int x1), none, none, some (.int x4), none, none] [] g (gz_Fi r)) : ∀ (x1 : Int32) (x4 : Int32) (g : gz_S) (r : Int32 × gz_S), fX11_years_153 La   k49 x1 x4 g = some r → gz_J La 7 mX11_years 153 [some (.ref 0), some (.int x1), none, none, some (.int x4), none, none] [] g (gz_Fi r) := by
  intro x1 x4 g r hf
  unfold fX11_years_153 at hf
  refine sz_aload_n dX11_years_153 rfl ?_
  obtain ⟨q154, eq154, hf⟩ := gz_bd hf
  refine sz_callVi [] [] dX11_years_154 mvX11_192 (Nat.le_of_ble_eq_true rfl) (by decide : 11 < 13) kd0 rfl (Nat.le_of_ble_eq_true rfl) (kX11_passNow   eq154) ?_
  refine sz_pop dX11_years_157 rfl ?_
  obtain ⟨y158, ey158, hf⟩ := gz_lt hf
  refine sz_iinc (v := y158) dX11_years_158 rfl (by rw [ey158, cI1]) (Nat.le_of_ble_eq_true rfl) rfl ?_
  refine sz_ls (l2 := [some (.ref 0), some (.int x1), none, none, some (.int y158), none, none]) rfl ?_
  refine sz_goto 49 dX11_years_161 (by decide) ?_
  exact hk49 _ _ _ _ hf
def fX11_years_49 (La : gz_L)   (k164 : gz_S → Option (Int32 × gz_S)) : Nat → Int32 → Int32 → gz_S → Option (Int32 × gz_S)
  | 0, _, _, _ => none
  | n + 1, x1, x4, g => if x1 ≤ x4 then k164  g else (fX5_keep La  6 g).bind (fun q63 => (fX11_draw La  6 q63).bind (fun q78 => gz_let (gz_wi q78.2 22 46 q78.1) (fun g81 => (fX11_draw La  10 g81).bind (fun q85 => if (q85.2.1 0 16) ≤ q85.1 then fX11_years_153 La   (fX11_years_49 La   k164 n)  x1 x4 q85.2 else (fX11_draw La  (q85.2.1 22 60) q85.2).bind (fun q106 => (fX11_draw La  4 q106.2).bind (fun q113 => if gz_ok ((54 : Int32) + q106.1) 61 then (fX6_kind La  6 (q113.2.1 22 (Int32.toNatClampNeg ((54 : Int32) + q106.1))) q113.2).bind (fun q135 => if q135.1 = 1 then fX11_years_153 La   (fX11_years_49 La   k164 n)  x1 x4 q135.2 else (fX6_begin La  6 q106.1 q113.1 q135.2).bind (fun q150 => fX11_years_153 La   (fX11_years_49 La   k164 n)  x1 x4 q150)) else none))))))
set_option maxRecDepth 100000 in
set_option maxHeartbeats 4000000 in
theorem tX11_years_49 {La : gz_L}   {k164 : gz_S → Option (Int32 × gz_S)}  (hk164 : ∀  (g : gz_S) (r : Int32 × gz_S), k164  g = some r → gz_J La 7 mX11_years 164 [some (.ref 0), none, none, none, none, none, none] [] g (gz_Fi r)) : ∀ (n : Nat) (x1 : Int32) (x4 : Int32) (g : gz_S) (r : Int32 × gz_S), fX11_years_49 La   k164 n x1 x4 g = some r → gz_J La 7 mX11_years 49 [some (.ref 0), some (.int x1), none, none, some (.int x4), none, none] [] g (gz_Fi r) := by
  intro n
  induction n with
  | zero => intro x1 x4 g r hf; exact nomatch (show (none : Option (Int32 × gz_S)) = some r from hf)
  | succ n ih =>
    intro x1 x4 g r hf
    unfold fX11_years_49 at hf
    refine sz_iload dX11_years_49 rfl ?_
    refine sz_iload_n dX11_years_51 rfl ?_
    refine sz_icmp_ge 164 dX11_years_52 (by decide) (fun c52 => ?_) (fun c52 => ?_)
    · have hf := gz_ip c52 hf
      refine sz_weak (l2 := [some (.ref 0), none, none, none, none, none, none]) (gz_subk (gz_subn (gz_subk (gz_subk (gz_subn (gz_subk (gz_subk gz_sub0))))))) ?_
      exact hk164  _ _ hf
    · have hf := gz_in1 c52 hf
      refine sz_aload_n dX11_years_55 rfl ?_
      refine sz_getR dX11_years_56 flX11_74 kd0 rfl rf0_10 ?_
      refine sz_aload_n dX11_years_59 rfl ?_
      refine sz_getR dX11_years_60 flX11_58 kd0 rfl rf0_7 ?_
      obtain ⟨q63, eq63, hf⟩ := gz_bd hf
      refine sz_callVv [.ref 6] [] dX11_years_63 mvX11_189 (Nat.le_of_ble_eq_true rfl) (by decide : 5 < 13) kd9 rfl (Nat.le_of_ble_eq_true rfl) (kX5_keep  (Or.inr (Or.inl rfl)) eq63) ?_
      refine sz_aload_n dX11_years_66 rfl ?_
      refine sz_getR dX11_years_67 flX11_58 kd0 rfl rf0_7 ?_
      refine sz_getR dX11_years_70 flX11_176 kd6 rfl rf6_0 ?_
      refine sz_bipush dX11_years_73 (cB46) ?_
      refine sz_aload_n dX11_years_75 rfl ?_
      refine sz_bipush dX11_years_76 (cB6) ?_
      obtain ⟨q78, eq78, hf⟩ := gz_bd hf
      refine sz_callVi [.int 6] [.int 46, .ref 22] dX11_years_78 mvX11_239 (Nat.le_of_ble_eq_true rfl) (by decide : 11 < 13) kd0 rfl (Nat.le_of_ble_eq_true rfl) (kX11_draw   eq78) ?_
      obtain ⟨g81, eg81, hf⟩ := gz_lt hf
      refine sz_iastL dX11_years_81 kd22 vi46_61 tn46 eg81 ?_
      refine sz_aload_n dX11_years_82 rfl ?_
      refine sz_bipush dX11_years_83 (cB10) ?_
      obtain ⟨q85, eq85, hf⟩ := gz_bd hf
      refine sz_callVi [.int 10] [] dX11_years_85 mvX11_239 (Nat.le_of_ble_eq_true rfl) (by decide : 11 < 13) kd0 rfl (Nat.le_of_ble_eq_true rfl) (kX11_draw   eq85) ?_
      refine sz_aload_n dX11_years_88 rfl ?_
      refine sz_getI dX11_years_89 flX11_98 kd0 rfl ?_
      refine sz_icmp_ge 153 dX11_years_92 (by decide) (fun c92 => ?_) (fun c92 => ?_)
      · have hf := gz_ip c92 hf
        exact tX11_years_153   ih _ _ _ _ hf
      · have hf := gz_in1 c92 hf
        refine sz_aload_n dX11_years_95 rfl ?_
        refine sz_aload_n dX11_years_96 rfl ?_
        refine sz_getR dX11_years_97 flX11_58 kd0 rfl rf0_7 ?_
        refine sz_getR dX11_years_100 flX11_176 kd6 rfl rf6_0 ?_
        refine sz_bipush dX11_years_103 (cB60) ?_
        refine sz_ialdL dX11_years_105 kd22 vi60_61 tn60 ?_
        obtain ⟨q106, eq106, hf⟩ := gz_bd hf
        refine sz_callVi [.int (q85.2.1 22 60)] [] dX11_years_106 mvX11_239 (Nat.le_of_ble_eq_true rfl) (by decide : 11 < 13) kd0 rfl (Nat.le_of_ble_eq_true rfl) (kX11_draw   eq106) ?_
        refine sz_istore dX11_years_109 (Nat.le_of_ble_eq_true rfl) rfl ?_
        refine sz_ls (l2 := [some (.ref 0), some (.int x1), none, none, some (.int x4), some (.int q106.1), none]) rfl ?_
        refine sz_aload_n dX11_years_111 rfl ?_
        refine sz_iconst dX11_years_112 (cI4) ?_
        obtain ⟨q113, eq113, hf⟩ := gz_bd hf
        refine sz_callVi [.int 4] [] dX11_years_113 mvX11_239 (Nat.le_of_ble_eq_true rfl) (by decide : 11 < 13) kd0 rfl (Nat.le_of_ble_eq_true rfl) (kX11_draw   eq113) ?_
        refine sz_istore dX11_years_116 (Nat.le_of_ble_eq_true rfl) rfl ?_
        refine sz_ls (l2 := [some (.ref 0), some (.int x1), none, none, some (.int x4), some (.int q106.1), some (.int q113.1)]) rfl ?_
        refine sz_aload_n dX11_years_118 rfl ?_
        refine sz_getR dX11_years_119 flX11_58 kd0 rfl rf0_7 ?_
        refine sz_aload_n dX11_years_122 rfl ?_
        refine sz_getR dX11_years_123 flX11_58 kd0 rfl rf0_7 ?_
        refine sz_getR dX11_years_126 flX11_176 kd6 rfl rf6_0 ?_
        refine sz_bipush dX11_years_129 (cB54) ?_
        refine sz_iload dX11_years_131 rfl ?_
        refine sz_iadd dX11_years_133 ?_
        obtain ⟨c134, hf⟩ := gz_gd hf
        refine sz_ialdL dX11_years_134 kd22 c134 rfl ?_
        obtain ⟨q135, eq135, hf⟩ := gz_bd hf
        refine sz_callVi [.int (q113.2.1 22 (Int32.toNatClampNeg ((54 : Int32) + q106.1)))] [] dX11_years_135 mvX11_160 (Nat.le_of_ble_eq_true rfl) (by decide : 6 < 13) kd6 rfl (Nat.le_of_ble_eq_true rfl) (kX6_kind  (Or.inr (Or.inl rfl)) eq135) ?_
        refine sz_iconst dX11_years_138 (cI1) ?_
        refine sz_icmp_eq 153 dX11_years_139 (by decide) (fun c139 => ?_) (fun c139 => ?_)
        · have hf := gz_ip c139 hf
          refine sz_weak (l2 := [some (.ref 0), some (.int x1), none, none, some (.int x4), none, none]) (gz_subk (gz_subk (gz_subk (gz_subk (gz_subk (gz_subn (gz_subn gz_sub0))))))) ?_
          exact tX11_years_153   ih _ _ _ _ hf
        · have hf := gz_in1 c139 hf
          refine sz_aload_n dX11_years_142 rfl ?_
          refine sz_getR dX11_years_143 flX11_58 kd0 rfl rf0_7 ?_
          refine sz_iload dX11_years_146 rfl ?_
          refine sz_iload dX11_years_148 rfl ?_
          obtain ⟨q150, eq150, hf⟩ := gz_bd hf
          refine sz_callVv [.int q106.1, .int q113.1] [] dX11_years_150 mvX11_242 (Nat.le_of_ble_eq_true rfl) (by decide : 6 < 13) kd6 rfl (Nat.le_of_ble_eq_true rfl) (kX6_begin  (Or.inr (Or.inl rfl)) eq150) ?_
          refine sz_weak (l2 := [some (.ref 0), some (.int x1), none, none, some (.int x4), none, none]) (gz_subk (gz_subk (gz_subk (gz_subk (gz_subk (gz_subn (gz_subn gz_sub0))))))) ?_
          exact tX11_years_153   ih _ _ _ _ hf
def fX11_years (La : gz_L)  (x1 : Int32) (x2 : Int64) (g : gz_S) : Option (Int32 × gz_S) :=
  (fX6_hasShore La  6 g).bind (fun q4 => if q4.1 = 0 then some ((-1), q4.2) else if x1 < 1 then some ((-1), q4.2) else if 30 < x1 then some ((-1), q4.2) else if ((q4.2.1 22 49) + x1) ≤ 9999 then gz_let (gz_wl q4.2 0 17 x2) (fun g43 => fX11_years_49 La   (fun  g => some (g.1 22 49, g)) gz_FU x1 0 g43) else some ((-1), q4.2))
set_option maxRecDepth 100000 in
set_option maxHeartbeats 4000000 in
theorem kX11_years {La : gz_L}  {x1 : Int32} {x2 : Int64} {g : gz_S} {r : Int32 × gz_S}  (hf : fX11_years La  x1 x2 g = some r) : gz_K La 7 mX11_years [.ref 0, .int x1, .long x2] g (gz_Fi r) := by
  unfold fX11_years at hf
  refine gz_K.of 3 (by decide +kernel) rfl ?_
  show gz_J La 7 mX11_years 0 [some (.ref 0), some (.int x1), some (.long x2), none, none, none, none] [] g (gz_Fi r)
  refine sz_aload_n dX11_years_0 rfl ?_
  refine sz_getR dX11_years_1 flX11_58 kd0 rfl rf0_7 ?_
  obtain ⟨q4, eq4, hf⟩ := gz_bd hf
  refine sz_callVi [] [] dX11_years_4 mvX11_232 (Nat.le_of_ble_eq_true rfl) (by decide : 6 < 13) kd6 rfl (Nat.le_of_ble_eq_true rfl) (kX6_hasShore  (Or.inr (Or.inl rfl)) eq4) ?_
  refine sz_if_eq 39 dX11_years_7 (by decide) (fun c7 => ?_) (fun c7 => ?_)
  · have hf := gz_ip c7 hf
    refine sz_iconst dX11_years_39 (cIm1) ?_
    cases hf
    exact sz_iret dX11_years_40 rfl rfl ⟨rfl, rfl⟩
  · have hf := gz_in1 c7 hf
    refine sz_iload_n dX11_years_10 rfl ?_
    refine sz_iconst dX11_years_11 (cI1) ?_
    refine sz_icmp_lt 39 dX11_years_12 (by decide) (fun c12 => ?_) (fun c12 => ?_)
    · have hf := gz_ip c12 hf
      refine sz_iconst dX11_years_39 (cIm1) ?_
      cases hf
      exact sz_iret dX11_years_40 rfl rfl ⟨rfl, rfl⟩
    · have hf := gz_in1 c12 hf
      refine sz_iload_n dX11_years_15 rfl ?_
      refine sz_bipush dX11_years_16 (cB30) ?_
      refine sz_icmp_gt 39 dX11_years_18 (by decide) (fun c18 => ?_) (fun c18 => ?_)
      · have hf := gz_ip c18 hf
        refine sz_iconst dX11_years_39 (cIm1) ?_
        cases hf
        exact sz_iret dX11_years_40 rfl rfl ⟨rfl, rfl⟩
      · have hf := gz_in1 c18 hf
        refine sz_aload_n dX11_years_21 rfl ?_
        refine sz_getR dX11_years_22 flX11_58 kd0 rfl rf0_7 ?_
        refine sz_getR dX11_years_25 flX11_176 kd6 rfl rf6_0 ?_
        refine sz_bipush dX11_years_28 (cB49) ?_
        refine sz_ialdL dX11_years_30 kd22 vi49_61 tn49 ?_
        refine sz_iload_n dX11_years_31 rfl ?_
        refine sz_iadd dX11_years_32 ?_
        refine sz_sipush dX11_years_33 (cH9999) ?_
        refine sz_icmp_le 41 dX11_years_36 (by decide) (fun c36 => ?_) (fun c36 => ?_)
        · have hf := gz_ip c36 hf
          refine sz_aload_n dX11_years_41 rfl ?_
          refine sz_lload_n dX11_years_42 rfl ?_
          obtain ⟨g43, eg43, hf⟩ := gz_lt hf
          refine sz_putJ2 dX11_years_43 flX11_235 kd0 fi11_17 eg43 ?_
          refine sz_iconst dX11_years_46 (cI0) ?_
          refine sz_istore dX11_years_47 (Nat.le_of_ble_eq_true rfl) rfl ?_
          refine sz_ls (l2 := [some (.ref 0), some (.int x1), some (.long x2), none, some (.int 0), none, none]) rfl ?_
          have hk164 : ∀  (g : gz_S) (r : Int32 × gz_S), (fun  g => some (g.1 22 49, g))  g = some r → gz_J La 7 mX11_years 164 [some (.ref 0), none, none, none, none, none, none] [] g (gz_Fi r) := by
            intro  g r hf
            refine sz_aload_n dX11_years_164 rfl ?_
            refine sz_getR dX11_years_165 flX11_58 kd0 rfl rf0_7 ?_
            refine sz_getR dX11_years_168 flX11_176 kd6 rfl rf6_0 ?_
            refine sz_bipush dX11_years_171 (cB49) ?_
            refine sz_ialdL dX11_years_173 kd22 vi49_61 tn49 ?_
            cases hf
            exact sz_iret dX11_years_174 rfl rfl ⟨rfl, rfl⟩
          refine sz_weak (l2 := [some (.ref 0), some (.int x1), none, none, some (.int 0), none, none]) (gz_subk (gz_subk (gz_subn (gz_subk (gz_subk (gz_subk (gz_subk gz_sub0))))))) ?_
          exact tX11_years_49   hk164 _ _ _ _ _ hf
        · have hf := gz_in1 c36 hf
          refine sz_iconst dX11_years_39 (cIm1) ?_
          cases hf
          exact sz_iret dX11_years_40 rfl rfl ⟨rfl, rfl⟩
def fX11_undo (La : gz_L)   (g : gz_S) : Option (Int32 × gz_S) :=
  (fX5_takeBack La  6 g).bind (fun q8 => if q8.1 = 0 then some ((-1), q8.2) else some (q8.2.1 9 0, q8.2))
set_option maxRecDepth 100000 in
set_option maxHeartbeats 4000000 in
theorem kX11_undo {La : gz_L}   {g : gz_S} {r : Int32 × gz_S}  (hf : fX11_undo La   g = some r) : gz_K La 2 mX11_undo [.ref 0] g (gz_Fi r) := by
  unfold fX11_undo at hf
  refine gz_K.of 0 (by decide +kernel) rfl ?_
  show gz_J La 2 mX11_undo 0 [some (.ref 0)] [] g (gz_Fi r)
  refine sz_aload_n dX11_undo_0 rfl ?_
  refine sz_getR dX11_undo_1 flX11_74 kd0 rfl rf0_10 ?_
  refine sz_aload_n dX11_undo_4 rfl ?_
  refine sz_getR dX11_undo_5 flX11_58 kd0 rfl rf0_7 ?_
  obtain ⟨q8, eq8, hf⟩ := gz_bd hf
  refine sz_callVi [.ref 6] [] dX11_undo_8 mvX11_249 (Nat.le_of_ble_eq_true rfl) (by decide : 5 < 13) kd9 rfl (Nat.le_of_ble_eq_true rfl) (kX5_takeBack  (Or.inr (Or.inl rfl)) eq8) ?_
  refine sz_if_eq 24 dX11_undo_11 (by decide) (fun c11 => ?_) (fun c11 => ?_)
  · have hf := gz_ip c11 hf
    refine sz_iconst dX11_undo_24 (cIm1) ?_
    cases hf
    exact sz_iret dX11_undo_25 rfl rfl ⟨rfl, rfl⟩
  · have hf := gz_in1 c11 hf
    refine sz_aload_n dX11_undo_14 rfl ?_
    refine sz_getR dX11_undo_15 flX11_74 kd0 rfl rf0_10 ?_
    refine sz_getI dX11_undo_18 flX11_253 kd9 rfl ?_
    refine sz_goto 25 dX11_undo_21 (by decide) ?_
    cases hf
    exact sz_iret dX11_undo_25 rfl rfl ⟨rfl, rfl⟩
def fX11_log (La : gz_L)  (x1 : Int32) (x2 : Int32) (g : gz_S) : Option (Int32 × gz_S) :=
  if x1 < 0 then some ((-1), g) else (fX5_logLength La  6 g).bind (fun q9 => if q9.1 ≤ x1 then some ((-1), q9.2) else if x2 < 0 then some ((-1), q9.2) else if x2 ≤ 2 then (fX5_noted La  (((q9.2.1 22 49) - 1) - x1) x2 q9.2).bind (fun q45 => some (q45.1, q45.2)) else some ((-1), q9.2))
set_option maxRecDepth 100000 in
set_option maxHeartbeats 4000000 in
theorem kX11_log {La : gz_L}  {x1 : Int32} {x2 : Int32} {g : gz_S} {r : Int32 × gz_S}  (hf : fX11_log La  x1 x2 g = some r) : gz_K La 3 mX11_log [.ref 0, .int x1, .int x2] g (gz_Fi r) := by
  unfold fX11_log at hf
  refine gz_K.of 0 (by decide +kernel) rfl ?_
  show gz_J La 3 mX11_log 0 [some (.ref 0), some (.int x1), some (.int x2)] [] g (gz_Fi r)
  refine sz_iload_n dX11_log_0 rfl ?_
  refine sz_if_lt 24 dX11_log_1 (by decide) (fun c1 => ?_) (fun c1 => ?_)
  · have hf := gz_ip c1 hf
    refine sz_iconst dX11_log_24 (cIm1) ?_
    cases hf
    exact sz_iret dX11_log_25 rfl rfl ⟨rfl, rfl⟩
  · have hf := gz_in1 c1 hf
    refine sz_iload_n dX11_log_4 rfl ?_
    refine sz_aload_n dX11_log_5 rfl ?_
    refine sz_getR dX11_log_6 flX11_58 kd0 rfl rf0_7 ?_
    obtain ⟨q9, eq9, hf⟩ := gz_bd hf
    refine sz_callSi [.ref 6] [.int x1] dX11_log_9 msX11_256 (Nat.le_of_ble_eq_true rfl) (Nat.le_of_ble_eq_true rfl) (kX5_logLength  (Or.inr (Or.inl rfl)) eq9) ?_
    refine sz_icmp_ge 24 dX11_log_12 (by decide) (fun c12 => ?_) (fun c12 => ?_)
    · have hf := gz_ip c12 hf
      refine sz_iconst dX11_log_24 (cIm1) ?_
      cases hf
      exact sz_iret dX11_log_25 rfl rfl ⟨rfl, rfl⟩
    · have hf := gz_in1 c12 hf
      refine sz_iload_n dX11_log_15 rfl ?_
      refine sz_if_lt 24 dX11_log_16 (by decide) (fun c16 => ?_) (fun c16 => ?_)
      · have hf := gz_ip c16 hf
        refine sz_iconst dX11_log_24 (cIm1) ?_
        cases hf
        exact sz_iret dX11_log_25 rfl rfl ⟨rfl, rfl⟩
      · have hf := gz_in1 c16 hf
        refine sz_iload_n dX11_log_19 rfl ?_
        refine sz_iconst dX11_log_20 (cI2) ?_
        refine sz_icmp_le 26 dX11_log_21 (by decide) (fun c21 => ?_) (fun c21 => ?_)
        · have hf := gz_ip c21 hf
          refine sz_aload_n dX11_log_26 rfl ?_
          refine sz_getR dX11_log_27 flX11_74 kd0 rfl rf0_10 ?_
          refine sz_aload_n dX11_log_30 rfl ?_
          refine sz_getR dX11_log_31 flX11_58 kd0 rfl rf0_7 ?_
          refine sz_getR dX11_log_34 flX11_176 kd6 rfl rf6_0 ?_
          refine sz_bipush dX11_log_37 (cB49) ?_
          refine sz_ialdL dX11_log_39 kd22 vi49_61 tn49 ?_
          refine sz_iconst dX11_log_40 (cI1) ?_
          refine sz_isub dX11_log_41 ?_
          refine sz_iload_n dX11_log_42 rfl ?_
          refine sz_isub dX11_log_43 ?_
          refine sz_iload_n dX11_log_44 rfl ?_
          obtain ⟨q45, eq45, hf⟩ := gz_bd hf
          refine sz_callVi [.int (((q9.2.1 22 49) - 1) - x1), .int x2] [] dX11_log_45 mvX11_259 (Nat.le_of_ble_eq_true rfl) (by decide : 5 < 13) kd9 rfl (Nat.le_of_ble_eq_true rfl) (kX5_noted   eq45) ?_
          cases hf
          exact sz_iret dX11_log_48 rfl rfl ⟨rfl, rfl⟩
        · have hf := gz_in1 c21 hf
          refine sz_iconst dX11_log_24 (cIm1) ?_
          cases hf
          exact sz_iret dX11_log_25 rfl rfl ⟨rfl, rfl⟩
def fX11_eveningOf_21 (La : gz_L)     (g : gz_S) : Option (Option Nat × gz_S) := some (none, g)
set_option maxRecDepth 100000 in
set_option maxHeartbeats 4000000 in
theorem tX11_eveningOf_21 {La : gz_L}      : ∀  (g : gz_S) (r : Option Nat × gz_S), fX11_eveningOf_21 La     g = some r → gz_J La 1 mX11_eveningOf 21 [none, none] [] g (gz_Fr r) := by
  intro  g r hf
  unfold fX11_eveningOf_21 at hf
  refine sz_null dX11_eveningOf_21 ?_
  cases hf
  exact sz_aretN dX11_eveningOf_22 rfl ⟨rfl, rfl⟩
def fX11_eveningOf (La : gz_L)  (x1 : Int32) (g : gz_S) : Option (Option Nat × gz_S) :=
  if x1 < 0 then fX11_eveningOf_21 La      g else if (g.1 0 14) ≤ x1 then fX11_eveningOf_21 La      g else if gz_ok x1 4 then gz_on (gz_rf La g 13 (Int32.toNatClampNeg x1)) (some (none, g)) (fun e17 => some (some e17, g)) else none
set_option maxRecDepth 100000 in
set_option maxHeartbeats 4000000 in
theorem kX11_eveningOf {La : gz_L}  {x1 : Int32} {g : gz_S} {r : Option Nat × gz_S}  (hf : fX11_eveningOf La  x1 g = some r) : gz_K La 1 mX11_eveningOf [.ref 0, .int x1] g (gz_Fr r) := by
  unfold fX11_eveningOf at hf
  refine gz_K.of 0 (by decide +kernel) rfl ?_
  show gz_J La 1 mX11_eveningOf 0 [some (.ref 0), some (.int x1)] [] g (gz_Fr r)
  refine sz_iload_n dX11_eveningOf_0 rfl ?_
  refine sz_if_lt 21 dX11_eveningOf_1 (by decide) (fun c1 => ?_) (fun c1 => ?_)
  · have hf := gz_ip c1 hf
    refine sz_weak (l2 := [none, none]) (gz_subn (gz_subn gz_sub0)) ?_
    exact tX11_eveningOf_21     _ _ hf
  · have hf := gz_in1 c1 hf
    refine sz_iload_n dX11_eveningOf_4 rfl ?_
    refine sz_aload_n dX11_eveningOf_5 rfl ?_
    refine sz_getI dX11_eveningOf_6 flX11_136 kd0 rfl ?_
    refine sz_icmp_ge 21 dX11_eveningOf_9 (by decide) (fun c9 => ?_) (fun c9 => ?_)
    · have hf := gz_ip c9 hf
      refine sz_weak (l2 := [none, none]) (gz_subn (gz_subn gz_sub0)) ?_
      exact tX11_eveningOf_21     _ _ hf
    · have hf := gz_in1 c9 hf
      refine sz_aload_n dX11_eveningOf_12 rfl ?_
      refine sz_getR dX11_eveningOf_13 flX11_47 kd0 rfl rf0_5 ?_
      refine sz_iload_n dX11_eveningOf_16 rfl ?_
      obtain ⟨c17, hf⟩ := gz_gd hf
      rcases ho17 : gz_rf La g 13 (Int32.toNatClampNeg x1) with _ | e17
      · have hf := gz_on0 ho17 hf
        refine sz_aald5n dX11_eveningOf_17 kd13 c17 ho17 ?_
        refine sz_goto 22 dX11_eveningOf_18 (by decide) ?_
        cases hf
        exact sz_aretN dX11_eveningOf_22 rfl ⟨rfl, rfl⟩
      · have hf := gz_on1 ho17 hf
        refine sz_aald5q dX11_eveningOf_17 kd13 c17 ho17 ?_
        refine sz_goto 22 dX11_eveningOf_18 (by decide) ?_
        cases hf
        exact sz_aret dX11_eveningOf_22 rfl ⟨rfl, rfl⟩
def fX11_step (La : gz_L)  (x1 : Int32) (x2 : Int32) (x3 : Int32) (g : gz_S) : Option (Int32 × gz_S) :=
  (fX11_eveningOf La  x1 g).bind (fun q2 => gz_on q2.1 (some ((-1000000), q2.2)) (fun e2 => if gz_ev La e2 then if x2 < 0 then some ((-1000000), q2.2) else if (q2.2.1 e2 0) ≤ x2 then some ((-1000000), q2.2) else if x3 < 0 then some ((-1000000), q2.2) else if x3 ≤ 2 then (fX0_part La  e2 x2 x3 q2.2).bind (fun q42 => some (q42.1, q42.2)) else some ((-1000000), q2.2) else none))
set_option maxRecDepth 100000 in
set_option maxHeartbeats 4000000 in
theorem kX11_step {La : gz_L}  {x1 : Int32} {x2 : Int32} {x3 : Int32} {g : gz_S} {r : Int32 × gz_S}  (hf : fX11_step La  x1 x2 x3 g = some r) : gz_K La 2 mX11_step [.ref 0, .int x1, .int x2, .int x3] g (gz_Fi r) := by
  unfold fX11_step at hf
  refine gz_K.of 1 (by decide +kernel) rfl ?_
  show gz_J La 2 mX11_step 0 [some (.ref 0), some (.int x1), some (.int x2), some (.int x3), none] [] g (gz_Fi r)
  refine sz_aload_n dX11_step_0 rfl ?_
  refine sz_iload_n dX11_step_1 rfl ?_
  obtain ⟨q2, eq2, hf⟩ := gz_bd hf
  refine sz_callVr [.int x1] [] dX11_step_2 mvX11_263 (Nat.le_of_ble_eq_true rfl) (by decide : 11 < 13) kd0 rfl (Nat.le_of_ble_eq_true rfl) (kX11_eveningOf   eq2) ?_
  rcases ho2 : q2.1 with _ | e2
  · have hf := gz_on0 ho2 hf
    refine sz_rfN rfl ?_
    refine sz_astoreN dX11_step_5 (Nat.le_of_ble_eq_true rfl) rfl ?_
    refine sz_ls (l2 := [some (.ref 0), some (.int x1), some (.int x2), some (.int x3), some (.null)]) rfl ?_
    refine sz_aloadN dX11_step_7 rfl ?_
    refine sz_ifnullN 34 dX11_step_9 (by decide) ?_
    refine sz_ldcw dX11_step_34 cstX11_270 ?_
    cases hf
    exact sz_iret dX11_step_37 rfl rfl ⟨rfl, rfl⟩
  · have hf := gz_on1 ho2 hf
    obtain ⟨he2, hf⟩ := gz_gd hf
    refine sz_rfS rfl ?_
    refine sz_astore dX11_step_5 (Nat.le_of_ble_eq_true rfl) rfl ?_
    refine sz_ls (l2 := [some (.ref 0), some (.int x1), some (.int x2), some (.int x3), some (.ref e2)]) rfl ?_
    refine sz_aload dX11_step_7 rfl ?_
    refine sz_ifnull dX11_step_9 ?_
    refine sz_iload_n dX11_step_12 rfl ?_
    refine sz_if_lt 34 dX11_step_13 (by decide) (fun c13 => ?_) (fun c13 => ?_)
    · have hf := gz_ip c13 hf
      refine sz_ldcw dX11_step_34 cstX11_270 ?_
      cases hf
      exact sz_iret dX11_step_37 rfl rfl ⟨rfl, rfl⟩
    · have hf := gz_in1 c13 hf
      refine sz_iload_n dX11_step_16 rfl ?_
      refine sz_aload dX11_step_17 rfl ?_
      refine sz_getI dX11_step_19 flX11_267 (kdE he2) rfl ?_
      refine sz_icmp_ge 34 dX11_step_22 (by decide) (fun c22 => ?_) (fun c22 => ?_)
      · have hf := gz_ip c22 hf
        refine sz_ldcw dX11_step_34 cstX11_270 ?_
        cases hf
        exact sz_iret dX11_step_37 rfl rfl ⟨rfl, rfl⟩
      · have hf := gz_in1 c22 hf
        refine sz_iload_n dX11_step_25 rfl ?_
        refine sz_if_lt 34 dX11_step_26 (by decide) (fun c26 => ?_) (fun c26 => ?_)
        · have hf := gz_ip c26 hf
          refine sz_ldcw dX11_step_34 cstX11_270 ?_
          cases hf
          exact sz_iret dX11_step_37 rfl rfl ⟨rfl, rfl⟩
        · have hf := gz_in1 c26 hf
          refine sz_iload_n dX11_step_29 rfl ?_
          refine sz_iconst dX11_step_30 (cI2) ?_
          refine sz_icmp_le 38 dX11_step_31 (by decide) (fun c31 => ?_) (fun c31 => ?_)
          · have hf := gz_ip c31 hf
            refine sz_aload dX11_step_38 rfl ?_
            refine sz_iload_n dX11_step_40 rfl ?_
            refine sz_iload_n dX11_step_41 rfl ?_
            obtain ⟨q42, eq42, hf⟩ := gz_bd hf
            refine sz_callVi [.int x2, .int x3] [] dX11_step_42 mvX11_271 (Nat.le_of_ble_eq_true rfl) (by decide : 0 < 13) (kdE he2) rfl (Nat.le_of_ble_eq_true rfl) (kX0_part  he2 eq42) ?_
            cases hf
            exact sz_iret dX11_step_45 rfl rfl ⟨rfl, rfl⟩
          · have hf := gz_in1 c31 hf
            refine sz_ldcw dX11_step_34 cstX11_270 ?_
            cases hf
            exact sz_iret dX11_step_37 rfl rfl ⟨rfl, rfl⟩
def fX11_run_122 (La : gz_L)  (e2 : Nat) (k50 : Int32 → Int32 → Int32 → gz_S → Option (Int32 × gz_S)) (x2 : Int32) (x4 : Int32) (x5 : Int32) (g : gz_S) : Option (Int32 × gz_S) := gz_let (x5 + 1) (fun y122 => k50 x2 x4 y122 g)
set_option maxRecDepth 100000 in
set_option maxHeartbeats 4000000 in
theorem tX11_run_122 {La : gz_L}  {e2 : Nat} {k50 : Int32 → Int32 → Int32 → gz_S → Option (Int32 × gz_S)} (he2 : gz_ev La e2) (hk50 : ∀ (x2 : Int32) (x4 : Int32) (x5 : Int32) (g : gz_S) (r : Int32 × gz_S), k50 x2 x4 x5 g = some r → gz_J La 6 mX11_run 50 [some (.ref 0), none, some (.int x2), some (.ref e2), some (.int x4), some (.int x5)] [] g (gz_Fi r)) : ∀ (x2 : Int32) (x4 : Int32) (x5 : Int32) (g : gz_S) (r : Int32 × gz_S), fX11_run_122 La  e2 k50 x2 x4 x5 g = some r → gz_J La 6 mX11_run 122 [some (.ref 0), none, some (.int x2), some (.ref e2), some (.int x4), some (.int x5)] [] g (gz_Fi r) := by
  intro x2 x4 x5 g r hf
  unfold fX11_run_122 at hf
  obtain ⟨y122, ey122, hf⟩ := gz_lt hf
  refine sz_iinc (v := y122) dX11_run_122 rfl (by rw [ey122, cI1]) (Nat.le_of_ble_eq_true rfl) rfl ?_
  refine sz_ls (l2 := [some (.ref 0), none, some (.int x2), some (.ref e2), some (.int x4), some (.int y122)]) rfl ?_
  refine sz_goto 50 dX11_run_125 (by decide) ?_
  exact hk50 _ _ _ _ _ hf
def fX11_run_50 (La : gz_L)  (e2 : Nat) (k128 : Int32 → Int32 → gz_S → Option (Int32 × gz_S)) (k72 : Int32 → Int32 → Int32 → gz_S → Option (Int32 × gz_S)) : Nat → Int32 → Int32 → Int32 → gz_S → Option (Int32 × gz_S)
  | 0, _, _, _, _ => none
  | n + 1, x2, x4, x5, g => if (g.1 e2 0) ≤ x5 then k128 x2 x4 g else (fX0_mayBe La  e2 x5 7 g).bind (fun q66 => if q66.1 = 0 then k72 x2 x4 x5 q66.2 else (fX0_isHour La  e2 x5 q66.2).bind (fun q87 => if q87.1 = 0 then (fX0_doByHand La  e2 x5 7 q87.2).bind (fun q119 => fX11_run_122 La  e2 (fX11_run_50 La  e2 k128 k72 n)  x2 x4 x5 q119) else (fX10_passHour La  7 q87.2).bind (fun q103 => gz_let (x4 + q103.1) (fun y107 => fX11_run_122 La  e2 (fX11_run_50 La  e2 k128 k72 n)  x2 y107 x5 q103.2))))
set_option maxRecDepth 100000 in
set_option maxHeartbeats 4000000 in
theorem tX11_run_50 {La : gz_L}  {e2 : Nat} {k128 : Int32 → Int32 → gz_S → Option (Int32 × gz_S)} {k72 : Int32 → Int32 → Int32 → gz_S → Option (Int32 × gz_S)} (he2 : gz_ev La e2) (hk128 : ∀ (x2 : Int32) (x4 : Int32) (g : gz_S) (r : Int32 × gz_S), k128 x2 x4 g = some r → gz_J La 6 mX11_run 128 [none, none, some (.int x2), none, some (.int x4), none] [] g (gz_Fi r)) (hk72 : ∀ (x2 : Int32) (x4 : Int32) (x5 : Int32) (g : gz_S) (r : Int32 × gz_S), k72 x2 x4 x5 g = some r → gz_J La 6 mX11_run 72 [none, none, some (.int x2), none, some (.int x4), some (.int x5)] [] g (gz_Fi r)) : ∀ (n : Nat) (x2 : Int32) (x4 : Int32) (x5 : Int32) (g : gz_S) (r : Int32 × gz_S), fX11_run_50 La  e2 k128 k72 n x2 x4 x5 g = some r → gz_J La 6 mX11_run 50 [some (.ref 0), none, some (.int x2), some (.ref e2), some (.int x4), some (.int x5)] [] g (gz_Fi r) := by
  intro n
  induction n with
  | zero => intro x2 x4 x5 g r hf; exact nomatch (show (none : Option (Int32 × gz_S)) = some r from hf)
  | succ n ih =>
    intro x2 x4 x5 g r hf
    unfold fX11_run_50 at hf
    refine sz_iload dX11_run_50 rfl ?_
    refine sz_aload_n dX11_run_52 rfl ?_
    refine sz_getI dX11_run_53 flX11_267 (kdE he2) rfl ?_
    refine sz_icmp_ge 128 dX11_run_56 (by decide) (fun c56 => ?_) (fun c56 => ?_)
    · have hf := gz_ip c56 hf
      refine sz_weak (l2 := [none, none, some (.int x2), none, some (.int x4), none]) (gz_subn (gz_subk (gz_subk (gz_subn (gz_subk (gz_subn gz_sub0)))))) ?_
      exact hk128 _ _ _ _ hf
    · have hf := gz_in1 c56 hf
      refine sz_aload_n dX11_run_59 rfl ?_
      refine sz_iload dX11_run_60 rfl ?_
      refine sz_aload_n dX11_run_62 rfl ?_
      refine sz_getR dX11_run_63 flX11_61 kd0 rfl rf0_8 ?_
      obtain ⟨q66, eq66, hf⟩ := gz_bd hf
      refine sz_callVi [.int x5, .ref 7] [] dX11_run_66 mvX11_274 (Nat.le_of_ble_eq_true rfl) (by decide : 0 < 13) (kdE he2) rfl (Nat.le_of_ble_eq_true rfl) (kX0_mayBe  he2 (Or.inr (Or.inr rfl)) eq66) ?_
      refine sz_if_ne 84 dX11_run_69 (by decide) (fun c69 => ?_) (fun c69 => ?_)
      · have hf := gz_in1 c69 hf
        refine sz_aload_n dX11_run_84 rfl ?_
        refine sz_iload dX11_run_85 rfl ?_
        obtain ⟨q87, eq87, hf⟩ := gz_bd hf
        refine sz_callVi [.int x5] [] dX11_run_87 mvX11_278 (Nat.le_of_ble_eq_true rfl) (by decide : 0 < 13) (kdE he2) rfl (Nat.le_of_ble_eq_true rfl) (kX0_isHour  he2 eq87) ?_
        refine sz_if_eq 112 dX11_run_90 (by decide) (fun c90 => ?_) (fun c90 => ?_)
        · have hf := gz_ip c90 hf
          refine sz_aload_n dX11_run_112 rfl ?_
          refine sz_iload dX11_run_113 rfl ?_
          refine sz_aload_n dX11_run_115 rfl ?_
          refine sz_getR dX11_run_116 flX11_61 kd0 rfl rf0_8 ?_
          obtain ⟨q119, eq119, hf⟩ := gz_bd hf
          refine sz_callVv [.int x5, .ref 7] [] dX11_run_119 mvX11_281 (Nat.le_of_ble_eq_true rfl) (by decide : 0 < 13) (kdE he2) rfl (Nat.le_of_ble_eq_true rfl) (kX0_doByHand  he2 (Or.inr (Or.inr rfl)) eq119) ?_
          exact tX11_run_122  he2 ih _ _ _ _ _ hf
        · have hf := gz_in1 c90 hf
          refine sz_iload dX11_run_93 rfl ?_
          refine sz_aload_n dX11_run_95 rfl ?_
          refine sz_getR dX11_run_96 flX11_67 kd0 rfl rf0_9 ?_
          refine sz_aload_n dX11_run_99 rfl ?_
          refine sz_getR dX11_run_100 flX11_61 kd0 rfl rf0_8 ?_
          obtain ⟨q103, eq103, hf⟩ := gz_bd hf
          refine sz_callVi [.ref 7] [.int x4] dX11_run_103 mvX11_195 (Nat.le_of_ble_eq_true rfl) (by decide : 10 < 13) kd8 rfl (Nat.le_of_ble_eq_true rfl) (kX10_passHour  (Or.inr (Or.inr rfl)) eq103) ?_
          refine sz_iadd dX11_run_106 ?_
          obtain ⟨y107, ey107, hf⟩ := gz_lt hf
          refine sz_topi ey107 ?_
          refine sz_istore dX11_run_107 (Nat.le_of_ble_eq_true rfl) rfl ?_
          refine sz_ls (l2 := [some (.ref 0), none, some (.int x2), some (.ref e2), some (.int y107), some (.int x5)]) rfl ?_
          refine sz_goto 122 dX11_run_109 (by decide) ?_
          exact tX11_run_122  he2 ih _ _ _ _ _ hf
      · have hf := gz_ip c69 hf
        refine sz_weak (l2 := [none, none, some (.int x2), none, some (.int x4), some (.int x5)]) (gz_subn (gz_subk (gz_subk (gz_subn (gz_subk (gz_subk gz_sub0)))))) ?_
        exact hk72 _ _ _ _ _ hf
def fX11_run (La : gz_L)  (x1 : Int32) (x2 : Int32) (g : gz_S) : Option (Int32 × gz_S) :=
  (fX11_eveningOf La  x1 g).bind (fun q2 => gz_on q2.1 (some ((-1000000), q2.2)) (fun e2 => if gz_ev La e2 then (fX6_hasShore La  6 q2.2).bind (fun q14 => if q14.1 = 0 then some ((-1000000), q14.2) else if x2 < 0 then some ((-1000000), q14.2) else if x2 ≤ 1 then (fX6_copy La  7 6 q14.2).bind (fun q41 => fX11_run_50 La  e2 (fun (x2 : Int32) (x4 : Int32) g => if x2 = 0 then some ((-1), g) else some (x4, g)) (fun (x2 : Int32) (x4 : Int32) (x5 : Int32) g => if x2 = 0 then some (x5, g) else some (x4, g)) gz_FU x2 0 0 q41) else some ((-1000000), q14.2)) else none))
set_option maxRecDepth 100000 in
set_option maxHeartbeats 4000000 in
theorem kX11_run {La : gz_L}  {x1 : Int32} {x2 : Int32} {g : gz_S} {r : Int32 × gz_S}  (hf : fX11_run La  x1 x2 g = some r) : gz_K La 6 mX11_run [.ref 0, .int x1, .int x2] g (gz_Fi r) := by
  unfold fX11_run at hf
  refine gz_K.of 3 (by decide +kernel) rfl ?_
  show gz_J La 6 mX11_run 0 [some (.ref 0), some (.int x1), some (.int x2), none, none, none] [] g (gz_Fi r)
  refine sz_aload_n dX11_run_0 rfl ?_
  refine sz_iload_n dX11_run_1 rfl ?_
  obtain ⟨q2, eq2, hf⟩ := gz_bd hf
  refine sz_callVr [.int x1] [] dX11_run_2 mvX11_263 (Nat.le_of_ble_eq_true rfl) (by decide : 11 < 13) kd0 rfl (Nat.le_of_ble_eq_true rfl) (kX11_eveningOf   eq2) ?_
  rcases ho2 : q2.1 with _ | e2
  · have hf := gz_on0 ho2 hf
    refine sz_rfN rfl ?_
    refine sz_astore_nN dX11_run_5 rfl (Nat.le_of_ble_eq_true rfl) rfl ?_
    refine sz_ls (l2 := [some (.ref 0), some (.int x1), some (.int x2), some (.null), none, none]) rfl ?_
    refine sz_aload_nN dX11_run_6 rfl ?_
    refine sz_ifnullN 29 dX11_run_7 (by decide) ?_
    refine sz_ldcw dX11_run_29 cstX11_270 ?_
    cases hf
    exact sz_iret dX11_run_32 rfl rfl ⟨rfl, rfl⟩
  · have hf := gz_on1 ho2 hf
    obtain ⟨he2, hf⟩ := gz_gd hf
    refine sz_rfS rfl ?_
    refine sz_astore_n dX11_run_5 rfl (Nat.le_of_ble_eq_true rfl) rfl ?_
    refine sz_ls (l2 := [some (.ref 0), some (.int x1), some (.int x2), some (.ref e2), none, none]) rfl ?_
    refine sz_aload_n dX11_run_6 rfl ?_
    refine sz_ifnull dX11_run_7 ?_
    refine sz_aload_n dX11_run_10 rfl ?_
    refine sz_getR dX11_run_11 flX11_58 kd0 rfl rf0_7 ?_
    obtain ⟨q14, eq14, hf⟩ := gz_bd hf
    refine sz_callVi [] [] dX11_run_14 mvX11_232 (Nat.le_of_ble_eq_true rfl) (by decide : 6 < 13) kd6 rfl (Nat.le_of_ble_eq_true rfl) (kX6_hasShore  (Or.inr (Or.inl rfl)) eq14) ?_
    refine sz_if_eq 29 dX11_run_17 (by decide) (fun c17 => ?_) (fun c17 => ?_)
    · have hf := gz_ip c17 hf
      refine sz_ldcw dX11_run_29 cstX11_270 ?_
      cases hf
      exact sz_iret dX11_run_32 rfl rfl ⟨rfl, rfl⟩
    · have hf := gz_in1 c17 hf
      refine sz_iload_n dX11_run_20 rfl ?_
      refine sz_if_lt 29 dX11_run_21 (by decide) (fun c21 => ?_) (fun c21 => ?_)
      · have hf := gz_ip c21 hf
        refine sz_ldcw dX11_run_29 cstX11_270 ?_
        cases hf
        exact sz_iret dX11_run_32 rfl rfl ⟨rfl, rfl⟩
      · have hf := gz_in1 c21 hf
        refine sz_iload_n dX11_run_24 rfl ?_
        refine sz_iconst dX11_run_25 (cI1) ?_
        refine sz_icmp_le 33 dX11_run_26 (by decide) (fun c26 => ?_) (fun c26 => ?_)
        · have hf := gz_ip c26 hf
          refine sz_aload_n dX11_run_33 rfl ?_
          refine sz_getR dX11_run_34 flX11_61 kd0 rfl rf0_8 ?_
          refine sz_aload_n dX11_run_37 rfl ?_
          refine sz_getR dX11_run_38 flX11_58 kd0 rfl rf0_7 ?_
          obtain ⟨q41, eq41, hf⟩ := gz_bd hf
          refine sz_callVv [.ref 6] [] dX11_run_41 mvX11_146 (Nat.le_of_ble_eq_true rfl) (by decide : 6 < 13) kd7 rfl (Nat.le_of_ble_eq_true rfl) (kX6_copy  (Or.inr (Or.inr rfl)) (Or.inr (Or.inl rfl)) eq41) ?_
          refine sz_iconst dX11_run_44 (cI0) ?_
          refine sz_istore dX11_run_45 (Nat.le_of_ble_eq_true rfl) rfl ?_
          refine sz_ls (l2 := [some (.ref 0), some (.int x1), some (.int x2), some (.ref e2), some (.int 0), none]) rfl ?_
          refine sz_iconst dX11_run_47 (cI0) ?_
          refine sz_istore dX11_run_48 (Nat.le_of_ble_eq_true rfl) rfl ?_
          refine sz_ls (l2 := [some (.ref 0), some (.int x1), some (.int x2), some (.ref e2), some (.int 0), some (.int 0)]) rfl ?_
          have hk128 : ∀ (x2 : Int32) (x4 : Int32) (g : gz_S) (r : Int32 × gz_S), (fun (x2 : Int32) (x4 : Int32) g => if x2 = 0 then some ((-1), g) else some (x4, g)) x2 x4 g = some r → gz_J La 6 mX11_run 128 [none, none, some (.int x2), none, some (.int x4), none] [] g (gz_Fi r) := by
            intro x2 x4 g r hf
            refine sz_iload_n dX11_run_128 rfl ?_
            refine sz_if_ne 136 dX11_run_129 (by decide) (fun c129 => ?_) (fun c129 => ?_)
            · have hf := gz_in1 c129 hf
              refine sz_iload dX11_run_136 rfl ?_
              cases hf
              exact sz_iret dX11_run_138 rfl rfl ⟨rfl, rfl⟩
            · have hf := gz_ip c129 hf
              refine sz_iconst dX11_run_132 (cIm1) ?_
              refine sz_goto 138 dX11_run_133 (by decide) ?_
              cases hf
              exact sz_iret dX11_run_138 rfl rfl ⟨rfl, rfl⟩
          have hk72 : ∀ (x2 : Int32) (x4 : Int32) (x5 : Int32) (g : gz_S) (r : Int32 × gz_S), (fun (x2 : Int32) (x4 : Int32) (x5 : Int32) g => if x2 = 0 then some (x5, g) else some (x4, g)) x2 x4 x5 g = some r → gz_J La 6 mX11_run 72 [none, none, some (.int x2), none, some (.int x4), some (.int x5)] [] g (gz_Fi r) := by
            intro x2 x4 x5 g r hf
            refine sz_iload_n dX11_run_72 rfl ?_
            refine sz_if_ne 81 dX11_run_73 (by decide) (fun c73 => ?_) (fun c73 => ?_)
            · have hf := gz_in1 c73 hf
              refine sz_iload dX11_run_81 rfl ?_
              cases hf
              exact sz_iret dX11_run_83 rfl rfl ⟨rfl, rfl⟩
            · have hf := gz_ip c73 hf
              refine sz_iload dX11_run_76 rfl ?_
              refine sz_goto 83 dX11_run_78 (by decide) ?_
              cases hf
              exact sz_iret dX11_run_83 rfl rfl ⟨rfl, rfl⟩
          refine sz_weak (l2 := [some (.ref 0), none, some (.int x2), some (.ref e2), some (.int 0), some (.int 0)]) (gz_subk (gz_subn (gz_subk (gz_subk (gz_subk (gz_subk gz_sub0)))))) ?_
          exact tX11_run_50  he2 hk128 hk72 _ _ _ _ _ _ hf
        · have hf := gz_in1 c26 hf
          refine sz_ldcw dX11_run_29 cstX11_270 ?_
          cases hf
          exact sz_iret dX11_run_32 rfl rfl ⟨rfl, rfl⟩
def fX11_perform_82 (La : gz_L)  (e2 : Nat) (k24 : Int32 → gz_S → Option (Int32 × gz_S)) (x3 : Int32) (g : gz_S) : Option (Int32 × gz_S) := gz_let (x3 + 1) (fun y82 => k24 y82 g)
set_option maxRecDepth 100000 in
set_option maxHeartbeats 4000000 in
theorem tX11_perform_82 {La : gz_L}  {e2 : Nat} {k24 : Int32 → gz_S → Option (Int32 × gz_S)} (he2 : gz_ev La e2) (hk24 : ∀ (x3 : Int32) (g : gz_S) (r : Int32 × gz_S), k24 x3 g = some r → gz_J La 7 mX11_perform 24 [some (.ref 0), none, some (.ref e2), some (.int x3)] [] g (gz_Fi r)) : ∀ (x3 : Int32) (g : gz_S) (r : Int32 × gz_S), fX11_perform_82 La  e2 k24 x3 g = some r → gz_J La 7 mX11_perform 82 [some (.ref 0), none, some (.ref e2), some (.int x3)] [] g (gz_Fi r) := by
  intro x3 g r hf
  unfold fX11_perform_82 at hf
  obtain ⟨y82, ey82, hf⟩ := gz_lt hf
  refine sz_iinc (v := y82) dX11_perform_82 rfl (by rw [ey82, cI1]) (Nat.le_of_ble_eq_true rfl) rfl ?_
  refine sz_ls (l2 := [some (.ref 0), none, some (.ref e2), some (.int y82)]) rfl ?_
  refine sz_goto 24 dX11_perform_85 (by decide) ?_
  exact hk24 _ _ _ hf
def fX11_perform_24 (La : gz_L)  (e2 : Nat)  : Nat → Int32 → gz_S → Option (Int32 × gz_S)
  | 0, _, _ => none
  | n + 1, x3, g => if (g.1 e2 0) ≤ x3 then some (g.1 e2 0, g) else (fX0_mayBe La  e2 x3 6 g).bind (fun q38 => if q38.1 = 0 then some (x3, q38.2) else (fX5_keep La  6 q38.2).bind (fun q54 => (fX0_isHour La  e2 x3 q54).bind (fun q59 => if q59.1 = 0 then (fX0_doByHand La  e2 x3 6 q59.2).bind (fun q79 => fX11_perform_82 La  e2 (fX11_perform_24 La  e2  n)  x3 q79) else (fX11_passNow La   q59.2).bind (fun q66 => fX11_perform_82 La  e2 (fX11_perform_24 La  e2  n)  x3 q66.2))))
set_option maxRecDepth 100000 in
set_option maxHeartbeats 4000000 in
theorem tX11_perform_24 {La : gz_L}  {e2 : Nat}  (he2 : gz_ev La e2)  : ∀ (n : Nat) (x3 : Int32) (g : gz_S) (r : Int32 × gz_S), fX11_perform_24 La  e2  n x3 g = some r → gz_J La 7 mX11_perform 24 [some (.ref 0), none, some (.ref e2), some (.int x3)] [] g (gz_Fi r) := by
  intro n
  induction n with
  | zero => intro x3 g r hf; exact nomatch (show (none : Option (Int32 × gz_S)) = some r from hf)
  | succ n ih =>
    intro x3 g r hf
    unfold fX11_perform_24 at hf
    refine sz_iload_n dX11_perform_24 rfl ?_
    refine sz_aload_n dX11_perform_25 rfl ?_
    refine sz_getI dX11_perform_26 flX11_267 (kdE he2) rfl ?_
    refine sz_icmp_ge 88 dX11_perform_29 (by decide) (fun c29 => ?_) (fun c29 => ?_)
    · have hf := gz_ip c29 hf
      refine sz_aload_n dX11_perform_88 rfl ?_
      refine sz_getI dX11_perform_89 flX11_267 (kdE he2) rfl ?_
      cases hf
      exact sz_iret dX11_perform_92 rfl rfl ⟨rfl, rfl⟩
    · have hf := gz_in1 c29 hf
      refine sz_aload_n dX11_perform_32 rfl ?_
      refine sz_iload_n dX11_perform_33 rfl ?_
      refine sz_aload_n dX11_perform_34 rfl ?_
      refine sz_getR dX11_perform_35 flX11_58 kd0 rfl rf0_7 ?_
      obtain ⟨q38, eq38, hf⟩ := gz_bd hf
      refine sz_callVi [.int x3, .ref 6] [] dX11_perform_38 mvX11_274 (Nat.le_of_ble_eq_true rfl) (by decide : 0 < 13) (kdE he2) rfl (Nat.le_of_ble_eq_true rfl) (kX0_mayBe  he2 (Or.inr (Or.inl rfl)) eq38) ?_
      refine sz_if_ne 46 dX11_perform_41 (by decide) (fun c41 => ?_) (fun c41 => ?_)
      · have hf := gz_in1 c41 hf
        refine sz_aload_n dX11_perform_46 rfl ?_
        refine sz_getR dX11_perform_47 flX11_74 kd0 rfl rf0_10 ?_
        refine sz_aload_n dX11_perform_50 rfl ?_
        refine sz_getR dX11_perform_51 flX11_58 kd0 rfl rf0_7 ?_
        obtain ⟨q54, eq54, hf⟩ := gz_bd hf
        refine sz_callVv [.ref 6] [] dX11_perform_54 mvX11_189 (Nat.le_of_ble_eq_true rfl) (by decide : 5 < 13) kd9 rfl (Nat.le_of_ble_eq_true rfl) (kX5_keep  (Or.inr (Or.inl rfl)) eq54) ?_
        refine sz_aload_n dX11_perform_57 rfl ?_
        refine sz_iload_n dX11_perform_58 rfl ?_
        obtain ⟨q59, eq59, hf⟩ := gz_bd hf
        refine sz_callVi [.int x3] [] dX11_perform_59 mvX11_278 (Nat.le_of_ble_eq_true rfl) (by decide : 0 < 13) (kdE he2) rfl (Nat.le_of_ble_eq_true rfl) (kX0_isHour  he2 eq59) ?_
        refine sz_if_eq 73 dX11_perform_62 (by decide) (fun c62 => ?_) (fun c62 => ?_)
        · have hf := gz_ip c62 hf
          refine sz_aload_n dX11_perform_73 rfl ?_
          refine sz_iload_n dX11_perform_74 rfl ?_
          refine sz_aload_n dX11_perform_75 rfl ?_
          refine sz_getR dX11_perform_76 flX11_58 kd0 rfl rf0_7 ?_
          obtain ⟨q79, eq79, hf⟩ := gz_bd hf
          refine sz_callVv [.int x3, .ref 6] [] dX11_perform_79 mvX11_281 (Nat.le_of_ble_eq_true rfl) (by decide : 0 < 13) (kdE he2) rfl (Nat.le_of_ble_eq_true rfl) (kX0_doByHand  he2 (Or.inr (Or.inl rfl)) eq79) ?_
          exact tX11_perform_82  he2 ih _ _ _ hf
        · have hf := gz_in1 c62 hf
          refine sz_aload_n dX11_perform_65 rfl ?_
          obtain ⟨q66, eq66, hf⟩ := gz_bd hf
          refine sz_callVi [] [] dX11_perform_66 mvX11_192 (Nat.le_of_ble_eq_true rfl) (by decide : 11 < 13) kd0 rfl (Nat.le_of_ble_eq_true rfl) (kX11_passNow   eq66) ?_
          refine sz_pop dX11_perform_69 rfl ?_
          refine sz_goto 82 dX11_perform_70 (by decide) ?_
          exact tX11_perform_82  he2 ih _ _ _ hf
      · have hf := gz_ip c41 hf
        refine sz_iload_n dX11_perform_44 rfl ?_
        cases hf
        exact sz_iret dX11_perform_45 rfl rfl ⟨rfl, rfl⟩
def fX11_perform (La : gz_L)  (x1 : Int32) (g : gz_S) : Option (Int32 × gz_S) :=
  (fX11_eveningOf La  x1 g).bind (fun q2 => gz_on q2.1 (some ((-1), q2.2)) (fun e2 => if gz_ev La e2 then (fX6_hasShore La  6 q2.2).bind (fun q14 => if q14.1 = 0 then some ((-1), q14.2) else fX11_perform_24 La  e2  gz_FU 0 q14.2) else none))
set_option maxRecDepth 100000 in
set_option maxHeartbeats 4000000 in
theorem kX11_perform {La : gz_L}  {x1 : Int32} {g : gz_S} {r : Int32 × gz_S}  (hf : fX11_perform La  x1 g = some r) : gz_K La 7 mX11_perform [.ref 0, .int x1] g (gz_Fi r) := by
  unfold fX11_perform at hf
  refine gz_K.of 2 (by decide +kernel) rfl ?_
  show gz_J La 7 mX11_perform 0 [some (.ref 0), some (.int x1), none, none] [] g (gz_Fi r)
  refine sz_aload_n dX11_perform_0 rfl ?_
  refine sz_iload_n dX11_perform_1 rfl ?_
  obtain ⟨q2, eq2, hf⟩ := gz_bd hf
  refine sz_callVr [.int x1] [] dX11_perform_2 mvX11_263 (Nat.le_of_ble_eq_true rfl) (by decide : 11 < 13) kd0 rfl (Nat.le_of_ble_eq_true rfl) (kX11_eveningOf   eq2) ?_
  rcases ho2 : q2.1 with _ | e2
  · have hf := gz_on0 ho2 hf
    refine sz_rfN rfl ?_
    refine sz_astore_nN dX11_perform_5 rfl (Nat.le_of_ble_eq_true rfl) rfl ?_
    refine sz_ls (l2 := [some (.ref 0), some (.int x1), some (.null), none]) rfl ?_
    refine sz_aload_nN dX11_perform_6 rfl ?_
    refine sz_ifnullN 20 dX11_perform_7 (by decide) ?_
    refine sz_iconst dX11_perform_20 (cIm1) ?_
    cases hf
    exact sz_iret dX11_perform_21 rfl rfl ⟨rfl, rfl⟩
  · have hf := gz_on1 ho2 hf
    obtain ⟨he2, hf⟩ := gz_gd hf
    refine sz_rfS rfl ?_
    refine sz_astore_n dX11_perform_5 rfl (Nat.le_of_ble_eq_true rfl) rfl ?_
    refine sz_ls (l2 := [some (.ref 0), some (.int x1), some (.ref e2), none]) rfl ?_
    refine sz_aload_n dX11_perform_6 rfl ?_
    refine sz_ifnull dX11_perform_7 ?_
    refine sz_aload_n dX11_perform_10 rfl ?_
    refine sz_getR dX11_perform_11 flX11_58 kd0 rfl rf0_7 ?_
    obtain ⟨q14, eq14, hf⟩ := gz_bd hf
    refine sz_callVi [] [] dX11_perform_14 mvX11_232 (Nat.le_of_ble_eq_true rfl) (by decide : 6 < 13) kd6 rfl (Nat.le_of_ble_eq_true rfl) (kX6_hasShore  (Or.inr (Or.inl rfl)) eq14) ?_
    refine sz_if_ne 22 dX11_perform_17 (by decide) (fun c17 => ?_) (fun c17 => ?_)
    · have hf := gz_in1 c17 hf
      refine sz_iconst dX11_perform_22 (cI0) ?_
      refine sz_istore_n dX11_perform_23 rfl (Nat.le_of_ble_eq_true rfl) rfl ?_
      refine sz_ls (l2 := [some (.ref 0), some (.int x1), some (.ref e2), some (.int 0)]) rfl ?_
      refine sz_weak (l2 := [some (.ref 0), none, some (.ref e2), some (.int 0)]) (gz_subk (gz_subn (gz_subk (gz_subk gz_sub0)))) ?_
      exact tX11_perform_24  he2  _ _ _ _ hf
    · have hf := gz_ip c17 hf
      refine sz_iconst dX11_perform_20 (cIm1) ?_
      cases hf
      exact sz_iret dX11_perform_21 rfl rfl ⟨rfl, rfl⟩
def fX11_where (La : gz_L)  (x1 : Int32) (x2 : Int32) (g : gz_S) : Option (Int32 × gz_S) :=
  (fX6_hasGoer La  6 x1 g).bind (fun q5 => if q5.1 = 0 then some ((-1), q5.2) else if x2 < 0 then some ((-1), q5.2) else if x2 ≤ 99 then (fX2_cellBehind La  x1 x2 q5.2).bind (fun q29 => some (q29.1, q29.2)) else some ((-1), q5.2))
set_option maxRecDepth 100000 in
set_option maxHeartbeats 4000000 in
theorem kX11_where {La : gz_L}  {x1 : Int32} {x2 : Int32} {g : gz_S} {r : Int32 × gz_S}  (hf : fX11_where La  x1 x2 g = some r) : gz_K La 7 mX11_where [.ref 0, .int x1, .int x2] g (gz_Fi r) := by
  unfold fX11_where at hf
  refine gz_K.of 0 (by decide +kernel) rfl ?_
  show gz_J La 7 mX11_where 0 [some (.ref 0), some (.int x1), some (.int x2)] [] g (gz_Fi r)
  refine sz_aload_n dX11_where_0 rfl ?_
  refine sz_getR dX11_where_1 flX11_58 kd0 rfl rf0_7 ?_
  refine sz_iload_n dX11_where_4 rfl ?_
  obtain ⟨q5, eq5, hf⟩ := gz_bd hf
  refine sz_callVi [.int x1] [] dX11_where_5 mvX11_166 (Nat.le_of_ble_eq_true rfl) (by decide : 6 < 13) kd6 rfl (Nat.le_of_ble_eq_true rfl) (kX6_hasGoer  (Or.inr (Or.inl rfl)) eq5) ?_
  refine sz_if_eq 21 dX11_where_8 (by decide) (fun c8 => ?_) (fun c8 => ?_)
  · have hf := gz_ip c8 hf
    refine sz_iconst dX11_where_21 (cIm1) ?_
    cases hf
    exact sz_iret dX11_where_22 rfl rfl ⟨rfl, rfl⟩
  · have hf := gz_in1 c8 hf
    refine sz_iload_n dX11_where_11 rfl ?_
    refine sz_if_lt 21 dX11_where_12 (by decide) (fun c12 => ?_) (fun c12 => ?_)
    · have hf := gz_ip c12 hf
      refine sz_iconst dX11_where_21 (cIm1) ?_
      cases hf
      exact sz_iret dX11_where_22 rfl rfl ⟨rfl, rfl⟩
    · have hf := gz_in1 c12 hf
      refine sz_iload_n dX11_where_15 rfl ?_
      refine sz_bipush dX11_where_16 (cB99) ?_
      refine sz_icmp_le 23 dX11_where_18 (by decide) (fun c18 => ?_) (fun c18 => ?_)
      · have hf := gz_ip c18 hf
        refine sz_aload_n dX11_where_23 rfl ?_
        refine sz_getR dX11_where_24 flX11_83 kd0 rfl rf0_11 ?_
        refine sz_iload_n dX11_where_27 rfl ?_
        refine sz_iload_n dX11_where_28 rfl ?_
        obtain ⟨q29, eq29, hf⟩ := gz_bd hf
        refine sz_callVi [.int x1, .int x2] [] dX11_where_29 mvX11_285 (Nat.le_of_ble_eq_true rfl) (by decide : 2 < 13) kd10 rfl (Nat.le_of_ble_eq_true rfl) (kX2_cellBehind   eq29) ?_
        cases hf
        exact sz_iret dX11_where_32 rfl rfl ⟨rfl, rfl⟩
      · have hf := gz_in1 c18 hf
        refine sz_iconst dX11_where_21 (cIm1) ?_
        cases hf
        exact sz_iret dX11_where_22 rfl rfl ⟨rfl, rfl⟩
def fX11_meet (La : gz_L)  (x1 : Int32) (x2 : Int32) (g : gz_S) : Option (Int32 × gz_S) :=
  (fX6_hasPair La  6 x1 x2 g).bind (fun q6 => if q6.1 = 0 then some ((-1), q6.2) else (fX2_firstMeeting La  x1 x2 q6.2).bind (fun q18 => some (q18.1, q18.2)))
set_option maxRecDepth 100000 in
set_option maxHeartbeats 4000000 in
theorem kX11_meet {La : gz_L}  {x1 : Int32} {x2 : Int32} {g : gz_S} {r : Int32 × gz_S}  (hf : fX11_meet La  x1 x2 g = some r) : gz_K La 7 mX11_meet [.ref 0, .int x1, .int x2] g (gz_Fi r) := by
  unfold fX11_meet at hf
  refine gz_K.of 0 (by decide +kernel) rfl ?_
  show gz_J La 7 mX11_meet 0 [some (.ref 0), some (.int x1), some (.int x2)] [] g (gz_Fi r)
  refine sz_aload_n dX11_meet_0 rfl ?_
  refine sz_getR dX11_meet_1 flX11_58 kd0 rfl rf0_7 ?_
  refine sz_iload_n dX11_meet_4 rfl ?_
  refine sz_iload_n dX11_meet_5 rfl ?_
  obtain ⟨q6, eq6, hf⟩ := gz_bd hf
  refine sz_callVi [.int x1, .int x2] [] dX11_meet_6 mvX11_288 (Nat.le_of_ble_eq_true rfl) (by decide : 6 < 13) kd6 rfl (Nat.le_of_ble_eq_true rfl) (kX6_hasPair  (Or.inr (Or.inl rfl)) eq6) ?_
  refine sz_if_eq 24 dX11_meet_9 (by decide) (fun c9 => ?_) (fun c9 => ?_)
  · have hf := gz_ip c9 hf
    refine sz_iconst dX11_meet_24 (cIm1) ?_
    cases hf
    exact sz_iret dX11_meet_25 rfl rfl ⟨rfl, rfl⟩
  · have hf := gz_in1 c9 hf
    refine sz_aload_n dX11_meet_12 rfl ?_
    refine sz_getR dX11_meet_13 flX11_83 kd0 rfl rf0_11 ?_
    refine sz_iload_n dX11_meet_16 rfl ?_
    refine sz_iload_n dX11_meet_17 rfl ?_
    obtain ⟨q18, eq18, hf⟩ := gz_bd hf
    refine sz_callVi [.int x1, .int x2] [] dX11_meet_18 mvX11_291 (Nat.le_of_ble_eq_true rfl) (by decide : 2 < 13) kd10 rfl (Nat.le_of_ble_eq_true rfl) (kX2_firstMeeting   eq18) ?_
    refine sz_goto 25 dX11_meet_21 (by decide) ?_
    cases hf
    exact sz_iret dX11_meet_25 rfl rfl ⟨rfl, rfl⟩
def fX11_ends (La : gz_L)  (x1 : Int32) (x2 : Int32) (g : gz_S) : Option (Int32 × gz_S) :=
  (fX6_hasGoer La  6 x1 g).bind (fun q5 => if q5.1 = 0 then some ((-1), q5.2) else if x2 < 0 then some ((-1), q5.2) else if x2 ≤ 1 then (fX2_endOf La  x1 x2 q5.2).bind (fun q28 => some (q28.1, q28.2)) else some ((-1), q5.2))
set_option maxRecDepth 100000 in
set_option maxHeartbeats 4000000 in
theorem kX11_ends {La : gz_L}  {x1 : Int32} {x2 : Int32} {g : gz_S} {r : Int32 × gz_S}  (hf : fX11_ends La  x1 x2 g = some r) : gz_K La 7 mX11_ends [.ref 0, .int x1, .int x2] g (gz_Fi r) := by
  unfold fX11_ends at hf
  refine gz_K.of 0 (by decide +kernel) rfl ?_
  show gz_J La 7 mX11_ends 0 [some (.ref 0), some (.int x1), some (.int x2)] [] g (gz_Fi r)
  refine sz_aload_n dX11_ends_0 rfl ?_
  refine sz_getR dX11_ends_1 flX11_58 kd0 rfl rf0_7 ?_
  refine sz_iload_n dX11_ends_4 rfl ?_
  obtain ⟨q5, eq5, hf⟩ := gz_bd hf
  refine sz_callVi [.int x1] [] dX11_ends_5 mvX11_166 (Nat.le_of_ble_eq_true rfl) (by decide : 6 < 13) kd6 rfl (Nat.le_of_ble_eq_true rfl) (kX6_hasGoer  (Or.inr (Or.inl rfl)) eq5) ?_
  refine sz_if_eq 20 dX11_ends_8 (by decide) (fun c8 => ?_) (fun c8 => ?_)
  · have hf := gz_ip c8 hf
    refine sz_iconst dX11_ends_20 (cIm1) ?_
    cases hf
    exact sz_iret dX11_ends_21 rfl rfl ⟨rfl, rfl⟩
  · have hf := gz_in1 c8 hf
    refine sz_iload_n dX11_ends_11 rfl ?_
    refine sz_if_lt 20 dX11_ends_12 (by decide) (fun c12 => ?_) (fun c12 => ?_)
    · have hf := gz_ip c12 hf
      refine sz_iconst dX11_ends_20 (cIm1) ?_
      cases hf
      exact sz_iret dX11_ends_21 rfl rfl ⟨rfl, rfl⟩
    · have hf := gz_in1 c12 hf
      refine sz_iload_n dX11_ends_15 rfl ?_
      refine sz_iconst dX11_ends_16 (cI1) ?_
      refine sz_icmp_le 22 dX11_ends_17 (by decide) (fun c17 => ?_) (fun c17 => ?_)
      · have hf := gz_ip c17 hf
        refine sz_aload_n dX11_ends_22 rfl ?_
        refine sz_getR dX11_ends_23 flX11_83 kd0 rfl rf0_11 ?_
        refine sz_iload_n dX11_ends_26 rfl ?_
        refine sz_iload_n dX11_ends_27 rfl ?_
        obtain ⟨q28, eq28, hf⟩ := gz_bd hf
        refine sz_callVi [.int x1, .int x2] [] dX11_ends_28 mvX11_294 (Nat.le_of_ble_eq_true rfl) (by decide : 2 < 13) kd10 rfl (Nat.le_of_ble_eq_true rfl) (kX2_endOf   eq28) ?_
        cases hf
        exact sz_iret dX11_ends_31 rfl rfl ⟨rfl, rfl⟩
      · have hf := gz_in1 c17 hf
        refine sz_iconst dX11_ends_20 (cIm1) ?_
        cases hf
        exact sz_iret dX11_ends_21 rfl rfl ⟨rfl, rfl⟩
def fX11_again (La : gz_L)  (x1 : Int32) (g : gz_S) : Option (Int32 × gz_S) :=
  (fX6_hasGoer La  6 x1 g).bind (fun q5 => if q5.1 = 0 then some ((-1), q5.2) else (fX6_goes La  6 x1 q5.2).bind (fun q16 => if q16.1 = 0 then some ((-1), q16.2) else (fX2_sameAgain La  x1 q16.2).bind (fun q29 => some (q29.1, q29.2))))
set_option maxRecDepth 100000 in
set_option maxHeartbeats 4000000 in
theorem kX11_again {La : gz_L}  {x1 : Int32} {g : gz_S} {r : Int32 × gz_S}  (hf : fX11_again La  x1 g = some r) : gz_K La 7 mX11_again [.ref 0, .int x1] g (gz_Fi r) := by
  unfold fX11_again at hf
  refine gz_K.of 0 (by decide +kernel) rfl ?_
  show gz_J La 7 mX11_again 0 [some (.ref 0), some (.int x1)] [] g (gz_Fi r)
  refine sz_aload_n dX11_again_0 rfl ?_
  refine sz_getR dX11_again_1 flX11_58 kd0 rfl rf0_7 ?_
  refine sz_iload_n dX11_again_4 rfl ?_
  obtain ⟨q5, eq5, hf⟩ := gz_bd hf
  refine sz_callVi [.int x1] [] dX11_again_5 mvX11_166 (Nat.le_of_ble_eq_true rfl) (by decide : 6 < 13) kd6 rfl (Nat.le_of_ble_eq_true rfl) (kX6_hasGoer  (Or.inr (Or.inl rfl)) eq5) ?_
  refine sz_if_eq 22 dX11_again_8 (by decide) (fun c8 => ?_) (fun c8 => ?_)
  · have hf := gz_ip c8 hf
    refine sz_iconst dX11_again_22 (cIm1) ?_
    cases hf
    exact sz_iret dX11_again_23 rfl rfl ⟨rfl, rfl⟩
  · have hf := gz_in1 c8 hf
    refine sz_aload_n dX11_again_11 rfl ?_
    refine sz_getR dX11_again_12 flX11_58 kd0 rfl rf0_7 ?_
    refine sz_iload_n dX11_again_15 rfl ?_
    obtain ⟨q16, eq16, hf⟩ := gz_bd hf
    refine sz_callVi [.int x1] [] dX11_again_16 mvX11_297 (Nat.le_of_ble_eq_true rfl) (by decide : 6 < 13) kd6 rfl (Nat.le_of_ble_eq_true rfl) (kX6_goes  (Or.inr (Or.inl rfl)) eq16) ?_
    refine sz_if_ne 24 dX11_again_19 (by decide) (fun c19 => ?_) (fun c19 => ?_)
    · have hf := gz_in1 c19 hf
      refine sz_aload_n dX11_again_24 rfl ?_
      refine sz_getR dX11_again_25 flX11_83 kd0 rfl rf0_11 ?_
      refine sz_iload_n dX11_again_28 rfl ?_
      obtain ⟨q29, eq29, hf⟩ := gz_bd hf
      refine sz_callVi [.int x1] [] dX11_again_29 mvX11_300 (Nat.le_of_ble_eq_true rfl) (by decide : 2 < 13) kd10 rfl (Nat.le_of_ble_eq_true rfl) (kX2_sameAgain   eq29) ?_
      cases hf
      exact sz_iret dX11_again_32 rfl rfl ⟨rfl, rfl⟩
    · have hf := gz_ip c19 hf
      refine sz_iconst dX11_again_22 (cIm1) ?_
      cases hf
      exact sz_iret dX11_again_23 rfl rfl ⟨rfl, rfl⟩
def fX11_way (La : gz_L)  (x1 : Int32) (x2 : Int32) (g : gz_S) : Option (Int32 × gz_S) :=
  (fX6_hasCell La  6 x1 g).bind (fun q5 => if q5.1 = 0 then some ((-1), q5.2) else (fX6_hasCell La  6 x2 q5.2).bind (fun q16 => if q16.1 = 0 then some ((-1), q16.2) else (fX6_fewestSteps La  6 x1 x2 q16.2).bind (fun q28 => some (q28.1, q28.2))))
set_option maxRecDepth 100000 in
set_option maxHeartbeats 4000000 in
theorem kX11_way {La : gz_L}  {x1 : Int32} {x2 : Int32} {g : gz_S} {r : Int32 × gz_S}  (hf : fX11_way La  x1 x2 g = some r) : gz_K La 4 mX11_way [.ref 0, .int x1, .int x2] g (gz_Fi r) := by
  unfold fX11_way at hf
  refine gz_K.of 0 (by decide +kernel) rfl ?_
  show gz_J La 4 mX11_way 0 [some (.ref 0), some (.int x1), some (.int x2)] [] g (gz_Fi r)
  refine sz_aload_n dX11_way_0 rfl ?_
  refine sz_getR dX11_way_1 flX11_58 kd0 rfl rf0_7 ?_
  refine sz_iload_n dX11_way_4 rfl ?_
  obtain ⟨q5, eq5, hf⟩ := gz_bd hf
  refine sz_callVi [.int x1] [] dX11_way_5 mvX11_156 (Nat.le_of_ble_eq_true rfl) (by decide : 6 < 13) kd6 rfl (Nat.le_of_ble_eq_true rfl) (kX6_hasCell  (Or.inr (Or.inl rfl)) eq5) ?_
  refine sz_if_eq 34 dX11_way_8 (by decide) (fun c8 => ?_) (fun c8 => ?_)
  · have hf := gz_ip c8 hf
    refine sz_iconst dX11_way_34 (cIm1) ?_
    cases hf
    exact sz_iret dX11_way_35 rfl rfl ⟨rfl, rfl⟩
  · have hf := gz_in1 c8 hf
    refine sz_aload_n dX11_way_11 rfl ?_
    refine sz_getR dX11_way_12 flX11_58 kd0 rfl rf0_7 ?_
    refine sz_iload_n dX11_way_15 rfl ?_
    obtain ⟨q16, eq16, hf⟩ := gz_bd hf
    refine sz_callVi [.int x2] [] dX11_way_16 mvX11_156 (Nat.le_of_ble_eq_true rfl) (by decide : 6 < 13) kd6 rfl (Nat.le_of_ble_eq_true rfl) (kX6_hasCell  (Or.inr (Or.inl rfl)) eq16) ?_
    refine sz_if_eq 34 dX11_way_19 (by decide) (fun c19 => ?_) (fun c19 => ?_)
    · have hf := gz_ip c19 hf
      refine sz_iconst dX11_way_34 (cIm1) ?_
      cases hf
      exact sz_iret dX11_way_35 rfl rfl ⟨rfl, rfl⟩
    · have hf := gz_in1 c19 hf
      refine sz_aload_n dX11_way_22 rfl ?_
      refine sz_getR dX11_way_23 flX11_58 kd0 rfl rf0_7 ?_
      refine sz_iload_n dX11_way_26 rfl ?_
      refine sz_iload_n dX11_way_27 rfl ?_
      obtain ⟨q28, eq28, hf⟩ := gz_bd hf
      refine sz_callVi [.int x1, .int x2] [] dX11_way_28 mvX11_303 (Nat.le_of_ble_eq_true rfl) (by decide : 6 < 13) kd6 rfl (Nat.le_of_ble_eq_true rfl) (kX6_fewestSteps  (Or.inr (Or.inl rfl)) eq28) ?_
      refine sz_goto 35 dX11_way_31 (by decide) ?_
      cases hf
      exact sz_iret dX11_way_35 rfl rfl ⟨rfl, rfl⟩
def fX11_stones_96 (La : gz_L)    (x4 : Int32) (x5 : Int32) (x6 : Int32) (g : gz_S) : Option (Int32 × gz_S) := if x4 = 1 then some (x5, g) else if x5 = (-1) then some (x5, g) else some (x6, g)
set_option maxRecDepth 100000 in
set_option maxHeartbeats 4000000 in
theorem tX11_stones_96 {La : gz_L}      : ∀ (x4 : Int32) (x5 : Int32) (x6 : Int32) (g : gz_S) (r : Int32 × gz_S), fX11_stones_96 La    x4 x5 x6 g = some r → gz_J La 8 mX11_stones 96 [none, none, none, none, some (.int x4), some (.int x5), some (.int x6)] [] g (gz_Fi r) := by
  intro x4 x5 x6 g r hf
  unfold fX11_stones_96 at hf
  refine sz_iload dX11_stones_96 rfl ?_
  refine sz_iconst dX11_stones_98 (cI1) ?_
  refine sz_icmp_eq 108 dX11_stones_99 (by decide) (fun c99 => ?_) (fun c99 => ?_)
  · have hf := gz_ip c99 hf
    refine sz_iload dX11_stones_108 rfl ?_
    refine sz_goto 115 dX11_stones_110 (by decide) ?_
    cases hf
    exact sz_iret dX11_stones_115 rfl rfl ⟨rfl, rfl⟩
  · have hf := gz_in1 c99 hf
    refine sz_iload dX11_stones_102 rfl ?_
    refine sz_iconst dX11_stones_104 (cIm1) ?_
    refine sz_icmp_ne 113 dX11_stones_105 (by decide) (fun c105 => ?_) (fun c105 => ?_)
    · have hf := gz_in1 c105 hf
      refine sz_iload dX11_stones_113 rfl ?_
      cases hf
      exact sz_iret dX11_stones_115 rfl rfl ⟨rfl, rfl⟩
    · have hf := gz_ip c105 hf
      refine sz_iload dX11_stones_108 rfl ?_
      refine sz_goto 115 dX11_stones_110 (by decide) ?_
      cases hf
      exact sz_iret dX11_stones_115 rfl rfl ⟨rfl, rfl⟩
def fX11_stones (La : gz_L)  (x1 : Int32) (x2 : Int32) (x3 : Int32) (x4 : Int32) (g : gz_S) : Option (Int32 × gz_S) :=
  (fX6_hasPair La  6 x1 x2 g).bind (fun q6 => if q6.1 = 0 then some ((-1), q6.2) else if x3 < 1 then some ((-1), q6.2) else if 20 < x3 then some ((-1), q6.2) else if x4 < 0 then some ((-1), q6.2) else if x4 ≤ 1 then (fX2_apartAnyway La  x1 x2 x3 q6.2).bind (fun q43 => if q43.1 = 0 then (fX2_oneStone La  x1 x2 x3 q43.2).bind (fun q67 => if q67.1 = (-1) then (fX2_twoStones La  x1 x2 x3 q67.2).bind (fun q88 => fX11_stones_96 La     x4 q88.1 2 q88.2) else fX11_stones_96 La     x4 q67.1 1 q67.2) else if x4 = 0 then some (0, q43.2) else some ((-1), q43.2)) else some ((-1), q6.2))
set_option maxRecDepth 100000 in
set_option maxHeartbeats 4000000 in
theorem kX11_stones {La : gz_L}  {x1 : Int32} {x2 : Int32} {x3 : Int32} {x4 : Int32} {g : gz_S} {r : Int32 × gz_S}  (hf : fX11_stones La  x1 x2 x3 x4 g = some r) : gz_K La 8 mX11_stones [.ref 0, .int x1, .int x2, .int x3, .int x4] g (gz_Fi r) := by
  unfold fX11_stones at hf
  refine gz_K.of 2 (by decide +kernel) rfl ?_
  show gz_J La 8 mX11_stones 0 [some (.ref 0), some (.int x1), some (.int x2), some (.int x3), some (.int x4), none, none] [] g (gz_Fi r)
  refine sz_aload_n dX11_stones_0 rfl ?_
  refine sz_getR dX11_stones_1 flX11_58 kd0 rfl rf0_7 ?_
  refine sz_iload_n dX11_stones_4 rfl ?_
  refine sz_iload_n dX11_stones_5 rfl ?_
  obtain ⟨q6, eq6, hf⟩ := gz_bd hf
  refine sz_callVi [.int x1, .int x2] [] dX11_stones_6 mvX11_288 (Nat.le_of_ble_eq_true rfl) (by decide : 6 < 13) kd6 rfl (Nat.le_of_ble_eq_true rfl) (kX6_hasPair  (Or.inr (Or.inl rfl)) eq6) ?_
  refine sz_if_eq 34 dX11_stones_9 (by decide) (fun c9 => ?_) (fun c9 => ?_)
  · have hf := gz_ip c9 hf
    refine sz_iconst dX11_stones_34 (cIm1) ?_
    cases hf
    exact sz_iret dX11_stones_35 rfl rfl ⟨rfl, rfl⟩
  · have hf := gz_in1 c9 hf
    refine sz_iload_n dX11_stones_12 rfl ?_
    refine sz_iconst dX11_stones_13 (cI1) ?_
    refine sz_icmp_lt 34 dX11_stones_14 (by decide) (fun c14 => ?_) (fun c14 => ?_)
    · have hf := gz_ip c14 hf
      refine sz_iconst dX11_stones_34 (cIm1) ?_
      cases hf
      exact sz_iret dX11_stones_35 rfl rfl ⟨rfl, rfl⟩
    · have hf := gz_in1 c14 hf
      refine sz_iload_n dX11_stones_17 rfl ?_
      refine sz_bipush dX11_stones_18 (cB20) ?_
      refine sz_icmp_gt 34 dX11_stones_20 (by decide) (fun c20 => ?_) (fun c20 => ?_)
      · have hf := gz_ip c20 hf
        refine sz_iconst dX11_stones_34 (cIm1) ?_
        cases hf
        exact sz_iret dX11_stones_35 rfl rfl ⟨rfl, rfl⟩
      · have hf := gz_in1 c20 hf
        refine sz_iload dX11_stones_23 rfl ?_
        refine sz_if_lt 34 dX11_stones_25 (by decide) (fun c25 => ?_) (fun c25 => ?_)
        · have hf := gz_ip c25 hf
          refine sz_iconst dX11_stones_34 (cIm1) ?_
          cases hf
          exact sz_iret dX11_stones_35 rfl rfl ⟨rfl, rfl⟩
        · have hf := gz_in1 c25 hf
          refine sz_iload dX11_stones_28 rfl ?_
          refine sz_iconst dX11_stones_30 (cI1) ?_
          refine sz_icmp_le 36 dX11_stones_31 (by decide) (fun c31 => ?_) (fun c31 => ?_)
          · have hf := gz_ip c31 hf
            refine sz_aload_n dX11_stones_36 rfl ?_
            refine sz_getR dX11_stones_37 flX11_83 kd0 rfl rf0_11 ?_
            refine sz_iload_n dX11_stones_40 rfl ?_
            refine sz_iload_n dX11_stones_41 rfl ?_
            refine sz_iload_n dX11_stones_42 rfl ?_
            obtain ⟨q43, eq43, hf⟩ := gz_bd hf
            refine sz_callVi [.int x1, .int x2, .int x3] [] dX11_stones_43 mvX11_306 (Nat.le_of_ble_eq_true rfl) (by decide : 2 < 13) kd10 rfl (Nat.le_of_ble_eq_true rfl) (kX2_apartAnyway   eq43) ?_
            refine sz_if_eq 60 dX11_stones_46 (by decide) (fun c46 => ?_) (fun c46 => ?_)
            · have hf := gz_ip c46 hf
              refine sz_aload_n dX11_stones_60 rfl ?_
              refine sz_getR dX11_stones_61 flX11_83 kd0 rfl rf0_11 ?_
              refine sz_iload_n dX11_stones_64 rfl ?_
              refine sz_iload_n dX11_stones_65 rfl ?_
              refine sz_iload_n dX11_stones_66 rfl ?_
              obtain ⟨q67, eq67, hf⟩ := gz_bd hf
              refine sz_callVi [.int x1, .int x2, .int x3] [] dX11_stones_67 mvX11_310 (Nat.le_of_ble_eq_true rfl) (by decide : 2 < 13) kd10 rfl (Nat.le_of_ble_eq_true rfl) (kX2_oneStone   eq67) ?_
              refine sz_istore dX11_stones_70 (Nat.le_of_ble_eq_true rfl) rfl ?_
              refine sz_ls (l2 := [some (.ref 0), some (.int x1), some (.int x2), some (.int x3), some (.int x4), some (.int q67.1), none]) rfl ?_
              refine sz_iconst dX11_stones_72 (cI1) ?_
              refine sz_istore dX11_stones_73 (Nat.le_of_ble_eq_true rfl) rfl ?_
              refine sz_ls (l2 := [some (.ref 0), some (.int x1), some (.int x2), some (.int x3), some (.int x4), some (.int q67.1), some (.int 1)]) rfl ?_
              refine sz_iload dX11_stones_75 rfl ?_
              refine sz_iconst dX11_stones_77 (cIm1) ?_
              refine sz_icmp_ne 96 dX11_stones_78 (by decide) (fun c78 => ?_) (fun c78 => ?_)
              · have hf := gz_in1 c78 hf
                refine sz_weak (l2 := [none, none, none, none, some (.int x4), some (.int q67.1), some (.int 1)]) (gz_subn (gz_subn (gz_subn (gz_subn (gz_subk (gz_subk (gz_subk gz_sub0))))))) ?_
                exact tX11_stones_96    _ _ _ _ _ hf
              · have hf := gz_ip c78 hf
                refine sz_aload_n dX11_stones_81 rfl ?_
                refine sz_getR dX11_stones_82 flX11_83 kd0 rfl rf0_11 ?_
                refine sz_iload_n dX11_stones_85 rfl ?_
                refine sz_iload_n dX11_stones_86 rfl ?_
                refine sz_iload_n dX11_stones_87 rfl ?_
                obtain ⟨q88, eq88, hf⟩ := gz_bd hf
                refine sz_callVi [.int x1, .int x2, .int x3] [] dX11_stones_88 mvX11_314 (Nat.le_of_ble_eq_true rfl) (by decide : 2 < 13) kd10 rfl (Nat.le_of_ble_eq_true rfl) (kX2_twoStones   eq88) ?_
                refine sz_istore dX11_stones_91 (Nat.le_of_ble_eq_true rfl) rfl ?_
                refine sz_ls (l2 := [some (.ref 0), some (.int x1), some (.int x2), some (.int x3), some (.int x4), some (.int q88.1), some (.int 1)]) rfl ?_
                refine sz_iconst dX11_stones_93 (cI2) ?_
                refine sz_istore dX11_stones_94 (Nat.le_of_ble_eq_true rfl) rfl ?_
                refine sz_ls (l2 := [some (.ref 0), some (.int x1), some (.int x2), some (.int x3), some (.int x4), some (.int q88.1), some (.int 2)]) rfl ?_
                refine sz_weak (l2 := [none, none, none, none, some (.int x4), some (.int q88.1), some (.int 2)]) (gz_subn (gz_subn (gz_subn (gz_subn (gz_subk (gz_subk (gz_subk gz_sub0))))))) ?_
                exact tX11_stones_96    _ _ _ _ _ hf
            · have hf := gz_in1 c46 hf
              refine sz_iload dX11_stones_49 rfl ?_
              refine sz_if_ne 58 dX11_stones_51 (by decide) (fun c51 => ?_) (fun c51 => ?_)
              · have hf := gz_in1 c51 hf
                refine sz_iconst dX11_stones_58 (cIm1) ?_
                cases hf
                exact sz_iret dX11_stones_59 rfl rfl ⟨rfl, rfl⟩
              · have hf := gz_ip c51 hf
                refine sz_iconst dX11_stones_54 (cI0) ?_
                refine sz_goto 59 dX11_stones_55 (by decide) ?_
                cases hf
                exact sz_iret dX11_stones_59 rfl rfl ⟨rfl, rfl⟩
          · have hf := gz_in1 c31 hf
            refine sz_iconst dX11_stones_34 (cIm1) ?_
            cases hf
            exact sz_iret dX11_stones_35 rfl rfl ⟨rfl, rfl⟩
def fX11_seen (La : gz_L)  (x1 : Int32) (x2 : Int32) (x3 : Int32) (g : gz_S) : Option (Int32 × gz_S) :=
  (fX6_hasGoer La  6 x1 g).bind (fun q5 => if q5.1 = 0 then some ((-1), q5.2) else (fX6_hasCell La  6 x3 q5.2).bind (fun q16 => if q16.1 = 0 then some ((-1), q16.2) else if x2 < 0 then some ((-1), q16.2) else if x2 ≤ 30 then (fX8_add La  x1 x2 x3 q16.2).bind (fun q41 => if q41.1 = 0 then some ((-1), q41.2) else some (q41.2.1 11 0, q41.2)) else some ((-1), q16.2)))
set_option maxRecDepth 100000 in
set_option maxHeartbeats 4000000 in
theorem kX11_seen {La : gz_L}  {x1 : Int32} {x2 : Int32} {x3 : Int32} {g : gz_S} {r : Int32 × gz_S}  (hf : fX11_seen La  x1 x2 x3 g = some r) : gz_K La 3 mX11_seen [.ref 0, .int x1, .int x2, .int x3] g (gz_Fi r) := by
  unfold fX11_seen at hf
  refine gz_K.of 0 (by decide +kernel) rfl ?_
  show gz_J La 3 mX11_seen 0 [some (.ref 0), some (.int x1), some (.int x2), some (.int x3)] [] g (gz_Fi r)
  refine sz_aload_n dX11_seen_0 rfl ?_
  refine sz_getR dX11_seen_1 flX11_58 kd0 rfl rf0_7 ?_
  refine sz_iload_n dX11_seen_4 rfl ?_
  obtain ⟨q5, eq5, hf⟩ := gz_bd hf
  refine sz_callVi [.int x1] [] dX11_seen_5 mvX11_166 (Nat.le_of_ble_eq_true rfl) (by decide : 6 < 13) kd6 rfl (Nat.le_of_ble_eq_true rfl) (kX6_hasGoer  (Or.inr (Or.inl rfl)) eq5) ?_
  refine sz_if_eq 32 dX11_seen_8 (by decide) (fun c8 => ?_) (fun c8 => ?_)
  · have hf := gz_ip c8 hf
    refine sz_iconst dX11_seen_32 (cIm1) ?_
    cases hf
    exact sz_iret dX11_seen_33 rfl rfl ⟨rfl, rfl⟩
  · have hf := gz_in1 c8 hf
    refine sz_aload_n dX11_seen_11 rfl ?_
    refine sz_getR dX11_seen_12 flX11_58 kd0 rfl rf0_7 ?_
    refine sz_iload_n dX11_seen_15 rfl ?_
    obtain ⟨q16, eq16, hf⟩ := gz_bd hf
    refine sz_callVi [.int x3] [] dX11_seen_16 mvX11_156 (Nat.le_of_ble_eq_true rfl) (by decide : 6 < 13) kd6 rfl (Nat.le_of_ble_eq_true rfl) (kX6_hasCell  (Or.inr (Or.inl rfl)) eq16) ?_
    refine sz_if_eq 32 dX11_seen_19 (by decide) (fun c19 => ?_) (fun c19 => ?_)
    · have hf := gz_ip c19 hf
      refine sz_iconst dX11_seen_32 (cIm1) ?_
      cases hf
      exact sz_iret dX11_seen_33 rfl rfl ⟨rfl, rfl⟩
    · have hf := gz_in1 c19 hf
      refine sz_iload_n dX11_seen_22 rfl ?_
      refine sz_if_lt 32 dX11_seen_23 (by decide) (fun c23 => ?_) (fun c23 => ?_)
      · have hf := gz_ip c23 hf
        refine sz_iconst dX11_seen_32 (cIm1) ?_
        cases hf
        exact sz_iret dX11_seen_33 rfl rfl ⟨rfl, rfl⟩
      · have hf := gz_in1 c23 hf
        refine sz_iload_n dX11_seen_26 rfl ?_
        refine sz_bipush dX11_seen_27 (cB30) ?_
        refine sz_icmp_le 34 dX11_seen_29 (by decide) (fun c29 => ?_) (fun c29 => ?_)
        · have hf := gz_ip c29 hf
          refine sz_aload_n dX11_seen_34 rfl ?_
          refine sz_getR dX11_seen_35 flX11_90 kd0 rfl rf0_12 ?_
          refine sz_iload_n dX11_seen_38 rfl ?_
          refine sz_iload_n dX11_seen_39 rfl ?_
          refine sz_iload_n dX11_seen_40 rfl ?_
          obtain ⟨q41, eq41, hf⟩ := gz_bd hf
          refine sz_callVi [.int x1, .int x2, .int x3] [] dX11_seen_41 mvX11_317 (Nat.le_of_ble_eq_true rfl) (by decide : 8 < 13) kd11 rfl (Nat.le_of_ble_eq_true rfl) (kX8_add   eq41) ?_
          refine sz_if_eq 57 dX11_seen_44 (by decide) (fun c44 => ?_) (fun c44 => ?_)
          · have hf := gz_ip c44 hf
            refine sz_iconst dX11_seen_57 (cIm1) ?_
            cases hf
            exact sz_iret dX11_seen_58 rfl rfl ⟨rfl, rfl⟩
          · have hf := gz_in1 c44 hf
            refine sz_aload_n dX11_seen_47 rfl ?_
            refine sz_getR dX11_seen_48 flX11_90 kd0 rfl rf0_12 ?_
            refine sz_getI dX11_seen_51 flX11_319 kd11 rfl ?_
            refine sz_goto 58 dX11_seen_54 (by decide) ?_
            cases hf
            exact sz_iret dX11_seen_58 rfl rfl ⟨rfl, rfl⟩
        · have hf := gz_in1 c29 hf
          refine sz_iconst dX11_seen_32 (cIm1) ?_
          cases hf
          exact sz_iret dX11_seen_33 rfl rfl ⟨rfl, rfl⟩
def fX11_fits (La : gz_L)  (x1 : Int32) (x2 : Int32) (g : gz_S) : Option (Int32 × gz_S) :=
  (fX6_hasGoer La  6 x1 g).bind (fun q5 => if q5.1 = 0 then some ((-1), q5.2) else (fX8_fitting La  x1 q5.2).bind (fun q18 => if x2 = (-1) then (fJ6_bitCount_0f7a4 La  q18.1 q18.2).bind (fun q28 => some (q28.1, q28.2)) else (fX8_fit La  q18.1 x2 q18.2).bind (fun q40 => some (q40.1, q40.2))))
set_option maxRecDepth 100000 in
set_option maxHeartbeats 4000000 in
theorem kX11_fits {La : gz_L}  {x1 : Int32} {x2 : Int32} {g : gz_S} {r : Int32 × gz_S}  (hf : fX11_fits La  x1 x2 g = some r) : gz_K La 8 mX11_fits [.ref 0, .int x1, .int x2] g (gz_Fi r) := by
  unfold fX11_fits at hf
  refine gz_K.of 1 (by decide +kernel) rfl ?_
  show gz_J La 8 mX11_fits 0 [some (.ref 0), some (.int x1), some (.int x2), none] [] g (gz_Fi r)
  refine sz_aload_n dX11_fits_0 rfl ?_
  refine sz_getR dX11_fits_1 flX11_58 kd0 rfl rf0_7 ?_
  refine sz_iload_n dX11_fits_4 rfl ?_
  obtain ⟨q5, eq5, hf⟩ := gz_bd hf
  refine sz_callVi [.int x1] [] dX11_fits_5 mvX11_166 (Nat.le_of_ble_eq_true rfl) (by decide : 6 < 13) kd6 rfl (Nat.le_of_ble_eq_true rfl) (kX6_hasGoer  (Or.inr (Or.inl rfl)) eq5) ?_
  refine sz_if_ne 13 dX11_fits_8 (by decide) (fun c8 => ?_) (fun c8 => ?_)
  · have hf := gz_in1 c8 hf
    refine sz_aload_n dX11_fits_13 rfl ?_
    refine sz_getR dX11_fits_14 flX11_90 kd0 rfl rf0_12 ?_
    refine sz_iload_n dX11_fits_17 rfl ?_
    obtain ⟨q18, eq18, hf⟩ := gz_bd hf
    refine sz_callVi [.int x1] [] dX11_fits_18 mvX11_320 (Nat.le_of_ble_eq_true rfl) (by decide : 8 < 13) kd11 rfl (Nat.le_of_ble_eq_true rfl) (kX8_fitting   eq18) ?_
    refine sz_istore_n dX11_fits_21 rfl (Nat.le_of_ble_eq_true rfl) rfl ?_
    refine sz_ls (l2 := [some (.ref 0), some (.int x1), some (.int x2), some (.int q18.1)]) rfl ?_
    refine sz_iload_n dX11_fits_22 rfl ?_
    refine sz_iconst dX11_fits_23 (cIm1) ?_
    refine sz_icmp_ne 34 dX11_fits_24 (by decide) (fun c24 => ?_) (fun c24 => ?_)
    · have hf := gz_in1 c24 hf
      refine sz_aload_n dX11_fits_34 rfl ?_
      refine sz_getR dX11_fits_35 flX11_90 kd0 rfl rf0_12 ?_
      refine sz_iload_n dX11_fits_38 rfl ?_
      refine sz_iload_n dX11_fits_39 rfl ?_
      obtain ⟨q40, eq40, hf⟩ := gz_bd hf
      refine sz_callVi [.int q18.1, .int x2] [] dX11_fits_40 mvX11_328 (Nat.le_of_ble_eq_true rfl) (by decide : 8 < 13) kd11 rfl (Nat.le_of_ble_eq_true rfl) (kX8_fit   eq40) ?_
      cases hf
      exact sz_iret dX11_fits_43 rfl rfl ⟨rfl, rfl⟩
    · have hf := gz_ip c24 hf
      refine sz_iload_n dX11_fits_27 rfl ?_
      obtain ⟨q28, eq28, hf⟩ := gz_bd hf
      refine sz_callSi [.int q18.1] [] dX11_fits_28 msX11_323 (Nat.le_of_ble_eq_true rfl) (Nat.le_of_ble_eq_true rfl) (kJ6_bitCount_0f7a4   eq28) ?_
      refine sz_goto 43 dX11_fits_31 (by decide) ?_
      cases hf
      exact sz_iret dX11_fits_43 rfl rfl ⟨rfl, rfl⟩
  · have hf := gz_ip c8 hf
    refine sz_iconst dX11_fits_11 (cIm1) ?_
    cases hf
    exact sz_iret dX11_fits_12 rfl rfl ⟨rfl, rfl⟩
def fX11_ask (La : gz_L)  (x1 : Int32) (g : gz_S) : Option (Int32 × gz_S) :=
  (fX6_hasGoer La  6 x1 g).bind (fun q5 => if q5.1 = 0 then some ((-1), q5.2) else (fX8_fitting La  x1 q5.2).bind (fun q20 => (fX8_bestHour La  q20.1 q20.2).bind (fun q23 => some (q23.1, q23.2))))
set_option maxRecDepth 100000 in
set_option maxHeartbeats 4000000 in
theorem kX11_ask {La : gz_L}  {x1 : Int32} {g : gz_S} {r : Int32 × gz_S}  (hf : fX11_ask La  x1 g = some r) : gz_K La 8 mX11_ask [.ref 0, .int x1] g (gz_Fi r) := by
  unfold fX11_ask at hf
  refine gz_K.of 0 (by decide +kernel) rfl ?_
  show gz_J La 8 mX11_ask 0 [some (.ref 0), some (.int x1)] [] g (gz_Fi r)
  refine sz_aload_n dX11_ask_0 rfl ?_
  refine sz_getR dX11_ask_1 flX11_58 kd0 rfl rf0_7 ?_
  refine sz_iload_n dX11_ask_4 rfl ?_
  obtain ⟨q5, eq5, hf⟩ := gz_bd hf
  refine sz_callVi [.int x1] [] dX11_ask_5 mvX11_166 (Nat.le_of_ble_eq_true rfl) (by decide : 6 < 13) kd6 rfl (Nat.le_of_ble_eq_true rfl) (kX6_hasGoer  (Or.inr (Or.inl rfl)) eq5) ?_
  refine sz_if_eq 29 dX11_ask_8 (by decide) (fun c8 => ?_) (fun c8 => ?_)
  · have hf := gz_ip c8 hf
    refine sz_iconst dX11_ask_29 (cIm1) ?_
    cases hf
    exact sz_iret dX11_ask_30 rfl rfl ⟨rfl, rfl⟩
  · have hf := gz_in1 c8 hf
    refine sz_aload_n dX11_ask_11 rfl ?_
    refine sz_getR dX11_ask_12 flX11_90 kd0 rfl rf0_12 ?_
    refine sz_aload_n dX11_ask_15 rfl ?_
    refine sz_getR dX11_ask_16 flX11_90 kd0 rfl rf0_12 ?_
    refine sz_iload_n dX11_ask_19 rfl ?_
    obtain ⟨q20, eq20, hf⟩ := gz_bd hf
    refine sz_callVi [.int x1] [.ref 11] dX11_ask_20 mvX11_320 (Nat.le_of_ble_eq_true rfl) (by decide : 8 < 13) kd11 rfl (Nat.le_of_ble_eq_true rfl) (kX8_fitting   eq20) ?_
    obtain ⟨q23, eq23, hf⟩ := gz_bd hf
    refine sz_callVi [.int q20.1] [] dX11_ask_23 mvX11_331 (Nat.le_of_ble_eq_true rfl) (by decide : 8 < 13) kd11 rfl (Nat.le_of_ble_eq_true rfl) (kX8_bestHour   eq23) ?_
    refine sz_goto 30 dX11_ask_26 (by decide) ?_
    cases hf
    exact sz_iret dX11_ask_30 rfl rfl ⟨rfl, rfl⟩
def fX11_game (La : gz_L)  (x1 : Int32) (x2 : Int32) (x3 : Int32) (x4 : Int32) (x5 : Int32) (g : gz_S) : Option (Int32 × gz_S) :=
  (fX6_hasGoingPair La  6 x1 x2 g).bind (fun q6 => if q6.1 = 0 then some ((-1000000), q6.2) else if x5 < 0 then some ((-1000000), q6.2) else if x5 ≤ 1 then (fX6_isLook La  x3 q6.2).bind (fun q28 => if q28.1 = 0 then some ((-1000000), q28.2) else (fX6_isLook La  x4 q28.2).bind (fun q36 => if q36.1 = 0 then some ((-1000000), q36.2) else (fX2_play La  x1 x2 x3 x4 q36.2).bind (fun q55 => if x5 = 0 then some (q55.1 10 0, q55) else some (q55.1 10 1, q55)))) else some ((-1000000), q6.2))
set_option maxRecDepth 100000 in
set_option maxHeartbeats 4000000 in
theorem kX11_game {La : gz_L}  {x1 : Int32} {x2 : Int32} {x3 : Int32} {x4 : Int32} {x5 : Int32} {g : gz_S} {r : Int32 × gz_S}  (hf : fX11_game La  x1 x2 x3 x4 x5 g = some r) : gz_K La 7 mX11_game [.ref 0, .int x1, .int x2, .int x3, .int x4, .int x5] g (gz_Fi r) := by
  unfold fX11_game at hf
  refine gz_K.of 0 (by decide +kernel) rfl ?_
  show gz_J La 7 mX11_game 0 [some (.ref 0), some (.int x1), some (.int x2), some (.int x3), some (.int x4), some (.int x5)] [] g (gz_Fi r)
  refine sz_aload_n dX11_game_0 rfl ?_
  refine sz_getR dX11_game_1 flX11_58 kd0 rfl rf0_7 ?_
  refine sz_iload_n dX11_game_4 rfl ?_
  refine sz_iload_n dX11_game_5 rfl ?_
  obtain ⟨q6, eq6, hf⟩ := gz_bd hf
  refine sz_callVi [.int x1, .int x2] [] dX11_game_6 mvX11_334 (Nat.le_of_ble_eq_true rfl) (by decide : 6 < 13) kd6 rfl (Nat.le_of_ble_eq_true rfl) (kX6_hasGoingPair  (Or.inr (Or.inl rfl)) eq6) ?_
  refine sz_if_eq 23 dX11_game_9 (by decide) (fun c9 => ?_) (fun c9 => ?_)
  · have hf := gz_ip c9 hf
    refine sz_ldcw dX11_game_23 cstX11_270 ?_
    cases hf
    exact sz_iret dX11_game_26 rfl rfl ⟨rfl, rfl⟩
  · have hf := gz_in1 c9 hf
    refine sz_iload dX11_game_12 rfl ?_
    refine sz_if_lt 23 dX11_game_14 (by decide) (fun c14 => ?_) (fun c14 => ?_)
    · have hf := gz_ip c14 hf
      refine sz_ldcw dX11_game_23 cstX11_270 ?_
      cases hf
      exact sz_iret dX11_game_26 rfl rfl ⟨rfl, rfl⟩
    · have hf := gz_in1 c14 hf
      refine sz_iload dX11_game_17 rfl ?_
      refine sz_iconst dX11_game_19 (cI1) ?_
      refine sz_icmp_le 27 dX11_game_20 (by decide) (fun c20 => ?_) (fun c20 => ?_)
      · have hf := gz_ip c20 hf
        refine sz_iload_n dX11_game_27 rfl ?_
        obtain ⟨q28, eq28, hf⟩ := gz_bd hf
        refine sz_callSi [.int x3] [] dX11_game_28 msX11_337 (Nat.le_of_ble_eq_true rfl) (Nat.le_of_ble_eq_true rfl) (kX6_isLook   eq28) ?_
        refine sz_if_eq 42 dX11_game_31 (by decide) (fun c31 => ?_) (fun c31 => ?_)
        · have hf := gz_ip c31 hf
          refine sz_ldcw dX11_game_42 cstX11_270 ?_
          cases hf
          exact sz_iret dX11_game_45 rfl rfl ⟨rfl, rfl⟩
        · have hf := gz_in1 c31 hf
          refine sz_iload dX11_game_34 rfl ?_
          obtain ⟨q36, eq36, hf⟩ := gz_bd hf
          refine sz_callSi [.int x4] [] dX11_game_36 msX11_337 (Nat.le_of_ble_eq_true rfl) (Nat.le_of_ble_eq_true rfl) (kX6_isLook   eq36) ?_
          refine sz_if_ne 46 dX11_game_39 (by decide) (fun c39 => ?_) (fun c39 => ?_)
          · have hf := gz_in1 c39 hf
            refine sz_aload_n dX11_game_46 rfl ?_
            refine sz_getR dX11_game_47 flX11_83 kd0 rfl rf0_11 ?_
            refine sz_iload_n dX11_game_50 rfl ?_
            refine sz_iload_n dX11_game_51 rfl ?_
            refine sz_iload_n dX11_game_52 rfl ?_
            refine sz_iload dX11_game_53 rfl ?_
            obtain ⟨q55, eq55, hf⟩ := gz_bd hf
            refine sz_callVv [.int x1, .int x2, .int x3, .int x4] [] dX11_game_55 mvX11_340 (Nat.le_of_ble_eq_true rfl) (by decide : 2 < 13) kd10 rfl (Nat.le_of_ble_eq_true rfl) (kX2_play   eq55) ?_
            refine sz_iload dX11_game_58 rfl ?_
            refine sz_if_ne 73 dX11_game_60 (by decide) (fun c60 => ?_) (fun c60 => ?_)
            · have hf := gz_in1 c60 hf
              refine sz_aload_n dX11_game_73 rfl ?_
              refine sz_getR dX11_game_74 flX11_83 kd0 rfl rf0_11 ?_
              refine sz_getI dX11_game_77 flX11_346 kd10 rfl ?_
              cases hf
              exact sz_iret dX11_game_80 rfl rfl ⟨rfl, rfl⟩
            · have hf := gz_ip c60 hf
              refine sz_aload_n dX11_game_63 rfl ?_
              refine sz_getR dX11_game_64 flX11_83 kd0 rfl rf0_11 ?_
              refine sz_getI dX11_game_67 flX11_343 kd10 rfl ?_
              refine sz_goto 80 dX11_game_70 (by decide) ?_
              cases hf
              exact sz_iret dX11_game_80 rfl rfl ⟨rfl, rfl⟩
          · have hf := gz_ip c39 hf
            refine sz_ldcw dX11_game_42 cstX11_270 ?_
            cases hf
            exact sz_iret dX11_game_45 rfl rfl ⟨rfl, rfl⟩
      · have hf := gz_in1 c20 hf
        refine sz_ldcw dX11_game_23 cstX11_270 ?_
        cases hf
        exact sz_iret dX11_game_26 rfl rfl ⟨rfl, rfl⟩
def fX11_rests (La : gz_L)  (x1 : Int32) (x2 : Int32) (x3 : Int32) (g : gz_S) : Option (Int32 × gz_S) :=
  (fX6_hasGoingPair La  6 x1 x2 g).bind (fun q6 => if q6.1 = 0 then some ((-1), q6.2) else (fX2_restsOf La  x1 x2 q6.2).bind (fun q20 => if x3 = (-1) then (fJ6_bitCount_0f7a4 La  q20.1 q20.2).bind (fun q32 => some (q32.1, q32.2)) else (fX2_rest La  q20.1 x3 q20.2).bind (fun q45 => some (q45.1, q45.2))))
set_option maxRecDepth 100000 in
set_option maxHeartbeats 4000000 in
theorem kX11_rests {La : gz_L}  {x1 : Int32} {x2 : Int32} {x3 : Int32} {g : gz_S} {r : Int32 × gz_S}  (hf : fX11_rests La  x1 x2 x3 g = some r) : gz_K La 8 mX11_rests [.ref 0, .int x1, .int x2, .int x3] g (gz_Fi r) := by
  unfold fX11_rests at hf
  refine gz_K.of 1 (by decide +kernel) rfl ?_
  show gz_J La 8 mX11_rests 0 [some (.ref 0), some (.int x1), some (.int x2), some (.int x3), none] [] g (gz_Fi r)
  refine sz_aload_n dX11_rests_0 rfl ?_
  refine sz_getR dX11_rests_1 flX11_58 kd0 rfl rf0_7 ?_
  refine sz_iload_n dX11_rests_4 rfl ?_
  refine sz_iload_n dX11_rests_5 rfl ?_
  obtain ⟨q6, eq6, hf⟩ := gz_bd hf
  refine sz_callVi [.int x1, .int x2] [] dX11_rests_6 mvX11_334 (Nat.le_of_ble_eq_true rfl) (by decide : 6 < 13) kd6 rfl (Nat.le_of_ble_eq_true rfl) (kX6_hasGoingPair  (Or.inr (Or.inl rfl)) eq6) ?_
  refine sz_if_ne 14 dX11_rests_9 (by decide) (fun c9 => ?_) (fun c9 => ?_)
  · have hf := gz_in1 c9 hf
    refine sz_aload_n dX11_rests_14 rfl ?_
    refine sz_getR dX11_rests_15 flX11_83 kd0 rfl rf0_11 ?_
    refine sz_iload_n dX11_rests_18 rfl ?_
    refine sz_iload_n dX11_rests_19 rfl ?_
    obtain ⟨q20, eq20, hf⟩ := gz_bd hf
    refine sz_callVi [.int x1, .int x2] [] dX11_rests_20 mvX11_349 (Nat.le_of_ble_eq_true rfl) (by decide : 2 < 13) kd10 rfl (Nat.le_of_ble_eq_true rfl) (kX2_restsOf   eq20) ?_
    refine sz_istore dX11_rests_23 (Nat.le_of_ble_eq_true rfl) rfl ?_
    refine sz_ls (l2 := [some (.ref 0), some (.int x1), some (.int x2), some (.int x3), some (.int q20.1)]) rfl ?_
    refine sz_iload_n dX11_rests_25 rfl ?_
    refine sz_iconst dX11_rests_26 (cIm1) ?_
    refine sz_icmp_ne 38 dX11_rests_27 (by decide) (fun c27 => ?_) (fun c27 => ?_)
    · have hf := gz_in1 c27 hf
      refine sz_aload_n dX11_rests_38 rfl ?_
      refine sz_getR dX11_rests_39 flX11_83 kd0 rfl rf0_11 ?_
      refine sz_iload dX11_rests_42 rfl ?_
      refine sz_iload_n dX11_rests_44 rfl ?_
      obtain ⟨q45, eq45, hf⟩ := gz_bd hf
      refine sz_callVi [.int q20.1, .int x3] [] dX11_rests_45 mvX11_352 (Nat.le_of_ble_eq_true rfl) (by decide : 2 < 13) kd10 rfl (Nat.le_of_ble_eq_true rfl) (kX2_rest   eq45) ?_
      cases hf
      exact sz_iret dX11_rests_48 rfl rfl ⟨rfl, rfl⟩
    · have hf := gz_ip c27 hf
      refine sz_iload dX11_rests_30 rfl ?_
      obtain ⟨q32, eq32, hf⟩ := gz_bd hf
      refine sz_callSi [.int q20.1] [] dX11_rests_32 msX11_323 (Nat.le_of_ble_eq_true rfl) (Nat.le_of_ble_eq_true rfl) (kJ6_bitCount_0f7a4   eq32) ?_
      refine sz_goto 48 dX11_rests_35 (by decide) ?_
      cases hf
      exact sz_iret dX11_rests_48 rfl rfl ⟨rfl, rfl⟩
  · have hf := gz_ip c9 hf
    refine sz_iconst dX11_rests_12 (cIm1) ?_
    cases hf
    exact sz_iret dX11_rests_13 rfl rfl ⟨rfl, rfl⟩
def fX11_odds (La : gz_L)  (x1 : Int32) (x2 : Int32) (x3 : Int32) (x4 : Int32) (g : gz_S) : Option (Int32 × gz_S) :=
  (fX6_hasGoer La  6 x1 g).bind (fun q5 => if q5.1 = 0 then some ((-1), q5.2) else (fX6_hasCell La  6 x2 q5.2).bind (fun q16 => if q16.1 = 0 then some ((-1), q16.2) else if x3 < 0 then some ((-1), q16.2) else if 6 < x3 then some ((-1), q16.2) else if x4 < 0 then some ((-1), q16.2) else if x4 ≤ 100 then (fX2_partsOn La  x1 x2 x3 x4 q16.2).bind (fun q57 => some (q57.1, q57.2)) else some ((-1), q16.2)))
set_option maxRecDepth 100000 in
set_option maxHeartbeats 4000000 in
theorem kX11_odds {La : gz_L}  {x1 : Int32} {x2 : Int32} {x3 : Int32} {x4 : Int32} {g : gz_S} {r : Int32 × gz_S}  (hf : fX11_odds La  x1 x2 x3 x4 g = some r) : gz_K La 8 mX11_odds [.ref 0, .int x1, .int x2, .int x3, .int x4] g (gz_Fi r) := by
  unfold fX11_odds at hf
  refine gz_K.of 0 (by decide +kernel) rfl ?_
  show gz_J La 8 mX11_odds 0 [some (.ref 0), some (.int x1), some (.int x2), some (.int x3), some (.int x4)] [] g (gz_Fi r)
  refine sz_aload_n dX11_odds_0 rfl ?_
  refine sz_getR dX11_odds_1 flX11_58 kd0 rfl rf0_7 ?_
  refine sz_iload_n dX11_odds_4 rfl ?_
  obtain ⟨q5, eq5, hf⟩ := gz_bd hf
  refine sz_callVi [.int x1] [] dX11_odds_5 mvX11_166 (Nat.le_of_ble_eq_true rfl) (by decide : 6 < 13) kd6 rfl (Nat.le_of_ble_eq_true rfl) (kX6_hasGoer  (Or.inr (Or.inl rfl)) eq5) ?_
  refine sz_if_eq 22 dX11_odds_8 (by decide) (fun c8 => ?_) (fun c8 => ?_)
  · have hf := gz_ip c8 hf
    refine sz_iconst dX11_odds_22 (cIm1) ?_
    cases hf
    exact sz_iret dX11_odds_23 rfl rfl ⟨rfl, rfl⟩
  · have hf := gz_in1 c8 hf
    refine sz_aload_n dX11_odds_11 rfl ?_
    refine sz_getR dX11_odds_12 flX11_58 kd0 rfl rf0_7 ?_
    refine sz_iload_n dX11_odds_15 rfl ?_
    obtain ⟨q16, eq16, hf⟩ := gz_bd hf
    refine sz_callVi [.int x2] [] dX11_odds_16 mvX11_156 (Nat.le_of_ble_eq_true rfl) (by decide : 6 < 13) kd6 rfl (Nat.le_of_ble_eq_true rfl) (kX6_hasCell  (Or.inr (Or.inl rfl)) eq16) ?_
    refine sz_if_ne 24 dX11_odds_19 (by decide) (fun c19 => ?_) (fun c19 => ?_)
    · have hf := gz_in1 c19 hf
      refine sz_iload_n dX11_odds_24 rfl ?_
      refine sz_if_lt 46 dX11_odds_25 (by decide) (fun c25 => ?_) (fun c25 => ?_)
      · have hf := gz_ip c25 hf
        refine sz_iconst dX11_odds_46 (cIm1) ?_
        cases hf
        exact sz_iret dX11_odds_47 rfl rfl ⟨rfl, rfl⟩
      · have hf := gz_in1 c25 hf
        refine sz_iload_n dX11_odds_28 rfl ?_
        refine sz_bipush dX11_odds_29 (cB6) ?_
        refine sz_icmp_gt 46 dX11_odds_31 (by decide) (fun c31 => ?_) (fun c31 => ?_)
        · have hf := gz_ip c31 hf
          refine sz_iconst dX11_odds_46 (cIm1) ?_
          cases hf
          exact sz_iret dX11_odds_47 rfl rfl ⟨rfl, rfl⟩
        · have hf := gz_in1 c31 hf
          refine sz_iload dX11_odds_34 rfl ?_
          refine sz_if_lt 46 dX11_odds_36 (by decide) (fun c36 => ?_) (fun c36 => ?_)
          · have hf := gz_ip c36 hf
            refine sz_iconst dX11_odds_46 (cIm1) ?_
            cases hf
            exact sz_iret dX11_odds_47 rfl rfl ⟨rfl, rfl⟩
          · have hf := gz_in1 c36 hf
            refine sz_iload dX11_odds_39 rfl ?_
            refine sz_bipush dX11_odds_41 (cB100) ?_
            refine sz_icmp_le 48 dX11_odds_43 (by decide) (fun c43 => ?_) (fun c43 => ?_)
            · have hf := gz_ip c43 hf
              refine sz_aload_n dX11_odds_48 rfl ?_
              refine sz_getR dX11_odds_49 flX11_83 kd0 rfl rf0_11 ?_
              refine sz_iload_n dX11_odds_52 rfl ?_
              refine sz_iload_n dX11_odds_53 rfl ?_
              refine sz_iload_n dX11_odds_54 rfl ?_
              refine sz_iload dX11_odds_55 rfl ?_
              obtain ⟨q57, eq57, hf⟩ := gz_bd hf
              refine sz_callVi [.int x1, .int x2, .int x3, .int x4] [] dX11_odds_57 mvX11_355 (Nat.le_of_ble_eq_true rfl) (by decide : 2 < 13) kd10 rfl (Nat.le_of_ble_eq_true rfl) (kX2_partsOn   eq57) ?_
              cases hf
              exact sz_iret dX11_odds_60 rfl rfl ⟨rfl, rfl⟩
            · have hf := gz_in1 c43 hf
              refine sz_iconst dX11_odds_46 (cIm1) ?_
              cases hf
              exact sz_iret dX11_odds_47 rfl rfl ⟨rfl, rfl⟩
    · have hf := gz_ip c19 hf
      refine sz_iconst dX11_odds_22 (cIm1) ?_
      cases hf
      exact sz_iret dX11_odds_23 rfl rfl ⟨rfl, rfl⟩
def fX11_shares (La : gz_L)  (x1 : Int32) (x2 : Int32) (g : gz_S) : Option (Int32 × gz_S) :=
  (fX6_hasGoer La  6 x1 g).bind (fun q5 => if q5.1 = 0 then some ((-1), q5.2) else if x2 < 0 then some ((-1), q5.2) else if x2 ≤ 999 then (fX6_wentInAll La  6 q5.2).bind (fun q28 => if 1 ≤ q28.1 then if gz_ok ((38 : Int32) + x1) 61 then if ¬ q28.1 = 0 then some ((x2 * (q28.2.1 22 (Int32.toNatClampNeg ((38 : Int32) + x1)))) / q28.1, q28.2) else none else none else some (0, q28.2)) else some ((-1), q5.2))
set_option maxRecDepth 100000 in
set_option maxHeartbeats 4000000 in
theorem kX11_shares {La : gz_L}  {x1 : Int32} {x2 : Int32} {g : gz_S} {r : Int32 × gz_S}  (hf : fX11_shares La  x1 x2 g = some r) : gz_K La 2 mX11_shares [.ref 0, .int x1, .int x2] g (gz_Fi r) := by
  unfold fX11_shares at hf
  refine gz_K.of 1 (by decide +kernel) rfl ?_
  show gz_J La 2 mX11_shares 0 [some (.ref 0), some (.int x1), some (.int x2), none] [] g (gz_Fi r)
  refine sz_aload_n dX11_shares_0 rfl ?_
  refine sz_getR dX11_shares_1 flX11_58 kd0 rfl rf0_7 ?_
  refine sz_iload_n dX11_shares_4 rfl ?_
  obtain ⟨q5, eq5, hf⟩ := gz_bd hf
  refine sz_callVi [.int x1] [] dX11_shares_5 mvX11_166 (Nat.le_of_ble_eq_true rfl) (by decide : 6 < 13) kd6 rfl (Nat.le_of_ble_eq_true rfl) (kX6_hasGoer  (Or.inr (Or.inl rfl)) eq5) ?_
  refine sz_if_eq 22 dX11_shares_8 (by decide) (fun c8 => ?_) (fun c8 => ?_)
  · have hf := gz_ip c8 hf
    refine sz_iconst dX11_shares_22 (cIm1) ?_
    cases hf
    exact sz_iret dX11_shares_23 rfl rfl ⟨rfl, rfl⟩
  · have hf := gz_in1 c8 hf
    refine sz_iload_n dX11_shares_11 rfl ?_
    refine sz_if_lt 22 dX11_shares_12 (by decide) (fun c12 => ?_) (fun c12 => ?_)
    · have hf := gz_ip c12 hf
      refine sz_iconst dX11_shares_22 (cIm1) ?_
      cases hf
      exact sz_iret dX11_shares_23 rfl rfl ⟨rfl, rfl⟩
    · have hf := gz_in1 c12 hf
      refine sz_iload_n dX11_shares_15 rfl ?_
      refine sz_sipush dX11_shares_16 (cH999) ?_
      refine sz_icmp_le 24 dX11_shares_19 (by decide) (fun c19 => ?_) (fun c19 => ?_)
      · have hf := gz_ip c19 hf
        refine sz_aload_n dX11_shares_24 rfl ?_
        refine sz_getR dX11_shares_25 flX11_58 kd0 rfl rf0_7 ?_
        obtain ⟨q28, eq28, hf⟩ := gz_bd hf
        refine sz_callVi [] [] dX11_shares_28 mvX11_359 (Nat.le_of_ble_eq_true rfl) (by decide : 6 < 13) kd6 rfl (Nat.le_of_ble_eq_true rfl) (kX6_wentInAll  (Or.inr (Or.inl rfl)) eq28) ?_
        refine sz_istore_n dX11_shares_31 rfl (Nat.le_of_ble_eq_true rfl) rfl ?_
        refine sz_ls (l2 := [some (.ref 0), some (.int x1), some (.int x2), some (.int q28.1)]) rfl ?_
        refine sz_iload_n dX11_shares_32 rfl ?_
        refine sz_iconst dX11_shares_33 (cI1) ?_
        refine sz_icmp_ge 41 dX11_shares_34 (by decide) (fun c34 => ?_) (fun c34 => ?_)
        · have hf := gz_ip c34 hf
          refine sz_iload_n dX11_shares_41 rfl ?_
          refine sz_aload_n dX11_shares_42 rfl ?_
          refine sz_getR dX11_shares_43 flX11_58 kd0 rfl rf0_7 ?_
          refine sz_getR dX11_shares_46 flX11_176 kd6 rfl rf6_0 ?_
          refine sz_bipush dX11_shares_49 (cB38) ?_
          refine sz_iload_n dX11_shares_51 rfl ?_
          refine sz_iadd dX11_shares_52 ?_
          obtain ⟨c53, hf⟩ := gz_gd hf
          refine sz_ialdL dX11_shares_53 kd22 c53 rfl ?_
          refine sz_imul dX11_shares_54 ?_
          refine sz_iload_n dX11_shares_55 rfl ?_
          obtain ⟨c56, hf⟩ := gz_gd hf
          refine sz_idiv dX11_shares_56 c56 ?_
          cases hf
          exact sz_iret dX11_shares_57 rfl rfl ⟨rfl, rfl⟩
        · have hf := gz_in1 c34 hf
          refine sz_iconst dX11_shares_37 (cI0) ?_
          refine sz_goto 57 dX11_shares_38 (by decide) ?_
          cases hf
          exact sz_iret dX11_shares_57 rfl rfl ⟨rfl, rfl⟩
      · have hf := gz_in1 c19 hf
        refine sz_iconst dX11_shares_22 (cIm1) ?_
        cases hf
        exact sz_iret dX11_shares_23 rfl rfl ⟨rfl, rfl⟩
def fX11_ahead (La : gz_L)  (x1 : Int32) (g : gz_S) : Option (Int32 × gz_S) :=
  (fX6_hasGoer La  6 x1 g).bind (fun q5 => if q5.1 = 0 then some ((-1), q5.2) else (fX6_goes La  6 x1 q5.2).bind (fun q16 => if q16.1 = 0 then some ((-1), q16.2) else if gz_ok ((30 : Int32) + x1) 61 then (fX6_under La  6 (q16.2.1 22 (Int32.toNatClampNeg ((30 : Int32) + x1))) q16.2).bind (fun q38 => if q38.1 = 0 then (fX6_copy La  7 6 q38.2).bind (fun q54 => (fX10_takeStep La  7 x1 q54).bind (fun q66 => if gz_ok ((30 : Int32) + x1) 61 then some (q66.1 23 (Int32.toNatClampNeg ((30 : Int32) + x1)), q66) else none)) else some ((-1), q38.2)) else none))
set_option maxRecDepth 100000 in
set_option maxHeartbeats 4000000 in
theorem kX11_ahead {La : gz_L}  {x1 : Int32} {g : gz_S} {r : Int32 × gz_S}  (hf : fX11_ahead La  x1 g = some r) : gz_K La 5 mX11_ahead [.ref 0, .int x1] g (gz_Fi r) := by
  unfold fX11_ahead at hf
  refine gz_K.of 0 (by decide +kernel) rfl ?_
  show gz_J La 5 mX11_ahead 0 [some (.ref 0), some (.int x1)] [] g (gz_Fi r)
  refine sz_aload_n dX11_ahead_0 rfl ?_
  refine sz_getR dX11_ahead_1 flX11_58 kd0 rfl rf0_7 ?_
  refine sz_iload_n dX11_ahead_4 rfl ?_
  obtain ⟨q5, eq5, hf⟩ := gz_bd hf
  refine sz_callVi [.int x1] [] dX11_ahead_5 mvX11_166 (Nat.le_of_ble_eq_true rfl) (by decide : 6 < 13) kd6 rfl (Nat.le_of_ble_eq_true rfl) (kX6_hasGoer  (Or.inr (Or.inl rfl)) eq5) ?_
  refine sz_if_eq 44 dX11_ahead_8 (by decide) (fun c8 => ?_) (fun c8 => ?_)
  · have hf := gz_ip c8 hf
    refine sz_iconst dX11_ahead_44 (cIm1) ?_
    cases hf
    exact sz_iret dX11_ahead_45 rfl rfl ⟨rfl, rfl⟩
  · have hf := gz_in1 c8 hf
    refine sz_aload_n dX11_ahead_11 rfl ?_
    refine sz_getR dX11_ahead_12 flX11_58 kd0 rfl rf0_7 ?_
    refine sz_iload_n dX11_ahead_15 rfl ?_
    obtain ⟨q16, eq16, hf⟩ := gz_bd hf
    refine sz_callVi [.int x1] [] dX11_ahead_16 mvX11_297 (Nat.le_of_ble_eq_true rfl) (by decide : 6 < 13) kd6 rfl (Nat.le_of_ble_eq_true rfl) (kX6_goes  (Or.inr (Or.inl rfl)) eq16) ?_
    refine sz_if_eq 44 dX11_ahead_19 (by decide) (fun c19 => ?_) (fun c19 => ?_)
    · have hf := gz_ip c19 hf
      refine sz_iconst dX11_ahead_44 (cIm1) ?_
      cases hf
      exact sz_iret dX11_ahead_45 rfl rfl ⟨rfl, rfl⟩
    · have hf := gz_in1 c19 hf
      refine sz_aload_n dX11_ahead_22 rfl ?_
      refine sz_getR dX11_ahead_23 flX11_58 kd0 rfl rf0_7 ?_
      refine sz_aload_n dX11_ahead_26 rfl ?_
      refine sz_getR dX11_ahead_27 flX11_58 kd0 rfl rf0_7 ?_
      refine sz_getR dX11_ahead_30 flX11_176 kd6 rfl rf6_0 ?_
      refine sz_bipush dX11_ahead_33 (cB30) ?_
      refine sz_iload_n dX11_ahead_35 rfl ?_
      refine sz_iadd dX11_ahead_36 ?_
      obtain ⟨c37, hf⟩ := gz_gd hf
      refine sz_ialdL dX11_ahead_37 kd22 c37 rfl ?_
      obtain ⟨q38, eq38, hf⟩ := gz_bd hf
      refine sz_callVi [.int (q16.2.1 22 (Int32.toNatClampNeg ((30 : Int32) + x1)))] [] dX11_ahead_38 mvX11_163 (Nat.le_of_ble_eq_true rfl) (by decide : 6 < 13) kd6 rfl (Nat.le_of_ble_eq_true rfl) (kX6_under  (Or.inr (Or.inl rfl)) eq38) ?_
      refine sz_if_eq 46 dX11_ahead_41 (by decide) (fun c41 => ?_) (fun c41 => ?_)
      · have hf := gz_ip c41 hf
        refine sz_aload_n dX11_ahead_46 rfl ?_
        refine sz_getR dX11_ahead_47 flX11_61 kd0 rfl rf0_8 ?_
        refine sz_aload_n dX11_ahead_50 rfl ?_
        refine sz_getR dX11_ahead_51 flX11_58 kd0 rfl rf0_7 ?_
        obtain ⟨q54, eq54, hf⟩ := gz_bd hf
        refine sz_callVv [.ref 6] [] dX11_ahead_54 mvX11_146 (Nat.le_of_ble_eq_true rfl) (by decide : 6 < 13) kd7 rfl (Nat.le_of_ble_eq_true rfl) (kX6_copy  (Or.inr (Or.inr rfl)) (Or.inr (Or.inl rfl)) eq54) ?_
        refine sz_aload_n dX11_ahead_57 rfl ?_
        refine sz_getR dX11_ahead_58 flX11_67 kd0 rfl rf0_9 ?_
        refine sz_aload_n dX11_ahead_61 rfl ?_
        refine sz_getR dX11_ahead_62 flX11_61 kd0 rfl rf0_8 ?_
        refine sz_iload_n dX11_ahead_65 rfl ?_
        obtain ⟨q66, eq66, hf⟩ := gz_bd hf
        refine sz_callVv [.ref 7, .int x1] [] dX11_ahead_66 mvX11_362 (Nat.le_of_ble_eq_true rfl) (by decide : 10 < 13) kd8 rfl (Nat.le_of_ble_eq_true rfl) (kX10_takeStep  (Or.inr (Or.inr rfl)) eq66) ?_
        refine sz_aload_n dX11_ahead_69 rfl ?_
        refine sz_getR dX11_ahead_70 flX11_61 kd0 rfl rf0_8 ?_
        refine sz_getR dX11_ahead_73 flX11_176 kd7 rfl rf7_0 ?_
        refine sz_bipush dX11_ahead_76 (cB30) ?_
        refine sz_iload_n dX11_ahead_78 rfl ?_
        refine sz_iadd dX11_ahead_79 ?_
        obtain ⟨c80, hf⟩ := gz_gd hf
        refine sz_ialdL dX11_ahead_80 kd23 c80 rfl ?_
        cases hf
        exact sz_iret dX11_ahead_81 rfl rfl ⟨rfl, rfl⟩
      · have hf := gz_in1 c41 hf
        refine sz_iconst dX11_ahead_44 (cIm1) ?_
        cases hf
        exact sz_iret dX11_ahead_45 rfl rfl ⟨rfl, rfl⟩
def fX11_all (La : gz_L)  (x1 : Int32) (g : gz_S) : Option (Int32 × gz_S) :=
  (fX6_hasShore La  6 g).bind (fun q4 => if q4.1 = 0 then some ((-1), q4.2) else if x1 = 0 then (fX6_goerWithMost La  6 38 q4.2).bind (fun q74 => some (q74.1, q74.2)) else if x1 = 1 then (fX6_goerWithMost La  6 50 q4.2).bind (fun q84 => some (q84.1, q84.2)) else if x1 = 2 then (fX6_goersWith La  6 0 q4.2).bind (fun q93 => some (q93.1, q93.2)) else if x1 = 3 then (fX6_goersWith La  6 1 q4.2).bind (fun q102 => some (q102.1, q102.2)) else if x1 = 4 then (fX6_goersWith La  6 2 q4.2).bind (fun q111 => some (q111.1, q111.2)) else if x1 = 5 then (fX6_dryCells La  6 q4.2).bind (fun q119 => (fJ6_bitCount_0f7a4 La  q119.1 q119.2).bind (fun q122 => some (q122.1, q122.2))) else if x1 = 6 then (fX6_dryParts La  6 q4.2).bind (fun q130 => some (q130.1, q130.2)) else if x1 = 7 then (fX6_crowd La  6 q4.2).bind (fun q138 => some (q138.1, q138.2)) else if x1 = 8 then (fX6_busyCells La  6 q4.2).bind (fun q146 => some (q146.1, q146.2)) else if x1 = 9 then (fX6_faced La  6 q4.2).bind (fun q154 => some (q154.1, q154.2)) else some ((-1), q4.2))
set_option maxRecDepth 100000 in
set_option maxHeartbeats 4000000 in
theorem kX11_all {La : gz_L}  {x1 : Int32} {g : gz_S} {r : Int32 × gz_S}  (hf : fX11_all La  x1 g = some r) : gz_K La 5 mX11_all [.ref 0, .int x1] g (gz_Fi r) := by
  unfold fX11_all at hf
  refine gz_K.of 0 (by decide +kernel) rfl ?_
  show gz_J La 5 mX11_all 0 [some (.ref 0), some (.int x1)] [] g (gz_Fi r)
  refine sz_aload_n dX11_all_0 rfl ?_
  refine sz_getR dX11_all_1 flX11_58 kd0 rfl rf0_7 ?_
  obtain ⟨q4, eq4, hf⟩ := gz_bd hf
  refine sz_callVi [] [] dX11_all_4 mvX11_232 (Nat.le_of_ble_eq_true rfl) (by decide : 6 < 13) kd6 rfl (Nat.le_of_ble_eq_true rfl) (kX6_hasShore  (Or.inr (Or.inl rfl)) eq4) ?_
  refine sz_if_ne 12 dX11_all_7 (by decide) (fun c7 => ?_) (fun c7 => ?_)
  · have hf := gz_in1 c7 hf
    refine sz_iload_n dX11_all_12 rfl ?_
    by_cases c13_0 : x1 = 0
    · have hf := gz_ip c13_0 hf
      refine sz_tableIn 68 dX11_all_13 (by rw [c13_0]; decide) (by rw [c13_0]; decide) (by rw [c13_0]; rfl) (by decide) ?_
      refine sz_aload_n dX11_all_68 rfl ?_
      refine sz_getR dX11_all_69 flX11_58 kd0 rfl rf0_7 ?_
      refine sz_bipush dX11_all_72 (cB38) ?_
      obtain ⟨q74, eq74, hf⟩ := gz_bd hf
      refine sz_callVi [.int 38] [] dX11_all_74 mvX11_366 (Nat.le_of_ble_eq_true rfl) (by decide : 6 < 13) kd6 rfl (Nat.le_of_ble_eq_true rfl) (kX6_goerWithMost  (Or.inr (Or.inl rfl)) eq74) ?_
      cases hf
      exact sz_iret dX11_all_77 rfl rfl ⟨rfl, rfl⟩
    have hf := gz_in1 c13_0 hf
    by_cases c13_1 : x1 = 1
    · have hf := gz_ip c13_1 hf
      refine sz_tableIn 78 dX11_all_13 (by rw [c13_1]; decide) (by rw [c13_1]; decide) (by rw [c13_1]; rfl) (by decide) ?_
      refine sz_aload_n dX11_all_78 rfl ?_
      refine sz_getR dX11_all_79 flX11_58 kd0 rfl rf0_7 ?_
      refine sz_bipush dX11_all_82 (cB50) ?_
      obtain ⟨q84, eq84, hf⟩ := gz_bd hf
      refine sz_callVi [.int 50] [] dX11_all_84 mvX11_366 (Nat.le_of_ble_eq_true rfl) (by decide : 6 < 13) kd6 rfl (Nat.le_of_ble_eq_true rfl) (kX6_goerWithMost  (Or.inr (Or.inl rfl)) eq84) ?_
      cases hf
      exact sz_iret dX11_all_87 rfl rfl ⟨rfl, rfl⟩
    have hf := gz_in1 c13_1 hf
    by_cases c13_2 : x1 = 2
    · have hf := gz_ip c13_2 hf
      refine sz_tableIn 88 dX11_all_13 (by rw [c13_2]; decide) (by rw [c13_2]; decide) (by rw [c13_2]; rfl) (by decide) ?_
      refine sz_aload_n dX11_all_88 rfl ?_
      refine sz_getR dX11_all_89 flX11_58 kd0 rfl rf0_7 ?_
      refine sz_iconst dX11_all_92 (cI0) ?_
      obtain ⟨q93, eq93, hf⟩ := gz_bd hf
      refine sz_callVi [.int 0] [] dX11_all_93 mvX11_369 (Nat.le_of_ble_eq_true rfl) (by decide : 6 < 13) kd6 rfl (Nat.le_of_ble_eq_true rfl) (kX6_goersWith  (Or.inr (Or.inl rfl)) eq93) ?_
      cases hf
      exact sz_iret dX11_all_96 rfl rfl ⟨rfl, rfl⟩
    have hf := gz_in1 c13_2 hf
    by_cases c13_3 : x1 = 3
    · have hf := gz_ip c13_3 hf
      refine sz_tableIn 97 dX11_all_13 (by rw [c13_3]; decide) (by rw [c13_3]; decide) (by rw [c13_3]; rfl) (by decide) ?_
      refine sz_aload_n dX11_all_97 rfl ?_
      refine sz_getR dX11_all_98 flX11_58 kd0 rfl rf0_7 ?_
      refine sz_iconst dX11_all_101 (cI1) ?_
      obtain ⟨q102, eq102, hf⟩ := gz_bd hf
      refine sz_callVi [.int 1] [] dX11_all_102 mvX11_369 (Nat.le_of_ble_eq_true rfl) (by decide : 6 < 13) kd6 rfl (Nat.le_of_ble_eq_true rfl) (kX6_goersWith  (Or.inr (Or.inl rfl)) eq102) ?_
      cases hf
      exact sz_iret dX11_all_105 rfl rfl ⟨rfl, rfl⟩
    have hf := gz_in1 c13_3 hf
    by_cases c13_4 : x1 = 4
    · have hf := gz_ip c13_4 hf
      refine sz_tableIn 106 dX11_all_13 (by rw [c13_4]; decide) (by rw [c13_4]; decide) (by rw [c13_4]; rfl) (by decide) ?_
      refine sz_aload_n dX11_all_106 rfl ?_
      refine sz_getR dX11_all_107 flX11_58 kd0 rfl rf0_7 ?_
      refine sz_iconst dX11_all_110 (cI2) ?_
      obtain ⟨q111, eq111, hf⟩ := gz_bd hf
      refine sz_callVi [.int 2] [] dX11_all_111 mvX11_369 (Nat.le_of_ble_eq_true rfl) (by decide : 6 < 13) kd6 rfl (Nat.le_of_ble_eq_true rfl) (kX6_goersWith  (Or.inr (Or.inl rfl)) eq111) ?_
      cases hf
      exact sz_iret dX11_all_114 rfl rfl ⟨rfl, rfl⟩
    have hf := gz_in1 c13_4 hf
    by_cases c13_5 : x1 = 5
    · have hf := gz_ip c13_5 hf
      refine sz_tableIn 115 dX11_all_13 (by rw [c13_5]; decide) (by rw [c13_5]; decide) (by rw [c13_5]; rfl) (by decide) ?_
      refine sz_aload_n dX11_all_115 rfl ?_
      refine sz_getR dX11_all_116 flX11_58 kd0 rfl rf0_7 ?_
      obtain ⟨q119, eq119, hf⟩ := gz_bd hf
      refine sz_callVi [] [] dX11_all_119 mvX11_372 (Nat.le_of_ble_eq_true rfl) (by decide : 6 < 13) kd6 rfl (Nat.le_of_ble_eq_true rfl) (kX6_dryCells  (Or.inr (Or.inl rfl)) eq119) ?_
      obtain ⟨q122, eq122, hf⟩ := gz_bd hf
      refine sz_callSi [.int q119.1] [] dX11_all_122 msX11_323 (Nat.le_of_ble_eq_true rfl) (Nat.le_of_ble_eq_true rfl) (kJ6_bitCount_0f7a4   eq122) ?_
      cases hf
      exact sz_iret dX11_all_125 rfl rfl ⟨rfl, rfl⟩
    have hf := gz_in1 c13_5 hf
    by_cases c13_6 : x1 = 6
    · have hf := gz_ip c13_6 hf
      refine sz_tableIn 126 dX11_all_13 (by rw [c13_6]; decide) (by rw [c13_6]; decide) (by rw [c13_6]; rfl) (by decide) ?_
      refine sz_aload_n dX11_all_126 rfl ?_
      refine sz_getR dX11_all_127 flX11_58 kd0 rfl rf0_7 ?_
      obtain ⟨q130, eq130, hf⟩ := gz_bd hf
      refine sz_callVi [] [] dX11_all_130 mvX11_375 (Nat.le_of_ble_eq_true rfl) (by decide : 6 < 13) kd6 rfl (Nat.le_of_ble_eq_true rfl) (kX6_dryParts  (Or.inr (Or.inl rfl)) eq130) ?_
      cases hf
      exact sz_iret dX11_all_133 rfl rfl ⟨rfl, rfl⟩
    have hf := gz_in1 c13_6 hf
    by_cases c13_7 : x1 = 7
    · have hf := gz_ip c13_7 hf
      refine sz_tableIn 134 dX11_all_13 (by rw [c13_7]; decide) (by rw [c13_7]; decide) (by rw [c13_7]; rfl) (by decide) ?_
      refine sz_aload_n dX11_all_134 rfl ?_
      refine sz_getR dX11_all_135 flX11_58 kd0 rfl rf0_7 ?_
      obtain ⟨q138, eq138, hf⟩ := gz_bd hf
      refine sz_callVi [] [] dX11_all_138 mvX11_378 (Nat.le_of_ble_eq_true rfl) (by decide : 6 < 13) kd6 rfl (Nat.le_of_ble_eq_true rfl) (kX6_crowd  (Or.inr (Or.inl rfl)) eq138) ?_
      cases hf
      exact sz_iret dX11_all_141 rfl rfl ⟨rfl, rfl⟩
    have hf := gz_in1 c13_7 hf
    by_cases c13_8 : x1 = 8
    · have hf := gz_ip c13_8 hf
      refine sz_tableIn 142 dX11_all_13 (by rw [c13_8]; decide) (by rw [c13_8]; decide) (by rw [c13_8]; rfl) (by decide) ?_
      refine sz_aload_n dX11_all_142 rfl ?_
      refine sz_getR dX11_all_143 flX11_58 kd0 rfl rf0_7 ?_
      obtain ⟨q146, eq146, hf⟩ := gz_bd hf
      refine sz_callVi [] [] dX11_all_146 mvX11_381 (Nat.le_of_ble_eq_true rfl) (by decide : 6 < 13) kd6 rfl (Nat.le_of_ble_eq_true rfl) (kX6_busyCells  (Or.inr (Or.inl rfl)) eq146) ?_
      cases hf
      exact sz_iret dX11_all_149 rfl rfl ⟨rfl, rfl⟩
    have hf := gz_in1 c13_8 hf
    by_cases c13_9 : x1 = 9
    · have hf := gz_ip c13_9 hf
      refine sz_tableIn 150 dX11_all_13 (by rw [c13_9]; decide) (by rw [c13_9]; decide) (by rw [c13_9]; rfl) (by decide) ?_
      refine sz_aload_n dX11_all_150 rfl ?_
      refine sz_getR dX11_all_151 flX11_58 kd0 rfl rf0_7 ?_
      obtain ⟨q154, eq154, hf⟩ := gz_bd hf
      refine sz_callVi [] [] dX11_all_154 mvX11_384 (Nat.le_of_ble_eq_true rfl) (by decide : 6 < 13) kd6 rfl (Nat.le_of_ble_eq_true rfl) (kX6_faced  (Or.inr (Or.inl rfl)) eq154) ?_
      cases hf
      exact sz_iret dX11_all_157 rfl rfl ⟨rfl, rfl⟩
    have hf := gz_in1 c13_9 hf
    refine sz_tableOut 158 dX11_all_13 (by have z0 := lv_neT c13_0 (a := 0) (by decide); have z1 := lv_neT c13_1 (a := 1) (by decide); have z2 := lv_neT c13_2 (a := 2) (by decide); have z3 := lv_neT c13_3 (a := 3) (by decide); have z4 := lv_neT c13_4 (a := 4) (by decide); have z5 := lv_neT c13_5 (a := 5) (by decide); have z6 := lv_neT c13_6 (a := 6) (by decide); have z7 := lv_neT c13_7 (a := 7) (by decide); have z8 := lv_neT c13_8 (a := 8) (by decide); have z9 := lv_neT c13_9 (a := 9) (by decide); omega) (by decide) ?_
    refine sz_iconst dX11_all_158 (cIm1) ?_
    cases hf
    exact sz_iret dX11_all_159 rfl rfl ⟨rfl, rfl⟩
  · have hf := gz_ip c7 hf
    refine sz_iconst dX11_all_10 (cIm1) ?_
    cases hf
    exact sz_iret dX11_all_11 rfl rfl ⟨rfl, rfl⟩
def fX11_image (La : gz_L)   (g : gz_S) : Option (Int32 × gz_S) :=
  (fX6_hasShore La  6 g).bind (fun q4 => if q4.1 = 0 then some ((-1), q4.2) else (fX5_keepImage La  6 q4.2).bind (fun q20 => some (q20.1 22 49, q20)))
set_option maxRecDepth 100000 in
set_option maxHeartbeats 4000000 in
theorem kX11_image {La : gz_L}   {g : gz_S} {r : Int32 × gz_S}  (hf : fX11_image La   g = some r) : gz_K La 2 mX11_image [.ref 0] g (gz_Fi r) := by
  unfold fX11_image at hf
  refine gz_K.of 0 (by decide +kernel) rfl ?_
  show gz_J La 2 mX11_image 0 [some (.ref 0)] [] g (gz_Fi r)
  refine sz_aload_n dX11_image_0 rfl ?_
  refine sz_getR dX11_image_1 flX11_58 kd0 rfl rf0_7 ?_
  obtain ⟨q4, eq4, hf⟩ := gz_bd hf
  refine sz_callVi [] [] dX11_image_4 mvX11_232 (Nat.le_of_ble_eq_true rfl) (by decide : 6 < 13) kd6 rfl (Nat.le_of_ble_eq_true rfl) (kX6_hasShore  (Or.inr (Or.inl rfl)) eq4) ?_
  refine sz_if_ne 12 dX11_image_7 (by decide) (fun c7 => ?_) (fun c7 => ?_)
  · have hf := gz_in1 c7 hf
    refine sz_aload_n dX11_image_12 rfl ?_
    refine sz_getR dX11_image_13 flX11_74 kd0 rfl rf0_10 ?_
    refine sz_aload_n dX11_image_16 rfl ?_
    refine sz_getR dX11_image_17 flX11_58 kd0 rfl rf0_7 ?_
    obtain ⟨q20, eq20, hf⟩ := gz_bd hf
    refine sz_callVv [.ref 6] [] dX11_image_20 mvX11_387 (Nat.le_of_ble_eq_true rfl) (by decide : 5 < 13) kd9 rfl (Nat.le_of_ble_eq_true rfl) (kX5_keepImage  (Or.inr (Or.inl rfl)) eq20) ?_
    refine sz_aload_n dX11_image_23 rfl ?_
    refine sz_getR dX11_image_24 flX11_58 kd0 rfl rf0_7 ?_
    refine sz_getR dX11_image_27 flX11_176 kd6 rfl rf6_0 ?_
    refine sz_bipush dX11_image_30 (cB49) ?_
    refine sz_ialdL dX11_image_32 kd22 vi49_61 tn49 ?_
    cases hf
    exact sz_iret dX11_image_33 rfl rfl ⟨rfl, rfl⟩
  · have hf := gz_ip c7 hf
    refine sz_iconst dX11_image_10 (cIm1) ?_
    cases hf
    exact sz_iret dX11_image_11 rfl rfl ⟨rfl, rfl⟩
def fX11_back (La : gz_L)   (g : gz_S) : Option (Int32 × gz_S) :=
  (fX5_bringBack La  6 g).bind (fun q8 => if q8.1 = 0 then some ((-1), q8.2) else some (q8.2.1 22 49, q8.2))
set_option maxRecDepth 100000 in
set_option maxHeartbeats 4000000 in
theorem kX11_back {La : gz_L}   {g : gz_S} {r : Int32 × gz_S}  (hf : fX11_back La   g = some r) : gz_K La 2 mX11_back [.ref 0] g (gz_Fi r) := by
  unfold fX11_back at hf
  refine gz_K.of 0 (by decide +kernel) rfl ?_
  show gz_J La 2 mX11_back 0 [some (.ref 0)] [] g (gz_Fi r)
  refine sz_aload_n dX11_back_0 rfl ?_
  refine sz_getR dX11_back_1 flX11_74 kd0 rfl rf0_10 ?_
  refine sz_aload_n dX11_back_4 rfl ?_
  refine sz_getR dX11_back_5 flX11_58 kd0 rfl rf0_7 ?_
  obtain ⟨q8, eq8, hf⟩ := gz_bd hf
  refine sz_callVi [.ref 6] [] dX11_back_8 mvX11_390 (Nat.le_of_ble_eq_true rfl) (by decide : 5 < 13) kd9 rfl (Nat.le_of_ble_eq_true rfl) (kX5_bringBack  (Or.inr (Or.inl rfl)) eq8) ?_
  refine sz_if_eq 27 dX11_back_11 (by decide) (fun c11 => ?_) (fun c11 => ?_)
  · have hf := gz_ip c11 hf
    refine sz_iconst dX11_back_27 (cIm1) ?_
    cases hf
    exact sz_iret dX11_back_28 rfl rfl ⟨rfl, rfl⟩
  · have hf := gz_in1 c11 hf
    refine sz_aload_n dX11_back_14 rfl ?_
    refine sz_getR dX11_back_15 flX11_58 kd0 rfl rf0_7 ?_
    refine sz_getR dX11_back_18 flX11_176 kd6 rfl rf6_0 ?_
    refine sz_bipush dX11_back_21 (cB49) ?_
    refine sz_ialdL dX11_back_23 kd22 vi49_61 tn49 ?_
    refine sz_goto 28 dX11_back_24 (by decide) ?_
    cases hf
    exact sz_iret dX11_back_28 rfl rfl ⟨rfl, rfl⟩
def fX11_count (La : gz_L)  (x1 : Int32) (g : gz_S) : Option (Int32 × gz_S) :=
  if x1 = 0 then (fX6_cells La  6 g).bind (fun q76 => some (q76.1, q76.2)) else if x1 = 1 then some (g.1 22 60, g) else if x1 = 2 then some (g.1 0 13, g) else if x1 = 3 then some (g.1 0 14, g) else if x1 = 4 then some (g.1 1 1, g) else if x1 = 5 then some (g.1 0 15, g) else if x1 = 6 then some (g.1 22 49, g) else if x1 = 7 then some (g.1 22 48, g) else if x1 = 8 then some (g.1 22 46, g) else if x1 = 9 then some (g.1 22 47, g) else if x1 = 10 then some (g.1 0 16, g) else if x1 = 11 then some (g.1 11 0, g) else if x1 = 12 then (fX5_logLength La  6 g).bind (fun q175 => some (q175.1, q175.2)) else if x1 = 13 then some (g.1 9 0, g) else some ((-1000000), g)
set_option maxRecDepth 100000 in
set_option maxHeartbeats 4000000 in
theorem kX11_count {La : gz_L}  {x1 : Int32} {g : gz_S} {r : Int32 × gz_S}  (hf : fX11_count La  x1 g = some r) : gz_K La 3 mX11_count [.ref 0, .int x1] g (gz_Fi r) := by
  unfold fX11_count at hf
  refine gz_K.of 0 (by decide +kernel) rfl ?_
  show gz_J La 3 mX11_count 0 [some (.ref 0), some (.int x1)] [] g (gz_Fi r)
  refine sz_iload_n dX11_count_0 rfl ?_
  by_cases c1_0 : x1 = 0
  · have hf := gz_ip c1_0 hf
    refine sz_tableIn 72 dX11_count_1 (by rw [c1_0]; decide) (by rw [c1_0]; decide) (by rw [c1_0]; rfl) (by decide) ?_
    refine sz_aload_n dX11_count_72 rfl ?_
    refine sz_getR dX11_count_73 flX11_58 kd0 rfl rf0_7 ?_
    obtain ⟨q76, eq76, hf⟩ := gz_bd hf
    refine sz_callVi [] [] dX11_count_76 mvX11_153 (Nat.le_of_ble_eq_true rfl) (by decide : 6 < 13) kd6 rfl (Nat.le_of_ble_eq_true rfl) (kX6_cells  (Or.inr (Or.inl rfl)) eq76) ?_
    cases hf
    exact sz_iret dX11_count_79 rfl rfl ⟨rfl, rfl⟩
  have hf := gz_in1 c1_0 hf
  by_cases c1_1 : x1 = 1
  · have hf := gz_ip c1_1 hf
    refine sz_tableIn 80 dX11_count_1 (by rw [c1_1]; decide) (by rw [c1_1]; decide) (by rw [c1_1]; rfl) (by decide) ?_
    refine sz_aload_n dX11_count_80 rfl ?_
    refine sz_getR dX11_count_81 flX11_58 kd0 rfl rf0_7 ?_
    refine sz_getR dX11_count_84 flX11_176 kd6 rfl rf6_0 ?_
    refine sz_bipush dX11_count_87 (cB60) ?_
    refine sz_ialdL dX11_count_89 kd22 vi60_61 tn60 ?_
    cases hf
    exact sz_iret dX11_count_90 rfl rfl ⟨rfl, rfl⟩
  have hf := gz_in1 c1_1 hf
  by_cases c1_2 : x1 = 2
  · have hf := gz_ip c1_2 hf
    refine sz_tableIn 91 dX11_count_1 (by rw [c1_2]; decide) (by rw [c1_2]; decide) (by rw [c1_2]; rfl) (by decide) ?_
    refine sz_aload_n dX11_count_91 rfl ?_
    refine sz_getI dX11_count_92 flX11_129 kd0 rfl ?_
    cases hf
    exact sz_iret dX11_count_95 rfl rfl ⟨rfl, rfl⟩
  have hf := gz_in1 c1_2 hf
  by_cases c1_3 : x1 = 3
  · have hf := gz_ip c1_3 hf
    refine sz_tableIn 96 dX11_count_1 (by rw [c1_3]; decide) (by rw [c1_3]; decide) (by rw [c1_3]; rfl) (by decide) ?_
    refine sz_aload_n dX11_count_96 rfl ?_
    refine sz_getI dX11_count_97 flX11_136 kd0 rfl ?_
    cases hf
    exact sz_iret dX11_count_100 rfl rfl ⟨rfl, rfl⟩
  have hf := gz_in1 c1_3 hf
  by_cases c1_4 : x1 = 4
  · have hf := gz_ip c1_4 hf
    refine sz_tableIn 101 dX11_count_1 (by rw [c1_4]; decide) (by rw [c1_4]; decide) (by rw [c1_4]; rfl) (by decide) ?_
    refine sz_aload_n dX11_count_101 rfl ?_
    refine sz_getR dX11_count_102 flX11_10 kd0 rfl rf0_0 ?_
    refine sz_getI dX11_count_105 flX11_105 kd1 rfl ?_
    cases hf
    exact sz_iret dX11_count_108 rfl rfl ⟨rfl, rfl⟩
  have hf := gz_in1 c1_4 hf
  by_cases c1_5 : x1 = 5
  · have hf := gz_ip c1_5 hf
    refine sz_tableIn 109 dX11_count_1 (by rw [c1_5]; decide) (by rw [c1_5]; decide) (by rw [c1_5]; rfl) (by decide) ?_
    refine sz_aload_n dX11_count_109 rfl ?_
    refine sz_getI dX11_count_110 flX11_94 kd0 rfl ?_
    cases hf
    exact sz_iret dX11_count_113 rfl rfl ⟨rfl, rfl⟩
  have hf := gz_in1 c1_5 hf
  by_cases c1_6 : x1 = 6
  · have hf := gz_ip c1_6 hf
    refine sz_tableIn 114 dX11_count_1 (by rw [c1_6]; decide) (by rw [c1_6]; decide) (by rw [c1_6]; rfl) (by decide) ?_
    refine sz_aload_n dX11_count_114 rfl ?_
    refine sz_getR dX11_count_115 flX11_58 kd0 rfl rf0_7 ?_
    refine sz_getR dX11_count_118 flX11_176 kd6 rfl rf6_0 ?_
    refine sz_bipush dX11_count_121 (cB49) ?_
    refine sz_ialdL dX11_count_123 kd22 vi49_61 tn49 ?_
    cases hf
    exact sz_iret dX11_count_124 rfl rfl ⟨rfl, rfl⟩
  have hf := gz_in1 c1_6 hf
  by_cases c1_7 : x1 = 7
  · have hf := gz_ip c1_7 hf
    refine sz_tableIn 125 dX11_count_1 (by rw [c1_7]; decide) (by rw [c1_7]; decide) (by rw [c1_7]; rfl) (by decide) ?_
    refine sz_aload_n dX11_count_125 rfl ?_
    refine sz_getR dX11_count_126 flX11_58 kd0 rfl rf0_7 ?_
    refine sz_getR dX11_count_129 flX11_176 kd6 rfl rf6_0 ?_
    refine sz_bipush dX11_count_132 (cB48) ?_
    refine sz_ialdL dX11_count_134 kd22 vi48_61 tn48 ?_
    cases hf
    exact sz_iret dX11_count_135 rfl rfl ⟨rfl, rfl⟩
  have hf := gz_in1 c1_7 hf
  by_cases c1_8 : x1 = 8
  · have hf := gz_ip c1_8 hf
    refine sz_tableIn 136 dX11_count_1 (by rw [c1_8]; decide) (by rw [c1_8]; decide) (by rw [c1_8]; rfl) (by decide) ?_
    refine sz_aload_n dX11_count_136 rfl ?_
    refine sz_getR dX11_count_137 flX11_58 kd0 rfl rf0_7 ?_
    refine sz_getR dX11_count_140 flX11_176 kd6 rfl rf6_0 ?_
    refine sz_bipush dX11_count_143 (cB46) ?_
    refine sz_ialdL dX11_count_145 kd22 vi46_61 tn46 ?_
    cases hf
    exact sz_iret dX11_count_146 rfl rfl ⟨rfl, rfl⟩
  have hf := gz_in1 c1_8 hf
  by_cases c1_9 : x1 = 9
  · have hf := gz_ip c1_9 hf
    refine sz_tableIn 147 dX11_count_1 (by rw [c1_9]; decide) (by rw [c1_9]; decide) (by rw [c1_9]; rfl) (by decide) ?_
    refine sz_aload_n dX11_count_147 rfl ?_
    refine sz_getR dX11_count_148 flX11_58 kd0 rfl rf0_7 ?_
    refine sz_getR dX11_count_151 flX11_176 kd6 rfl rf6_0 ?_
    refine sz_bipush dX11_count_154 (cB47) ?_
    refine sz_ialdL dX11_count_156 kd22 vi47_61 tn47 ?_
    cases hf
    exact sz_iret dX11_count_157 rfl rfl ⟨rfl, rfl⟩
  have hf := gz_in1 c1_9 hf
  by_cases c1_10 : x1 = 10
  · have hf := gz_ip c1_10 hf
    refine sz_tableIn 158 dX11_count_1 (by rw [c1_10]; decide) (by rw [c1_10]; decide) (by rw [c1_10]; rfl) (by decide) ?_
    refine sz_aload_n dX11_count_158 rfl ?_
    refine sz_getI dX11_count_159 flX11_98 kd0 rfl ?_
    cases hf
    exact sz_iret dX11_count_162 rfl rfl ⟨rfl, rfl⟩
  have hf := gz_in1 c1_10 hf
  by_cases c1_11 : x1 = 11
  · have hf := gz_ip c1_11 hf
    refine sz_tableIn 163 dX11_count_1 (by rw [c1_11]; decide) (by rw [c1_11]; decide) (by rw [c1_11]; rfl) (by decide) ?_
    refine sz_aload_n dX11_count_163 rfl ?_
    refine sz_getR dX11_count_164 flX11_90 kd0 rfl rf0_12 ?_
    refine sz_getI dX11_count_167 flX11_319 kd11 rfl ?_
    cases hf
    exact sz_iret dX11_count_170 rfl rfl ⟨rfl, rfl⟩
  have hf := gz_in1 c1_11 hf
  by_cases c1_12 : x1 = 12
  · have hf := gz_ip c1_12 hf
    refine sz_tableIn 171 dX11_count_1 (by rw [c1_12]; decide) (by rw [c1_12]; decide) (by rw [c1_12]; rfl) (by decide) ?_
    refine sz_aload_n dX11_count_171 rfl ?_
    refine sz_getR dX11_count_172 flX11_58 kd0 rfl rf0_7 ?_
    obtain ⟨q175, eq175, hf⟩ := gz_bd hf
    refine sz_callSi [.ref 6] [] dX11_count_175 msX11_256 (Nat.le_of_ble_eq_true rfl) (Nat.le_of_ble_eq_true rfl) (kX5_logLength  (Or.inr (Or.inl rfl)) eq175) ?_
    cases hf
    exact sz_iret dX11_count_178 rfl rfl ⟨rfl, rfl⟩
  have hf := gz_in1 c1_12 hf
  by_cases c1_13 : x1 = 13
  · have hf := gz_ip c1_13 hf
    refine sz_tableIn 179 dX11_count_1 (by rw [c1_13]; decide) (by rw [c1_13]; decide) (by rw [c1_13]; rfl) (by decide) ?_
    refine sz_aload_n dX11_count_179 rfl ?_
    refine sz_getR dX11_count_180 flX11_74 kd0 rfl rf0_10 ?_
    refine sz_getI dX11_count_183 flX11_253 kd9 rfl ?_
    cases hf
    exact sz_iret dX11_count_186 rfl rfl ⟨rfl, rfl⟩
  have hf := gz_in1 c1_13 hf
  refine sz_tableOut 187 dX11_count_1 (by have z0 := lv_neT c1_0 (a := 0) (by decide); have z1 := lv_neT c1_1 (a := 1) (by decide); have z2 := lv_neT c1_2 (a := 2) (by decide); have z3 := lv_neT c1_3 (a := 3) (by decide); have z4 := lv_neT c1_4 (a := 4) (by decide); have z5 := lv_neT c1_5 (a := 5) (by decide); have z6 := lv_neT c1_6 (a := 6) (by decide); have z7 := lv_neT c1_7 (a := 7) (by decide); have z8 := lv_neT c1_8 (a := 8) (by decide); have z9 := lv_neT c1_9 (a := 9) (by decide); have z10 := lv_neT c1_10 (a := 10) (by decide); have z11 := lv_neT c1_11 (a := 11) (by decide); have z12 := lv_neT c1_12 (a := 12) (by decide); have z13 := lv_neT c1_13 (a := 13) (by decide); omega) (by decide) ?_
  refine sz_ldcw dX11_count_187 cstX11_270 ?_
  cases hf
  exact sz_iret dX11_count_190 rfl rfl ⟨rfl, rfl⟩
