def fX0_part (La : gz_L)  (w0 : Nat) (x1 : Int32) (x2 : Int32) (g : gz_S) : Option (Int32 × gz_S) :=
  if gz_ok ((x1 * 3) + x2) (La.2.2 (w0 + 1)) then some (g.1 (w0 + 1) (Int32.toNatClampNeg ((x1 * 3) + x2)), g) else none
set_option maxRecDepth 100000 in
set_option maxHeartbeats 4000000 in
theorem kX0_part {La : gz_L}  {w0 : Nat} {x1 : Int32} {x2 : Int32} {g : gz_S} {r : Int32 × gz_S} (hw0 : gz_ev La w0) (hf : fX0_part La  w0 x1 x2 g = some r) : gz_K La 1 mX0_part [.ref w0, .int x1, .int x2] g (gz_Fi r) := by
  unfold fX0_part at hf
  refine gz_K.of 0 (by decide +kernel) rfl ?_
  show gz_J La 1 mX0_part 0 [some (.ref w0), some (.int x1), some (.int x2)] [] g (gz_Fi r)
  refine sz_aload_n dX0_part_0 rfl ?_
  refine sz_getR dX0_part_1 flX0_7 (kdE hw0) rfl (rfE hw0) ?_
  refine sz_iload_n dX0_part_4 rfl ?_
  refine sz_iconst dX0_part_5 (cI3) ?_
  refine sz_imul dX0_part_6 ?_
  refine sz_iload_n dX0_part_7 rfl ?_
  refine sz_iadd dX0_part_8 ?_
  obtain ⟨c9, hf⟩ := gz_gd hf
  refine sz_ialdL dX0_part_9 (kdEp hw0) c9 rfl ?_
  cases hf
  exact sz_iret dX0_part_10 rfl rfl ⟨rfl, rfl⟩
def fX0_isHour (La : gz_L)  (w0 : Nat) (x1 : Int32) (g : gz_S) : Option (Int32 × gz_S) :=
  (fX0_part La  w0 x1 0 g).bind (fun q3 => if q3.1 = 0 then some (1, q3.2) else some (0, q3.2))
set_option maxRecDepth 100000 in
set_option maxHeartbeats 4000000 in
theorem kX0_isHour {La : gz_L}  {w0 : Nat} {x1 : Int32} {g : gz_S} {r : Int32 × gz_S} (hw0 : gz_ev La w0) (hf : fX0_isHour La  w0 x1 g = some r) : gz_K La 2 mX0_isHour [.ref w0, .int x1] g (gz_Fi r) := by
  unfold fX0_isHour at hf
  refine gz_K.of 0 (by decide +kernel) rfl ?_
  show gz_J La 2 mX0_isHour 0 [some (.ref w0), some (.int x1)] [] g (gz_Fi r)
  refine sz_aload_n dX0_isHour_0 rfl ?_
  refine sz_iload_n dX0_isHour_1 rfl ?_
  refine sz_iconst dX0_isHour_2 (cI0) ?_
  obtain ⟨q3, eq3, hf⟩ := gz_bd hf
  refine sz_callVi [.int x1, .int 0] [] dX0_isHour_3 mvX0_17 (Nat.le_of_ble_eq_true rfl) (by decide : 0 < 13) (kdE hw0) rfl (Nat.le_of_ble_eq_true rfl) (kX0_part  hw0 eq3) ?_
  refine sz_if_ne 13 dX0_isHour_6 (by decide) (fun c6 => ?_) (fun c6 => ?_)
  · have hf := gz_in1 c6 hf
    refine sz_iconst dX0_isHour_13 (cI0) ?_
    cases hf
    exact sz_iret dX0_isHour_14 rfl rfl ⟨rfl, rfl⟩
  · have hf := gz_ip c6 hf
    refine sz_iconst dX0_isHour_9 (cI1) ?_
    refine sz_goto 14 dX0_isHour_10 (by decide) ?_
    cases hf
    exact sz_iret dX0_isHour_14 rfl rfl ⟨rfl, rfl⟩
def fX0_mayBe (La : gz_L)  (w0 : Nat) (x1 : Int32) (w2 : Nat) (g : gz_S) : Option (Int32 × gz_S) :=
  (fX0_part La  w0 x1 0 g).bind (fun q3 => if q3.1 = 0 then (fX6_mayPassHour La  w2 q3.2).bind (fun q33 => if q33.1 = 0 ∨ q33.1 = 1 then some (q33.1, q33.2) else none) else if q3.1 = 1 then (fX0_part La  w0 x1 1 q3.2).bind (fun q41 => (fX0_part La  w0 x1 2 q41.2).bind (fun q47 => (fX6_mayBegin La  w2 q41.1 q47.1 q47.2).bind (fun q50 => if q50.1 = 0 ∨ q50.1 = 1 then some (q50.1, q50.2) else none))) else if q3.1 = 2 then (fX0_part La  w0 x1 1 q3.2).bind (fun q58 => (fX6_mayTurnTide La  w2 q58.1 q58.2).bind (fun q61 => if q61.1 = 0 ∨ q61.1 = 1 then some (q61.1, q61.2) else none)) else (fX0_part La  w0 x1 1 q3.2).bind (fun q69 => (fX6_maySweep La  w2 q69.1 q69.2).bind (fun q72 => if q72.1 = 0 ∨ q72.1 = 1 then some (q72.1, q72.2) else none)))
set_option maxRecDepth 100000 in
set_option maxHeartbeats 4000000 in
theorem kX0_mayBe {La : gz_L}  {w0 : Nat} {x1 : Int32} {w2 : Nat} {g : gz_S} {r : Int32 × gz_S} (hw0 : gz_ev La w0) (hw2 : gz_sc w2) (hf : fX0_mayBe La  w0 x1 w2 g = some r) : gz_K La 4 mX0_mayBe [.ref w0, .int x1, .ref w2] g (gz_Fi r) := by
  unfold fX0_mayBe at hf
  refine gz_K.of 0 (by decide +kernel) rfl ?_
  show gz_J La 4 mX0_mayBe 0 [some (.ref w0), some (.int x1), some (.ref w2)] [] g (gz_Fi r)
  refine sz_aload_n dX0_mayBe_0 rfl ?_
  refine sz_iload_n dX0_mayBe_1 rfl ?_
  refine sz_iconst dX0_mayBe_2 (cI0) ?_
  obtain ⟨q3, eq3, hf⟩ := gz_bd hf
  refine sz_callVi [.int x1, .int 0] [] dX0_mayBe_3 mvX0_17 (Nat.le_of_ble_eq_true rfl) (by decide : 0 < 13) (kdE hw0) rfl (Nat.le_of_ble_eq_true rfl) (kX0_part  hw0 eq3) ?_
  by_cases c6_0 : q3.1 = 0
  · have hf := gz_ip c6_0 hf
    refine sz_tableIn 32 dX0_mayBe_6 (by rw [c6_0]; decide) (by rw [c6_0]; decide) (by rw [c6_0]; rfl) (by decide) ?_
    refine sz_aload_n dX0_mayBe_32 rfl ?_
    obtain ⟨q33, eq33, hf⟩ := gz_bd hf
    refine sz_callVi [] [] dX0_mayBe_33 mvX0_21 (Nat.le_of_ble_eq_true rfl) (by decide : 6 < 13) (kdS hw2) rfl (Nat.le_of_ble_eq_true rfl) (kX6_mayPassHour  hw2 eq33) ?_
    obtain ⟨c36, hf⟩ := gz_gd hf
    cases hf
    exact sz_iret dX0_mayBe_36 rfl (gz_nbx c36) ⟨rfl, rfl⟩
  have hf := gz_in1 c6_0 hf
  by_cases c6_1 : q3.1 = 1
  · have hf := gz_ip c6_1 hf
    refine sz_tableIn 37 dX0_mayBe_6 (by rw [c6_1]; decide) (by rw [c6_1]; decide) (by rw [c6_1]; rfl) (by decide) ?_
    refine sz_aload_n dX0_mayBe_37 rfl ?_
    refine sz_aload_n dX0_mayBe_38 rfl ?_
    refine sz_iload_n dX0_mayBe_39 rfl ?_
    refine sz_iconst dX0_mayBe_40 (cI1) ?_
    obtain ⟨q41, eq41, hf⟩ := gz_bd hf
    refine sz_callVi [.int x1, .int 1] [.ref w2] dX0_mayBe_41 mvX0_17 (Nat.le_of_ble_eq_true rfl) (by decide : 0 < 13) (kdE hw0) rfl (Nat.le_of_ble_eq_true rfl) (kX0_part  hw0 eq41) ?_
    refine sz_aload_n dX0_mayBe_44 rfl ?_
    refine sz_iload_n dX0_mayBe_45 rfl ?_
    refine sz_iconst dX0_mayBe_46 (cI2) ?_
    obtain ⟨q47, eq47, hf⟩ := gz_bd hf
    refine sz_callVi [.int x1, .int 2] [.int q41.1, .ref w2] dX0_mayBe_47 mvX0_17 (Nat.le_of_ble_eq_true rfl) (by decide : 0 < 13) (kdE hw0) rfl (Nat.le_of_ble_eq_true rfl) (kX0_part  hw0 eq47) ?_
    obtain ⟨q50, eq50, hf⟩ := gz_bd hf
    refine sz_callVi [.int q41.1, .int q47.1] [] dX0_mayBe_50 mvX0_27 (Nat.le_of_ble_eq_true rfl) (by decide : 6 < 13) (kdS hw2) rfl (Nat.le_of_ble_eq_true rfl) (kX6_mayBegin  hw2 eq50) ?_
    obtain ⟨c53, hf⟩ := gz_gd hf
    cases hf
    exact sz_iret dX0_mayBe_53 rfl (gz_nbx c53) ⟨rfl, rfl⟩
  have hf := gz_in1 c6_1 hf
  by_cases c6_2 : q3.1 = 2
  · have hf := gz_ip c6_2 hf
    refine sz_tableIn 54 dX0_mayBe_6 (by rw [c6_2]; decide) (by rw [c6_2]; decide) (by rw [c6_2]; rfl) (by decide) ?_
    refine sz_aload_n dX0_mayBe_54 rfl ?_
    refine sz_aload_n dX0_mayBe_55 rfl ?_
    refine sz_iload_n dX0_mayBe_56 rfl ?_
    refine sz_iconst dX0_mayBe_57 (cI1) ?_
    obtain ⟨q58, eq58, hf⟩ := gz_bd hf
    refine sz_callVi [.int x1, .int 1] [.ref w2] dX0_mayBe_58 mvX0_17 (Nat.le_of_ble_eq_true rfl) (by decide : 0 < 13) (kdE hw0) rfl (Nat.le_of_ble_eq_true rfl) (kX0_part  hw0 eq58) ?_
    obtain ⟨q61, eq61, hf⟩ := gz_bd hf
    refine sz_callVi [.int q58.1] [] dX0_mayBe_61 mvX0_31 (Nat.le_of_ble_eq_true rfl) (by decide : 6 < 13) (kdS hw2) rfl (Nat.le_of_ble_eq_true rfl) (kX6_mayTurnTide  hw2 eq61) ?_
    obtain ⟨c64, hf⟩ := gz_gd hf
    cases hf
    exact sz_iret dX0_mayBe_64 rfl (gz_nbx c64) ⟨rfl, rfl⟩
  have hf := gz_in1 c6_2 hf
  refine sz_tableOut 65 dX0_mayBe_6 (by have z0 := lv_neT c6_0 (a := 0) (by decide); have z1 := lv_neT c6_1 (a := 1) (by decide); have z2 := lv_neT c6_2 (a := 2) (by decide); omega) (by decide) ?_
  refine sz_aload_n dX0_mayBe_65 rfl ?_
  refine sz_aload_n dX0_mayBe_66 rfl ?_
  refine sz_iload_n dX0_mayBe_67 rfl ?_
  refine sz_iconst dX0_mayBe_68 (cI1) ?_
  obtain ⟨q69, eq69, hf⟩ := gz_bd hf
  refine sz_callVi [.int x1, .int 1] [.ref w2] dX0_mayBe_69 mvX0_17 (Nat.le_of_ble_eq_true rfl) (by decide : 0 < 13) (kdE hw0) rfl (Nat.le_of_ble_eq_true rfl) (kX0_part  hw0 eq69) ?_
  obtain ⟨q72, eq72, hf⟩ := gz_bd hf
  refine sz_callVi [.int q69.1] [] dX0_mayBe_72 mvX0_35 (Nat.le_of_ble_eq_true rfl) (by decide : 6 < 13) (kdS hw2) rfl (Nat.le_of_ble_eq_true rfl) (kX6_maySweep  hw2 eq72) ?_
  obtain ⟨c75, hf⟩ := gz_gd hf
  cases hf
  exact sz_iret dX0_mayBe_75 rfl (gz_nbx c75) ⟨rfl, rfl⟩
def fX0_doByHand (La : gz_L)  (w0 : Nat) (x1 : Int32) (w2 : Nat) (g : gz_S) : Option (gz_S) :=
  (fX0_part La  w0 x1 0 g).bind (fun q3 => if q3.1 = 1 then (fX0_part La  w0 x1 1 q3.2).bind (fun q36 => (fX0_part La  w0 x1 2 q36.2).bind (fun q42 => (fX6_payAndBegin La  w2 q36.1 q42.1 q42.2).bind (fun q45 => some q45))) else if q3.1 = 2 then (fX0_part La  w0 x1 1 q3.2).bind (fun q60 => gz_let (gz_wi q60.2 (w2 + 16) 46 q60.1) (fun g63 => some g63)) else if q3.1 = 3 then (fX0_part La  w0 x1 1 q3.2).bind (fun q71 => (fX6_sweepOff La  w2 q71.1 q71.2).bind (fun q74 => some q74.2)) else some q3.2)
set_option maxRecDepth 100000 in
set_option maxHeartbeats 4000000 in
theorem kX0_doByHand {La : gz_L}  {w0 : Nat} {x1 : Int32} {w2 : Nat} {g : gz_S} {r : gz_S} (hw0 : gz_ev La w0) (hw2 : gz_sc w2) (hf : fX0_doByHand La  w0 x1 w2 g = some r) : gz_K La 3 mX0_doByHand [.ref w0, .int x1, .ref w2] g (gz_Fv r) := by
  unfold fX0_doByHand at hf
  refine gz_K.of 0 (by decide +kernel) rfl ?_
  show gz_J La 3 mX0_doByHand 0 [some (.ref w0), some (.int x1), some (.ref w2)] [] g (gz_Fv r)
  refine sz_aload_n dX0_doByHand_0 rfl ?_
  refine sz_iload_n dX0_doByHand_1 rfl ?_
  refine sz_iconst dX0_doByHand_2 (cI0) ?_
  obtain ⟨q3, eq3, hf⟩ := gz_bd hf
  refine sz_callVi [.int x1, .int 0] [] dX0_doByHand_3 mvX0_17 (Nat.le_of_ble_eq_true rfl) (by decide : 0 < 13) (kdE hw0) rfl (Nat.le_of_ble_eq_true rfl) (kX0_part  hw0 eq3) ?_
  by_cases c6_1 : q3.1 = 1
  · have hf := gz_ip c6_1 hf
    refine sz_tableIn 32 dX0_doByHand_6 (by rw [c6_1]; decide) (by rw [c6_1]; decide) (by rw [c6_1]; rfl) (by decide) ?_
    refine sz_aload_n dX0_doByHand_32 rfl ?_
    refine sz_aload_n dX0_doByHand_33 rfl ?_
    refine sz_iload_n dX0_doByHand_34 rfl ?_
    refine sz_iconst dX0_doByHand_35 (cI1) ?_
    obtain ⟨q36, eq36, hf⟩ := gz_bd hf
    refine sz_callVi [.int x1, .int 1] [.ref w2] dX0_doByHand_36 mvX0_17 (Nat.le_of_ble_eq_true rfl) (by decide : 0 < 13) (kdE hw0) rfl (Nat.le_of_ble_eq_true rfl) (kX0_part  hw0 eq36) ?_
    refine sz_aload_n dX0_doByHand_39 rfl ?_
    refine sz_iload_n dX0_doByHand_40 rfl ?_
    refine sz_iconst dX0_doByHand_41 (cI2) ?_
    obtain ⟨q42, eq42, hf⟩ := gz_bd hf
    refine sz_callVi [.int x1, .int 2] [.int q36.1, .ref w2] dX0_doByHand_42 mvX0_17 (Nat.le_of_ble_eq_true rfl) (by decide : 0 < 13) (kdE hw0) rfl (Nat.le_of_ble_eq_true rfl) (kX0_part  hw0 eq42) ?_
    obtain ⟨q45, eq45, hf⟩ := gz_bd hf
    refine sz_callVv [.int q36.1, .int q42.1] [] dX0_doByHand_45 mvX0_38 (Nat.le_of_ble_eq_true rfl) (by decide : 6 < 13) (kdS hw2) rfl (Nat.le_of_ble_eq_true rfl) (kX6_payAndBegin  hw2 eq45) ?_
    refine sz_goto 81 dX0_doByHand_48 (by decide) ?_
    cases hf
    exact sz_ret dX0_doByHand_81 rfl ⟨rfl, rfl⟩
  have hf := gz_in1 c6_1 hf
  by_cases c6_2 : q3.1 = 2
  · have hf := gz_ip c6_2 hf
    refine sz_tableIn 51 dX0_doByHand_6 (by rw [c6_2]; decide) (by rw [c6_2]; decide) (by rw [c6_2]; rfl) (by decide) ?_
    refine sz_aload_n dX0_doByHand_51 rfl ?_
    refine sz_getR dX0_doByHand_52 flX0_42 (kdS hw2) rfl (rfS hw2) ?_
    refine sz_bipush dX0_doByHand_55 (cB46) ?_
    refine sz_aload_n dX0_doByHand_57 rfl ?_
    refine sz_iload_n dX0_doByHand_58 rfl ?_
    refine sz_iconst dX0_doByHand_59 (cI1) ?_
    obtain ⟨q60, eq60, hf⟩ := gz_bd hf
    refine sz_callVi [.int x1, .int 1] [.int 46, .ref (w2 + 16)] dX0_doByHand_60 mvX0_17 (Nat.le_of_ble_eq_true rfl) (by decide : 0 < 13) (kdE hw0) rfl (Nat.le_of_ble_eq_true rfl) (kX0_part  hw0 eq60) ?_
    obtain ⟨g63, eg63, hf⟩ := gz_lt hf
    refine sz_iastL dX0_doByHand_63 (kdSv hw2) vi46_61 tn46 eg63 ?_
    refine sz_goto 81 dX0_doByHand_64 (by decide) ?_
    cases hf
    exact sz_ret dX0_doByHand_81 rfl ⟨rfl, rfl⟩
  have hf := gz_in1 c6_2 hf
  by_cases c6_3 : q3.1 = 3
  · have hf := gz_ip c6_3 hf
    refine sz_tableIn 67 dX0_doByHand_6 (by rw [c6_3]; decide) (by rw [c6_3]; decide) (by rw [c6_3]; rfl) (by decide) ?_
    refine sz_aload_n dX0_doByHand_67 rfl ?_
    refine sz_aload_n dX0_doByHand_68 rfl ?_
    refine sz_iload_n dX0_doByHand_69 rfl ?_
    refine sz_iconst dX0_doByHand_70 (cI1) ?_
    obtain ⟨q71, eq71, hf⟩ := gz_bd hf
    refine sz_callVi [.int x1, .int 1] [.ref w2] dX0_doByHand_71 mvX0_17 (Nat.le_of_ble_eq_true rfl) (by decide : 0 < 13) (kdE hw0) rfl (Nat.le_of_ble_eq_true rfl) (kX0_part  hw0 eq71) ?_
    obtain ⟨q74, eq74, hf⟩ := gz_bd hf
    refine sz_callVi [.int q71.1] [] dX0_doByHand_74 mvX0_45 (Nat.le_of_ble_eq_true rfl) (by decide : 6 < 13) (kdS hw2) rfl (Nat.le_of_ble_eq_true rfl) (kX6_sweepOff  hw2 eq74) ?_
    refine sz_pop dX0_doByHand_77 rfl ?_
    refine sz_goto 81 dX0_doByHand_78 (by decide) ?_
    cases hf
    exact sz_ret dX0_doByHand_81 rfl ⟨rfl, rfl⟩
  have hf := gz_in1 c6_3 hf
  refine sz_tableOut 81 dX0_doByHand_6 (by have z0 := lv_neT c6_1 (a := 1) (by decide); have z1 := lv_neT c6_2 (a := 2) (by decide); have z2 := lv_neT c6_3 (a := 3) (by decide); omega) (by decide) ?_
  cases hf
  exact sz_ret dX0_doByHand_81 rfl ⟨rfl, rfl⟩
def fX9_rewind (La : gz_L)   (g : gz_S) : Option (gz_S) :=
  gz_let (gz_wi g 1 2 0) (fun g2 => gz_let (gz_wi g2 1 3 (-1)) (fun g7 => some g7))
set_option maxRecDepth 100000 in
set_option maxHeartbeats 4000000 in
theorem kX9_rewind {La : gz_L}   {g : gz_S} {r : gz_S}  (hf : fX9_rewind La   g = some r) : gz_K La 1 mX9_rewind [.ref 1] g (gz_Fv r) := by
  unfold fX9_rewind at hf
  refine gz_K.of 0 (by decide +kernel) rfl ?_
  show gz_J La 1 mX9_rewind 0 [some (.ref 1)] [] g (gz_Fv r)
  refine sz_aload_n dX9_rewind_0 rfl ?_
  refine sz_iconst dX9_rewind_1 (cI0) ?_
  obtain ⟨g2, eg2, hf⟩ := gz_lt hf
  refine sz_putI2 dX9_rewind_2 flX9_19 kd1 fi9_2 eg2 ?_
  refine sz_aload_n dX9_rewind_5 rfl ?_
  refine sz_iconst dX9_rewind_6 (cIm1) ?_
  obtain ⟨g7, eg7, hf⟩ := gz_lt hf
  refine sz_putI2 dX9_rewind_7 flX9_22 kd1 fi9_3 eg7 ?_
  cases hf
  exact sz_ret dX9_rewind_10 rfl ⟨rfl, rfl⟩
def fX9_next_0 (La : gz_L)   (k38 : gz_S → Option (Int32 × gz_S)) : Nat → gz_S → Option (Int32 × gz_S)
  | 0, _ => none
  | n + 1, g => if (g.1 1 1) ≤ (g.1 1 2) then k38  g else if gz_ok (g.1 1 2) 240 then if (g.1 14 (Int32.toNatClampNeg (g.1 1 2))) = 32 then gz_let (gz_wi g 1 2 ((g.1 1 2) + 1)) (fun g32 => fX9_next_0 La   k38 n  g32) else k38  g else none
set_option maxRecDepth 100000 in
set_option maxHeartbeats 4000000 in
theorem tX9_next_0 {La : gz_L}   {k38 : gz_S → Option (Int32 × gz_S)}  (hk38 : ∀  (g : gz_S) (r : Int32 × gz_S), k38  g = some r → gz_J La 1 mX9_next 38 [some (.ref 1)] [] g (gz_Fi r)) : ∀ (n : Nat)  (g : gz_S) (r : Int32 × gz_S), fX9_next_0 La   k38 n  g = some r → gz_J La 1 mX9_next 0 [some (.ref 1)] [] g (gz_Fi r) := by
  intro n
  induction n with
  | zero => intro  g r hf; exact nomatch (show (none : Option (Int32 × gz_S)) = some r from hf)
  | succ n ih =>
    intro  g r hf
    unfold fX9_next_0 at hf
    refine sz_aload_n dX9_next_0 rfl ?_
    refine sz_getI dX9_next_1 flX9_19 kd1 rfl ?_
    refine sz_aload_n dX9_next_4 rfl ?_
    refine sz_getI dX9_next_5 flX9_15 kd1 rfl ?_
    refine sz_icmp_ge 38 dX9_next_8 (by decide) (fun c8 => ?_) (fun c8 => ?_)
    · have hf := gz_ip c8 hf
      exact hk38  _ _ hf
    · have hf := gz_in1 c8 hf
      refine sz_aload_n dX9_next_11 rfl ?_
      refine sz_getR dX9_next_12 flX9_11 kd1 rfl rf1_0 ?_
      refine sz_aload_n dX9_next_15 rfl ?_
      refine sz_getI dX9_next_16 flX9_19 kd1 rfl ?_
      obtain ⟨c19, hf⟩ := gz_gd hf
      refine sz_ialdL dX9_next_19 kd14 c19 rfl ?_
      refine sz_bipush dX9_next_20 (cB32) ?_
      refine sz_icmp_ne 38 dX9_next_22 (by decide) (fun c22 => ?_) (fun c22 => ?_)
      · have hf := gz_in1 c22 hf
        exact hk38  _ _ hf
      · have hf := gz_ip c22 hf
        refine sz_aload_n dX9_next_25 rfl ?_
        refine sz_dup dX9_next_26 rfl ?_
        refine sz_getI dX9_next_27 flX9_19 kd1 rfl ?_
        refine sz_iconst dX9_next_30 (cI1) ?_
        refine sz_iadd dX9_next_31 ?_
        obtain ⟨g32, eg32, hf⟩ := gz_lt hf
        refine sz_putI2 dX9_next_32 flX9_19 kd1 fi9_2 eg32 ?_
        refine sz_goto 0 dX9_next_35 (by decide) ?_
        exact ih  _ _ hf
def fX9_next_38 (La : gz_L)     (g : gz_S) : Option (Int32 × gz_S) := if (g.1 1 1) ≤ (g.1 1 2) then some ((-1), g) else if gz_ok (g.1 1 2) 240 then some (g.1 14 (Int32.toNatClampNeg (g.1 1 2)), g) else none
set_option maxRecDepth 100000 in
set_option maxHeartbeats 4000000 in
theorem tX9_next_38 {La : gz_L}      : ∀  (g : gz_S) (r : Int32 × gz_S), fX9_next_38 La     g = some r → gz_J La 1 mX9_next 38 [some (.ref 1)] [] g (gz_Fi r) := by
  intro  g r hf
  unfold fX9_next_38 at hf
  refine sz_aload_n dX9_next_38 rfl ?_
  refine sz_getI dX9_next_39 flX9_19 kd1 rfl ?_
  refine sz_aload_n dX9_next_42 rfl ?_
  refine sz_getI dX9_next_43 flX9_15 kd1 rfl ?_
  refine sz_icmp_ge 61 dX9_next_46 (by decide) (fun c46 => ?_) (fun c46 => ?_)
  · have hf := gz_ip c46 hf
    refine sz_iconst dX9_next_61 (cIm1) ?_
    cases hf
    exact sz_iret dX9_next_62 rfl rfl ⟨rfl, rfl⟩
  · have hf := gz_in1 c46 hf
    refine sz_aload_n dX9_next_49 rfl ?_
    refine sz_getR dX9_next_50 flX9_11 kd1 rfl rf1_0 ?_
    refine sz_aload_n dX9_next_53 rfl ?_
    refine sz_getI dX9_next_54 flX9_19 kd1 rfl ?_
    obtain ⟨c57, hf⟩ := gz_gd hf
    refine sz_ialdL dX9_next_57 kd14 c57 rfl ?_
    refine sz_goto 62 dX9_next_58 (by decide) ?_
    cases hf
    exact sz_iret dX9_next_62 rfl rfl ⟨rfl, rfl⟩
def fX9_next (La : gz_L)   (g : gz_S) : Option (Int32 × gz_S) :=
  fX9_next_0 La   (fX9_next_38 La    ) gz_FU  g
set_option maxRecDepth 100000 in
set_option maxHeartbeats 4000000 in
theorem kX9_next {La : gz_L}   {g : gz_S} {r : Int32 × gz_S}  (hf : fX9_next La   g = some r) : gz_K La 1 mX9_next [.ref 1] g (gz_Fi r) := by
  unfold fX9_next at hf
  refine gz_K.of 0 (by decide +kernel) rfl ?_
  show gz_J La 1 mX9_next 0 [some (.ref 1)] [] g (gz_Fi r)
  exact tX9_next_0   (tX9_next_38   ) _  _ _ hf
def fX9_digitHere (La : gz_L)   (g : gz_S) : Option (Int32 × gz_S) :=
  if (g.1 1 1) ≤ (g.1 1 2) then some ((-1), g) else if gz_ok (g.1 1 2) 240 then if (g.1 14 (Int32.toNatClampNeg (g.1 1 2))) < 48 then some ((-1), g) else if gz_ok (g.1 1 2) 240 then if (g.1 14 (Int32.toNatClampNeg (g.1 1 2))) ≤ 57 then if gz_ok (g.1 1 2) 240 then some ((g.1 14 (Int32.toNatClampNeg (g.1 1 2))) - 48, g) else none else some ((-1), g) else none else none
set_option maxRecDepth 100000 in
set_option maxHeartbeats 4000000 in
theorem kX9_digitHere {La : gz_L}   {g : gz_S} {r : Int32 × gz_S}  (hf : fX9_digitHere La   g = some r) : gz_K La 1 mX9_digitHere [.ref 1] g (gz_Fi r) := by
  unfold fX9_digitHere at hf
  refine gz_K.of 0 (by decide +kernel) rfl ?_
  show gz_J La 1 mX9_digitHere 0 [some (.ref 1)] [] g (gz_Fi r)
  refine sz_aload_n dX9_digitHere_0 rfl ?_
  refine sz_getI dX9_digitHere_1 flX9_19 kd1 rfl ?_
  refine sz_aload_n dX9_digitHere_4 rfl ?_
  refine sz_getI dX9_digitHere_5 flX9_15 kd1 rfl ?_
  refine sz_icmp_ge 39 dX9_digitHere_8 (by decide) (fun c8 => ?_) (fun c8 => ?_)
  · have hf := gz_ip c8 hf
    refine sz_iconst dX9_digitHere_39 (cIm1) ?_
    cases hf
    exact sz_iret dX9_digitHere_40 rfl rfl ⟨rfl, rfl⟩
  · have hf := gz_in1 c8 hf
    refine sz_aload_n dX9_digitHere_11 rfl ?_
    refine sz_getR dX9_digitHere_12 flX9_11 kd1 rfl rf1_0 ?_
    refine sz_aload_n dX9_digitHere_15 rfl ?_
    refine sz_getI dX9_digitHere_16 flX9_19 kd1 rfl ?_
    obtain ⟨c19, hf⟩ := gz_gd hf
    refine sz_ialdL dX9_digitHere_19 kd14 c19 rfl ?_
    refine sz_bipush dX9_digitHere_20 (cB48) ?_
    refine sz_icmp_lt 39 dX9_digitHere_22 (by decide) (fun c22 => ?_) (fun c22 => ?_)
    · have hf := gz_ip c22 hf
      refine sz_iconst dX9_digitHere_39 (cIm1) ?_
      cases hf
      exact sz_iret dX9_digitHere_40 rfl rfl ⟨rfl, rfl⟩
    · have hf := gz_in1 c22 hf
      refine sz_aload_n dX9_digitHere_25 rfl ?_
      refine sz_getR dX9_digitHere_26 flX9_11 kd1 rfl rf1_0 ?_
      refine sz_aload_n dX9_digitHere_29 rfl ?_
      refine sz_getI dX9_digitHere_30 flX9_19 kd1 rfl ?_
      obtain ⟨c33, hf⟩ := gz_gd hf
      refine sz_ialdL dX9_digitHere_33 kd14 c33 rfl ?_
      refine sz_bipush dX9_digitHere_34 (cB57) ?_
      refine sz_icmp_le 41 dX9_digitHere_36 (by decide) (fun c36 => ?_) (fun c36 => ?_)
      · have hf := gz_ip c36 hf
        refine sz_aload_n dX9_digitHere_41 rfl ?_
        refine sz_getR dX9_digitHere_42 flX9_11 kd1 rfl rf1_0 ?_
        refine sz_aload_n dX9_digitHere_45 rfl ?_
        refine sz_getI dX9_digitHere_46 flX9_19 kd1 rfl ?_
        obtain ⟨c49, hf⟩ := gz_gd hf
        refine sz_ialdL dX9_digitHere_49 kd14 c49 rfl ?_
        refine sz_bipush dX9_digitHere_50 (cB48) ?_
        refine sz_isub dX9_digitHere_52 ?_
        cases hf
        exact sz_iret dX9_digitHere_53 rfl rfl ⟨rfl, rfl⟩
      · have hf := gz_in1 c36 hf
        refine sz_iconst dX9_digitHere_39 (cIm1) ?_
        cases hf
        exact sz_iret dX9_digitHere_40 rfl rfl ⟨rfl, rfl⟩
def fX9_nextDigit (La : gz_L)   (g : gz_S) : Option (Int32 × gz_S) :=
  (fX9_next La   g).bind (fun q1 => (fX9_digitHere La   q1.2).bind (fun q6 => some (q6.1, q6.2)))
set_option maxRecDepth 100000 in
set_option maxHeartbeats 4000000 in
theorem kX9_nextDigit {La : gz_L}   {g : gz_S} {r : Int32 × gz_S}  (hf : fX9_nextDigit La   g = some r) : gz_K La 2 mX9_nextDigit [.ref 1] g (gz_Fi r) := by
  unfold fX9_nextDigit at hf
  refine gz_K.of 0 (by decide +kernel) rfl ?_
  show gz_J La 2 mX9_nextDigit 0 [some (.ref 1)] [] g (gz_Fi r)
  refine sz_aload_n dX9_nextDigit_0 rfl ?_
  obtain ⟨q1, eq1, hf⟩ := gz_bd hf
  refine sz_callVi [] [] dX9_nextDigit_1 mvX9_25 (Nat.le_of_ble_eq_true rfl) (by decide : 9 < 13) kd1 rfl (Nat.le_of_ble_eq_true rfl) (kX9_next   eq1) ?_
  refine sz_pop dX9_nextDigit_4 rfl ?_
  refine sz_aload_n dX9_nextDigit_5 rfl ?_
  obtain ⟨q6, eq6, hf⟩ := gz_bd hf
  refine sz_callVi [] [] dX9_nextDigit_6 mvX9_33 (Nat.le_of_ble_eq_true rfl) (by decide : 9 < 13) kd1 rfl (Nat.le_of_ble_eq_true rfl) (kX9_digitHere   eq6) ?_
  cases hf
  exact sz_iret dX9_nextDigit_9 rfl rfl ⟨rfl, rfl⟩
def fX9_refuse (La : gz_L)  (x1 : Int32) (g : gz_S) : Option (Int32 × gz_S) :=
  gz_let (gz_wi g 1 3 x1) (fun g2 => some (0, g2))
set_option maxRecDepth 100000 in
set_option maxHeartbeats 4000000 in
theorem kX9_refuse {La : gz_L}  {x1 : Int32} {g : gz_S} {r : Int32 × gz_S}  (hf : fX9_refuse La  x1 g = some r) : gz_K La 1 mX9_refuse [.ref 1, .int x1] g (gz_Fi r) := by
  unfold fX9_refuse at hf
  refine gz_K.of 0 (by decide +kernel) rfl ?_
  show gz_J La 1 mX9_refuse 0 [some (.ref 1), some (.int x1)] [] g (gz_Fi r)
  refine sz_aload_n dX9_refuse_0 rfl ?_
  refine sz_iload_n dX9_refuse_1 rfl ?_
  obtain ⟨g2, eg2, hf⟩ := gz_lt hf
  refine sz_putI2 dX9_refuse_2 flX9_22 kd1 fi9_3 eg2 ?_
  refine sz_iconst dX9_refuse_5 (cI0) ?_
  cases hf
  exact sz_iret dX9_refuse_6 rfl rfl ⟨rfl, rfl⟩
def fX9_readDigit (La : gz_L)   (g : gz_S) : Option (Int32 × gz_S) :=
  (fX9_nextDigit La   g).bind (fun q2 => gz_let (gz_wi q2.2 1 4 q2.1) (fun g5 => if (g5.1 1 4) = (-1) then (fX9_refuse La  (g5.1 1 2) g5).bind (fun q21 => if q21.1 = 0 ∨ q21.1 = 1 then some (q21.1, q21.2) else none) else gz_let (gz_wi g5 1 2 ((g5.1 1 2) + 1)) (fun g32 => some (1, g32))))
set_option maxRecDepth 100000 in
set_option maxHeartbeats 4000000 in
theorem kX9_readDigit {La : gz_L}   {g : gz_S} {r : Int32 × gz_S}  (hf : fX9_readDigit La   g = some r) : gz_K La 3 mX9_readDigit [.ref 1] g (gz_Fi r) := by
  unfold fX9_readDigit at hf
  refine gz_K.of 0 (by decide +kernel) rfl ?_
  show gz_J La 3 mX9_readDigit 0 [some (.ref 1)] [] g (gz_Fi r)
  refine sz_aload_n dX9_readDigit_0 rfl ?_
  refine sz_aload_n dX9_readDigit_1 rfl ?_
  obtain ⟨q2, eq2, hf⟩ := gz_bd hf
  refine sz_callVi [] [.ref 1] dX9_readDigit_2 mvX9_36 (Nat.le_of_ble_eq_true rfl) (by decide : 9 < 13) kd1 rfl (Nat.le_of_ble_eq_true rfl) (kX9_nextDigit   eq2) ?_
  obtain ⟨g5, eg5, hf⟩ := gz_lt hf
  refine sz_putI2 dX9_readDigit_5 flX9_39 kd1 fi9_4 eg5 ?_
  refine sz_aload_n dX9_readDigit_8 rfl ?_
  refine sz_getI dX9_readDigit_9 flX9_39 kd1 rfl ?_
  refine sz_iconst dX9_readDigit_12 (cIm1) ?_
  refine sz_icmp_ne 25 dX9_readDigit_13 (by decide) (fun c13 => ?_) (fun c13 => ?_)
  · have hf := gz_in1 c13 hf
    refine sz_aload_n dX9_readDigit_25 rfl ?_
    refine sz_dup dX9_readDigit_26 rfl ?_
    refine sz_getI dX9_readDigit_27 flX9_19 kd1 rfl ?_
    refine sz_iconst dX9_readDigit_30 (cI1) ?_
    refine sz_iadd dX9_readDigit_31 ?_
    obtain ⟨g32, eg32, hf⟩ := gz_lt hf
    refine sz_putI2 dX9_readDigit_32 flX9_19 kd1 fi9_2 eg32 ?_
    refine sz_iconst dX9_readDigit_35 (cI1) ?_
    cases hf
    exact sz_iret dX9_readDigit_36 rfl rfl ⟨rfl, rfl⟩
  · have hf := gz_ip c13 hf
    refine sz_aload_n dX9_readDigit_16 rfl ?_
    refine sz_aload_n dX9_readDigit_17 rfl ?_
    refine sz_getI dX9_readDigit_18 flX9_19 kd1 rfl ?_
    obtain ⟨q21, eq21, hf⟩ := gz_bd hf
    refine sz_callVi [.int (g5.1 1 2)] [] dX9_readDigit_21 mvX9_29 (Nat.le_of_ble_eq_true rfl) (by decide : 9 < 13) kd1 rfl (Nat.le_of_ble_eq_true rfl) (kX9_refuse   eq21) ?_
    obtain ⟨c24, hf⟩ := gz_gd hf
    cases hf
    exact sz_iret dX9_readDigit_24 rfl (gz_nbx c24) ⟨rfl, rfl⟩
def fX9_expect (La : gz_L)  (x1 : Int32) (g : gz_S) : Option (Int32 × gz_S) :=
  (fX9_next La   g).bind (fun q1 => if q1.1 = x1 then gz_let (gz_wi q1.2 1 2 ((q1.2.1 1 2) + 1)) (fun g24 => some (1, g24)) else (fX9_refuse La  (q1.2.1 1 2) q1.2).bind (fun q13 => if q13.1 = 0 ∨ q13.1 = 1 then some (q13.1, q13.2) else none))
set_option maxRecDepth 100000 in
set_option maxHeartbeats 4000000 in
theorem kX9_expect {La : gz_L}  {x1 : Int32} {g : gz_S} {r : Int32 × gz_S}  (hf : fX9_expect La  x1 g = some r) : gz_K La 2 mX9_expect [.ref 1, .int x1] g (gz_Fi r) := by
  unfold fX9_expect at hf
  refine gz_K.of 0 (by decide +kernel) rfl ?_
  show gz_J La 2 mX9_expect 0 [some (.ref 1), some (.int x1)] [] g (gz_Fi r)
  refine sz_aload_n dX9_expect_0 rfl ?_
  obtain ⟨q1, eq1, hf⟩ := gz_bd hf
  refine sz_callVi [] [] dX9_expect_1 mvX9_25 (Nat.le_of_ble_eq_true rfl) (by decide : 9 < 13) kd1 rfl (Nat.le_of_ble_eq_true rfl) (kX9_next   eq1) ?_
  refine sz_iload_n dX9_expect_4 rfl ?_
  refine sz_icmp_eq 17 dX9_expect_5 (by decide) (fun c5 => ?_) (fun c5 => ?_)
  · have hf := gz_ip c5 hf
    refine sz_aload_n dX9_expect_17 rfl ?_
    refine sz_dup dX9_expect_18 rfl ?_
    refine sz_getI dX9_expect_19 flX9_19 kd1 rfl ?_
    refine sz_iconst dX9_expect_22 (cI1) ?_
    refine sz_iadd dX9_expect_23 ?_
    obtain ⟨g24, eg24, hf⟩ := gz_lt hf
    refine sz_putI2 dX9_expect_24 flX9_19 kd1 fi9_2 eg24 ?_
    refine sz_iconst dX9_expect_27 (cI1) ?_
    cases hf
    exact sz_iret dX9_expect_28 rfl rfl ⟨rfl, rfl⟩
  · have hf := gz_in1 c5 hf
    refine sz_aload_n dX9_expect_8 rfl ?_
    refine sz_aload_n dX9_expect_9 rfl ?_
    refine sz_getI dX9_expect_10 flX9_19 kd1 rfl ?_
    obtain ⟨q13, eq13, hf⟩ := gz_bd hf
    refine sz_callVi [.int (q1.2.1 1 2)] [] dX9_expect_13 mvX9_29 (Nat.le_of_ble_eq_true rfl) (by decide : 9 < 13) kd1 rfl (Nat.le_of_ble_eq_true rfl) (kX9_refuse   eq13) ?_
    obtain ⟨c16, hf⟩ := gz_gd hf
    cases hf
    exact sz_iret dX9_expect_16 rfl (gz_nbx c16) ⟨rfl, rfl⟩
def fX10_liesAhead (La : gz_L)  (w1 : Nat) (x2 : Int32) (x3 : Int32) (g : gz_S) : Option (Int32 × gz_S) :=
  if gz_ok ((30 : Int32) + x2) 61 then (fX6_beside La  w1 (g.1 (w1 + 16) (Int32.toNatClampNeg ((30 : Int32) + x2))) x3 g).bind (fun q11 => if q11.1 = (-1) then some (1, q11.2) else gz_let (gz_wi q11.2 8 2 ((q11.2.1 8 2) ||| ((1 : Int32) <<< (q11.1 &&& 31)))) (fun g34 => (fX6_lies La  w1 q11.1 g34).bind (fun q40 => some (q40.1, q40.2)))) else none
set_option maxRecDepth 100000 in
set_option maxHeartbeats 4000000 in
theorem kX10_liesAhead {La : gz_L}  {w1 : Nat} {x2 : Int32} {x3 : Int32} {g : gz_S} {r : Int32 × gz_S} (hw1 : gz_sc w1) (hf : fX10_liesAhead La  w1 x2 x3 g = some r) : gz_K La 3 mX10_liesAhead [.ref 8, .ref w1, .int x2, .int x3] g (gz_Fi r) := by
  unfold fX10_liesAhead at hf
  refine gz_K.of 1 (by decide +kernel) rfl ?_
  show gz_J La 3 mX10_liesAhead 0 [some (.ref 8), some (.ref w1), some (.int x2), some (.int x3), none] [] g (gz_Fi r)
  refine sz_aload_n dX10_liesAhead_0 rfl ?_
  refine sz_aload_n dX10_liesAhead_1 rfl ?_
  refine sz_getR dX10_liesAhead_2 flX10_26 (kdS hw1) rfl (rfS hw1) ?_
  refine sz_bipush dX10_liesAhead_5 (cB30) ?_
  refine sz_iload_n dX10_liesAhead_7 rfl ?_
  refine sz_iadd dX10_liesAhead_8 ?_
  obtain ⟨c9, hf⟩ := gz_gd hf
  refine sz_ialdL dX10_liesAhead_9 (kdSv hw1) c9 rfl ?_
  refine sz_iload_n dX10_liesAhead_10 rfl ?_
  obtain ⟨q11, eq11, hf⟩ := gz_bd hf
  refine sz_callVi [.int (g.1 (w1 + 16) (Int32.toNatClampNeg ((30 : Int32) + x2))), .int x3] [] dX10_liesAhead_11 mvX10_68 (Nat.le_of_ble_eq_true rfl) (by decide : 6 < 13) (kdS hw1) rfl (Nat.le_of_ble_eq_true rfl) (kX6_beside  hw1 eq11) ?_
  refine sz_istore dX10_liesAhead_14 (Nat.le_of_ble_eq_true rfl) rfl ?_
  refine sz_ls (l2 := [some (.ref 8), some (.ref w1), some (.int x2), some (.int x3), some (.int q11.1)]) rfl ?_
  refine sz_iload dX10_liesAhead_16 rfl ?_
  refine sz_iconst dX10_liesAhead_18 (cIm1) ?_
  refine sz_icmp_ne 24 dX10_liesAhead_19 (by decide) (fun c19 => ?_) (fun c19 => ?_)
  · have hf := gz_in1 c19 hf
    refine sz_aload_n dX10_liesAhead_24 rfl ?_
    refine sz_dup dX10_liesAhead_25 rfl ?_
    refine sz_getI dX10_liesAhead_26 flX10_78 kd8 rfl ?_
    refine sz_iconst dX10_liesAhead_29 (cI1) ?_
    refine sz_iload dX10_liesAhead_30 rfl ?_
    refine sz_ishl dX10_liesAhead_32 ?_
    refine sz_ior dX10_liesAhead_33 ?_
    obtain ⟨g34, eg34, hf⟩ := gz_lt hf
    refine sz_putI2 dX10_liesAhead_34 flX10_78 kd8 fi10_2 eg34 ?_
    refine sz_aload_n dX10_liesAhead_37 rfl ?_
    refine sz_iload dX10_liesAhead_38 rfl ?_
    obtain ⟨q40, eq40, hf⟩ := gz_bd hf
    refine sz_callVi [.int q11.1] [] dX10_liesAhead_40 mvX10_81 (Nat.le_of_ble_eq_true rfl) (by decide : 6 < 13) (kdS hw1) rfl (Nat.le_of_ble_eq_true rfl) (kX6_lies  hw1 eq40) ?_
    cases hf
    exact sz_iret dX10_liesAhead_43 rfl rfl ⟨rfl, rfl⟩
  · have hf := gz_ip c19 hf
    refine sz_iconst dX10_liesAhead_22 (cI1) ?_
    cases hf
    exact sz_iret dX10_liesAhead_23 rfl rfl ⟨rfl, rfl⟩
def fX3_joined_146 (La : gz_L)    (x3 : Int64) (g : gz_S) : Option (Int32 × gz_S) := if (lg_cmp x3 1000000) ≤ 0 then if 0 ≤ (lg_cmp x3 (-1000000)) then some (Int64.toInt32 x3, g) else some ((-1000000), g) else some (1000000, g)
set_option maxRecDepth 100000 in
set_option maxHeartbeats 4000000 in
theorem tX3_joined_146 {La : gz_L}      : ∀ (x3 : Int64) (g : gz_S) (r : Int32 × gz_S), fX3_joined_146 La    x3 g = some r → gz_J La 1 mX3_joined 146 [none, none, none, some (.long x3), none] [] g (gz_Fi r) := by
  intro x3 g r hf
  unfold fX3_joined_146 at hf
  refine sz_lload_n dX3_joined_146 rfl ?_
  refine sz_ldc2 dX3_joined_147 cstlX3_23 ?_
  refine sz_lcmp dX3_joined_150 ?_
  refine sz_if_le 157 dX3_joined_151 (by decide) (fun c151 => ?_) (fun c151 => ?_)
  · have hf := gz_ip c151 hf
    refine sz_lload_n dX3_joined_157 rfl ?_
    refine sz_ldc2 dX3_joined_158 cstlX3_26 ?_
    refine sz_lcmp dX3_joined_161 ?_
    refine sz_if_ge 170 dX3_joined_162 (by decide) (fun c162 => ?_) (fun c162 => ?_)
    · have hf := gz_ip c162 hf
      refine sz_lload_n dX3_joined_170 rfl ?_
      refine sz_l2i dX3_joined_171 ?_
      cases hf
      exact sz_iret dX3_joined_172 rfl rfl ⟨rfl, rfl⟩
    · have hf := gz_in1 c162 hf
      refine sz_ldc dX3_joined_165 cstX3_28 ?_
      refine sz_goto 172 dX3_joined_167 (by decide) ?_
      cases hf
      exact sz_iret dX3_joined_172 rfl rfl ⟨rfl, rfl⟩
  · have hf := gz_in1 c151 hf
    refine sz_ldc dX3_joined_154 cstX3_25 ?_
    cases hf
    exact sz_iret dX3_joined_156 rfl rfl ⟨rfl, rfl⟩
def fX3_joined_129 (La : gz_L)    (s0 : Int64) (g : gz_S) : Option (Int32 × gz_S) := fX3_joined_146 La     s0 g
set_option maxRecDepth 100000 in
set_option maxHeartbeats 4000000 in
theorem tX3_joined_129 {La : gz_L}      : ∀ (s0 : Int64) (g : gz_S) (r : Int32 × gz_S), fX3_joined_129 La    s0 g = some r → gz_J La 1 mX3_joined 129 [none, none, none, none, none] [.long s0] g (gz_Fi r) := by
  intro s0 g r hf
  unfold fX3_joined_129 at hf
  refine sz_lstore_n dX3_joined_129 rfl (Nat.le_of_ble_eq_true rfl) rfl ?_
  refine sz_ls (l2 := [none, none, none, some (.long s0), none]) rfl ?_
  refine sz_goto 146 dX3_joined_130 (by decide) ?_
  exact tX3_joined_146    _ _ _ hf
def fX3_joined_115 (La : gz_L)    (s0 : Int64) (g : gz_S) : Option (Int32 × gz_S) := fX3_joined_146 La     s0 g
set_option maxRecDepth 100000 in
set_option maxHeartbeats 4000000 in
theorem tX3_joined_115 {La : gz_L}      : ∀ (s0 : Int64) (g : gz_S) (r : Int32 × gz_S), fX3_joined_115 La    s0 g = some r → gz_J La 1 mX3_joined 115 [none, none, none, none, none] [.long s0] g (gz_Fi r) := by
  intro s0 g r hf
  unfold fX3_joined_115 at hf
  refine sz_lstore_n dX3_joined_115 rfl (Nat.le_of_ble_eq_true rfl) rfl ?_
  refine sz_ls (l2 := [none, none, none, some (.long s0), none]) rfl ?_
  refine sz_goto 146 dX3_joined_116 (by decide) ?_
  exact tX3_joined_146    _ _ _ hf
def fX3_joined_101 (La : gz_L)    (s0 : Int64) (g : gz_S) : Option (Int32 × gz_S) := fX3_joined_146 La     s0 g
set_option maxRecDepth 100000 in
set_option maxHeartbeats 4000000 in
theorem tX3_joined_101 {La : gz_L}      : ∀ (s0 : Int64) (g : gz_S) (r : Int32 × gz_S), fX3_joined_101 La    s0 g = some r → gz_J La 1 mX3_joined 101 [none, none, none, none, none] [.long s0] g (gz_Fi r) := by
  intro s0 g r hf
  unfold fX3_joined_101 at hf
  refine sz_lstore_n dX3_joined_101 rfl (Nat.le_of_ble_eq_true rfl) rfl ?_
  refine sz_ls (l2 := [none, none, none, some (.long s0), none]) rfl ?_
  refine sz_goto 146 dX3_joined_102 (by decide) ?_
  exact tX3_joined_146    _ _ _ hf
def fX3_joined_87 (La : gz_L)    (s0 : Int64) (g : gz_S) : Option (Int32 × gz_S) := fX3_joined_146 La     s0 g
set_option maxRecDepth 100000 in
set_option maxHeartbeats 4000000 in
theorem tX3_joined_87 {La : gz_L}      : ∀ (s0 : Int64) (g : gz_S) (r : Int32 × gz_S), fX3_joined_87 La    s0 g = some r → gz_J La 1 mX3_joined 87 [none, none, none, none, none] [.long s0] g (gz_Fi r) := by
  intro s0 g r hf
  unfold fX3_joined_87 at hf
  refine sz_lstore_n dX3_joined_87 rfl (Nat.le_of_ble_eq_true rfl) rfl ?_
  refine sz_ls (l2 := [none, none, none, some (.long s0), none]) rfl ?_
  refine sz_goto 146 dX3_joined_88 (by decide) ?_
  exact tX3_joined_146    _ _ _ hf
def fX3_joined (La : gz_L)  (x0 : Int32) (x1 : Int32) (x2 : Int32) (g : gz_S) : Option (Int32 × gz_S) :=
  if x0 = (-18) then gz_let (Int32.toInt64 (x1 &&& x2)) (fun y137 => fX3_joined_146 La     y137 g) else if x0 = (-17) then if x1 ≤ x2 then fX3_joined_129 La     0 g else fX3_joined_129 La     1 g else if x0 = (-16) then if x2 ≤ x1 then fX3_joined_115 La     0 g else fX3_joined_115 La     1 g else if x0 = (-15) then if x1 = x2 then fX3_joined_101 La     1 g else fX3_joined_101 La     0 g else if x0 = (-14) then if x2 = 0 then fX3_joined_87 La     0 g else if ¬ x2 = 0 then fX3_joined_87 La     (Int32.toInt64 (x1 / x2)) g else none else if x0 = (-13) then gz_let ((Int32.toInt64 x1) * (Int32.toInt64 x2)) (fun y71 => fX3_joined_146 La     y71 g) else if x0 = (-12) then gz_let ((Int32.toInt64 x1) - (Int32.toInt64 x2)) (fun y62 => fX3_joined_146 La     y62 g) else if x0 = (-11) then gz_let ((Int32.toInt64 x1) + (Int32.toInt64 x2)) (fun y53 => fX3_joined_146 La     y53 g) else gz_let (Int32.toInt64 (x1 ||| x2)) (fun y145 => fX3_joined_146 La     y145 g)
set_option maxRecDepth 100000 in
set_option maxHeartbeats 4000000 in
theorem kX3_joined {La : gz_L}  {x0 : Int32} {x1 : Int32} {x2 : Int32} {g : gz_S} {r : Int32 × gz_S}  (hf : fX3_joined La  x0 x1 x2 g = some r) : gz_K La 1 mX3_joined [.int x0, .int x1, .int x2] g (gz_Fi r) := by
  unfold fX3_joined at hf
  refine gz_K.of 2 (by decide +kernel) rfl ?_
  show gz_J La 1 mX3_joined 0 [some (.int x0), some (.int x1), some (.int x2), none, none] [] g (gz_Fi r)
  refine sz_iload_n dX3_joined_0 rfl ?_
  by_cases c1_m18 : x0 = (-18)
  · have hf := gz_ip c1_m18 hf
    refine sz_tableIn 133 dX3_joined_1 (by rw [c1_m18]; decide) (by rw [c1_m18]; decide) (by rw [c1_m18]; rfl) (by decide) ?_
    refine sz_iload_n dX3_joined_133 rfl ?_
    refine sz_iload_n dX3_joined_134 rfl ?_
    refine sz_iand dX3_joined_135 ?_
    refine sz_i2l dX3_joined_136 ?_
    obtain ⟨y137, ey137, hf⟩ := gz_lt hf
    refine sz_topl ey137 ?_
    refine sz_lstore_n dX3_joined_137 rfl (Nat.le_of_ble_eq_true rfl) rfl ?_
    refine sz_ls (l2 := [some (.int x0), some (.int x1), some (.int x2), some (.long y137), none]) rfl ?_
    refine sz_goto 146 dX3_joined_138 (by decide) ?_
    refine sz_weak (l2 := [none, none, none, some (.long y137), none]) (gz_subn (gz_subn (gz_subn (gz_subk (gz_subk gz_sub0))))) ?_
    exact tX3_joined_146    _ _ _ hf
  have hf := gz_in1 c1_m18 hf
  by_cases c1_m17 : x0 = (-17)
  · have hf := gz_ip c1_m17 hf
    refine sz_tableIn 119 dX3_joined_1 (by rw [c1_m17]; decide) (by rw [c1_m17]; decide) (by rw [c1_m17]; rfl) (by decide) ?_
    refine sz_iload_n dX3_joined_119 rfl ?_
    refine sz_iload_n dX3_joined_120 rfl ?_
    refine sz_icmp_le 128 dX3_joined_121 (by decide) (fun c121 => ?_) (fun c121 => ?_)
    · have hf := gz_ip c121 hf
      refine sz_lconst (v := 0) dX3_joined_128 rfl ?_
      refine sz_weak (l2 := [none, none, none, none, none]) (gz_subn (gz_subn (gz_subn (gz_subk (gz_subk gz_sub0))))) ?_
      exact tX3_joined_129    _ _ _ hf
    · have hf := gz_in1 c121 hf
      refine sz_lconst (v := 1) dX3_joined_124 rfl ?_
      refine sz_goto 129 dX3_joined_125 (by decide) ?_
      refine sz_weak (l2 := [none, none, none, none, none]) (gz_subn (gz_subn (gz_subn (gz_subk (gz_subk gz_sub0))))) ?_
      exact tX3_joined_129    _ _ _ hf
  have hf := gz_in1 c1_m17 hf
  by_cases c1_m16 : x0 = (-16)
  · have hf := gz_ip c1_m16 hf
    refine sz_tableIn 105 dX3_joined_1 (by rw [c1_m16]; decide) (by rw [c1_m16]; decide) (by rw [c1_m16]; rfl) (by decide) ?_
    refine sz_iload_n dX3_joined_105 rfl ?_
    refine sz_iload_n dX3_joined_106 rfl ?_
    refine sz_icmp_ge 114 dX3_joined_107 (by decide) (fun c107 => ?_) (fun c107 => ?_)
    · have hf := gz_ip c107 hf
      refine sz_lconst (v := 0) dX3_joined_114 rfl ?_
      refine sz_weak (l2 := [none, none, none, none, none]) (gz_subn (gz_subn (gz_subn (gz_subk (gz_subk gz_sub0))))) ?_
      exact tX3_joined_115    _ _ _ hf
    · have hf := gz_in1 c107 hf
      refine sz_lconst (v := 1) dX3_joined_110 rfl ?_
      refine sz_goto 115 dX3_joined_111 (by decide) ?_
      refine sz_weak (l2 := [none, none, none, none, none]) (gz_subn (gz_subn (gz_subn (gz_subk (gz_subk gz_sub0))))) ?_
      exact tX3_joined_115    _ _ _ hf
  have hf := gz_in1 c1_m16 hf
  by_cases c1_m15 : x0 = (-15)
  · have hf := gz_ip c1_m15 hf
    refine sz_tableIn 91 dX3_joined_1 (by rw [c1_m15]; decide) (by rw [c1_m15]; decide) (by rw [c1_m15]; rfl) (by decide) ?_
    refine sz_iload_n dX3_joined_91 rfl ?_
    refine sz_iload_n dX3_joined_92 rfl ?_
    refine sz_icmp_ne 100 dX3_joined_93 (by decide) (fun c93 => ?_) (fun c93 => ?_)
    · have hf := gz_in1 c93 hf
      refine sz_lconst (v := 0) dX3_joined_100 rfl ?_
      refine sz_weak (l2 := [none, none, none, none, none]) (gz_subn (gz_subn (gz_subn (gz_subk (gz_subk gz_sub0))))) ?_
      exact tX3_joined_101    _ _ _ hf
    · have hf := gz_ip c93 hf
      refine sz_lconst (v := 1) dX3_joined_96 rfl ?_
      refine sz_goto 101 dX3_joined_97 (by decide) ?_
      refine sz_weak (l2 := [none, none, none, none, none]) (gz_subn (gz_subn (gz_subn (gz_subk (gz_subk gz_sub0))))) ?_
      exact tX3_joined_101    _ _ _ hf
  have hf := gz_in1 c1_m15 hf
  by_cases c1_m14 : x0 = (-14)
  · have hf := gz_ip c1_m14 hf
    refine sz_tableIn 75 dX3_joined_1 (by rw [c1_m14]; decide) (by rw [c1_m14]; decide) (by rw [c1_m14]; rfl) (by decide) ?_
    refine sz_iload_n dX3_joined_75 rfl ?_
    refine sz_if_ne 83 dX3_joined_76 (by decide) (fun c76 => ?_) (fun c76 => ?_)
    · have hf := gz_in1 c76 hf
      refine sz_iload_n dX3_joined_83 rfl ?_
      refine sz_iload_n dX3_joined_84 rfl ?_
      obtain ⟨c85, hf⟩ := gz_gd hf
      refine sz_idiv dX3_joined_85 c85 ?_
      refine sz_i2l dX3_joined_86 ?_
      refine sz_weak (l2 := [none, none, none, none, none]) (gz_subn (gz_subn (gz_subn (gz_subk (gz_subk gz_sub0))))) ?_
      exact tX3_joined_87    _ _ _ hf
    · have hf := gz_ip c76 hf
      refine sz_lconst (v := 0) dX3_joined_79 rfl ?_
      refine sz_goto 87 dX3_joined_80 (by decide) ?_
      refine sz_weak (l2 := [none, none, none, none, none]) (gz_subn (gz_subn (gz_subn (gz_subk (gz_subk gz_sub0))))) ?_
      exact tX3_joined_87    _ _ _ hf
  have hf := gz_in1 c1_m14 hf
  by_cases c1_m13 : x0 = (-13)
  · have hf := gz_ip c1_m13 hf
    refine sz_tableIn 66 dX3_joined_1 (by rw [c1_m13]; decide) (by rw [c1_m13]; decide) (by rw [c1_m13]; rfl) (by decide) ?_
    refine sz_iload_n dX3_joined_66 rfl ?_
    refine sz_i2l dX3_joined_67 ?_
    refine sz_iload_n dX3_joined_68 rfl ?_
    refine sz_i2l dX3_joined_69 ?_
    refine sz_lmul dX3_joined_70 ?_
    obtain ⟨y71, ey71, hf⟩ := gz_lt hf
    refine sz_topl ey71 ?_
    refine sz_lstore_n dX3_joined_71 rfl (Nat.le_of_ble_eq_true rfl) rfl ?_
    refine sz_ls (l2 := [some (.int x0), some (.int x1), some (.int x2), some (.long y71), none]) rfl ?_
    refine sz_goto 146 dX3_joined_72 (by decide) ?_
    refine sz_weak (l2 := [none, none, none, some (.long y71), none]) (gz_subn (gz_subn (gz_subn (gz_subk (gz_subk gz_sub0))))) ?_
    exact tX3_joined_146    _ _ _ hf
  have hf := gz_in1 c1_m13 hf
  by_cases c1_m12 : x0 = (-12)
  · have hf := gz_ip c1_m12 hf
    refine sz_tableIn 57 dX3_joined_1 (by rw [c1_m12]; decide) (by rw [c1_m12]; decide) (by rw [c1_m12]; rfl) (by decide) ?_
    refine sz_iload_n dX3_joined_57 rfl ?_
    refine sz_i2l dX3_joined_58 ?_
    refine sz_iload_n dX3_joined_59 rfl ?_
    refine sz_i2l dX3_joined_60 ?_
    refine sz_lsub dX3_joined_61 ?_
    obtain ⟨y62, ey62, hf⟩ := gz_lt hf
    refine sz_topl ey62 ?_
    refine sz_lstore_n dX3_joined_62 rfl (Nat.le_of_ble_eq_true rfl) rfl ?_
    refine sz_ls (l2 := [some (.int x0), some (.int x1), some (.int x2), some (.long y62), none]) rfl ?_
    refine sz_goto 146 dX3_joined_63 (by decide) ?_
    refine sz_weak (l2 := [none, none, none, some (.long y62), none]) (gz_subn (gz_subn (gz_subn (gz_subk (gz_subk gz_sub0))))) ?_
    exact tX3_joined_146    _ _ _ hf
  have hf := gz_in1 c1_m12 hf
  by_cases c1_m11 : x0 = (-11)
  · have hf := gz_ip c1_m11 hf
    refine sz_tableIn 48 dX3_joined_1 (by rw [c1_m11]; decide) (by rw [c1_m11]; decide) (by rw [c1_m11]; rfl) (by decide) ?_
    refine sz_iload_n dX3_joined_48 rfl ?_
    refine sz_i2l dX3_joined_49 ?_
    refine sz_iload_n dX3_joined_50 rfl ?_
    refine sz_i2l dX3_joined_51 ?_
    refine sz_ladd dX3_joined_52 ?_
    obtain ⟨y53, ey53, hf⟩ := gz_lt hf
    refine sz_topl ey53 ?_
    refine sz_lstore_n dX3_joined_53 rfl (Nat.le_of_ble_eq_true rfl) rfl ?_
    refine sz_ls (l2 := [some (.int x0), some (.int x1), some (.int x2), some (.long y53), none]) rfl ?_
    refine sz_goto 146 dX3_joined_54 (by decide) ?_
    refine sz_weak (l2 := [none, none, none, some (.long y53), none]) (gz_subn (gz_subn (gz_subn (gz_subk (gz_subk gz_sub0))))) ?_
    exact tX3_joined_146    _ _ _ hf
  have hf := gz_in1 c1_m11 hf
  refine sz_tableOut 141 dX3_joined_1 (by have z0 := lv_neT c1_m18 (a := (-18)) (by decide); have z1 := lv_neT c1_m17 (a := (-17)) (by decide); have z2 := lv_neT c1_m16 (a := (-16)) (by decide); have z3 := lv_neT c1_m15 (a := (-15)) (by decide); have z4 := lv_neT c1_m14 (a := (-14)) (by decide); have z5 := lv_neT c1_m13 (a := (-13)) (by decide); have z6 := lv_neT c1_m12 (a := (-12)) (by decide); have z7 := lv_neT c1_m11 (a := (-11)) (by decide); omega) (by decide) ?_
  refine sz_iload_n dX3_joined_141 rfl ?_
  refine sz_iload_n dX3_joined_142 rfl ?_
  refine sz_ior dX3_joined_143 ?_
  refine sz_i2l dX3_joined_144 ?_
  obtain ⟨y145, ey145, hf⟩ := gz_lt hf
  refine sz_topl ey145 ?_
  refine sz_lstore_n dX3_joined_145 rfl (Nat.le_of_ble_eq_true rfl) rfl ?_
  refine sz_ls (l2 := [some (.int x0), some (.int x1), some (.int x2), some (.long y145), none]) rfl ?_
  refine sz_weak (l2 := [none, none, none, some (.long y145), none]) (gz_subn (gz_subn (gz_subn (gz_subk (gz_subk gz_sub0))))) ?_
  exact tX3_joined_146    _ _ _ hf
def fX3_worth_185 (La : gz_L)  (w0 : Nat) (k8 : Int32 → Int32 → Int32 → gz_S → Option (Int32 × gz_S)) (x3 : Int32) (x4 : Int32) (x5 : Int32) (g : gz_S) : Option (Int32 × gz_S) := gz_let (x5 + 1) (fun y185 => k8 x3 x4 y185 g)
set_option maxRecDepth 100000 in
set_option maxHeartbeats 4000000 in
theorem tX3_worth_185 {La : gz_L}  {w0 : Nat} {k8 : Int32 → Int32 → Int32 → gz_S → Option (Int32 × gz_S)} (hw0 : gz_lw La w0) (hk8 : ∀ (x3 : Int32) (x4 : Int32) (x5 : Int32) (g : gz_S) (r : Int32 × gz_S), k8 x3 x4 x5 g = some r → gz_J La 2 mX3_worth 8 [some (.ref w0), some (.ref 24), some (.ref 25), some (.int x3), some (.int x4), some (.int x5), none] [] g (gz_Fi r)) : ∀ (x3 : Int32) (x4 : Int32) (x5 : Int32) (g : gz_S) (r : Int32 × gz_S), fX3_worth_185 La  w0 k8 x3 x4 x5 g = some r → gz_J La 2 mX3_worth 185 [some (.ref w0), some (.ref 24), some (.ref 25), some (.int x3), some (.int x4), some (.int x5), none] [] g (gz_Fi r) := by
  intro x3 x4 x5 g r hf
  unfold fX3_worth_185 at hf
  obtain ⟨y185, ey185, hf⟩ := gz_lt hf
  refine sz_iinc (v := y185) dX3_worth_185 rfl (by rw [ey185, cI1]) (Nat.le_of_ble_eq_true rfl) rfl ?_
  refine sz_ls (l2 := [some (.ref w0), some (.ref 24), some (.ref 25), some (.int x3), some (.int x4), some (.int y185), none]) rfl ?_
  refine sz_goto 8 dX3_worth_188 (by decide) ?_
  exact hk8 _ _ _ _ _ hf
def fX3_worth_130 (La : gz_L)  (w0 : Nat) (k8 : Int32 → Int32 → Int32 → gz_S → Option (Int32 × gz_S)) (x3 : Int32) (x5 : Int32) (s0 : Int32) (g : gz_S) : Option (Int32 × gz_S) := fX3_worth_185 La  w0 k8  x3 s0 x5 g
set_option maxRecDepth 100000 in
set_option maxHeartbeats 4000000 in
theorem tX3_worth_130 {La : gz_L}  {w0 : Nat} {k8 : Int32 → Int32 → Int32 → gz_S → Option (Int32 × gz_S)} (hw0 : gz_lw La w0) (hk8 : ∀ (x3 : Int32) (x4 : Int32) (x5 : Int32) (g : gz_S) (r : Int32 × gz_S), k8 x3 x4 x5 g = some r → gz_J La 2 mX3_worth 8 [some (.ref w0), some (.ref 24), some (.ref 25), some (.int x3), some (.int x4), some (.int x5), none] [] g (gz_Fi r)) : ∀ (x3 : Int32) (x5 : Int32) (s0 : Int32) (g : gz_S) (r : Int32 × gz_S), fX3_worth_130 La  w0 k8 x3 x5 s0 g = some r → gz_J La 2 mX3_worth 130 [some (.ref w0), some (.ref 24), some (.ref 25), some (.int x3), none, some (.int x5), none] [.int s0] g (gz_Fi r) := by
  intro x3 x5 s0 g r hf
  unfold fX3_worth_130 at hf
  refine sz_istore dX3_worth_130 (Nat.le_of_ble_eq_true rfl) rfl ?_
  refine sz_ls (l2 := [some (.ref w0), some (.ref 24), some (.ref 25), some (.int x3), some (.int s0), some (.int x5), none]) rfl ?_
  refine sz_goto 185 dX3_worth_132 (by decide) ?_
  exact tX3_worth_185  hw0 hk8 _ _ _ _ _ hf
def fX3_worth_82 (La : gz_L)  (w0 : Nat) (k8 : Int32 → Int32 → Int32 → gz_S → Option (Int32 × gz_S)) (x3 : Int32) (x4 : Int32) (x5 : Int32) (s0 : Int32) (s1 : Int32) (g : gz_S) : Option (Int32 × gz_S) := if gz_ok s1 240 then gz_let (gz_wi g 25 (Int32.toNatClampNeg s1) s0) (fun g82 => gz_let (x3 + 1) (fun y83 => fX3_worth_185 La  w0 k8  y83 x4 x5 g82)) else none
set_option maxRecDepth 100000 in
set_option maxHeartbeats 4000000 in
theorem tX3_worth_82 {La : gz_L}  {w0 : Nat} {k8 : Int32 → Int32 → Int32 → gz_S → Option (Int32 × gz_S)} (hw0 : gz_lw La w0) (hk8 : ∀ (x3 : Int32) (x4 : Int32) (x5 : Int32) (g : gz_S) (r : Int32 × gz_S), k8 x3 x4 x5 g = some r → gz_J La 2 mX3_worth 8 [some (.ref w0), some (.ref 24), some (.ref 25), some (.int x3), some (.int x4), some (.int x5), none] [] g (gz_Fi r)) : ∀ (x3 : Int32) (x4 : Int32) (x5 : Int32) (s0 : Int32) (s1 : Int32) (g : gz_S) (r : Int32 × gz_S), fX3_worth_82 La  w0 k8 x3 x4 x5 s0 s1 g = some r → gz_J La 2 mX3_worth 82 [some (.ref w0), some (.ref 24), some (.ref 25), some (.int x3), some (.int x4), some (.int x5), none] [.int s0, .int s1, .ref 25] g (gz_Fi r) := by
  intro x3 x4 x5 s0 s1 g r hf
  unfold fX3_worth_82 at hf
  obtain ⟨c82, hf⟩ := gz_gd hf
  obtain ⟨g82, eg82, hf⟩ := gz_lt hf
  refine sz_iastL dX3_worth_82 kd25 c82 rfl eg82 ?_
  obtain ⟨y83, ey83, hf⟩ := gz_lt hf
  refine sz_iinc (v := y83) dX3_worth_83 rfl (by rw [ey83, cI1]) (Nat.le_of_ble_eq_true rfl) rfl ?_
  refine sz_ls (l2 := [some (.ref w0), some (.ref 24), some (.ref 25), some (.int y83), some (.int x4), some (.int x5), none]) rfl ?_
  refine sz_goto 185 dX3_worth_86 (by decide) ?_
  exact tX3_worth_185  hw0 hk8 _ _ _ _ _ hf
def fX3_worth_44 (La : gz_L)  (w0 : Nat) (k8 : Int32 → Int32 → Int32 → gz_S → Option (Int32 × gz_S)) (x3 : Int32) (x5 : Int32) (s0 : Int32) (g : gz_S) : Option (Int32 × gz_S) := fX3_worth_185 La  w0 k8  x3 s0 x5 g
set_option maxRecDepth 100000 in
set_option maxHeartbeats 4000000 in
theorem tX3_worth_44 {La : gz_L}  {w0 : Nat} {k8 : Int32 → Int32 → Int32 → gz_S → Option (Int32 × gz_S)} (hw0 : gz_lw La w0) (hk8 : ∀ (x3 : Int32) (x4 : Int32) (x5 : Int32) (g : gz_S) (r : Int32 × gz_S), k8 x3 x4 x5 g = some r → gz_J La 2 mX3_worth 8 [some (.ref w0), some (.ref 24), some (.ref 25), some (.int x3), some (.int x4), some (.int x5), none] [] g (gz_Fi r)) : ∀ (x3 : Int32) (x5 : Int32) (s0 : Int32) (g : gz_S) (r : Int32 × gz_S), fX3_worth_44 La  w0 k8 x3 x5 s0 g = some r → gz_J La 2 mX3_worth 44 [some (.ref w0), some (.ref 24), some (.ref 25), some (.int x3), none, some (.int x5), none] [.int s0] g (gz_Fi r) := by
  intro x3 x5 s0 g r hf
  unfold fX3_worth_44 at hf
  refine sz_istore dX3_worth_44 (Nat.le_of_ble_eq_true rfl) rfl ?_
  refine sz_ls (l2 := [some (.ref w0), some (.ref 24), some (.ref 25), some (.int x3), some (.int s0), some (.int x5), none]) rfl ?_
  refine sz_goto 185 dX3_worth_46 (by decide) ?_
  exact tX3_worth_185  hw0 hk8 _ _ _ _ _ hf
def fX3_worth_8 (La : gz_L)  (w0 : Nat) (k103 : Int32 → gz_S → Option (Int32 × gz_S)) : Nat → Int32 → Int32 → Int32 → gz_S → Option (Int32 × gz_S)
  | 0, _, _, _, _ => none
  | n + 1, x3, x4, x5, g => if (Int32.ofNat (La.2.2 (w0 + 1))) ≤ x5 then some (0, g) else if gz_ok x5 (La.2.2 (w0 + 1)) then gz_let (g.1 (w0 + 1) (Int32.toNatClampNeg x5)) (fun y25 => if x4 = 0 then if y25 ≤ (-7) then if 1 ≤ x3 then if y25 = (-22) then k103 x3 g else if y25 = (-21) then gz_let (x3 + (-1)) (fun y116 => if gz_ok y116 240 then if (g.1 25 (Int32.toNatClampNeg y116)) = 0 then fX3_worth_130 La  w0 (fX3_worth_8 La  w0 k103 n)  y116 x5 1 g else fX3_worth_130 La  w0 (fX3_worth_8 La  w0 k103 n)  y116 x5 0 g else none) else if y25 = (-20) then if gz_ok (x3 - 1) 240 then if gz_ok (x3 - 1) 240 then gz_let (gz_wi g 25 (Int32.toNatClampNeg (x3 - 1)) ((1 : Int32) - (g.1 25 (Int32.toNatClampNeg (x3 - 1))))) (fun g153 => fX3_worth_185 La  w0 (fX3_worth_8 La  w0 k103 n)  x3 x4 x5 g153) else none else none else if 2 ≤ x3 then gz_let (x3 + (-1)) (fun y164 => if gz_ok (y164 - 1) 240 then if gz_ok y164 240 then (fX3_joined La  y25 (g.1 25 (Int32.toNatClampNeg (y164 - 1))) (g.1 25 (Int32.toNatClampNeg y164)) g).bind (fun q181 => if gz_ok (y164 - 1) 240 then gz_let (gz_wi q181.2 25 (Int32.toNatClampNeg (y164 - 1)) q181.1) (fun g184 => fX3_worth_185 La  w0 (fX3_worth_8 La  w0 k103 n)  y164 x4 x5 g184) else none) else none else none) else some (0, g) else some (0, g) else if x3 < (Int32.ofNat 240) then if y25 < 0 then if gz_ok (((-1) : Int32) - y25) 6 then fX3_worth_82 La  w0 (fX3_worth_8 La  w0 k103 n)  x3 x4 x5 (g.1 24 (Int32.toNatClampNeg (((-1) : Int32) - y25))) x3 g else none else fX3_worth_82 La  w0 (fX3_worth_8 La  w0 k103 n)  x3 x4 x5 y25 x3 g else some (0, g) else if y25 = (-22) then fX3_worth_44 La  w0 (fX3_worth_8 La  w0 k103 n)  x3 x5 0 g else fX3_worth_44 La  w0 (fX3_worth_8 La  w0 k103 n)  x3 x5 1 g) else none
set_option maxRecDepth 100000 in
set_option maxHeartbeats 4000000 in
theorem tX3_worth_8 {La : gz_L}  {w0 : Nat} {k103 : Int32 → gz_S → Option (Int32 × gz_S)} (hw0 : gz_lw La w0) (hk103 : ∀ (x3 : Int32) (g : gz_S) (r : Int32 × gz_S), k103 x3 g = some r → gz_J La 2 mX3_worth 103 [none, none, some (.ref 25), some (.int x3), none, none, none] [] g (gz_Fi r)) : ∀ (n : Nat) (x3 : Int32) (x4 : Int32) (x5 : Int32) (g : gz_S) (r : Int32 × gz_S), fX3_worth_8 La  w0 k103 n x3 x4 x5 g = some r → gz_J La 2 mX3_worth 8 [some (.ref w0), some (.ref 24), some (.ref 25), some (.int x3), some (.int x4), some (.int x5), none] [] g (gz_Fi r) := by
  intro n
  induction n with
  | zero => intro x3 x4 x5 g r hf; exact nomatch (show (none : Option (Int32 × gz_S)) = some r from hf)
  | succ n ih =>
    intro x3 x4 x5 g r hf
    unfold fX3_worth_8 at hf
    refine sz_iload dX3_worth_8 rfl ?_
    refine sz_aload_n dX3_worth_10 rfl ?_
    refine sz_getR dX3_worth_11 flX3_9 (kdW hw0) rfl (rfW hw0) ?_
    refine sz_alen (v := Int32.ofNat (La.2.2 (w0 + 1))) (kn := 0) dX3_worth_14 (kdWc hw0) rfl ?_
    refine sz_icmp_ge 191 dX3_worth_15 (by decide) (fun c15 => ?_) (fun c15 => ?_)
    · have hf := gz_ip c15 hf
      refine sz_iconst dX3_worth_191 (cI0) ?_
      cases hf
      exact sz_iret dX3_worth_192 rfl rfl ⟨rfl, rfl⟩
    · have hf := gz_in1 c15 hf
      refine sz_aload_n dX3_worth_18 rfl ?_
      refine sz_getR dX3_worth_19 flX3_9 (kdW hw0) rfl (rfW hw0) ?_
      refine sz_iload dX3_worth_22 rfl ?_
      obtain ⟨c24, hf⟩ := gz_gd hf
      refine sz_ialdL dX3_worth_24 (kdWc hw0) c24 rfl ?_
      obtain ⟨y25, ey25, hf⟩ := gz_lt hf
      refine sz_topi ey25 ?_
      refine sz_istore dX3_worth_25 (Nat.le_of_ble_eq_true rfl) rfl ?_
      refine sz_ls (l2 := [some (.ref w0), some (.ref 24), some (.ref 25), some (.int x3), some (.int x4), some (.int x5), some (.int y25)]) rfl ?_
      refine sz_iload dX3_worth_27 rfl ?_
      refine sz_if_eq 49 dX3_worth_29 (by decide) (fun c29 => ?_) (fun c29 => ?_)
      · have hf := gz_ip c29 hf
        refine sz_iload dX3_worth_49 rfl ?_
        refine sz_bipush dX3_worth_51 (cBm7) ?_
        refine sz_icmp_le 89 dX3_worth_53 (by decide) (fun c53 => ?_) (fun c53 => ?_)
        · have hf := gz_ip c53 hf
          refine sz_iload_n dX3_worth_89 rfl ?_
          refine sz_iconst dX3_worth_90 (cI1) ?_
          refine sz_icmp_ge 96 dX3_worth_91 (by decide) (fun c91 => ?_) (fun c91 => ?_)
          · have hf := gz_ip c91 hf
            refine sz_iload dX3_worth_96 rfl ?_
            refine sz_bipush dX3_worth_98 (cBm22) ?_
            refine sz_icmp_ne 109 dX3_worth_100 (by decide) (fun c100 => ?_) (fun c100 => ?_)
            · have hf := gz_in1 c100 hf
              refine sz_iload dX3_worth_109 rfl ?_
              refine sz_bipush dX3_worth_111 (cBm21) ?_
              refine sz_icmp_ne 135 dX3_worth_113 (by decide) (fun c113 => ?_) (fun c113 => ?_)
              · have hf := gz_in1 c113 hf
                refine sz_iload dX3_worth_135 rfl ?_
                refine sz_bipush dX3_worth_137 (cBm20) ?_
                refine sz_icmp_ne 157 dX3_worth_139 (by decide) (fun c139 => ?_) (fun c139 => ?_)
                · have hf := gz_in1 c139 hf
                  refine sz_iload_n dX3_worth_157 rfl ?_
                  refine sz_iconst dX3_worth_158 (cI2) ?_
                  refine sz_icmp_ge 164 dX3_worth_159 (by decide) (fun c159 => ?_) (fun c159 => ?_)
                  · have hf := gz_ip c159 hf
                    obtain ⟨y164, ey164, hf⟩ := gz_lt hf
                    refine sz_iinc (v := y164) dX3_worth_164 rfl (by rw [ey164, cIm1]) (Nat.le_of_ble_eq_true rfl) rfl ?_
                    refine sz_ls (l2 := [some (.ref w0), some (.ref 24), some (.ref 25), some (.int y164), some (.int x4), some (.int x5), some (.int y25)]) rfl ?_
                    refine sz_aload_n dX3_worth_167 rfl ?_
                    refine sz_iload_n dX3_worth_168 rfl ?_
                    refine sz_iconst dX3_worth_169 (cI1) ?_
                    refine sz_isub dX3_worth_170 ?_
                    refine sz_iload dX3_worth_171 rfl ?_
                    refine sz_aload_n dX3_worth_173 rfl ?_
                    refine sz_iload_n dX3_worth_174 rfl ?_
                    refine sz_iconst dX3_worth_175 (cI1) ?_
                    refine sz_isub dX3_worth_176 ?_
                    obtain ⟨c177, hf⟩ := gz_gd hf
                    refine sz_ialdL dX3_worth_177 kd25 c177 rfl ?_
                    refine sz_aload_n dX3_worth_178 rfl ?_
                    refine sz_iload_n dX3_worth_179 rfl ?_
                    obtain ⟨c180, hf⟩ := gz_gd hf
                    refine sz_ialdL dX3_worth_180 kd25 c180 rfl ?_
                    obtain ⟨q181, eq181, hf⟩ := gz_bd hf
                    refine sz_callSi [.int y25, .int (g.1 25 (Int32.toNatClampNeg (y164 - 1))), .int (g.1 25 (Int32.toNatClampNeg y164))] [.int (y164 - 1), .ref 25] dX3_worth_181 msX3_19 (Nat.le_of_ble_eq_true rfl) (Nat.le_of_ble_eq_true rfl) (kX3_joined   eq181) ?_
                    obtain ⟨c184, hf⟩ := gz_gd hf
                    obtain ⟨g184, eg184, hf⟩ := gz_lt hf
                    refine sz_iastL dX3_worth_184 kd25 c184 rfl eg184 ?_
                    refine sz_weak (l2 := [some (.ref w0), some (.ref 24), some (.ref 25), some (.int y164), some (.int x4), some (.int x5), none]) (gz_subk (gz_subk (gz_subk (gz_subk (gz_subk (gz_subk (gz_subn gz_sub0))))))) ?_
                    exact tX3_worth_185  hw0 ih _ _ _ _ _ hf
                  · have hf := gz_in1 c159 hf
                    refine sz_iconst dX3_worth_162 (cI0) ?_
                    cases hf
                    exact sz_iret dX3_worth_163 rfl rfl ⟨rfl, rfl⟩
                · have hf := gz_ip c139 hf
                  refine sz_aload_n dX3_worth_142 rfl ?_
                  refine sz_iload_n dX3_worth_143 rfl ?_
                  refine sz_iconst dX3_worth_144 (cI1) ?_
                  refine sz_isub dX3_worth_145 ?_
                  refine sz_iconst dX3_worth_146 (cI1) ?_
                  refine sz_aload_n dX3_worth_147 rfl ?_
                  refine sz_iload_n dX3_worth_148 rfl ?_
                  refine sz_iconst dX3_worth_149 (cI1) ?_
                  refine sz_isub dX3_worth_150 ?_
                  obtain ⟨c151, hf⟩ := gz_gd hf
                  refine sz_ialdL dX3_worth_151 kd25 c151 rfl ?_
                  refine sz_isub dX3_worth_152 ?_
                  obtain ⟨c153, hf⟩ := gz_gd hf
                  obtain ⟨g153, eg153, hf⟩ := gz_lt hf
                  refine sz_iastL dX3_worth_153 kd25 c153 rfl eg153 ?_
                  refine sz_goto 185 dX3_worth_154 (by decide) ?_
                  refine sz_weak (l2 := [some (.ref w0), some (.ref 24), some (.ref 25), some (.int x3), some (.int x4), some (.int x5), none]) (gz_subk (gz_subk (gz_subk (gz_subk (gz_subk (gz_subk (gz_subn gz_sub0))))))) ?_
                  exact tX3_worth_185  hw0 ih _ _ _ _ _ hf
              · have hf := gz_ip c113 hf
                obtain ⟨y116, ey116, hf⟩ := gz_lt hf
                refine sz_iinc (v := y116) dX3_worth_116 rfl (by rw [ey116, cIm1]) (Nat.le_of_ble_eq_true rfl) rfl ?_
                refine sz_ls (l2 := [some (.ref w0), some (.ref 24), some (.ref 25), some (.int y116), some (.int x4), some (.int x5), some (.int y25)]) rfl ?_
                refine sz_aload_n dX3_worth_119 rfl ?_
                refine sz_iload_n dX3_worth_120 rfl ?_
                obtain ⟨c121, hf⟩ := gz_gd hf
                refine sz_ialdL dX3_worth_121 kd25 c121 rfl ?_
                refine sz_if_ne 129 dX3_worth_122 (by decide) (fun c122 => ?_) (fun c122 => ?_)
                · have hf := gz_in1 c122 hf
                  refine sz_iconst dX3_worth_129 (cI0) ?_
                  refine sz_weak (l2 := [some (.ref w0), some (.ref 24), some (.ref 25), some (.int y116), none, some (.int x5), none]) (gz_subk (gz_subk (gz_subk (gz_subk (gz_subn (gz_subk (gz_subn gz_sub0))))))) ?_
                  exact tX3_worth_130  hw0 ih _ _ _ _ _ hf
                · have hf := gz_ip c122 hf
                  refine sz_iconst dX3_worth_125 (cI1) ?_
                  refine sz_goto 130 dX3_worth_126 (by decide) ?_
                  refine sz_weak (l2 := [some (.ref w0), some (.ref 24), some (.ref 25), some (.int y116), none, some (.int x5), none]) (gz_subk (gz_subk (gz_subk (gz_subk (gz_subn (gz_subk (gz_subn gz_sub0))))))) ?_
                  exact tX3_worth_130  hw0 ih _ _ _ _ _ hf
            · have hf := gz_ip c100 hf
              refine sz_weak (l2 := [none, none, some (.ref 25), some (.int x3), none, none, none]) (gz_subn (gz_subn (gz_subk (gz_subk (gz_subn (gz_subn (gz_subn gz_sub0))))))) ?_
              exact hk103 _ _ _ hf
          · have hf := gz_in1 c91 hf
            refine sz_iconst dX3_worth_94 (cI0) ?_
            cases hf
            exact sz_iret dX3_worth_95 rfl rfl ⟨rfl, rfl⟩
        · have hf := gz_in1 c53 hf
          refine sz_iload_n dX3_worth_56 rfl ?_
          refine sz_aload_n dX3_worth_57 rfl ?_
          refine sz_alen (v := Int32.ofNat 240) (kn := 0) dX3_worth_58 kd25 rfl ?_
          refine sz_icmp_lt 64 dX3_worth_59 (by decide) (fun c59 => ?_) (fun c59 => ?_)
          · have hf := gz_ip c59 hf
            refine sz_aload_n dX3_worth_64 rfl ?_
            refine sz_iload_n dX3_worth_65 rfl ?_
            refine sz_iload dX3_worth_66 rfl ?_
            refine sz_if_lt 76 dX3_worth_68 (by decide) (fun c68 => ?_) (fun c68 => ?_)
            · have hf := gz_ip c68 hf
              refine sz_aload_n dX3_worth_76 rfl ?_
              refine sz_iconst dX3_worth_77 (cIm1) ?_
              refine sz_iload dX3_worth_78 rfl ?_
              refine sz_isub dX3_worth_80 ?_
              obtain ⟨c81, hf⟩ := gz_gd hf
              refine sz_ialdL dX3_worth_81 kd24 c81 rfl ?_
              refine sz_weak (l2 := [some (.ref w0), some (.ref 24), some (.ref 25), some (.int x3), some (.int x4), some (.int x5), none]) (gz_subk (gz_subk (gz_subk (gz_subk (gz_subk (gz_subk (gz_subn gz_sub0))))))) ?_
              exact tX3_worth_82  hw0 ih _ _ _ _ _ _ _ hf
            · have hf := gz_in1 c68 hf
              refine sz_iload dX3_worth_71 rfl ?_
              refine sz_goto 82 dX3_worth_73 (by decide) ?_
              refine sz_weak (l2 := [some (.ref w0), some (.ref 24), some (.ref 25), some (.int x3), some (.int x4), some (.int x5), none]) (gz_subk (gz_subk (gz_subk (gz_subk (gz_subk (gz_subk (gz_subn gz_sub0))))))) ?_
              exact tX3_worth_82  hw0 ih _ _ _ _ _ _ _ hf
          · have hf := gz_in1 c59 hf
            refine sz_iconst dX3_worth_62 (cI0) ?_
            cases hf
            exact sz_iret dX3_worth_63 rfl rfl ⟨rfl, rfl⟩
      · have hf := gz_in1 c29 hf
        refine sz_iload dX3_worth_32 rfl ?_
        refine sz_bipush dX3_worth_34 (cBm22) ?_
        refine sz_icmp_eq 43 dX3_worth_36 (by decide) (fun c36 => ?_) (fun c36 => ?_)
        · have hf := gz_ip c36 hf
          refine sz_iconst dX3_worth_43 (cI0) ?_
          refine sz_weak (l2 := [some (.ref w0), some (.ref 24), some (.ref 25), some (.int x3), none, some (.int x5), none]) (gz_subk (gz_subk (gz_subk (gz_subk (gz_subn (gz_subk (gz_subn gz_sub0))))))) ?_
          exact tX3_worth_44  hw0 ih _ _ _ _ _ hf
        · have hf := gz_in1 c36 hf
          refine sz_iconst dX3_worth_39 (cI1) ?_
          refine sz_goto 44 dX3_worth_40 (by decide) ?_
          refine sz_weak (l2 := [some (.ref w0), some (.ref 24), some (.ref 25), some (.int x3), none, some (.int x5), none]) (gz_subk (gz_subk (gz_subk (gz_subk (gz_subn (gz_subk (gz_subn gz_sub0))))))) ?_
          exact tX3_worth_44  hw0 ih _ _ _ _ _ hf
def fX3_worth (La : gz_L)  (w0 : Nat) (g : gz_S) : Option (Int32 × gz_S) :=
  fX3_worth_8 La  w0 (fun (x3 : Int32) g => if gz_ok (x3 - 1) 240 then some (g.1 25 (Int32.toNatClampNeg (x3 - 1)), g) else none) gz_FU 0 0 0 g
set_option maxRecDepth 100000 in
set_option maxHeartbeats 4000000 in
theorem kX3_worth {La : gz_L}  {w0 : Nat} {g : gz_S} {r : Int32 × gz_S} (hw0 : gz_lw La w0) (hf : fX3_worth La  w0 g = some r) : gz_K La 2 mX3_worth [.ref w0, .ref 24, .ref 25] g (gz_Fi r) := by
  unfold fX3_worth at hf
  refine gz_K.of 4 (by decide +kernel) rfl ?_
  show gz_J La 2 mX3_worth 0 [some (.ref w0), some (.ref 24), some (.ref 25), none, none, none, none] [] g (gz_Fi r)
  refine sz_iconst dX3_worth_0 (cI0) ?_
  refine sz_istore_n dX3_worth_1 rfl (Nat.le_of_ble_eq_true rfl) rfl ?_
  refine sz_ls (l2 := [some (.ref w0), some (.ref 24), some (.ref 25), some (.int 0), none, none, none]) rfl ?_
  refine sz_iconst dX3_worth_2 (cI0) ?_
  refine sz_istore dX3_worth_3 (Nat.le_of_ble_eq_true rfl) rfl ?_
  refine sz_ls (l2 := [some (.ref w0), some (.ref 24), some (.ref 25), some (.int 0), some (.int 0), none, none]) rfl ?_
  refine sz_iconst dX3_worth_5 (cI0) ?_
  refine sz_istore dX3_worth_6 (Nat.le_of_ble_eq_true rfl) rfl ?_
  refine sz_ls (l2 := [some (.ref w0), some (.ref 24), some (.ref 25), some (.int 0), some (.int 0), some (.int 0), none]) rfl ?_
  have hk103 : ∀ (x3 : Int32) (g : gz_S) (r : Int32 × gz_S), (fun (x3 : Int32) g => if gz_ok (x3 - 1) 240 then some (g.1 25 (Int32.toNatClampNeg (x3 - 1)), g) else none) x3 g = some r → gz_J La 2 mX3_worth 103 [none, none, some (.ref 25), some (.int x3), none, none, none] [] g (gz_Fi r) := by
    intro x3 g r hf
    refine sz_aload_n dX3_worth_103 rfl ?_
    refine sz_iload_n dX3_worth_104 rfl ?_
    refine sz_iconst dX3_worth_105 (cI1) ?_
    refine sz_isub dX3_worth_106 ?_
    obtain ⟨c107, hf⟩ := gz_gd hf
    refine sz_ialdL dX3_worth_107 kd25 c107 rfl ?_
    cases hf
    exact sz_iret dX3_worth_108 rfl rfl ⟨rfl, rfl⟩
  exact tX3_worth_8  hw0 hk103 _ _ _ _ _ _ hf
def fX10_lawfulLook (La : gz_L)  (w1 : Nat) (x2 : Int32) (x3 : Int32) (x4 : Int32) (g : gz_S) : Option (Int32 × gz_S) :=
  if gz_ok ((34 : Int32) + x2) 61 then gz_let (g.1 (w1 + 16) (Int32.toNatClampNeg ((34 : Int32) + x2))) (fun y9 => gz_let (gz_wi g 24 0 y9) (fun g18 => gz_let (gz_wi g18 24 1 x3) (fun g25 => gz_let (gz_wi g25 24 2 x4) (fun g33 => if gz_ok ((50 : Int32) + x2) 61 then gz_let (gz_wi g33 24 3 (g33.1 (w1 + 16) (Int32.toNatClampNeg ((50 : Int32) + x2)))) (fun g48 => if gz_ok ((38 : Int32) + x2) 61 then gz_let (gz_wi g48 24 4 ((g48.1 (w1 + 16) (Int32.toNatClampNeg ((38 : Int32) + x2))) - (g48.1 (w1 + 16) (Int32.toNatClampNeg ((38 : Int32) + x2))) / 100 * 100)) (fun g66 => gz_let (gz_wi g66 24 5 ((g66.1 (w1 + 16) 49) - (g66.1 (w1 + 16) 49) / 24 * 24)) (fun g82 => gz_on (g82.2.2 0) (some (y9, g82)) (fun e84 => if gz_lw La e84 then gz_on (g82.2.2 0) (none) (fun e96 => if gz_lw La e96 then (fX3_worth La  e96 g82).bind (fun q107 => (fJ9_floorMod_7cf53 La  q107.1 4 q107.2).bind (fun q111 => some (q111.1, q111.2))) else none) else none))) else none) else none)))) else none
set_option maxRecDepth 100000 in
set_option maxHeartbeats 4000000 in
theorem kX10_lawfulLook {La : gz_L}  {w1 : Nat} {x2 : Int32} {x3 : Int32} {x4 : Int32} {g : gz_S} {r : Int32 × gz_S} (hw1 : gz_sc w1) (hf : fX10_lawfulLook La  w1 x2 x3 x4 g = some r) : gz_K La 3 mX10_lawfulLook [.ref 8, .ref w1, .int x2, .int x3, .int x4] g (gz_Fi r) := by
  unfold fX10_lawfulLook at hf
  refine gz_K.of 1 (by decide +kernel) rfl ?_
  show gz_J La 3 mX10_lawfulLook 0 [some (.ref 8), some (.ref w1), some (.int x2), some (.int x3), some (.int x4), none] [] g (gz_Fi r)
  refine sz_aload_n dX10_lawfulLook_0 rfl ?_
  refine sz_getR dX10_lawfulLook_1 flX10_26 (kdS hw1) rfl (rfS hw1) ?_
  refine sz_bipush dX10_lawfulLook_4 (cB34) ?_
  refine sz_iload_n dX10_lawfulLook_6 rfl ?_
  refine sz_iadd dX10_lawfulLook_7 ?_
  obtain ⟨c8, hf⟩ := gz_gd hf
  refine sz_ialdL dX10_lawfulLook_8 (kdSv hw1) c8 rfl ?_
  obtain ⟨y9, ey9, hf⟩ := gz_lt hf
  refine sz_topi ey9 ?_
  refine sz_istore dX10_lawfulLook_9 (Nat.le_of_ble_eq_true rfl) rfl ?_
  refine sz_ls (l2 := [some (.ref 8), some (.ref w1), some (.int x2), some (.int x3), some (.int x4), some (.int y9)]) rfl ?_
  refine sz_aload_n dX10_lawfulLook_11 rfl ?_
  refine sz_getR dX10_lawfulLook_12 flX10_11 kd8 rfl rf8_3 ?_
  refine sz_iconst dX10_lawfulLook_15 (cI0) ?_
  refine sz_iload dX10_lawfulLook_16 rfl ?_
  obtain ⟨g18, eg18, hf⟩ := gz_lt hf
  refine sz_iastL dX10_lawfulLook_18 kd24 vi0_6 tn0 eg18 ?_
  refine sz_aload_n dX10_lawfulLook_19 rfl ?_
  refine sz_getR dX10_lawfulLook_20 flX10_11 kd8 rfl rf8_3 ?_
  refine sz_iconst dX10_lawfulLook_23 (cI1) ?_
  refine sz_iload_n dX10_lawfulLook_24 rfl ?_
  obtain ⟨g25, eg25, hf⟩ := gz_lt hf
  refine sz_iastL dX10_lawfulLook_25 kd24 vi1_6 tn1 eg25 ?_
  refine sz_aload_n dX10_lawfulLook_26 rfl ?_
  refine sz_getR dX10_lawfulLook_27 flX10_11 kd8 rfl rf8_3 ?_
  refine sz_iconst dX10_lawfulLook_30 (cI2) ?_
  refine sz_iload dX10_lawfulLook_31 rfl ?_
  obtain ⟨g33, eg33, hf⟩ := gz_lt hf
  refine sz_iastL dX10_lawfulLook_33 kd24 vi2_6 tn2 eg33 ?_
  refine sz_aload_n dX10_lawfulLook_34 rfl ?_
  refine sz_getR dX10_lawfulLook_35 flX10_11 kd8 rfl rf8_3 ?_
  refine sz_iconst dX10_lawfulLook_38 (cI3) ?_
  refine sz_aload_n dX10_lawfulLook_39 rfl ?_
  refine sz_getR dX10_lawfulLook_40 flX10_26 (kdS hw1) rfl (rfS hw1) ?_
  refine sz_bipush dX10_lawfulLook_43 (cB50) ?_
  refine sz_iload_n dX10_lawfulLook_45 rfl ?_
  refine sz_iadd dX10_lawfulLook_46 ?_
  obtain ⟨c47, hf⟩ := gz_gd hf
  refine sz_ialdL dX10_lawfulLook_47 (kdSv hw1) c47 rfl ?_
  obtain ⟨g48, eg48, hf⟩ := gz_lt hf
  refine sz_iastL dX10_lawfulLook_48 kd24 vi3_6 tn3 eg48 ?_
  refine sz_aload_n dX10_lawfulLook_49 rfl ?_
  refine sz_getR dX10_lawfulLook_50 flX10_11 kd8 rfl rf8_3 ?_
  refine sz_iconst dX10_lawfulLook_53 (cI4) ?_
  refine sz_aload_n dX10_lawfulLook_54 rfl ?_
  refine sz_getR dX10_lawfulLook_55 flX10_26 (kdS hw1) rfl (rfS hw1) ?_
  refine sz_bipush dX10_lawfulLook_58 (cB38) ?_
  refine sz_iload_n dX10_lawfulLook_60 rfl ?_
  refine sz_iadd dX10_lawfulLook_61 ?_
  obtain ⟨c62, hf⟩ := gz_gd hf
  refine sz_ialdL dX10_lawfulLook_62 (kdSv hw1) c62 rfl ?_
  refine sz_bipush dX10_lawfulLook_63 (cB100) ?_
  refine sz_irem dX10_lawfulLook_65 (by decide) ?_
  obtain ⟨g66, eg66, hf⟩ := gz_lt hf
  refine sz_iastL dX10_lawfulLook_66 kd24 vi4_6 tn4 eg66 ?_
  refine sz_aload_n dX10_lawfulLook_67 rfl ?_
  refine sz_getR dX10_lawfulLook_68 flX10_11 kd8 rfl rf8_3 ?_
  refine sz_iconst dX10_lawfulLook_71 (cI5) ?_
  refine sz_aload_n dX10_lawfulLook_72 rfl ?_
  refine sz_getR dX10_lawfulLook_73 flX10_26 (kdS hw1) rfl (rfS hw1) ?_
  refine sz_bipush dX10_lawfulLook_76 (cB49) ?_
  refine sz_ialdL dX10_lawfulLook_78 (kdSv hw1) vi49_61 tn49 ?_
  refine sz_bipush dX10_lawfulLook_79 (cB24) ?_
  refine sz_irem dX10_lawfulLook_81 (by decide) ?_
  obtain ⟨g82, eg82, hf⟩ := gz_lt hf
  refine sz_iastL dX10_lawfulLook_82 kd24 vi5_6 tn5 eg82 ?_
  refine sz_aload_n dX10_lawfulLook_83 rfl ?_
  rcases ho84 : g82.2.2 0 with _ | e84
  · have hf := gz_on0 ho84 hf
    refine sz_getN dX10_lawfulLook_84 flX10_60 kd8 rfl (rfd0.trans ho84) ?_
    refine sz_ifnonnullN dX10_lawfulLook_87 ?_
    refine sz_iload dX10_lawfulLook_90 rfl ?_
    refine sz_goto 114 dX10_lawfulLook_92 (by decide) ?_
    cases hf
    exact sz_iret dX10_lawfulLook_114 rfl rfl ⟨rfl, rfl⟩
  · have hf := gz_on1 ho84 hf
    obtain ⟨he84, hf⟩ := gz_gd hf
    refine sz_getR dX10_lawfulLook_84 flX10_60 kd8 rfl (rfd0.trans ho84) ?_
    refine sz_ifnonnull 95 dX10_lawfulLook_87 (by decide) ?_
    refine sz_aload_n dX10_lawfulLook_95 rfl ?_
    rcases ho96 : g82.2.2 0 with _ | e96
    · have hf := gz_on0 ho96 hf
      refine sz_getN dX10_lawfulLook_96 flX10_60 kd8 rfl (rfd0.trans ho96) ?_
      refine sz_aload_n dX10_lawfulLook_99 rfl ?_
      refine sz_getR dX10_lawfulLook_100 flX10_11 kd8 rfl rf8_3 ?_
      refine sz_aload_n dX10_lawfulLook_103 rfl ?_
      refine sz_getR dX10_lawfulLook_104 flX10_19 kd8 rfl rf8_4 ?_
      exact nomatch hf
    · have hf := gz_on1 ho96 hf
      obtain ⟨he96, hf⟩ := gz_gd hf
      refine sz_getR dX10_lawfulLook_96 flX10_60 kd8 rfl (rfd0.trans ho96) ?_
      refine sz_aload_n dX10_lawfulLook_99 rfl ?_
      refine sz_getR dX10_lawfulLook_100 flX10_11 kd8 rfl rf8_3 ?_
      refine sz_aload_n dX10_lawfulLook_103 rfl ?_
      refine sz_getR dX10_lawfulLook_104 flX10_19 kd8 rfl rf8_4 ?_
      obtain ⟨q107, eq107, hf⟩ := gz_bd hf
      refine sz_callVi [.ref 24, .ref 25] [] dX10_lawfulLook_107 mvX10_71 (Nat.le_of_ble_eq_true rfl) (by decide : 3 < 13) (kdW he96) rfl (Nat.le_of_ble_eq_true rfl) (kX3_worth  he96 eq107) ?_
      refine sz_iconst dX10_lawfulLook_110 (cI4) ?_
      obtain ⟨q111, eq111, hf⟩ := gz_bd hf
      refine sz_callSi [.int q107.1, .int 4] [] dX10_lawfulLook_111 msX10_75 (Nat.le_of_ble_eq_true rfl) (Nat.le_of_ble_eq_true rfl) (kJ9_floorMod_7cf53   eq111) ?_
      cases hf
      exact sz_iret dX10_lawfulLook_114 rfl rfl ⟨rfl, rfl⟩
def fX10_takeStep_62 (La : gz_L)  (w1 : Nat)  (x2 : Int32) (x3 : Int32) (g : gz_S) : Option (gz_S) := if gz_ok ((34 : Int32) + x2) 61 then gz_let (gz_wi g (w1 + 16) (Int32.toNatClampNeg ((34 : Int32) + x2)) x3) (fun g71 => (fX10_liesAhead La  w1 x2 x3 g71).bind (fun q76 => if q76.1 = 1 then some q76.2 else if gz_ok ((30 : Int32) + x2) 61 then (fX6_beside La  w1 (q76.2.1 (w1 + 16) (Int32.toNatClampNeg ((30 : Int32) + x2))) x3 q76.2).bind (fun q107 => if gz_ok ((30 : Int32) + x2) 61 then gz_let (gz_wi q107.2 (w1 + 16) (Int32.toNatClampNeg ((30 : Int32) + x2)) q107.1) (fun g110 => if gz_ok ((38 : Int32) + x2) 61 then if gz_ok ((38 : Int32) + x2) 61 then gz_let (gz_wi g110 (w1 + 16) (Int32.toNatClampNeg ((38 : Int32) + x2)) ((g110.1 (w1 + 16) (Int32.toNatClampNeg ((38 : Int32) + x2))) + 1)) (fun g123 => if q76.1 = 2 then if gz_ok ((42 : Int32) + x2) 61 then gz_let (gz_wi g123 (w1 + 16) (Int32.toNatClampNeg ((42 : Int32) + x2)) 2) (fun g139 => some g139) else none else if q76.1 = 3 then if gz_ok ((42 : Int32) + x2) 61 then gz_let (gz_wi g123 (w1 + 16) (Int32.toNatClampNeg ((42 : Int32) + x2)) 1) (fun g158 => some g158) else none else some g123) else none else none) else none) else none)) else none
set_option maxRecDepth 100000 in
set_option maxHeartbeats 4000000 in
theorem tX10_takeStep_62 {La : gz_L}  {w1 : Nat}  (hw1 : gz_sc w1)  : ∀ (x2 : Int32) (x3 : Int32) (g : gz_S) (r : gz_S), fX10_takeStep_62 La  w1  x2 x3 g = some r → gz_J La 4 mX10_takeStep 62 [some (.ref 8), some (.ref w1), some (.int x2), some (.int x3), none, none, none] [] g (gz_Fv r) := by
  intro x2 x3 g r hf
  unfold fX10_takeStep_62 at hf
  refine sz_aload_n dX10_takeStep_62 rfl ?_
  refine sz_getR dX10_takeStep_63 flX10_26 (kdS hw1) rfl (rfS hw1) ?_
  refine sz_bipush dX10_takeStep_66 (cB34) ?_
  refine sz_iload_n dX10_takeStep_68 rfl ?_
  refine sz_iadd dX10_takeStep_69 ?_
  refine sz_iload_n dX10_takeStep_70 rfl ?_
  obtain ⟨c71, hf⟩ := gz_gd hf
  obtain ⟨g71, eg71, hf⟩ := gz_lt hf
  refine sz_iastL dX10_takeStep_71 (kdSv hw1) c71 rfl eg71 ?_
  refine sz_aload_n dX10_takeStep_72 rfl ?_
  refine sz_aload_n dX10_takeStep_73 rfl ?_
  refine sz_iload_n dX10_takeStep_74 rfl ?_
  refine sz_iload_n dX10_takeStep_75 rfl ?_
  obtain ⟨q76, eq76, hf⟩ := gz_bd hf
  refine sz_callVi [.ref w1, .int x2, .int x3] [] dX10_takeStep_76 mvX10_56 (Nat.le_of_ble_eq_true rfl) (by decide : 10 < 13) kd8 rfl (Nat.le_of_ble_eq_true rfl) (kX10_liesAhead  hw1 eq76) ?_
  refine sz_istore dX10_takeStep_79 (Nat.le_of_ble_eq_true rfl) rfl ?_
  refine sz_ls (l2 := [some (.ref 8), some (.ref w1), some (.int x2), some (.int x3), none, none, some (.int q76.1)]) rfl ?_
  refine sz_iload dX10_takeStep_81 rfl ?_
  refine sz_iconst dX10_takeStep_83 (cI1) ?_
  refine sz_icmp_ne 88 dX10_takeStep_84 (by decide) (fun c84 => ?_) (fun c84 => ?_)
  · have hf := gz_in1 c84 hf
    refine sz_aload_n dX10_takeStep_88 rfl ?_
    refine sz_getR dX10_takeStep_89 flX10_26 (kdS hw1) rfl (rfS hw1) ?_
    refine sz_bipush dX10_takeStep_92 (cB30) ?_
    refine sz_iload_n dX10_takeStep_94 rfl ?_
    refine sz_iadd dX10_takeStep_95 ?_
    refine sz_aload_n dX10_takeStep_96 rfl ?_
    refine sz_aload_n dX10_takeStep_97 rfl ?_
    refine sz_getR dX10_takeStep_98 flX10_26 (kdS hw1) rfl (rfS hw1) ?_
    refine sz_bipush dX10_takeStep_101 (cB30) ?_
    refine sz_iload_n dX10_takeStep_103 rfl ?_
    refine sz_iadd dX10_takeStep_104 ?_
    obtain ⟨c105, hf⟩ := gz_gd hf
    refine sz_ialdL dX10_takeStep_105 (kdSv hw1) c105 rfl ?_
    refine sz_iload_n dX10_takeStep_106 rfl ?_
    obtain ⟨q107, eq107, hf⟩ := gz_bd hf
    refine sz_callVi [.int (q76.2.1 (w1 + 16) (Int32.toNatClampNeg ((30 : Int32) + x2))), .int x3] [.int ((30 : Int32) + x2), .ref (w1 + 16)] dX10_takeStep_107 mvX10_68 (Nat.le_of_ble_eq_true rfl) (by decide : 6 < 13) (kdS hw1) rfl (Nat.le_of_ble_eq_true rfl) (kX6_beside  hw1 eq107) ?_
    obtain ⟨c110, hf⟩ := gz_gd hf
    obtain ⟨g110, eg110, hf⟩ := gz_lt hf
    refine sz_iastL dX10_takeStep_110 (kdSv hw1) c110 rfl eg110 ?_
    refine sz_aload_n dX10_takeStep_111 rfl ?_
    refine sz_getR dX10_takeStep_112 flX10_26 (kdS hw1) rfl (rfS hw1) ?_
    refine sz_bipush dX10_takeStep_115 (cB38) ?_
    refine sz_iload_n dX10_takeStep_117 rfl ?_
    refine sz_iadd dX10_takeStep_118 ?_
    refine sz_dup2 dX10_takeStep_119 rfl rfl ?_
    obtain ⟨c120, hf⟩ := gz_gd hf
    refine sz_ialdL dX10_takeStep_120 (kdSv hw1) c120 rfl ?_
    refine sz_iconst dX10_takeStep_121 (cI1) ?_
    refine sz_iadd dX10_takeStep_122 ?_
    obtain ⟨c123, hf⟩ := gz_gd hf
    obtain ⟨g123, eg123, hf⟩ := gz_lt hf
    refine sz_iastL dX10_takeStep_123 (kdSv hw1) c123 rfl eg123 ?_
    refine sz_iload dX10_takeStep_124 rfl ?_
    refine sz_iconst dX10_takeStep_126 (cI2) ?_
    refine sz_icmp_ne 143 dX10_takeStep_127 (by decide) (fun c127 => ?_) (fun c127 => ?_)
    · have hf := gz_in1 c127 hf
      refine sz_iload dX10_takeStep_143 rfl ?_
      refine sz_iconst dX10_takeStep_145 (cI3) ?_
      refine sz_icmp_ne 159 dX10_takeStep_146 (by decide) (fun c146 => ?_) (fun c146 => ?_)
      · have hf := gz_in1 c146 hf
        cases hf
        exact sz_ret dX10_takeStep_159 rfl ⟨rfl, rfl⟩
      · have hf := gz_ip c146 hf
        refine sz_aload_n dX10_takeStep_149 rfl ?_
        refine sz_getR dX10_takeStep_150 flX10_26 (kdS hw1) rfl (rfS hw1) ?_
        refine sz_bipush dX10_takeStep_153 (cB42) ?_
        refine sz_iload_n dX10_takeStep_155 rfl ?_
        refine sz_iadd dX10_takeStep_156 ?_
        refine sz_iconst dX10_takeStep_157 (cI1) ?_
        obtain ⟨c158, hf⟩ := gz_gd hf
        obtain ⟨g158, eg158, hf⟩ := gz_lt hf
        refine sz_iastL dX10_takeStep_158 (kdSv hw1) c158 rfl eg158 ?_
        cases hf
        exact sz_ret dX10_takeStep_159 rfl ⟨rfl, rfl⟩
    · have hf := gz_ip c127 hf
      refine sz_aload_n dX10_takeStep_130 rfl ?_
      refine sz_getR dX10_takeStep_131 flX10_26 (kdS hw1) rfl (rfS hw1) ?_
      refine sz_bipush dX10_takeStep_134 (cB42) ?_
      refine sz_iload_n dX10_takeStep_136 rfl ?_
      refine sz_iadd dX10_takeStep_137 ?_
      refine sz_iconst dX10_takeStep_138 (cI2) ?_
      obtain ⟨c139, hf⟩ := gz_gd hf
      obtain ⟨g139, eg139, hf⟩ := gz_lt hf
      refine sz_iastL dX10_takeStep_139 (kdSv hw1) c139 rfl eg139 ?_
      refine sz_goto 159 dX10_takeStep_140 (by decide) ?_
      cases hf
      exact sz_ret dX10_takeStep_159 rfl ⟨rfl, rfl⟩
  · have hf := gz_ip c84 hf
    cases hf
    exact sz_ret dX10_takeStep_87 rfl ⟨rfl, rfl⟩
def fX10_takeStep (La : gz_L)  (w1 : Nat) (x2 : Int32) (g : gz_S) : Option (gz_S) :=
  if gz_ok ((34 : Int32) + x2) 61 then gz_let (g.1 (w1 + 16) (Int32.toNatClampNeg ((34 : Int32) + x2))) (fun y9 => gz_let ((y9 + 1) &&& (3 : Int32)) (fun y15 => (fX10_liesAhead La  w1 x2 y9 g).bind (fun q21 => gz_on (q21.2.2.2 0) (if q21.1 = 1 then fX10_takeStep_62 La  w1   x2 y15 q21.2 else fX10_takeStep_62 La  w1   x2 y9 q21.2) (fun e27 => if gz_lw La e27 then (fX10_liesAhead La  w1 x2 y15 q21.2).bind (fun q43 => (fX10_lawfulLook La  w1 x2 q21.1 q43.1 q43.2).bind (fun q46 => fX10_takeStep_62 La  w1   x2 q46.1 q46.2)) else none)))) else none
set_option maxRecDepth 100000 in
set_option maxHeartbeats 4000000 in
theorem kX10_takeStep {La : gz_L}  {w1 : Nat} {x2 : Int32} {g : gz_S} {r : gz_S} (hw1 : gz_sc w1) (hf : fX10_takeStep La  w1 x2 g = some r) : gz_K La 4 mX10_takeStep [.ref 8, .ref w1, .int x2] g (gz_Fv r) := by
  unfold fX10_takeStep at hf
  refine gz_K.of 4 (by decide +kernel) rfl ?_
  show gz_J La 4 mX10_takeStep 0 [some (.ref 8), some (.ref w1), some (.int x2), none, none, none, none] [] g (gz_Fv r)
  refine sz_aload_n dX10_takeStep_0 rfl ?_
  refine sz_getR dX10_takeStep_1 flX10_26 (kdS hw1) rfl (rfS hw1) ?_
  refine sz_bipush dX10_takeStep_4 (cB34) ?_
  refine sz_iload_n dX10_takeStep_6 rfl ?_
  refine sz_iadd dX10_takeStep_7 ?_
  obtain ⟨c8, hf⟩ := gz_gd hf
  refine sz_ialdL dX10_takeStep_8 (kdSv hw1) c8 rfl ?_
  obtain ⟨y9, ey9, hf⟩ := gz_lt hf
  refine sz_topi ey9 ?_
  refine sz_istore_n dX10_takeStep_9 rfl (Nat.le_of_ble_eq_true rfl) rfl ?_
  refine sz_ls (l2 := [some (.ref 8), some (.ref w1), some (.int x2), some (.int y9), none, none, none]) rfl ?_
  refine sz_iload_n dX10_takeStep_10 rfl ?_
  refine sz_iconst dX10_takeStep_11 (cI1) ?_
  refine sz_iadd dX10_takeStep_12 ?_
  refine sz_iconst dX10_takeStep_13 (cI3) ?_
  refine sz_iand dX10_takeStep_14 ?_
  obtain ⟨y15, ey15, hf⟩ := gz_lt hf
  refine sz_topi ey15 ?_
  refine sz_istore dX10_takeStep_15 (Nat.le_of_ble_eq_true rfl) rfl ?_
  refine sz_ls (l2 := [some (.ref 8), some (.ref w1), some (.int x2), some (.int y9), some (.int y15), none, none]) rfl ?_
  refine sz_aload_n dX10_takeStep_17 rfl ?_
  refine sz_aload_n dX10_takeStep_18 rfl ?_
  refine sz_iload_n dX10_takeStep_19 rfl ?_
  refine sz_iload_n dX10_takeStep_20 rfl ?_
  obtain ⟨q21, eq21, hf⟩ := gz_bd hf
  refine sz_callVi [.ref w1, .int x2, .int y9] [] dX10_takeStep_21 mvX10_56 (Nat.le_of_ble_eq_true rfl) (by decide : 10 < 13) kd8 rfl (Nat.le_of_ble_eq_true rfl) (kX10_liesAhead  hw1 eq21) ?_
  refine sz_istore dX10_takeStep_24 (Nat.le_of_ble_eq_true rfl) rfl ?_
  refine sz_ls (l2 := [some (.ref 8), some (.ref w1), some (.int x2), some (.int y9), some (.int y15), some (.int q21.1), none]) rfl ?_
  refine sz_aload_n dX10_takeStep_26 rfl ?_
  rcases ho27 : q21.2.2.2 0 with _ | e27
  · have hf := gz_on0 ho27 hf
    refine sz_getN dX10_takeStep_27 flX10_60 kd8 rfl (rfd0.trans ho27) ?_
    refine sz_ifnullN 53 dX10_takeStep_30 (by decide) ?_
    refine sz_iload dX10_takeStep_53 rfl ?_
    refine sz_iconst dX10_takeStep_55 (cI1) ?_
    refine sz_icmp_ne 62 dX10_takeStep_56 (by decide) (fun c56 => ?_) (fun c56 => ?_)
    · have hf := gz_in1 c56 hf
      refine sz_weak (l2 := [some (.ref 8), some (.ref w1), some (.int x2), some (.int y9), none, none, none]) (gz_subk (gz_subk (gz_subk (gz_subk (gz_subn (gz_subn (gz_subk gz_sub0))))))) ?_
      exact tX10_takeStep_62  hw1  _ _ _ _ hf
    · have hf := gz_ip c56 hf
      refine sz_iload dX10_takeStep_59 rfl ?_
      refine sz_istore_n dX10_takeStep_61 rfl (Nat.le_of_ble_eq_true rfl) rfl ?_
      refine sz_ls (l2 := [some (.ref 8), some (.ref w1), some (.int x2), some (.int y15), some (.int y15), some (.int q21.1), none]) rfl ?_
      refine sz_weak (l2 := [some (.ref 8), some (.ref w1), some (.int x2), some (.int y15), none, none, none]) (gz_subk (gz_subk (gz_subk (gz_subk (gz_subn (gz_subn (gz_subk gz_sub0))))))) ?_
      exact tX10_takeStep_62  hw1  _ _ _ _ hf
  · have hf := gz_on1 ho27 hf
    obtain ⟨he27, hf⟩ := gz_gd hf
    refine sz_getR dX10_takeStep_27 flX10_60 kd8 rfl (rfd0.trans ho27) ?_
    refine sz_ifnull dX10_takeStep_30 ?_
    refine sz_aload_n dX10_takeStep_33 rfl ?_
    refine sz_aload_n dX10_takeStep_34 rfl ?_
    refine sz_iload_n dX10_takeStep_35 rfl ?_
    refine sz_iload dX10_takeStep_36 rfl ?_
    refine sz_aload_n dX10_takeStep_38 rfl ?_
    refine sz_aload_n dX10_takeStep_39 rfl ?_
    refine sz_iload_n dX10_takeStep_40 rfl ?_
    refine sz_iload dX10_takeStep_41 rfl ?_
    obtain ⟨q43, eq43, hf⟩ := gz_bd hf
    refine sz_callVi [.ref w1, .int x2, .int y15] [.int q21.1, .int x2, .ref w1, .ref 8] dX10_takeStep_43 mvX10_56 (Nat.le_of_ble_eq_true rfl) (by decide : 10 < 13) kd8 rfl (Nat.le_of_ble_eq_true rfl) (kX10_liesAhead  hw1 eq43) ?_
    obtain ⟨q46, eq46, hf⟩ := gz_bd hf
    refine sz_callVi [.ref w1, .int x2, .int q21.1, .int q43.1] [] dX10_takeStep_46 mvX10_64 (Nat.le_of_ble_eq_true rfl) (by decide : 10 < 13) kd8 rfl (Nat.le_of_ble_eq_true rfl) (kX10_lawfulLook  hw1 eq46) ?_
    refine sz_istore_n dX10_takeStep_49 rfl (Nat.le_of_ble_eq_true rfl) rfl ?_
    refine sz_ls (l2 := [some (.ref 8), some (.ref w1), some (.int x2), some (.int q46.1), some (.int y15), some (.int q21.1), none]) rfl ?_
    refine sz_goto 62 dX10_takeStep_50 (by decide) ?_
    refine sz_weak (l2 := [some (.ref 8), some (.ref w1), some (.int x2), some (.int q46.1), none, none, none]) (gz_subk (gz_subk (gz_subk (gz_subk (gz_subn (gz_subn (gz_subk gz_sub0))))))) ?_
    exact tX10_takeStep_62  hw1  _ _ _ _ hf
def fX10_turnThoseMet_76 (La : gz_L)  (w1 : Nat) (k4 : Int32 → Int32 → gz_S → Option (Int32 × gz_S)) (x2 : Int32) (x3 : Int32) (g : gz_S) : Option (Int32 × gz_S) := gz_let (x3 + 1) (fun y76 => k4 x2 y76 g)
set_option maxRecDepth 100000 in
set_option maxHeartbeats 4000000 in
theorem tX10_turnThoseMet_76 {La : gz_L}  {w1 : Nat} {k4 : Int32 → Int32 → gz_S → Option (Int32 × gz_S)} (hw1 : gz_sc w1) (hk4 : ∀ (x2 : Int32) (x3 : Int32) (g : gz_S) (r : Int32 × gz_S), k4 x2 x3 g = some r → gz_J La 3 mX10_turnThoseMet 4 [none, some (.ref w1), some (.int x2), some (.int x3), none] [] g (gz_Fi r)) : ∀ (x2 : Int32) (x3 : Int32) (g : gz_S) (r : Int32 × gz_S), fX10_turnThoseMet_76 La  w1 k4 x2 x3 g = some r → gz_J La 3 mX10_turnThoseMet 76 [none, some (.ref w1), some (.int x2), some (.int x3), none] [] g (gz_Fi r) := by
  intro x2 x3 g r hf
  unfold fX10_turnThoseMet_76 at hf
  obtain ⟨y76, ey76, hf⟩ := gz_lt hf
  refine sz_iinc (v := y76) dX10_turnThoseMet_76 rfl (by rw [ey76, cI1]) (Nat.le_of_ble_eq_true rfl) rfl ?_
  refine sz_ls (l2 := [none, some (.ref w1), some (.int x2), some (.int y76), none]) rfl ?_
  refine sz_goto 4 dX10_turnThoseMet_79 (by decide) ?_
  exact hk4 _ _ _ _ hf
def fX10_turnThoseMet_72 (La : gz_L)  (w1 : Nat) (k4 : Int32 → Int32 → gz_S → Option (Int32 × gz_S)) (x2 : Int32) (x3 : Int32) (s0 : Int32) (s1 : Int32) (s2 : Int32) (g : gz_S) : Option (Int32 × gz_S) := if gz_ok s2 61 then gz_let (gz_wi g (w1 + 16) (Int32.toNatClampNeg s2) ((s1 + s0) &&& (3 : Int32))) (fun g75 => fX10_turnThoseMet_76 La  w1 k4  x2 x3 g75) else none
set_option maxRecDepth 100000 in
set_option maxHeartbeats 4000000 in
theorem tX10_turnThoseMet_72 {La : gz_L}  {w1 : Nat} {k4 : Int32 → Int32 → gz_S → Option (Int32 × gz_S)} (hw1 : gz_sc w1) (hk4 : ∀ (x2 : Int32) (x3 : Int32) (g : gz_S) (r : Int32 × gz_S), k4 x2 x3 g = some r → gz_J La 3 mX10_turnThoseMet 4 [none, some (.ref w1), some (.int x2), some (.int x3), none] [] g (gz_Fi r)) : ∀ (x2 : Int32) (x3 : Int32) (s0 : Int32) (s1 : Int32) (s2 : Int32) (g : gz_S) (r : Int32 × gz_S), fX10_turnThoseMet_72 La  w1 k4 x2 x3 s0 s1 s2 g = some r → gz_J La 3 mX10_turnThoseMet 72 [none, some (.ref w1), some (.int x2), some (.int x3), none] [.int s0, .int s1, .int s2, .ref (w1 + 16)] g (gz_Fi r) := by
  intro x2 x3 s0 s1 s2 g r hf
  unfold fX10_turnThoseMet_72 at hf
  refine sz_iadd dX10_turnThoseMet_72 ?_
  refine sz_iconst dX10_turnThoseMet_73 (cI3) ?_
  refine sz_iand dX10_turnThoseMet_74 ?_
  obtain ⟨c75, hf⟩ := gz_gd hf
  obtain ⟨g75, eg75, hf⟩ := gz_lt hf
  refine sz_iastL dX10_turnThoseMet_75 (kdSv hw1) c75 rfl eg75 ?_
  exact tX10_turnThoseMet_76  hw1 hk4 _ _ _ _ hf
def fX10_turnThoseMet_4 (La : gz_L)  (w1 : Nat) (k82 : Int32 → gz_S → Option (Int32 × gz_S)) : Nat → Int32 → Int32 → gz_S → Option (Int32 × gz_S)
  | 0, _, _, _ => none
  | n + 1, x2, x3, g => if (g.1 (w1 + 16) 60) ≤ x3 then k82 x2 g else (fX6_goes La  w1 x3 g).bind (fun q17 => if q17.1 = 0 then fX10_turnThoseMet_76 La  w1 (fX10_turnThoseMet_4 La  w1 k82 n)  x2 x3 q17.2 else if gz_ok ((30 : Int32) + x3) 61 then (fX6_goingOn La  w1 (q17.2.1 (w1 + 16) (Int32.toNatClampNeg ((30 : Int32) + x3))) q17.2).bind (fun q33 => gz_let (q33.1 - 1) (fun y38 => gz_let (x2 + y38) (fun y44 => if gz_ok ((34 : Int32) + x3) 61 then if y38 ≤ 0 then fX10_turnThoseMet_72 La  w1 (fX10_turnThoseMet_4 La  w1 k82 n)  y44 x3 0 (q33.2.1 (w1 + 16) (Int32.toNatClampNeg ((34 : Int32) + x3))) ((34 : Int32) + x3) q33.2 else fX10_turnThoseMet_72 La  w1 (fX10_turnThoseMet_4 La  w1 k82 n)  y44 x3 2 (q33.2.1 (w1 + 16) (Int32.toNatClampNeg ((34 : Int32) + x3))) ((34 : Int32) + x3) q33.2 else none))) else none)
set_option maxRecDepth 100000 in
set_option maxHeartbeats 4000000 in
theorem tX10_turnThoseMet_4 {La : gz_L}  {w1 : Nat} {k82 : Int32 → gz_S → Option (Int32 × gz_S)} (hw1 : gz_sc w1) (hk82 : ∀ (x2 : Int32) (g : gz_S) (r : Int32 × gz_S), k82 x2 g = some r → gz_J La 3 mX10_turnThoseMet 82 [none, none, some (.int x2), none, none] [] g (gz_Fi r)) : ∀ (n : Nat) (x2 : Int32) (x3 : Int32) (g : gz_S) (r : Int32 × gz_S), fX10_turnThoseMet_4 La  w1 k82 n x2 x3 g = some r → gz_J La 3 mX10_turnThoseMet 4 [none, some (.ref w1), some (.int x2), some (.int x3), none] [] g (gz_Fi r) := by
  intro n
  induction n with
  | zero => intro x2 x3 g r hf; exact nomatch (show (none : Option (Int32 × gz_S)) = some r from hf)
  | succ n ih =>
    intro x2 x3 g r hf
    unfold fX10_turnThoseMet_4 at hf
    refine sz_iload_n dX10_turnThoseMet_4 rfl ?_
    refine sz_aload_n dX10_turnThoseMet_5 rfl ?_
    refine sz_getR dX10_turnThoseMet_6 flX10_26 (kdS hw1) rfl (rfS hw1) ?_
    refine sz_bipush dX10_turnThoseMet_9 (cB60) ?_
    refine sz_ialdL dX10_turnThoseMet_11 (kdSv hw1) vi60_61 tn60 ?_
    refine sz_icmp_ge 82 dX10_turnThoseMet_12 (by decide) (fun c12 => ?_) (fun c12 => ?_)
    · have hf := gz_ip c12 hf
      refine sz_weak (l2 := [none, none, some (.int x2), none, none]) (gz_subk (gz_subn (gz_subk (gz_subn (gz_subk gz_sub0))))) ?_
      exact hk82 _ _ _ hf
    · have hf := gz_in1 c12 hf
      refine sz_aload_n dX10_turnThoseMet_15 rfl ?_
      refine sz_iload_n dX10_turnThoseMet_16 rfl ?_
      obtain ⟨q17, eq17, hf⟩ := gz_bd hf
      refine sz_callVi [.int x3] [] dX10_turnThoseMet_17 mvX10_31 (Nat.le_of_ble_eq_true rfl) (by decide : 6 < 13) (kdS hw1) rfl (Nat.le_of_ble_eq_true rfl) (kX6_goes  hw1 eq17) ?_
      refine sz_if_eq 76 dX10_turnThoseMet_20 (by decide) (fun c20 => ?_) (fun c20 => ?_)
      · have hf := gz_ip c20 hf
        exact tX10_turnThoseMet_76  hw1 ih _ _ _ _ hf
      · have hf := gz_in1 c20 hf
        refine sz_aload_n dX10_turnThoseMet_23 rfl ?_
        refine sz_aload_n dX10_turnThoseMet_24 rfl ?_
        refine sz_getR dX10_turnThoseMet_25 flX10_26 (kdS hw1) rfl (rfS hw1) ?_
        refine sz_bipush dX10_turnThoseMet_28 (cB30) ?_
        refine sz_iload_n dX10_turnThoseMet_30 rfl ?_
        refine sz_iadd dX10_turnThoseMet_31 ?_
        obtain ⟨c32, hf⟩ := gz_gd hf
        refine sz_ialdL dX10_turnThoseMet_32 (kdSv hw1) c32 rfl ?_
        obtain ⟨q33, eq33, hf⟩ := gz_bd hf
        refine sz_callVi [.int (q17.2.1 (w1 + 16) (Int32.toNatClampNeg ((30 : Int32) + x3)))] [] dX10_turnThoseMet_33 mvX10_52 (Nat.le_of_ble_eq_true rfl) (by decide : 6 < 13) (kdS hw1) rfl (Nat.le_of_ble_eq_true rfl) (kX6_goingOn  hw1 eq33) ?_
        refine sz_iconst dX10_turnThoseMet_36 (cI1) ?_
        refine sz_isub dX10_turnThoseMet_37 ?_
        obtain ⟨y38, ey38, hf⟩ := gz_lt hf
        refine sz_topi ey38 ?_
        refine sz_istore dX10_turnThoseMet_38 (Nat.le_of_ble_eq_true rfl) rfl ?_
        refine sz_ls (l2 := [none, some (.ref w1), some (.int x2), some (.int x3), some (.int y38)]) rfl ?_
        refine sz_iload_n dX10_turnThoseMet_40 rfl ?_
        refine sz_iload dX10_turnThoseMet_41 rfl ?_
        refine sz_iadd dX10_turnThoseMet_43 ?_
        obtain ⟨y44, ey44, hf⟩ := gz_lt hf
        refine sz_topi ey44 ?_
        refine sz_istore_n dX10_turnThoseMet_44 rfl (Nat.le_of_ble_eq_true rfl) rfl ?_
        refine sz_ls (l2 := [none, some (.ref w1), some (.int y44), some (.int x3), some (.int y38)]) rfl ?_
        refine sz_aload_n dX10_turnThoseMet_45 rfl ?_
        refine sz_getR dX10_turnThoseMet_46 flX10_26 (kdS hw1) rfl (rfS hw1) ?_
        refine sz_bipush dX10_turnThoseMet_49 (cB34) ?_
        refine sz_iload_n dX10_turnThoseMet_51 rfl ?_
        refine sz_iadd dX10_turnThoseMet_52 ?_
        refine sz_aload_n dX10_turnThoseMet_53 rfl ?_
        refine sz_getR dX10_turnThoseMet_54 flX10_26 (kdS hw1) rfl (rfS hw1) ?_
        refine sz_bipush dX10_turnThoseMet_57 (cB34) ?_
        refine sz_iload_n dX10_turnThoseMet_59 rfl ?_
        refine sz_iadd dX10_turnThoseMet_60 ?_
        obtain ⟨c61, hf⟩ := gz_gd hf
        refine sz_ialdL dX10_turnThoseMet_61 (kdSv hw1) c61 rfl ?_
        refine sz_iload dX10_turnThoseMet_62 rfl ?_
        refine sz_if_le 71 dX10_turnThoseMet_64 (by decide) (fun c64 => ?_) (fun c64 => ?_)
        · have hf := gz_ip c64 hf
          refine sz_iconst dX10_turnThoseMet_71 (cI0) ?_
          refine sz_weak (l2 := [none, some (.ref w1), some (.int y44), some (.int x3), none]) (gz_subk (gz_subk (gz_subk (gz_subk (gz_subn gz_sub0))))) ?_
          exact tX10_turnThoseMet_72  hw1 ih _ _ _ _ _ _ _ hf
        · have hf := gz_in1 c64 hf
          refine sz_iconst dX10_turnThoseMet_67 (cI2) ?_
          refine sz_goto 72 dX10_turnThoseMet_68 (by decide) ?_
          refine sz_weak (l2 := [none, some (.ref w1), some (.int y44), some (.int x3), none]) (gz_subk (gz_subk (gz_subk (gz_subk (gz_subn gz_sub0))))) ?_
          exact tX10_turnThoseMet_72  hw1 ih _ _ _ _ _ _ _ hf
def fX10_turnThoseMet (La : gz_L)  (w1 : Nat) (g : gz_S) : Option (Int32 × gz_S) :=
  fX10_turnThoseMet_4 La  w1 (fun (x2 : Int32) g => some (x2 / 2, g)) gz_FU 0 0 g
set_option maxRecDepth 100000 in
set_option maxHeartbeats 4000000 in
theorem kX10_turnThoseMet {La : gz_L}  {w1 : Nat} {g : gz_S} {r : Int32 × gz_S} (hw1 : gz_sc w1) (hf : fX10_turnThoseMet La  w1 g = some r) : gz_K La 3 mX10_turnThoseMet [.ref 8, .ref w1] g (gz_Fi r) := by
  unfold fX10_turnThoseMet at hf
  refine gz_K.of 3 (by decide +kernel) rfl ?_
  show gz_J La 3 mX10_turnThoseMet 0 [some (.ref 8), some (.ref w1), none, none, none] [] g (gz_Fi r)
  refine sz_iconst dX10_turnThoseMet_0 (cI0) ?_
  refine sz_istore_n dX10_turnThoseMet_1 rfl (Nat.le_of_ble_eq_true rfl) rfl ?_
  refine sz_ls (l2 := [some (.ref 8), some (.ref w1), some (.int 0), none, none]) rfl ?_
  refine sz_iconst dX10_turnThoseMet_2 (cI0) ?_
  refine sz_istore_n dX10_turnThoseMet_3 rfl (Nat.le_of_ble_eq_true rfl) rfl ?_
  refine sz_ls (l2 := [some (.ref 8), some (.ref w1), some (.int 0), some (.int 0), none]) rfl ?_
  have hk82 : ∀ (x2 : Int32) (g : gz_S) (r : Int32 × gz_S), (fun (x2 : Int32) g => some (x2 / 2, g)) x2 g = some r → gz_J La 3 mX10_turnThoseMet 82 [none, none, some (.int x2), none, none] [] g (gz_Fi r) := by
    intro x2 g r hf
    refine sz_iload_n dX10_turnThoseMet_82 rfl ?_
    refine sz_iconst dX10_turnThoseMet_83 (cI2) ?_
    refine sz_idiv dX10_turnThoseMet_84 (by decide) ?_
    cases hf
    exact sz_iret dX10_turnThoseMet_85 rfl rfl ⟨rfl, rfl⟩
  refine sz_weak (l2 := [none, some (.ref w1), some (.int 0), some (.int 0), none]) (gz_subn (gz_subk (gz_subk (gz_subk (gz_subk gz_sub0))))) ?_
  exact tX10_turnThoseMet_4  hw1 hk82 _ _ _ _ _ hf
def fX10_passHour_57 (La : gz_L)  (w1 : Nat) (k90 : Int32 → gz_S → Option (Int32 × gz_S)) : Nat → Int32 → Int32 → gz_S → Option (Int32 × gz_S)
  | 0, _, _, _ => none
  | n + 1, x2, x3, g => if gz_ok ((50 : Int32) + x2) 61 then if (g.1 (w1 + 16) (Int32.toNatClampNeg ((50 : Int32) + x2))) ≤ x3 then k90 x2 g else (fX6_goes La  w1 x2 g).bind (fun q72 => if q72.1 = 0 then k90 x2 q72.2 else (fX10_takeStep La  w1 x2 q72.2).bind (fun q81 => gz_let (x3 + 1) (fun y84 => fX10_passHour_57 La  w1 k90 n x2 y84 q81))) else none
set_option maxRecDepth 100000 in
set_option maxHeartbeats 4000000 in
theorem tX10_passHour_57 {La : gz_L}  {w1 : Nat} {k90 : Int32 → gz_S → Option (Int32 × gz_S)} (hw1 : gz_sc w1) (hk90 : ∀ (x2 : Int32) (g : gz_S) (r : Int32 × gz_S), k90 x2 g = some r → gz_J La 5 mX10_passHour 90 [some (.ref 8), some (.ref w1), some (.int x2), none] [] g (gz_Fi r)) : ∀ (n : Nat) (x2 : Int32) (x3 : Int32) (g : gz_S) (r : Int32 × gz_S), fX10_passHour_57 La  w1 k90 n x2 x3 g = some r → gz_J La 5 mX10_passHour 57 [some (.ref 8), some (.ref w1), some (.int x2), some (.int x3)] [] g (gz_Fi r) := by
  intro n
  induction n with
  | zero => intro x2 x3 g r hf; exact nomatch (show (none : Option (Int32 × gz_S)) = some r from hf)
  | succ n ih =>
    intro x2 x3 g r hf
    unfold fX10_passHour_57 at hf
    refine sz_iload_n dX10_passHour_57 rfl ?_
    refine sz_aload_n dX10_passHour_58 rfl ?_
    refine sz_getR dX10_passHour_59 flX10_26 (kdS hw1) rfl (rfS hw1) ?_
    refine sz_bipush dX10_passHour_62 (cB50) ?_
    refine sz_iload_n dX10_passHour_64 rfl ?_
    refine sz_iadd dX10_passHour_65 ?_
    obtain ⟨c66, hf⟩ := gz_gd hf
    refine sz_ialdL dX10_passHour_66 (kdSv hw1) c66 rfl ?_
    refine sz_icmp_ge 90 dX10_passHour_67 (by decide) (fun c67 => ?_) (fun c67 => ?_)
    · have hf := gz_ip c67 hf
      refine sz_weak (l2 := [some (.ref 8), some (.ref w1), some (.int x2), none]) (gz_subk (gz_subk (gz_subk (gz_subn gz_sub0)))) ?_
      exact hk90 _ _ _ hf
    · have hf := gz_in1 c67 hf
      refine sz_aload_n dX10_passHour_70 rfl ?_
      refine sz_iload_n dX10_passHour_71 rfl ?_
      obtain ⟨q72, eq72, hf⟩ := gz_bd hf
      refine sz_callVi [.int x2] [] dX10_passHour_72 mvX10_31 (Nat.le_of_ble_eq_true rfl) (by decide : 6 < 13) (kdS hw1) rfl (Nat.le_of_ble_eq_true rfl) (kX6_goes  hw1 eq72) ?_
      refine sz_if_eq 90 dX10_passHour_75 (by decide) (fun c75 => ?_) (fun c75 => ?_)
      · have hf := gz_ip c75 hf
        refine sz_weak (l2 := [some (.ref 8), some (.ref w1), some (.int x2), none]) (gz_subk (gz_subk (gz_subk (gz_subn gz_sub0)))) ?_
        exact hk90 _ _ _ hf
      · have hf := gz_in1 c75 hf
        refine sz_aload_n dX10_passHour_78 rfl ?_
        refine sz_aload_n dX10_passHour_79 rfl ?_
        refine sz_iload_n dX10_passHour_80 rfl ?_
        obtain ⟨q81, eq81, hf⟩ := gz_bd hf
        refine sz_callVv [.ref w1, .int x2] [] dX10_passHour_81 mvX10_38 (Nat.le_of_ble_eq_true rfl) (by decide : 10 < 13) kd8 rfl (Nat.le_of_ble_eq_true rfl) (kX10_takeStep  hw1 eq81) ?_
        obtain ⟨y84, ey84, hf⟩ := gz_lt hf
        refine sz_iinc (v := y84) dX10_passHour_84 rfl (by rw [ey84, cI1]) (Nat.le_of_ble_eq_true rfl) rfl ?_
        refine sz_ls (l2 := [some (.ref 8), some (.ref w1), some (.int x2), some (.int y84)]) rfl ?_
        refine sz_goto 57 dX10_passHour_87 (by decide) ?_
        exact ih _ _ _ _ hf
def fX10_passHour_110 (La : gz_L)  (w1 : Nat) (k7 : Int32 → gz_S → Option (Int32 × gz_S)) (x2 : Int32) (g : gz_S) : Option (Int32 × gz_S) := gz_let (x2 + 1) (fun y110 => k7 y110 g)
set_option maxRecDepth 100000 in
set_option maxHeartbeats 4000000 in
theorem tX10_passHour_110 {La : gz_L}  {w1 : Nat} {k7 : Int32 → gz_S → Option (Int32 × gz_S)} (hw1 : gz_sc w1) (hk7 : ∀ (x2 : Int32) (g : gz_S) (r : Int32 × gz_S), k7 x2 g = some r → gz_J La 5 mX10_passHour 7 [some (.ref 8), some (.ref w1), some (.int x2), none] [] g (gz_Fi r)) : ∀ (x2 : Int32) (g : gz_S) (r : Int32 × gz_S), fX10_passHour_110 La  w1 k7 x2 g = some r → gz_J La 5 mX10_passHour 110 [some (.ref 8), some (.ref w1), some (.int x2), none] [] g (gz_Fi r) := by
  intro x2 g r hf
  unfold fX10_passHour_110 at hf
  obtain ⟨y110, ey110, hf⟩ := gz_lt hf
  refine sz_iinc (v := y110) dX10_passHour_110 rfl (by rw [ey110, cI1]) (Nat.le_of_ble_eq_true rfl) rfl ?_
  refine sz_ls (l2 := [some (.ref 8), some (.ref w1), some (.int y110), none]) rfl ?_
  refine sz_goto 7 dX10_passHour_113 (by decide) ?_
  exact hk7 _ _ _ hf
def fX10_passHour_90 (La : gz_L)  (w1 : Nat) (k7 : Int32 → gz_S → Option (Int32 × gz_S)) (x2 : Int32) (g : gz_S) : Option (Int32 × gz_S) := (fX6_goes La  w1 x2 g).bind (fun q92 => if q92.1 = 0 then gz_let (gz_wi q92.2 8 1 ((q92.2.1 8 1) ||| ((1 : Int32) <<< (x2 &&& 31)))) (fun g107 => fX10_passHour_110 La  w1 k7  x2 g107) else fX10_passHour_110 La  w1 k7  x2 q92.2)
set_option maxRecDepth 100000 in
set_option maxHeartbeats 4000000 in
theorem tX10_passHour_90 {La : gz_L}  {w1 : Nat} {k7 : Int32 → gz_S → Option (Int32 × gz_S)} (hw1 : gz_sc w1) (hk7 : ∀ (x2 : Int32) (g : gz_S) (r : Int32 × gz_S), k7 x2 g = some r → gz_J La 5 mX10_passHour 7 [some (.ref 8), some (.ref w1), some (.int x2), none] [] g (gz_Fi r)) : ∀ (x2 : Int32) (g : gz_S) (r : Int32 × gz_S), fX10_passHour_90 La  w1 k7 x2 g = some r → gz_J La 5 mX10_passHour 90 [some (.ref 8), some (.ref w1), some (.int x2), none] [] g (gz_Fi r) := by
  intro x2 g r hf
  unfold fX10_passHour_90 at hf
  refine sz_aload_n dX10_passHour_90 rfl ?_
  refine sz_iload_n dX10_passHour_91 rfl ?_
  obtain ⟨q92, eq92, hf⟩ := gz_bd hf
  refine sz_callVi [.int x2] [] dX10_passHour_92 mvX10_31 (Nat.le_of_ble_eq_true rfl) (by decide : 6 < 13) (kdS hw1) rfl (Nat.le_of_ble_eq_true rfl) (kX6_goes  hw1 eq92) ?_
  refine sz_if_ne 110 dX10_passHour_95 (by decide) (fun c95 => ?_) (fun c95 => ?_)
  · have hf := gz_in1 c95 hf
    exact tX10_passHour_110  hw1 hk7 _ _ _ hf
  · have hf := gz_ip c95 hf
    refine sz_aload_n dX10_passHour_98 rfl ?_
    refine sz_dup dX10_passHour_99 rfl ?_
    refine sz_getI dX10_passHour_100 flX10_22 kd8 rfl ?_
    refine sz_iconst dX10_passHour_103 (cI1) ?_
    refine sz_iload_n dX10_passHour_104 rfl ?_
    refine sz_ishl dX10_passHour_105 ?_
    refine sz_ior dX10_passHour_106 ?_
    obtain ⟨g107, eg107, hf⟩ := gz_lt hf
    refine sz_putI2 dX10_passHour_107 flX10_22 kd8 fi10_1 eg107 ?_
    exact tX10_passHour_110  hw1 hk7 _ _ _ hf
def fX10_passHour_55 (La : gz_L)  (w1 : Nat) (k7 : Int32 → gz_S → Option (Int32 × gz_S)) (x2 : Int32) (g : gz_S) : Option (Int32 × gz_S) := fX10_passHour_57 La  w1 (fX10_passHour_90 La  w1 k7 ) gz_FU x2 0 g
set_option maxRecDepth 100000 in
set_option maxHeartbeats 4000000 in
theorem tX10_passHour_55 {La : gz_L}  {w1 : Nat} {k7 : Int32 → gz_S → Option (Int32 × gz_S)} (hw1 : gz_sc w1) (hk7 : ∀ (x2 : Int32) (g : gz_S) (r : Int32 × gz_S), k7 x2 g = some r → gz_J La 5 mX10_passHour 7 [some (.ref 8), some (.ref w1), some (.int x2), none] [] g (gz_Fi r)) : ∀ (x2 : Int32) (g : gz_S) (r : Int32 × gz_S), fX10_passHour_55 La  w1 k7 x2 g = some r → gz_J La 5 mX10_passHour 55 [some (.ref 8), some (.ref w1), some (.int x2), none] [] g (gz_Fi r) := by
  intro x2 g r hf
  unfold fX10_passHour_55 at hf
  refine sz_iconst dX10_passHour_55 (cI0) ?_
  refine sz_istore_n dX10_passHour_56 rfl (Nat.le_of_ble_eq_true rfl) rfl ?_
  refine sz_ls (l2 := [some (.ref 8), some (.ref w1), some (.int x2), some (.int 0)]) rfl ?_
  exact tX10_passHour_57  hw1 (tX10_passHour_90  hw1 hk7) _ _ _ _ _ hf
def fX10_passHour_7 (La : gz_L)  (w1 : Nat) (k116 : gz_S → Option (Int32 × gz_S)) : Nat → Int32 → gz_S → Option (Int32 × gz_S)
  | 0, _, _ => none
  | n + 1, x2, g => if (g.1 (w1 + 16) 60) ≤ x2 then k116  g else (fX6_goes La  w1 x2 g).bind (fun q20 => if q20.1 = 0 then fX10_passHour_110 La  w1 (fX10_passHour_7 La  w1 k116 n)  x2 q20.2 else if gz_ok ((30 : Int32) + x2) 61 then (fX6_under La  w1 (q20.2.1 (w1 + 16) (Int32.toNatClampNeg ((30 : Int32) + x2))) q20.2).bind (fun q39 => if q39.1 = 0 then fX10_passHour_55 La  w1 (fX10_passHour_7 La  w1 k116 n)  x2 q39.2 else if gz_ok ((42 : Int32) + x2) 61 then gz_let (gz_wi q39.2 (w1 + 16) (Int32.toNatClampNeg ((42 : Int32) + x2)) 2) (fun g54 => fX10_passHour_55 La  w1 (fX10_passHour_7 La  w1 k116 n)  x2 g54) else none) else none)
set_option maxRecDepth 100000 in
set_option maxHeartbeats 4000000 in
theorem tX10_passHour_7 {La : gz_L}  {w1 : Nat} {k116 : gz_S → Option (Int32 × gz_S)} (hw1 : gz_sc w1) (hk116 : ∀  (g : gz_S) (r : Int32 × gz_S), k116  g = some r → gz_J La 5 mX10_passHour 116 [some (.ref 8), some (.ref w1), none, none] [] g (gz_Fi r)) : ∀ (n : Nat) (x2 : Int32) (g : gz_S) (r : Int32 × gz_S), fX10_passHour_7 La  w1 k116 n x2 g = some r → gz_J La 5 mX10_passHour 7 [some (.ref 8), some (.ref w1), some (.int x2), none] [] g (gz_Fi r) := by
  intro n
  induction n with
  | zero => intro x2 g r hf; exact nomatch (show (none : Option (Int32 × gz_S)) = some r from hf)
  | succ n ih =>
    intro x2 g r hf
    unfold fX10_passHour_7 at hf
    refine sz_iload_n dX10_passHour_7 rfl ?_
    refine sz_aload_n dX10_passHour_8 rfl ?_
    refine sz_getR dX10_passHour_9 flX10_26 (kdS hw1) rfl (rfS hw1) ?_
    refine sz_bipush dX10_passHour_12 (cB60) ?_
    refine sz_ialdL dX10_passHour_14 (kdSv hw1) vi60_61 tn60 ?_
    refine sz_icmp_ge 116 dX10_passHour_15 (by decide) (fun c15 => ?_) (fun c15 => ?_)
    · have hf := gz_ip c15 hf
      refine sz_weak (l2 := [some (.ref 8), some (.ref w1), none, none]) (gz_subk (gz_subk (gz_subn (gz_subk gz_sub0)))) ?_
      exact hk116  _ _ hf
    · have hf := gz_in1 c15 hf
      refine sz_aload_n dX10_passHour_18 rfl ?_
      refine sz_iload_n dX10_passHour_19 rfl ?_
      obtain ⟨q20, eq20, hf⟩ := gz_bd hf
      refine sz_callVi [.int x2] [] dX10_passHour_20 mvX10_31 (Nat.le_of_ble_eq_true rfl) (by decide : 6 < 13) (kdS hw1) rfl (Nat.le_of_ble_eq_true rfl) (kX6_goes  hw1 eq20) ?_
      refine sz_if_ne 29 dX10_passHour_23 (by decide) (fun c23 => ?_) (fun c23 => ?_)
      · have hf := gz_in1 c23 hf
        refine sz_aload_n dX10_passHour_29 rfl ?_
        refine sz_aload_n dX10_passHour_30 rfl ?_
        refine sz_getR dX10_passHour_31 flX10_26 (kdS hw1) rfl (rfS hw1) ?_
        refine sz_bipush dX10_passHour_34 (cB30) ?_
        refine sz_iload_n dX10_passHour_36 rfl ?_
        refine sz_iadd dX10_passHour_37 ?_
        obtain ⟨c38, hf⟩ := gz_gd hf
        refine sz_ialdL dX10_passHour_38 (kdSv hw1) c38 rfl ?_
        obtain ⟨q39, eq39, hf⟩ := gz_bd hf
        refine sz_callVi [.int (q20.2.1 (w1 + 16) (Int32.toNatClampNeg ((30 : Int32) + x2)))] [] dX10_passHour_39 mvX10_35 (Nat.le_of_ble_eq_true rfl) (by decide : 6 < 13) (kdS hw1) rfl (Nat.le_of_ble_eq_true rfl) (kX6_under  hw1 eq39) ?_
        refine sz_if_eq 55 dX10_passHour_42 (by decide) (fun c42 => ?_) (fun c42 => ?_)
        · have hf := gz_ip c42 hf
          exact tX10_passHour_55  hw1 ih _ _ _ hf
        · have hf := gz_in1 c42 hf
          refine sz_aload_n dX10_passHour_45 rfl ?_
          refine sz_getR dX10_passHour_46 flX10_26 (kdS hw1) rfl (rfS hw1) ?_
          refine sz_bipush dX10_passHour_49 (cB42) ?_
          refine sz_iload_n dX10_passHour_51 rfl ?_
          refine sz_iadd dX10_passHour_52 ?_
          refine sz_iconst dX10_passHour_53 (cI2) ?_
          obtain ⟨c54, hf⟩ := gz_gd hf
          obtain ⟨g54, eg54, hf⟩ := gz_lt hf
          refine sz_iastL dX10_passHour_54 (kdSv hw1) c54 rfl eg54 ?_
          exact tX10_passHour_55  hw1 ih _ _ _ hf
      · have hf := gz_ip c23 hf
        refine sz_goto 110 dX10_passHour_26 (by decide) ?_
        exact tX10_passHour_110  hw1 ih _ _ _ hf
def fX10_passHour (La : gz_L)  (w1 : Nat) (g : gz_S) : Option (Int32 × gz_S) :=
  gz_let (gz_wi g 8 1 0) (fun g2 => fX10_passHour_7 La  w1 (fun  g => (fX10_turnThoseMet La  w1 g).bind (fun q118 => (fJ9_min_7cf53 La  9999 ((q118.2.1 (w1 + 16) 47) + q118.1) q118.2).bind (fun q140 => gz_let (gz_wi q140.2 (w1 + 16) 47 q140.1) (fun g143 => gz_let (gz_wi g143 (w1 + 16) 49 ((g143.1 (w1 + 16) 49) + 1)) (fun g154 => some (q118.1, g154)))))) gz_FU 0 g2)
set_option maxRecDepth 100000 in
set_option maxHeartbeats 4000000 in
theorem kX10_passHour {La : gz_L}  {w1 : Nat} {g : gz_S} {r : Int32 × gz_S} (hw1 : gz_sc w1) (hf : fX10_passHour La  w1 g = some r) : gz_K La 5 mX10_passHour [.ref 8, .ref w1] g (gz_Fi r) := by
  unfold fX10_passHour at hf
  refine gz_K.of 2 (by decide +kernel) rfl ?_
  show gz_J La 5 mX10_passHour 0 [some (.ref 8), some (.ref w1), none, none] [] g (gz_Fi r)
  refine sz_aload_n dX10_passHour_0 rfl ?_
  refine sz_iconst dX10_passHour_1 (cI0) ?_
  obtain ⟨g2, eg2, hf⟩ := gz_lt hf
  refine sz_putI2 dX10_passHour_2 flX10_22 kd8 fi10_1 eg2 ?_
  refine sz_iconst dX10_passHour_5 (cI0) ?_
  refine sz_istore_n dX10_passHour_6 rfl (Nat.le_of_ble_eq_true rfl) rfl ?_
  refine sz_ls (l2 := [some (.ref 8), some (.ref w1), some (.int 0), none]) rfl ?_
  have hk116 : ∀  (g : gz_S) (r : Int32 × gz_S), (fun  g => (fX10_turnThoseMet La  w1 g).bind (fun q118 => (fJ9_min_7cf53 La  9999 ((q118.2.1 (w1 + 16) 47) + q118.1) q118.2).bind (fun q140 => gz_let (gz_wi q140.2 (w1 + 16) 47 q140.1) (fun g143 => gz_let (gz_wi g143 (w1 + 16) 49 ((g143.1 (w1 + 16) 49) + 1)) (fun g154 => some (q118.1, g154))))))  g = some r → gz_J La 5 mX10_passHour 116 [some (.ref 8), some (.ref w1), none, none] [] g (gz_Fi r) := by
    intro  g r hf
    refine sz_aload_n dX10_passHour_116 rfl ?_
    refine sz_aload_n dX10_passHour_117 rfl ?_
    obtain ⟨q118, eq118, hf⟩ := gz_bd hf
    refine sz_callVi [.ref w1] [] dX10_passHour_118 mvX10_42 (Nat.le_of_ble_eq_true rfl) (by decide : 10 < 13) kd8 rfl (Nat.le_of_ble_eq_true rfl) (kX10_turnThoseMet  hw1 eq118) ?_
    refine sz_istore_n dX10_passHour_121 rfl (Nat.le_of_ble_eq_true rfl) rfl ?_
    refine sz_ls (l2 := [some (.ref 8), some (.ref w1), some (.int q118.1), none]) rfl ?_
    refine sz_aload_n dX10_passHour_122 rfl ?_
    refine sz_getR dX10_passHour_123 flX10_26 (kdS hw1) rfl (rfS hw1) ?_
    refine sz_bipush dX10_passHour_126 (cB47) ?_
    refine sz_sipush dX10_passHour_128 (cH9999) ?_
    refine sz_aload_n dX10_passHour_131 rfl ?_
    refine sz_getR dX10_passHour_132 flX10_26 (kdS hw1) rfl (rfS hw1) ?_
    refine sz_bipush dX10_passHour_135 (cB47) ?_
    refine sz_ialdL dX10_passHour_137 (kdSv hw1) vi47_61 tn47 ?_
    refine sz_iload_n dX10_passHour_138 rfl ?_
    refine sz_iadd dX10_passHour_139 ?_
    obtain ⟨q140, eq140, hf⟩ := gz_bd hf
    refine sz_callSi [.int 9999, .int ((q118.2.1 (w1 + 16) 47) + q118.1)] [.int 47, .ref (w1 + 16)] dX10_passHour_140 msX10_46 (Nat.le_of_ble_eq_true rfl) (Nat.le_of_ble_eq_true rfl) (kJ9_min_7cf53   eq140) ?_
    obtain ⟨g143, eg143, hf⟩ := gz_lt hf
    refine sz_iastL dX10_passHour_143 (kdSv hw1) vi47_61 tn47 eg143 ?_
    refine sz_aload_n dX10_passHour_144 rfl ?_
    refine sz_getR dX10_passHour_145 flX10_26 (kdS hw1) rfl (rfS hw1) ?_
    refine sz_bipush dX10_passHour_148 (cB49) ?_
    refine sz_dup2 dX10_passHour_150 rfl rfl ?_
    refine sz_ialdL dX10_passHour_151 (kdSv hw1) vi49_61 tn49 ?_
    refine sz_iconst dX10_passHour_152 (cI1) ?_
    refine sz_iadd dX10_passHour_153 ?_
    obtain ⟨g154, eg154, hf⟩ := gz_lt hf
    refine sz_iastL dX10_passHour_154 (kdSv hw1) vi49_61 tn49 eg154 ?_
    refine sz_iload_n dX10_passHour_155 rfl ?_
    cases hf
    exact sz_iret dX10_passHour_156 rfl rfl ⟨rfl, rfl⟩
  exact tX10_passHour_7  hw1 hk116 _ _ _ _ hf
def fX3_letterOf_2 (La : gz_L)    : Nat → Int32 → Int32 → gz_S → Option (Int32 × gz_S)
  | 0, _, _, _ => none
  | n + 1, x0, x1, g => if 6 ≤ x1 then some ((-1), g) else if gz_ok x1 6 then if (gz_t2 (Int32.toNatClampNeg x1)) = x0 then some (x1, g) else gz_let (x1 + 1) (fun y19 => fX3_letterOf_2 La    n x0 y19 g) else none
set_option maxRecDepth 100000 in
set_option maxHeartbeats 4000000 in
theorem tX3_letterOf_2 {La : gz_L}      : ∀ (n : Nat) (x0 : Int32) (x1 : Int32) (g : gz_S) (r : Int32 × gz_S), fX3_letterOf_2 La    n x0 x1 g = some r → gz_J La 1 mX3_letterOf 2 [some (.int x0), some (.int x1)] [] g (gz_Fi r) := by
  intro n
  induction n with
  | zero => intro x0 x1 g r hf; exact nomatch (show (none : Option (Int32 × gz_S)) = some r from hf)
  | succ n ih =>
    intro x0 x1 g r hf
    unfold fX3_letterOf_2 at hf
    refine sz_iload_n dX3_letterOf_2 rfl ?_
    refine sz_bipush dX3_letterOf_3 (cB6) ?_
    refine sz_icmp_ge 25 dX3_letterOf_5 (by decide) (fun c5 => ?_) (fun c5 => ?_)
    · have hf := gz_ip c5 hf
      refine sz_iconst dX3_letterOf_25 (cIm1) ?_
      cases hf
      exact sz_iret dX3_letterOf_26 rfl rfl ⟨rfl, rfl⟩
    · have hf := gz_in1 c5 hf
      refine sz_gs2 dX3_letterOf_8 gsX3_15 ?_
      refine sz_iload_n dX3_letterOf_11 rfl ?_
      obtain ⟨c12, hf⟩ := gz_gd hf
      refine sz_tb2 dX3_letterOf_12 c12 ?_
      refine sz_iload_n dX3_letterOf_13 rfl ?_
      refine sz_icmp_ne 19 dX3_letterOf_14 (by decide) (fun c14 => ?_) (fun c14 => ?_)
      · have hf := gz_in1 c14 hf
        obtain ⟨y19, ey19, hf⟩ := gz_lt hf
        refine sz_iinc (v := y19) dX3_letterOf_19 rfl (by rw [ey19, cI1]) (Nat.le_of_ble_eq_true rfl) rfl ?_
        refine sz_ls (l2 := [some (.int x0), some (.int y19)]) rfl ?_
        refine sz_goto 2 dX3_letterOf_22 (by decide) ?_
        exact ih _ _ _ _ hf
      · have hf := gz_ip c14 hf
        refine sz_iload_n dX3_letterOf_17 rfl ?_
        cases hf
        exact sz_iret dX3_letterOf_18 rfl rfl ⟨rfl, rfl⟩
def fX3_letterOf (La : gz_L)  (x0 : Int32) (g : gz_S) : Option (Int32 × gz_S) :=
  fX3_letterOf_2 La    gz_FU x0 0 g
set_option maxRecDepth 100000 in
set_option maxHeartbeats 4000000 in
theorem kX3_letterOf {La : gz_L}  {x0 : Int32} {g : gz_S} {r : Int32 × gz_S}  (hf : fX3_letterOf La  x0 g = some r) : gz_K La 1 mX3_letterOf [.int x0] g (gz_Fi r) := by
  unfold fX3_letterOf at hf
  refine gz_K.of 1 (by decide +kernel) rfl ?_
  show gz_J La 1 mX3_letterOf 0 [some (.int x0), none] [] g (gz_Fi r)
  refine sz_iconst dX3_letterOf_0 (cI0) ?_
  refine sz_istore_n dX3_letterOf_1 rfl (Nat.le_of_ble_eq_true rfl) rfl ?_
  refine sz_ls (l2 := [some (.int x0), some (.int 0)]) rfl ?_
  exact tX3_letterOf_2    _ _ _ _ _ hf
def fX9_readNumber_15 (La : gz_L)   (k62 : Int32 → gz_S → Option (Int32 × gz_S)) : Nat → Int32 → Int32 → gz_S → Option (Int32 × gz_S)
  | 0, _, _, _ => none
  | n + 1, x1, x2, g => if (x2 + x1) ≤ (g.1 1 2) then k62 x2 g else (fX9_digitHere La   g).bind (fun q26 => if q26.1 = (-1) then k62 x2 q26.2 else (fX9_digitHere La   q26.2).bind (fun q42 => gz_let (gz_wi q42.2 1 4 (((q26.2.1 1 4) * 10) + q42.1)) (fun g46 => gz_let (gz_wi g46 1 2 ((g46.1 1 2) + 1)) (fun g56 => fX9_readNumber_15 La   k62 n x1 x2 g56))))
set_option maxRecDepth 100000 in
set_option maxHeartbeats 4000000 in
theorem tX9_readNumber_15 {La : gz_L}   {k62 : Int32 → gz_S → Option (Int32 × gz_S)}  (hk62 : ∀ (x2 : Int32) (g : gz_S) (r : Int32 × gz_S), k62 x2 g = some r → gz_J La 2 mX9_readNumber 62 [some (.ref 1), none, some (.int x2)] [] g (gz_Fi r)) : ∀ (n : Nat) (x1 : Int32) (x2 : Int32) (g : gz_S) (r : Int32 × gz_S), fX9_readNumber_15 La   k62 n x1 x2 g = some r → gz_J La 2 mX9_readNumber 15 [some (.ref 1), some (.int x1), some (.int x2)] [] g (gz_Fi r) := by
  intro n
  induction n with
  | zero => intro x1 x2 g r hf; exact nomatch (show (none : Option (Int32 × gz_S)) = some r from hf)
  | succ n ih =>
    intro x1 x2 g r hf
    unfold fX9_readNumber_15 at hf
    refine sz_aload_n dX9_readNumber_15 rfl ?_
    refine sz_getI dX9_readNumber_16 flX9_19 kd1 rfl ?_
    refine sz_iload_n dX9_readNumber_19 rfl ?_
    refine sz_iload_n dX9_readNumber_20 rfl ?_
    refine sz_iadd dX9_readNumber_21 ?_
    refine sz_icmp_ge 62 dX9_readNumber_22 (by decide) (fun c22 => ?_) (fun c22 => ?_)
    · have hf := gz_ip c22 hf
      refine sz_weak (l2 := [some (.ref 1), none, some (.int x2)]) (gz_subk (gz_subn (gz_subk gz_sub0))) ?_
      exact hk62 _ _ _ hf
    · have hf := gz_in1 c22 hf
      refine sz_aload_n dX9_readNumber_25 rfl ?_
      obtain ⟨q26, eq26, hf⟩ := gz_bd hf
      refine sz_callVi [] [] dX9_readNumber_26 mvX9_33 (Nat.le_of_ble_eq_true rfl) (by decide : 9 < 13) kd1 rfl (Nat.le_of_ble_eq_true rfl) (kX9_digitHere   eq26) ?_
      refine sz_iconst dX9_readNumber_29 (cIm1) ?_
      refine sz_icmp_eq 62 dX9_readNumber_30 (by decide) (fun c30 => ?_) (fun c30 => ?_)
      · have hf := gz_ip c30 hf
        refine sz_weak (l2 := [some (.ref 1), none, some (.int x2)]) (gz_subk (gz_subn (gz_subk gz_sub0))) ?_
        exact hk62 _ _ _ hf
      · have hf := gz_in1 c30 hf
        refine sz_aload_n dX9_readNumber_33 rfl ?_
        refine sz_aload_n dX9_readNumber_34 rfl ?_
        refine sz_getI dX9_readNumber_35 flX9_39 kd1 rfl ?_
        refine sz_bipush dX9_readNumber_38 (cB10) ?_
        refine sz_imul dX9_readNumber_40 ?_
        refine sz_aload_n dX9_readNumber_41 rfl ?_
        obtain ⟨q42, eq42, hf⟩ := gz_bd hf
        refine sz_callVi [] [.int ((q26.2.1 1 4) * 10), .ref 1] dX9_readNumber_42 mvX9_33 (Nat.le_of_ble_eq_true rfl) (by decide : 9 < 13) kd1 rfl (Nat.le_of_ble_eq_true rfl) (kX9_digitHere   eq42) ?_
        refine sz_iadd dX9_readNumber_45 ?_
        obtain ⟨g46, eg46, hf⟩ := gz_lt hf
        refine sz_putI2 dX9_readNumber_46 flX9_39 kd1 fi9_4 eg46 ?_
        refine sz_aload_n dX9_readNumber_49 rfl ?_
        refine sz_dup dX9_readNumber_50 rfl ?_
        refine sz_getI dX9_readNumber_51 flX9_19 kd1 rfl ?_
        refine sz_iconst dX9_readNumber_54 (cI1) ?_
        refine sz_iadd dX9_readNumber_55 ?_
        obtain ⟨g56, eg56, hf⟩ := gz_lt hf
        refine sz_putI2 dX9_readNumber_56 flX9_19 kd1 fi9_2 eg56 ?_
        refine sz_goto 15 dX9_readNumber_59 (by decide) ?_
        exact ih _ _ _ _ hf
def fX9_readNumber_78 (La : gz_L)     (g : gz_S) : Option (Int32 × gz_S) := (fX9_refuse La  (g.1 1 2) g).bind (fun q83 => if q83.1 = 0 then some (0, q83.2) else some (1, q83.2))
set_option maxRecDepth 100000 in
set_option maxHeartbeats 4000000 in
theorem tX9_readNumber_78 {La : gz_L}      : ∀  (g : gz_S) (r : Int32 × gz_S), fX9_readNumber_78 La     g = some r → gz_J La 2 mX9_readNumber 78 [some (.ref 1), none, none] [] g (gz_Fi r) := by
  intro  g r hf
  unfold fX9_readNumber_78 at hf
  refine sz_aload_n dX9_readNumber_78 rfl ?_
  refine sz_aload_n dX9_readNumber_79 rfl ?_
  refine sz_getI dX9_readNumber_80 flX9_19 kd1 rfl ?_
  obtain ⟨q83, eq83, hf⟩ := gz_bd hf
  refine sz_callVi [.int (g.1 1 2)] [] dX9_readNumber_83 mvX9_29 (Nat.le_of_ble_eq_true rfl) (by decide : 9 < 13) kd1 rfl (Nat.le_of_ble_eq_true rfl) (kX9_refuse   eq83) ?_
  refine sz_if_eq 93 dX9_readNumber_86 (by decide) (fun c86 => ?_) (fun c86 => ?_)
  · have hf := gz_ip c86 hf
    refine sz_iconst dX9_readNumber_93 (cI0) ?_
    cases hf
    exact sz_iret dX9_readNumber_94 rfl rfl ⟨rfl, rfl⟩
  · have hf := gz_in1 c86 hf
    refine sz_iconst dX9_readNumber_89 (cI1) ?_
    refine sz_goto 94 dX9_readNumber_90 (by decide) ?_
    cases hf
    exact sz_iret dX9_readNumber_94 rfl rfl ⟨rfl, rfl⟩
def fX9_readNumber_62 (La : gz_L)    (x2 : Int32) (g : gz_S) : Option (Int32 × gz_S) := if (g.1 1 2) ≤ x2 then fX9_readNumber_78 La      g else (fX9_digitHere La   g).bind (fun q71 => if q71.1 = (-1) then some (1, q71.2) else fX9_readNumber_78 La      q71.2)
set_option maxRecDepth 100000 in
set_option maxHeartbeats 4000000 in
theorem tX9_readNumber_62 {La : gz_L}      : ∀ (x2 : Int32) (g : gz_S) (r : Int32 × gz_S), fX9_readNumber_62 La    x2 g = some r → gz_J La 2 mX9_readNumber 62 [some (.ref 1), none, some (.int x2)] [] g (gz_Fi r) := by
  intro x2 g r hf
  unfold fX9_readNumber_62 at hf
  refine sz_aload_n dX9_readNumber_62 rfl ?_
  refine sz_getI dX9_readNumber_63 flX9_19 kd1 rfl ?_
  refine sz_iload_n dX9_readNumber_66 rfl ?_
  refine sz_icmp_le 78 dX9_readNumber_67 (by decide) (fun c67 => ?_) (fun c67 => ?_)
  · have hf := gz_ip c67 hf
    refine sz_weak (l2 := [some (.ref 1), none, none]) (gz_subk (gz_subk (gz_subn gz_sub0))) ?_
    exact tX9_readNumber_78     _ _ hf
  · have hf := gz_in1 c67 hf
    refine sz_aload_n dX9_readNumber_70 rfl ?_
    obtain ⟨q71, eq71, hf⟩ := gz_bd hf
    refine sz_callVi [] [] dX9_readNumber_71 mvX9_33 (Nat.le_of_ble_eq_true rfl) (by decide : 9 < 13) kd1 rfl (Nat.le_of_ble_eq_true rfl) (kX9_digitHere   eq71) ?_
    refine sz_iconst dX9_readNumber_74 (cIm1) ?_
    refine sz_icmp_eq 89 dX9_readNumber_75 (by decide) (fun c75 => ?_) (fun c75 => ?_)
    · have hf := gz_ip c75 hf
      refine sz_iconst dX9_readNumber_89 (cI1) ?_
      refine sz_goto 94 dX9_readNumber_90 (by decide) ?_
      cases hf
      exact sz_iret dX9_readNumber_94 rfl rfl ⟨rfl, rfl⟩
    · have hf := gz_in1 c75 hf
      refine sz_weak (l2 := [some (.ref 1), none, none]) (gz_subk (gz_subk (gz_subn gz_sub0))) ?_
      exact tX9_readNumber_78     _ _ hf
def fX9_readNumber (La : gz_L)  (x1 : Int32) (g : gz_S) : Option (Int32 × gz_S) :=
  (fX9_next La   g).bind (fun q1 => gz_let (gz_wi q1.2 1 4 0) (fun g7 => gz_let (g7.1 1 2) (fun y14 => fX9_readNumber_15 La   (fX9_readNumber_62 La    ) gz_FU x1 y14 g7)))
set_option maxRecDepth 100000 in
set_option maxHeartbeats 4000000 in
theorem kX9_readNumber {La : gz_L}  {x1 : Int32} {g : gz_S} {r : Int32 × gz_S}  (hf : fX9_readNumber La  x1 g = some r) : gz_K La 2 mX9_readNumber [.ref 1, .int x1] g (gz_Fi r) := by
  unfold fX9_readNumber at hf
  refine gz_K.of 1 (by decide +kernel) rfl ?_
  show gz_J La 2 mX9_readNumber 0 [some (.ref 1), some (.int x1), none] [] g (gz_Fi r)
  refine sz_aload_n dX9_readNumber_0 rfl ?_
  obtain ⟨q1, eq1, hf⟩ := gz_bd hf
  refine sz_callVi [] [] dX9_readNumber_1 mvX9_25 (Nat.le_of_ble_eq_true rfl) (by decide : 9 < 13) kd1 rfl (Nat.le_of_ble_eq_true rfl) (kX9_next   eq1) ?_
  refine sz_pop dX9_readNumber_4 rfl ?_
  refine sz_aload_n dX9_readNumber_5 rfl ?_
  refine sz_iconst dX9_readNumber_6 (cI0) ?_
  obtain ⟨g7, eg7, hf⟩ := gz_lt hf
  refine sz_putI2 dX9_readNumber_7 flX9_39 kd1 fi9_4 eg7 ?_
  refine sz_aload_n dX9_readNumber_10 rfl ?_
  refine sz_getI dX9_readNumber_11 flX9_19 kd1 rfl ?_
  obtain ⟨y14, ey14, hf⟩ := gz_lt hf
  refine sz_topi ey14 ?_
  refine sz_istore_n dX9_readNumber_14 rfl (Nat.le_of_ble_eq_true rfl) rfl ?_
  refine sz_ls (l2 := [some (.ref 1), some (.int x1), some (.int y14)]) rfl ?_
  exact tX9_readNumber_15   (tX9_readNumber_62   ) _ _ _ _ _ hf
def fX9_accept (La : gz_L)  (x1 : Int32) (g : gz_S) : Option (Int32 × gz_S) :=
  (fX9_next La   g).bind (fun q1 => if q1.1 = x1 then gz_let (gz_wi q1.2 1 2 ((q1.2.1 1 2) + 1)) (fun g17 => some (1, g17)) else some (0, q1.2))
set_option maxRecDepth 100000 in
set_option maxHeartbeats 4000000 in
theorem kX9_accept {La : gz_L}  {x1 : Int32} {g : gz_S} {r : Int32 × gz_S}  (hf : fX9_accept La  x1 g = some r) : gz_K La 2 mX9_accept [.ref 1, .int x1] g (gz_Fi r) := by
  unfold fX9_accept at hf
  refine gz_K.of 0 (by decide +kernel) rfl ?_
  show gz_J La 2 mX9_accept 0 [some (.ref 1), some (.int x1)] [] g (gz_Fi r)
  refine sz_aload_n dX9_accept_0 rfl ?_
  obtain ⟨q1, eq1, hf⟩ := gz_bd hf
  refine sz_callVi [] [] dX9_accept_1 mvX9_25 (Nat.le_of_ble_eq_true rfl) (by decide : 9 < 13) kd1 rfl (Nat.le_of_ble_eq_true rfl) (kX9_next   eq1) ?_
  refine sz_iload_n dX9_accept_4 rfl ?_
  refine sz_icmp_eq 10 dX9_accept_5 (by decide) (fun c5 => ?_) (fun c5 => ?_)
  · have hf := gz_ip c5 hf
    refine sz_aload_n dX9_accept_10 rfl ?_
    refine sz_dup dX9_accept_11 rfl ?_
    refine sz_getI dX9_accept_12 flX9_19 kd1 rfl ?_
    refine sz_iconst dX9_accept_15 (cI1) ?_
    refine sz_iadd dX9_accept_16 ?_
    obtain ⟨g17, eg17, hf⟩ := gz_lt hf
    refine sz_putI2 dX9_accept_17 flX9_19 kd1 fi9_2 eg17 ?_
    refine sz_iconst dX9_accept_20 (cI1) ?_
    cases hf
    exact sz_iret dX9_accept_21 rfl rfl ⟨rfl, rfl⟩
  · have hf := gz_in1 c5 hf
    refine sz_iconst dX9_accept_8 (cI0) ?_
    cases hf
    exact sz_iret dX9_accept_9 rfl rfl ⟨rfl, rfl⟩
def fX5_forget (La : gz_L)   (g : gz_S) : Option (gz_S) :=
  gz_let (gz_wi g 9 0 0) (fun g2 => gz_let (gz_wi g2 9 5 0) (fun g7 => some g7))
set_option maxRecDepth 100000 in
set_option maxHeartbeats 4000000 in
theorem kX5_forget {La : gz_L}   {g : gz_S} {r : gz_S}  (hf : fX5_forget La   g = some r) : gz_K La 1 mX5_forget [.ref 9] g (gz_Fv r) := by
  unfold fX5_forget at hf
  refine gz_K.of 0 (by decide +kernel) rfl ?_
  show gz_J La 1 mX5_forget 0 [some (.ref 9)] [] g (gz_Fv r)
  refine sz_aload_n dX5_forget_0 rfl ?_
  refine sz_iconst dX5_forget_1 (cI0) ?_
  obtain ⟨g2, eg2, hf⟩ := gz_lt hf
  refine sz_putI2 dX5_forget_2 flX5_24 kd9 fi5_0 eg2 ?_
  refine sz_aload_n dX5_forget_5 rfl ?_
  refine sz_iconst dX5_forget_6 (cI0) ?_
  obtain ⟨g7, eg7, hf⟩ := gz_lt hf
  refine sz_putZ2 dX5_forget_7 flX5_28 kd9 fi5_5 (Or.inl rfl) eg7 ?_
  cases hf
  exact sz_ret dX5_forget_10 rfl ⟨rfl, rfl⟩
def fX5_keep (La : gz_L)  (w1 : Nat) (g : gz_S) : Option (gz_S) :=
  if ¬ ((g.1 9 6) * 50) < 0 ∧ 0 + 50 ≤ 61 ∧ (Int32.toNatClampNeg ((g.1 9 6) * 50)) + 50 ≤ 2000 then gz_let (gz_wa g 26 (va_cpy (g.1 (w1 + 16)) (g.1 26) 0 (Int32.toNatClampNeg ((g.1 9 6) * 50)) 50)) (fun g18 => gz_let (gz_wi g18 9 6 (((g18.1 9 6) + 1) - ((g18.1 9 6) + 1) / 40 * 40)) (fun g31 => (fJ9_min_7cf53 La  40 ((g31.1 9 0) + 1) g31).bind (fun q43 => gz_let (gz_wi q43.2 9 0 q43.1) (fun g46 => some g46)))) else none
set_option maxRecDepth 100000 in
set_option maxHeartbeats 4000000 in
theorem kX5_keep {La : gz_L}  {w1 : Nat} {g : gz_S} {r : gz_S} (hw1 : gz_sc w1) (hf : fX5_keep La  w1 g = some r) : gz_K La 2 mX5_keep [.ref 9, .ref w1] g (gz_Fv r) := by
  unfold fX5_keep at hf
  refine gz_K.of 0 (by decide +kernel) rfl ?_
  show gz_J La 2 mX5_keep 0 [some (.ref 9), some (.ref w1)] [] g (gz_Fv r)
  refine sz_aload_n dX5_keep_0 rfl ?_
  refine sz_getR dX5_keep_1 flX5_32 (kdS hw1) rfl (rfS hw1) ?_
  refine sz_iconst dX5_keep_4 (cI0) ?_
  refine sz_aload_n dX5_keep_5 rfl ?_
  refine sz_getR dX5_keep_6 flX5_11 kd9 rfl rf9_1 ?_
  refine sz_aload_n dX5_keep_9 rfl ?_
  refine sz_getI dX5_keep_10 flX5_35 kd9 rfl ?_
  refine sz_bipush dX5_keep_13 (cB50) ?_
  refine sz_imul dX5_keep_15 ?_
  refine sz_bipush dX5_keep_16 (cB50) ?_
  obtain ⟨⟨c18_0, c18_1, c18_2⟩, hf⟩ := gz_gd hf
  obtain ⟨g18, eg18, hf⟩ := gz_lt hf
  refine sz_acopy dX5_keep_18 acX5_38 (by decide) rfl (kdSv hw1) kd26 (by decide) c18_0 (by decide) tn0 rfl tn50 c18_1 c18_2 eg18 ?_
  refine sz_aload_n dX5_keep_21 rfl ?_
  refine sz_aload_n dX5_keep_22 rfl ?_
  refine sz_getI dX5_keep_23 flX5_35 kd9 rfl ?_
  refine sz_iconst dX5_keep_26 (cI1) ?_
  refine sz_iadd dX5_keep_27 ?_
  refine sz_bipush dX5_keep_28 (cB40) ?_
  refine sz_irem dX5_keep_30 (by decide) ?_
  obtain ⟨g31, eg31, hf⟩ := gz_lt hf
  refine sz_putI2 dX5_keep_31 flX5_35 kd9 fi5_6 eg31 ?_
  refine sz_aload_n dX5_keep_34 rfl ?_
  refine sz_bipush dX5_keep_35 (cB40) ?_
  refine sz_aload_n dX5_keep_37 rfl ?_
  refine sz_getI dX5_keep_38 flX5_24 kd9 rfl ?_
  refine sz_iconst dX5_keep_41 (cI1) ?_
  refine sz_iadd dX5_keep_42 ?_
  obtain ⟨q43, eq43, hf⟩ := gz_bd hf
  refine sz_callSi [.int 40, .int ((g31.1 9 0) + 1)] [.ref 9] dX5_keep_43 msX5_44 (Nat.le_of_ble_eq_true rfl) (Nat.le_of_ble_eq_true rfl) (kJ9_min_7cf53   eq43) ?_
  obtain ⟨g46, eg46, hf⟩ := gz_lt hf
  refine sz_putI2 dX5_keep_46 flX5_24 kd9 fi5_0 eg46 ?_
  cases hf
  exact sz_ret dX5_keep_49 rfl ⟨rfl, rfl⟩
def fX5_takeBack (La : gz_L)  (w1 : Nat) (g : gz_S) : Option (Int32 × gz_S) :=
  if 1 ≤ (g.1 9 0) then gz_let (gz_wi g 9 0 ((g.1 9 0) - 1)) (fun g17 => gz_let (gz_wi g17 9 6 ((((g17.1 9 6) + 40) - 1) - (((g17.1 9 6) + 40) - 1) / 40 * 40)) (fun g33 => if ¬ ((g33.1 9 6) * 50) < 0 ∧ (Int32.toNatClampNeg ((g33.1 9 6) * 50)) + 50 ≤ 2000 ∧ 0 + 50 ≤ 61 then gz_let (gz_wa g33 (w1 + 16) (va_cpy (g33.1 26) (g33.1 (w1 + 16)) (Int32.toNatClampNeg ((g33.1 9 6) * 50)) 0 50)) (fun g54 => some (1, g54)) else none)) else some (0, g)
set_option maxRecDepth 100000 in
set_option maxHeartbeats 4000000 in
theorem kX5_takeBack {La : gz_L}  {w1 : Nat} {g : gz_S} {r : Int32 × gz_S} (hw1 : gz_sc w1) (hf : fX5_takeBack La  w1 g = some r) : gz_K La 1 mX5_takeBack [.ref 9, .ref w1] g (gz_Fi r) := by
  unfold fX5_takeBack at hf
  refine gz_K.of 0 (by decide +kernel) rfl ?_
  show gz_J La 1 mX5_takeBack 0 [some (.ref 9), some (.ref w1)] [] g (gz_Fi r)
  refine sz_aload_n dX5_takeBack_0 rfl ?_
  refine sz_getI dX5_takeBack_1 flX5_24 kd9 rfl ?_
  refine sz_iconst dX5_takeBack_4 (cI1) ?_
  refine sz_icmp_ge 10 dX5_takeBack_5 (by decide) (fun c5 => ?_) (fun c5 => ?_)
  · have hf := gz_ip c5 hf
    refine sz_aload_n dX5_takeBack_10 rfl ?_
    refine sz_dup dX5_takeBack_11 rfl ?_
    refine sz_getI dX5_takeBack_12 flX5_24 kd9 rfl ?_
    refine sz_iconst dX5_takeBack_15 (cI1) ?_
    refine sz_isub dX5_takeBack_16 ?_
    obtain ⟨g17, eg17, hf⟩ := gz_lt hf
    refine sz_putI2 dX5_takeBack_17 flX5_24 kd9 fi5_0 eg17 ?_
    refine sz_aload_n dX5_takeBack_20 rfl ?_
    refine sz_aload_n dX5_takeBack_21 rfl ?_
    refine sz_getI dX5_takeBack_22 flX5_35 kd9 rfl ?_
    refine sz_bipush dX5_takeBack_25 (cB40) ?_
    refine sz_iadd dX5_takeBack_27 ?_
    refine sz_iconst dX5_takeBack_28 (cI1) ?_
    refine sz_isub dX5_takeBack_29 ?_
    refine sz_bipush dX5_takeBack_30 (cB40) ?_
    refine sz_irem dX5_takeBack_32 (by decide) ?_
    obtain ⟨g33, eg33, hf⟩ := gz_lt hf
    refine sz_putI2 dX5_takeBack_33 flX5_35 kd9 fi5_6 eg33 ?_
    refine sz_aload_n dX5_takeBack_36 rfl ?_
    refine sz_getR dX5_takeBack_37 flX5_11 kd9 rfl rf9_1 ?_
    refine sz_aload_n dX5_takeBack_40 rfl ?_
    refine sz_getI dX5_takeBack_41 flX5_35 kd9 rfl ?_
    refine sz_bipush dX5_takeBack_44 (cB50) ?_
    refine sz_imul dX5_takeBack_46 ?_
    refine sz_aload_n dX5_takeBack_47 rfl ?_
    refine sz_getR dX5_takeBack_48 flX5_32 (kdS hw1) rfl (rfS hw1) ?_
    refine sz_iconst dX5_takeBack_51 (cI0) ?_
    refine sz_bipush dX5_takeBack_52 (cB50) ?_
    obtain ⟨⟨c54_0, c54_1, c54_2⟩, hf⟩ := gz_gd hf
    obtain ⟨g54, eg54, hf⟩ := gz_lt hf
    refine sz_acopy dX5_takeBack_54 acX5_38 (by decide) rfl kd26 (kdSv hw1) c54_0 (by decide) (by decide) rfl tn0 tn50 c54_1 c54_2 eg54 ?_
    refine sz_iconst dX5_takeBack_57 (cI1) ?_
    cases hf
    exact sz_iret dX5_takeBack_58 rfl rfl ⟨rfl, rfl⟩
  · have hf := gz_in1 c5 hf
    refine sz_iconst dX5_takeBack_8 (cI0) ?_
    cases hf
    exact sz_iret dX5_takeBack_9 rfl rfl ⟨rfl, rfl⟩
def fX5_logLength (La : gz_L)  (w0 : Nat) (g : gz_S) : Option (Int32 × gz_S) :=
  (fJ9_min_7cf53 La  60 (g.1 (w0 + 16) 49) g).bind (fun q9 => some (q9.1, q9.2))
set_option maxRecDepth 100000 in
set_option maxHeartbeats 4000000 in
theorem kX5_logLength {La : gz_L}  {w0 : Nat} {g : gz_S} {r : Int32 × gz_S} (hw0 : gz_sc w0) (hf : fX5_logLength La  w0 g = some r) : gz_K La 2 mX5_logLength [.ref w0] g (gz_Fi r) := by
  unfold fX5_logLength at hf
  refine gz_K.of 0 (by decide +kernel) rfl ?_
  show gz_J La 2 mX5_logLength 0 [some (.ref w0)] [] g (gz_Fi r)
  refine sz_bipush dX5_logLength_0 (cB60) ?_
  refine sz_aload_n dX5_logLength_2 rfl ?_
  refine sz_getR dX5_logLength_3 flX5_32 (kdS hw0) rfl (rfS hw0) ?_
  refine sz_bipush dX5_logLength_6 (cB49) ?_
  refine sz_ialdL dX5_logLength_8 (kdSv hw0) vi49_61 tn49 ?_
  obtain ⟨q9, eq9, hf⟩ := gz_bd hf
  refine sz_callSi [.int 60, .int (g.1 (w0 + 16) 49)] [] dX5_logLength_9 msX5_44 (Nat.le_of_ble_eq_true rfl) (Nat.le_of_ble_eq_true rfl) (kJ9_min_7cf53   eq9) ?_
  cases hf
  exact sz_iret dX5_logLength_12 rfl rfl ⟨rfl, rfl⟩
def fX5_note (La : gz_L)  (x1 : Int32) (x2 : Int32) (x3 : Int32) (x4 : Int32) (g : gz_S) : Option (gz_S) :=
  (fJ9_floorMod_7cf53 La  (x1 - 1) 100 g).bind (fun q9 => if gz_ok q9.1 100 then gz_let (gz_wi q9.2 27 (Int32.toNatClampNeg q9.1) (((x2 <<< ((8 : Int32) &&& 31)) ||| (x3 <<< ((4 : Int32) &&& 31))) ||| x4)) (fun g23 => some g23) else none)
set_option maxRecDepth 100000 in
set_option maxHeartbeats 4000000 in
theorem kX5_note {La : gz_L}  {x1 : Int32} {x2 : Int32} {x3 : Int32} {x4 : Int32} {g : gz_S} {r : gz_S}  (hf : fX5_note La  x1 x2 x3 x4 g = some r) : gz_K La 2 mX5_note [.ref 9, .int x1, .int x2, .int x3, .int x4] g (gz_Fv r) := by
  unfold fX5_note at hf
  refine gz_K.of 0 (by decide +kernel) rfl ?_
  show gz_J La 2 mX5_note 0 [some (.ref 9), some (.int x1), some (.int x2), some (.int x3), some (.int x4)] [] g (gz_Fv r)
  refine sz_aload_n dX5_note_0 rfl ?_
  refine sz_getR dX5_note_1 flX5_15 kd9 rfl rf9_2 ?_
  refine sz_iload_n dX5_note_4 rfl ?_
  refine sz_iconst dX5_note_5 (cI1) ?_
  refine sz_isub dX5_note_6 ?_
  refine sz_bipush dX5_note_7 (cB100) ?_
  obtain ⟨q9, eq9, hf⟩ := gz_bd hf
  refine sz_callSi [.int (x1 - 1), .int 100] [.ref 27] dX5_note_9 msX5_50 (Nat.le_of_ble_eq_true rfl) (Nat.le_of_ble_eq_true rfl) (kJ9_floorMod_7cf53   eq9) ?_
  refine sz_iload_n dX5_note_12 rfl ?_
  refine sz_bipush dX5_note_13 (cB8) ?_
  refine sz_ishl dX5_note_15 ?_
  refine sz_iload_n dX5_note_16 rfl ?_
  refine sz_iconst dX5_note_17 (cI4) ?_
  refine sz_ishl dX5_note_18 ?_
  refine sz_ior dX5_note_19 ?_
  refine sz_iload dX5_note_20 rfl ?_
  refine sz_ior dX5_note_22 ?_
  obtain ⟨c23, hf⟩ := gz_gd hf
  obtain ⟨g23, eg23, hf⟩ := gz_lt hf
  refine sz_iastL dX5_note_23 kd27 c23 rfl eg23 ?_
  cases hf
  exact sz_ret dX5_note_24 rfl ⟨rfl, rfl⟩
def fX5_noted (La : gz_L)  (x1 : Int32) (x2 : Int32) (g : gz_S) : Option (Int32 × gz_S) :=
  (fJ9_floorMod_7cf53 La  x1 100 g).bind (fun q7 => if gz_ok q7.1 100 then gz_let (q7.2.1 27 (Int32.toNatClampNeg q7.1)) (fun y11 => if x2 = 0 then some (y11 >>> ((8 : Int32) &&& 31), q7.2) else if x2 = 1 then some ((y11 >>> ((4 : Int32) &&& 31)) &&& (15 : Int32), q7.2) else some (y11 &&& (15 : Int32), q7.2)) else none)
set_option maxRecDepth 100000 in
set_option maxHeartbeats 4000000 in
theorem kX5_noted {La : gz_L}  {x1 : Int32} {x2 : Int32} {g : gz_S} {r : Int32 × gz_S}  (hf : fX5_noted La  x1 x2 g = some r) : gz_K La 2 mX5_noted [.ref 9, .int x1, .int x2] g (gz_Fi r) := by
  unfold fX5_noted at hf
  refine gz_K.of 1 (by decide +kernel) rfl ?_
  show gz_J La 2 mX5_noted 0 [some (.ref 9), some (.int x1), some (.int x2), none] [] g (gz_Fi r)
  refine sz_aload_n dX5_noted_0 rfl ?_
  refine sz_getR dX5_noted_1 flX5_15 kd9 rfl rf9_2 ?_
  refine sz_iload_n dX5_noted_4 rfl ?_
  refine sz_bipush dX5_noted_5 (cB100) ?_
  obtain ⟨q7, eq7, hf⟩ := gz_bd hf
  refine sz_callSi [.int x1, .int 100] [.ref 27] dX5_noted_7 msX5_50 (Nat.le_of_ble_eq_true rfl) (Nat.le_of_ble_eq_true rfl) (kJ9_floorMod_7cf53   eq7) ?_
  obtain ⟨c10, hf⟩ := gz_gd hf
  refine sz_ialdL dX5_noted_10 kd27 c10 rfl ?_
  obtain ⟨y11, ey11, hf⟩ := gz_lt hf
  refine sz_topi ey11 ?_
  refine sz_istore_n dX5_noted_11 rfl (Nat.le_of_ble_eq_true rfl) rfl ?_
  refine sz_ls (l2 := [some (.ref 9), some (.int x1), some (.int x2), some (.int y11)]) rfl ?_
  refine sz_iload_n dX5_noted_12 rfl ?_
  by_cases c13_0 : x2 = 0
  · have hf := gz_ip c13_0 hf
    refine sz_lookup (off := 27) 40 dX5_noted_13 (by decide) (by first | (rw [c13_0]; done) | (rw [c13_0]; rfl)) (by decide) ?_
    refine sz_iload_n dX5_noted_40 rfl ?_
    refine sz_bipush dX5_noted_41 (cB8) ?_
    refine sz_ishr dX5_noted_43 ?_
    cases hf
    exact sz_iret dX5_noted_44 rfl rfl ⟨rfl, rfl⟩
  have hf := gz_in1 c13_0 hf
  by_cases c13_1 : x2 = 1
  · have hf := gz_ip c13_1 hf
    refine sz_lookup (off := 32) 45 dX5_noted_13 (by decide) (by first | (rw [c13_1]; done) | (rw [c13_1]; rfl)) (by decide) ?_
    refine sz_iload_n dX5_noted_45 rfl ?_
    refine sz_iconst dX5_noted_46 (cI4) ?_
    refine sz_ishr dX5_noted_47 ?_
    refine sz_bipush dX5_noted_48 (cB15) ?_
    refine sz_iand dX5_noted_50 ?_
    cases hf
    exact sz_iret dX5_noted_51 rfl rfl ⟨rfl, rfl⟩
  have hf := gz_in1 c13_1 hf
  refine sz_lookup (off := 39) 52 dX5_noted_13 (by decide) (by show Op.lookupswitch.offset [(0, 27), (1, 32)] _ _ = _; first | (rw [lv_osw c13_0 (by decide), lv_osw c13_1 (by decide)]; done) | (rw [lv_osw c13_0 (by decide), lv_osw c13_1 (by decide)]; rfl)) (by decide) ?_
  refine sz_iload_n dX5_noted_52 rfl ?_
  refine sz_bipush dX5_noted_53 (cB15) ?_
  refine sz_iand dX5_noted_55 ?_
  cases hf
  exact sz_iret dX5_noted_56 rfl rfl ⟨rfl, rfl⟩
def fX5_keepImage (La : gz_L)  (w1 : Nat) (g : gz_S) : Option (gz_S) :=
  if 0 + 50 ≤ 61 ∧ 0 + 50 ≤ 50 then gz_let (gz_wa g 28 (va_cpy (g.1 (w1 + 16)) (g.1 28) 0 0 50)) (fun g12 => if 0 + 100 ≤ 100 ∧ 0 + 100 ≤ 100 then gz_let (gz_wa g12 29 (va_cpy (g12.1 27) (g12.1 29) 0 0 100)) (fun g27 => gz_let (gz_wi g27 9 5 1) (fun g32 => some g32)) else none) else none
set_option maxRecDepth 100000 in
set_option maxHeartbeats 4000000 in
theorem kX5_keepImage {La : gz_L}  {w1 : Nat} {g : gz_S} {r : gz_S} (hw1 : gz_sc w1) (hf : fX5_keepImage La  w1 g = some r) : gz_K La 1 mX5_keepImage [.ref 9, .ref w1] g (gz_Fv r) := by
  unfold fX5_keepImage at hf
  refine gz_K.of 0 (by decide +kernel) rfl ?_
  show gz_J La 1 mX5_keepImage 0 [some (.ref 9), some (.ref w1)] [] g (gz_Fv r)
  refine sz_aload_n dX5_keepImage_0 rfl ?_
  refine sz_getR dX5_keepImage_1 flX5_32 (kdS hw1) rfl (rfS hw1) ?_
  refine sz_iconst dX5_keepImage_4 (cI0) ?_
  refine sz_aload_n dX5_keepImage_5 rfl ?_
  refine sz_getR dX5_keepImage_6 flX5_18 kd9 rfl rf9_3 ?_
  refine sz_iconst dX5_keepImage_9 (cI0) ?_
  refine sz_bipush dX5_keepImage_10 (cB50) ?_
  obtain ⟨⟨c12_0, c12_1⟩, hf⟩ := gz_gd hf
  obtain ⟨g12, eg12, hf⟩ := gz_lt hf
  refine sz_acopy dX5_keepImage_12 acX5_38 (by decide) rfl (kdSv hw1) kd28 (by decide) (by decide) (by decide) tn0 tn0 tn50 c12_0 c12_1 eg12 ?_
  refine sz_aload_n dX5_keepImage_15 rfl ?_
  refine sz_getR dX5_keepImage_16 flX5_15 kd9 rfl rf9_2 ?_
  refine sz_iconst dX5_keepImage_19 (cI0) ?_
  refine sz_aload_n dX5_keepImage_20 rfl ?_
  refine sz_getR dX5_keepImage_21 flX5_21 kd9 rfl rf9_4 ?_
  refine sz_iconst dX5_keepImage_24 (cI0) ?_
  refine sz_bipush dX5_keepImage_25 (cB100) ?_
  obtain ⟨⟨c27_0, c27_1⟩, hf⟩ := gz_gd hf
  obtain ⟨g27, eg27, hf⟩ := gz_lt hf
  refine sz_acopy dX5_keepImage_27 acX5_38 (by decide) rfl kd27 kd29 (by decide) (by decide) (by decide) tn0 tn0 tn100 c27_0 c27_1 eg27 ?_
  refine sz_aload_n dX5_keepImage_30 rfl ?_
  refine sz_iconst dX5_keepImage_31 (cI1) ?_
  obtain ⟨g32, eg32, hf⟩ := gz_lt hf
  refine sz_putZ2 dX5_keepImage_32 flX5_28 kd9 fi5_5 (Or.inr rfl) eg32 ?_
  cases hf
  exact sz_ret dX5_keepImage_35 rfl ⟨rfl, rfl⟩
def fX5_bringBack (La : gz_L)  (w1 : Nat) (g : gz_S) : Option (Int32 × gz_S) :=
  if (g.1 9 5) = 0 then some (0, g) else if 0 + 50 ≤ 50 ∧ 0 + 50 ≤ 61 then gz_let (gz_wa g (w1 + 16) (va_cpy (g.1 28) (g.1 (w1 + 16)) 0 0 50)) (fun g21 => if 0 + 100 ≤ 100 ∧ 0 + 100 ≤ 100 then gz_let (gz_wa g21 27 (va_cpy (g21.1 29) (g21.1 27) 0 0 100)) (fun g36 => gz_let (gz_wi g36 9 0 0) (fun g41 => some (1, g41))) else none) else none
set_option maxRecDepth 100000 in
set_option maxHeartbeats 4000000 in
theorem kX5_bringBack {La : gz_L}  {w1 : Nat} {g : gz_S} {r : Int32 × gz_S} (hw1 : gz_sc w1) (hf : fX5_bringBack La  w1 g = some r) : gz_K La 1 mX5_bringBack [.ref 9, .ref w1] g (gz_Fi r) := by
  unfold fX5_bringBack at hf
  refine gz_K.of 0 (by decide +kernel) rfl ?_
  show gz_J La 1 mX5_bringBack 0 [some (.ref 9), some (.ref w1)] [] g (gz_Fi r)
  refine sz_aload_n dX5_bringBack_0 rfl ?_
  refine sz_getI dX5_bringBack_1 flX5_28 kd9 rfl ?_
  refine sz_if_ne 9 dX5_bringBack_4 (by decide) (fun c4 => ?_) (fun c4 => ?_)
  · have hf := gz_in1 c4 hf
    refine sz_aload_n dX5_bringBack_9 rfl ?_
    refine sz_getR dX5_bringBack_10 flX5_18 kd9 rfl rf9_3 ?_
    refine sz_iconst dX5_bringBack_13 (cI0) ?_
    refine sz_aload_n dX5_bringBack_14 rfl ?_
    refine sz_getR dX5_bringBack_15 flX5_32 (kdS hw1) rfl (rfS hw1) ?_
    refine sz_iconst dX5_bringBack_18 (cI0) ?_
    refine sz_bipush dX5_bringBack_19 (cB50) ?_
    obtain ⟨⟨c21_0, c21_1⟩, hf⟩ := gz_gd hf
    obtain ⟨g21, eg21, hf⟩ := gz_lt hf
    refine sz_acopy dX5_bringBack_21 acX5_38 (by decide) rfl kd28 (kdSv hw1) (by decide) (by decide) (by decide) tn0 tn0 tn50 c21_0 c21_1 eg21 ?_
    refine sz_aload_n dX5_bringBack_24 rfl ?_
    refine sz_getR dX5_bringBack_25 flX5_21 kd9 rfl rf9_4 ?_
    refine sz_iconst dX5_bringBack_28 (cI0) ?_
    refine sz_aload_n dX5_bringBack_29 rfl ?_
    refine sz_getR dX5_bringBack_30 flX5_15 kd9 rfl rf9_2 ?_
    refine sz_iconst dX5_bringBack_33 (cI0) ?_
    refine sz_bipush dX5_bringBack_34 (cB100) ?_
    obtain ⟨⟨c36_0, c36_1⟩, hf⟩ := gz_gd hf
    obtain ⟨g36, eg36, hf⟩ := gz_lt hf
    refine sz_acopy dX5_bringBack_36 acX5_38 (by decide) rfl kd29 kd27 (by decide) (by decide) (by decide) tn0 tn0 tn100 c36_0 c36_1 eg36 ?_
    refine sz_aload_n dX5_bringBack_39 rfl ?_
    refine sz_iconst dX5_bringBack_40 (cI0) ?_
    obtain ⟨g41, eg41, hf⟩ := gz_lt hf
    refine sz_putI2 dX5_bringBack_41 flX5_24 kd9 fi5_0 eg41 ?_
    refine sz_iconst dX5_bringBack_44 (cI1) ?_
    cases hf
    exact sz_iret dX5_bringBack_45 rfl rfl ⟨rfl, rfl⟩
  · have hf := gz_ip c4 hf
    refine sz_iconst dX5_bringBack_7 (cI0) ?_
    cases hf
    exact sz_iret dX5_bringBack_8 rfl rfl ⟨rfl, rfl⟩
def fX9_filled_22 (La : gz_L)   (k5 : Int32 → Int32 → Int32 → gz_S → Option (Int32 × gz_S)) (x0 : Int32) (x1 : Int32) (x2 : Int32) (g : gz_S) : Option (Int32 × gz_S) := gz_let (x2 + (-8)) (fun y22 => k5 x0 x1 y22 g)
set_option maxRecDepth 100000 in
set_option maxHeartbeats 4000000 in
theorem tX9_filled_22 {La : gz_L}   {k5 : Int32 → Int32 → Int32 → gz_S → Option (Int32 × gz_S)}  (hk5 : ∀ (x0 : Int32) (x1 : Int32) (x2 : Int32) (g : gz_S) (r : Int32 × gz_S), k5 x0 x1 x2 g = some r → gz_J La 1 mX9_filled 5 [some (.int x0), some (.int x1), some (.int x2)] [] g (gz_Fi r)) : ∀ (x0 : Int32) (x1 : Int32) (x2 : Int32) (g : gz_S) (r : Int32 × gz_S), fX9_filled_22 La   k5 x0 x1 x2 g = some r → gz_J La 1 mX9_filled 22 [some (.int x0), some (.int x1), some (.int x2)] [] g (gz_Fi r) := by
  intro x0 x1 x2 g r hf
  unfold fX9_filled_22 at hf
  obtain ⟨y22, ey22, hf⟩ := gz_lt hf
  refine sz_iinc (v := y22) dX9_filled_22 rfl (by rw [ey22, cIm8]) (Nat.le_of_ble_eq_true rfl) rfl ?_
  refine sz_ls (l2 := [some (.int x0), some (.int x1), some (.int y22)]) rfl ?_
  refine sz_goto 5 dX9_filled_25 (by decide) ?_
  exact hk5 _ _ _ _ _ hf
def fX9_filled_5 (La : gz_L)    : Nat → Int32 → Int32 → Int32 → gz_S → Option (Int32 × gz_S)
  | 0, _, _, _, _ => none
  | n + 1, x0, x1, x2, g => if x2 < 0 then some (x1, g) else if ((gz_ushr x0 x2) &&& (255 : Int32)) = 0 then fX9_filled_22 La   (fX9_filled_5 La    n)  x0 x1 x2 g else gz_let (x1 + 1) (fun y19 => fX9_filled_22 La   (fX9_filled_5 La    n)  x0 y19 x2 g)
set_option maxRecDepth 100000 in
set_option maxHeartbeats 4000000 in
theorem tX9_filled_5 {La : gz_L}      : ∀ (n : Nat) (x0 : Int32) (x1 : Int32) (x2 : Int32) (g : gz_S) (r : Int32 × gz_S), fX9_filled_5 La    n x0 x1 x2 g = some r → gz_J La 1 mX9_filled 5 [some (.int x0), some (.int x1), some (.int x2)] [] g (gz_Fi r) := by
  intro n
  induction n with
  | zero => intro x0 x1 x2 g r hf; exact nomatch (show (none : Option (Int32 × gz_S)) = some r from hf)
  | succ n ih =>
    intro x0 x1 x2 g r hf
    unfold fX9_filled_5 at hf
    refine sz_iload_n dX9_filled_5 rfl ?_
    refine sz_if_lt 28 dX9_filled_6 (by decide) (fun c6 => ?_) (fun c6 => ?_)
    · have hf := gz_ip c6 hf
      refine sz_iload_n dX9_filled_28 rfl ?_
      cases hf
      exact sz_iret dX9_filled_29 rfl rfl ⟨rfl, rfl⟩
    · have hf := gz_in1 c6 hf
      refine sz_iload_n dX9_filled_9 rfl ?_
      refine sz_iload_n dX9_filled_10 rfl ?_
      refine sz_iushr dX9_filled_11 ?_
      refine sz_sipush dX9_filled_12 (cH255) ?_
      refine sz_iand dX9_filled_15 ?_
      refine sz_if_eq 22 dX9_filled_16 (by decide) (fun c16 => ?_) (fun c16 => ?_)
      · have hf := gz_ip c16 hf
        exact tX9_filled_22   ih _ _ _ _ _ hf
      · have hf := gz_in1 c16 hf
        obtain ⟨y19, ey19, hf⟩ := gz_lt hf
        refine sz_iinc (v := y19) dX9_filled_19 rfl (by rw [ey19, cI1]) (Nat.le_of_ble_eq_true rfl) rfl ?_
        refine sz_ls (l2 := [some (.int x0), some (.int y19), some (.int x2)]) rfl ?_
        exact tX9_filled_22   ih _ _ _ _ _ hf
def fX9_filled (La : gz_L)  (x0 : Int32) (g : gz_S) : Option (Int32 × gz_S) :=
  fX9_filled_5 La    gz_FU x0 0 24 g
set_option maxRecDepth 100000 in
set_option maxHeartbeats 4000000 in
theorem kX9_filled {La : gz_L}  {x0 : Int32} {g : gz_S} {r : Int32 × gz_S}  (hf : fX9_filled La  x0 g = some r) : gz_K La 1 mX9_filled [.int x0] g (gz_Fi r) := by
  unfold fX9_filled at hf
  refine gz_K.of 2 (by decide +kernel) rfl ?_
  show gz_J La 1 mX9_filled 0 [some (.int x0), none, none] [] g (gz_Fi r)
  refine sz_iconst dX9_filled_0 (cI0) ?_
  refine sz_istore_n dX9_filled_1 rfl (Nat.le_of_ble_eq_true rfl) rfl ?_
  refine sz_ls (l2 := [some (.int x0), some (.int 0), none]) rfl ?_
  refine sz_bipush dX9_filled_2 (cB24) ?_
  refine sz_istore_n dX9_filled_4 rfl (Nat.le_of_ble_eq_true rfl) rfl ?_
  refine sz_ls (l2 := [some (.int x0), some (.int 0), some (.int 24)]) rfl ?_
  exact tX9_filled_5    _ _ _ _ _ _ hf
def fX9_add_49 (La : gz_L)   (k3 : Int32 → Int32 → gz_S → Option (gz_S)) (x1 : Int32) (x2 : Int32) (g : gz_S) : Option (gz_S) := gz_let (x2 + (-8)) (fun y49 => k3 x1 y49 g)
set_option maxRecDepth 100000 in
set_option maxHeartbeats 4000000 in
theorem tX9_add_49 {La : gz_L}   {k3 : Int32 → Int32 → gz_S → Option (gz_S)}  (hk3 : ∀ (x1 : Int32) (x2 : Int32) (g : gz_S) (r : gz_S), k3 x1 x2 g = some r → gz_J La 1 mX9_add 3 [some (.ref 1), some (.int x1), some (.int x2), none] [] g (gz_Fv r)) : ∀ (x1 : Int32) (x2 : Int32) (g : gz_S) (r : gz_S), fX9_add_49 La   k3 x1 x2 g = some r → gz_J La 1 mX9_add 49 [some (.ref 1), some (.int x1), some (.int x2), none] [] g (gz_Fv r) := by
  intro x1 x2 g r hf
  unfold fX9_add_49 at hf
  obtain ⟨y49, ey49, hf⟩ := gz_lt hf
  refine sz_iinc (v := y49) dX9_add_49 rfl (by rw [ey49, cIm8]) (Nat.le_of_ble_eq_true rfl) rfl ?_
  refine sz_ls (l2 := [some (.ref 1), some (.int x1), some (.int y49), none]) rfl ?_
  refine sz_goto 3 dX9_add_52 (by decide) ?_
  exact hk3 _ _ _ _ hf
def fX9_add_3 (La : gz_L)    : Nat → Int32 → Int32 → gz_S → Option (gz_S)
  | 0, _, _, _ => none
  | n + 1, x1, x2, g => if x2 < 0 then some g else gz_let ((gz_ushr x1 x2) &&& (255 : Int32)) (fun y14 => if y14 = 0 then fX9_add_49 La   (fX9_add_3 La    n)  x1 x2 g else if 240 ≤ (g.1 1 1) then fX9_add_49 La   (fX9_add_3 La    n)  x1 x2 g else if gz_ok (g.1 1 1) 240 then gz_let (gz_wi g 14 (Int32.toNatClampNeg (g.1 1 1)) y14) (fun g38 => gz_let (gz_wi g38 1 1 ((g38.1 1 1) + 1)) (fun g46 => fX9_add_49 La   (fX9_add_3 La    n)  x1 x2 g46)) else none)
set_option maxRecDepth 100000 in
set_option maxHeartbeats 4000000 in
theorem tX9_add_3 {La : gz_L}      : ∀ (n : Nat) (x1 : Int32) (x2 : Int32) (g : gz_S) (r : gz_S), fX9_add_3 La    n x1 x2 g = some r → gz_J La 1 mX9_add 3 [some (.ref 1), some (.int x1), some (.int x2), none] [] g (gz_Fv r) := by
  intro n
  induction n with
  | zero => intro x1 x2 g r hf; exact nomatch (show (none : Option (gz_S)) = some r from hf)
  | succ n ih =>
    intro x1 x2 g r hf
    unfold fX9_add_3 at hf
    refine sz_iload_n dX9_add_3 rfl ?_
    refine sz_if_lt 55 dX9_add_4 (by decide) (fun c4 => ?_) (fun c4 => ?_)
    · have hf := gz_ip c4 hf
      cases hf
      exact sz_ret dX9_add_55 rfl ⟨rfl, rfl⟩
    · have hf := gz_in1 c4 hf
      refine sz_iload_n dX9_add_7 rfl ?_
      refine sz_iload_n dX9_add_8 rfl ?_
      refine sz_iushr dX9_add_9 ?_
      refine sz_sipush dX9_add_10 (cH255) ?_
      refine sz_iand dX9_add_13 ?_
      obtain ⟨y14, ey14, hf⟩ := gz_lt hf
      refine sz_topi ey14 ?_
      refine sz_istore_n dX9_add_14 rfl (Nat.le_of_ble_eq_true rfl) rfl ?_
      refine sz_ls (l2 := [some (.ref 1), some (.int x1), some (.int x2), some (.int y14)]) rfl ?_
      refine sz_iload_n dX9_add_15 rfl ?_
      refine sz_if_eq 49 dX9_add_16 (by decide) (fun c16 => ?_) (fun c16 => ?_)
      · have hf := gz_ip c16 hf
        refine sz_weak (l2 := [some (.ref 1), some (.int x1), some (.int x2), none]) (gz_subk (gz_subk (gz_subk (gz_subn gz_sub0)))) ?_
        exact tX9_add_49   ih _ _ _ _ hf
      · have hf := gz_in1 c16 hf
        refine sz_aload_n dX9_add_19 rfl ?_
        refine sz_getI dX9_add_20 flX9_15 kd1 rfl ?_
        refine sz_sipush dX9_add_23 (cH240) ?_
        refine sz_icmp_ge 49 dX9_add_26 (by decide) (fun c26 => ?_) (fun c26 => ?_)
        · have hf := gz_ip c26 hf
          refine sz_weak (l2 := [some (.ref 1), some (.int x1), some (.int x2), none]) (gz_subk (gz_subk (gz_subk (gz_subn gz_sub0)))) ?_
          exact tX9_add_49   ih _ _ _ _ hf
        · have hf := gz_in1 c26 hf
          refine sz_aload_n dX9_add_29 rfl ?_
          refine sz_getR dX9_add_30 flX9_11 kd1 rfl rf1_0 ?_
          refine sz_aload_n dX9_add_33 rfl ?_
          refine sz_getI dX9_add_34 flX9_15 kd1 rfl ?_
          refine sz_iload_n dX9_add_37 rfl ?_
          obtain ⟨c38, hf⟩ := gz_gd hf
          obtain ⟨g38, eg38, hf⟩ := gz_lt hf
          refine sz_iastL dX9_add_38 kd14 c38 rfl eg38 ?_
          refine sz_aload_n dX9_add_39 rfl ?_
          refine sz_dup dX9_add_40 rfl ?_
          refine sz_getI dX9_add_41 flX9_15 kd1 rfl ?_
          refine sz_iconst dX9_add_44 (cI1) ?_
          refine sz_iadd dX9_add_45 ?_
          obtain ⟨g46, eg46, hf⟩ := gz_lt hf
          refine sz_putI2 dX9_add_46 flX9_15 kd1 fi9_1 eg46 ?_
          refine sz_weak (l2 := [some (.ref 1), some (.int x1), some (.int x2), none]) (gz_subk (gz_subk (gz_subk (gz_subn gz_sub0)))) ?_
          exact tX9_add_49   ih _ _ _ _ hf
def fX9_add (La : gz_L)  (x1 : Int32) (g : gz_S) : Option (gz_S) :=
  fX9_add_3 La    gz_FU x1 24 g
set_option maxRecDepth 100000 in
set_option maxHeartbeats 4000000 in
theorem kX9_add {La : gz_L}  {x1 : Int32} {g : gz_S} {r : gz_S}  (hf : fX9_add La  x1 g = some r) : gz_K La 1 mX9_add [.ref 1, .int x1] g (gz_Fv r) := by
  unfold fX9_add at hf
  refine gz_K.of 2 (by decide +kernel) rfl ?_
  show gz_J La 1 mX9_add 0 [some (.ref 1), some (.int x1), none, none] [] g (gz_Fv r)
  refine sz_bipush dX9_add_0 (cB24) ?_
  refine sz_istore_n dX9_add_2 rfl (Nat.le_of_ble_eq_true rfl) rfl ?_
  refine sz_ls (l2 := [some (.ref 1), some (.int x1), some (.int 24), none]) rfl ?_
  exact tX9_add_3    _ _ _ _ _ hf
