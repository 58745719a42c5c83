def fX6_hasShore (La : gz_L)  (w0 : Nat) (g : gz_S) : Option (Int32 × gz_S) :=
  if (g.1 (w0 + 16) 60) ≤ 0 then some (0, g) else some (1, g)
set_option maxRecDepth 100000 in
set_option maxHeartbeats 4000000 in
theorem kX6_hasShore {La : gz_L}  {w0 : Nat} {g : gz_S} {r : Int32 × gz_S} (hw0 : gz_sc w0) (hf : fX6_hasShore La  w0 g = some r) : gz_K La 1 mX6_hasShore [.ref w0] g (gz_Fi r) := by
  unfold fX6_hasShore at hf
  refine gz_K.of 0 (by decide +kernel) rfl ?_
  show gz_J La 1 mX6_hasShore 0 [some (.ref w0)] [] g (gz_Fi r)
  refine sz_aload_n dX6_hasShore_0 rfl ?_
  refine sz_getR dX6_hasShore_1 flX6_11 (kdS hw0) rfl (rfS hw0) ?_
  refine sz_bipush dX6_hasShore_4 (cB60) ?_
  refine sz_ialdL dX6_hasShore_6 (kdSv hw0) vi60_61 tn60 ?_
  refine sz_if_le 14 dX6_hasShore_7 (by decide) (fun c7 => ?_) (fun c7 => ?_)
  · have hf := gz_ip c7 hf
    refine sz_iconst dX6_hasShore_14 (cI0) ?_
    cases hf
    exact sz_iret dX6_hasShore_15 rfl rfl ⟨rfl, rfl⟩
  · have hf := gz_in1 c7 hf
    refine sz_iconst dX6_hasShore_10 (cI1) ?_
    refine sz_goto 15 dX6_hasShore_11 (by decide) ?_
    cases hf
    exact sz_iret dX6_hasShore_15 rfl rfl ⟨rfl, rfl⟩
def fX6_mayPassHour (La : gz_L)  (w0 : Nat) (g : gz_S) : Option (Int32 × gz_S) :=
  (fX6_hasShore La  w0 g).bind (fun q1 => if q1.1 = 0 then some (0, q1.2) else if 9999 ≤ (q1.2.1 (w0 + 16) 49) then some (0, q1.2) else some (1, q1.2))
set_option maxRecDepth 100000 in
set_option maxHeartbeats 4000000 in
theorem kX6_mayPassHour {La : gz_L}  {w0 : Nat} {g : gz_S} {r : Int32 × gz_S} (hw0 : gz_sc w0) (hf : fX6_mayPassHour La  w0 g = some r) : gz_K La 2 mX6_mayPassHour [.ref w0] g (gz_Fi r) := by
  unfold fX6_mayPassHour at hf
  refine gz_K.of 0 (by decide +kernel) rfl ?_
  show gz_J La 2 mX6_mayPassHour 0 [some (.ref w0)] [] g (gz_Fi r)
  refine sz_aload_n dX6_mayPassHour_0 rfl ?_
  obtain ⟨q1, eq1, hf⟩ := gz_bd hf
  refine sz_callVi [] [] dX6_mayPassHour_1 mvX6_42 (Nat.le_of_ble_eq_true rfl) (by decide : 6 < 13) (kdS hw0) rfl (Nat.le_of_ble_eq_true rfl) (kX6_hasShore  hw0 eq1) ?_
  refine sz_if_eq 24 dX6_mayPassHour_4 (by decide) (fun c4 => ?_) (fun c4 => ?_)
  · have hf := gz_ip c4 hf
    refine sz_iconst dX6_mayPassHour_24 (cI0) ?_
    cases hf
    exact sz_iret dX6_mayPassHour_25 rfl rfl ⟨rfl, rfl⟩
  · have hf := gz_in1 c4 hf
    refine sz_aload_n dX6_mayPassHour_7 rfl ?_
    refine sz_getR dX6_mayPassHour_8 flX6_11 (kdS hw0) rfl (rfS hw0) ?_
    refine sz_bipush dX6_mayPassHour_11 (cB49) ?_
    refine sz_ialdL dX6_mayPassHour_13 (kdSv hw0) vi49_61 tn49 ?_
    refine sz_sipush dX6_mayPassHour_14 (cH9999) ?_
    refine sz_icmp_ge 24 dX6_mayPassHour_17 (by decide) (fun c17 => ?_) (fun c17 => ?_)
    · have hf := gz_ip c17 hf
      refine sz_iconst dX6_mayPassHour_24 (cI0) ?_
      cases hf
      exact sz_iret dX6_mayPassHour_25 rfl rfl ⟨rfl, rfl⟩
    · have hf := gz_in1 c17 hf
      refine sz_iconst dX6_mayPassHour_20 (cI1) ?_
      refine sz_goto 25 dX6_mayPassHour_21 (by decide) ?_
      cases hf
      exact sz_iret dX6_mayPassHour_25 rfl rfl ⟨rfl, rfl⟩
def fX6_hasGoer (La : gz_L)  (w0 : Nat) (x1 : Int32) (g : gz_S) : Option (Int32 × gz_S) :=
  if x1 < 0 then some (0, g) else if (g.1 (w0 + 16) 60) ≤ x1 then some (0, g) else some (1, g)
set_option maxRecDepth 100000 in
set_option maxHeartbeats 4000000 in
theorem kX6_hasGoer {La : gz_L}  {w0 : Nat} {x1 : Int32} {g : gz_S} {r : Int32 × gz_S} (hw0 : gz_sc w0) (hf : fX6_hasGoer La  w0 x1 g = some r) : gz_K La 1 mX6_hasGoer [.ref w0, .int x1] g (gz_Fi r) := by
  unfold fX6_hasGoer at hf
  refine gz_K.of 0 (by decide +kernel) rfl ?_
  show gz_J La 1 mX6_hasGoer 0 [some (.ref w0), some (.int x1)] [] g (gz_Fi r)
  refine sz_iload_n dX6_hasGoer_0 rfl ?_
  refine sz_if_lt 19 dX6_hasGoer_1 (by decide) (fun c1 => ?_) (fun c1 => ?_)
  · have hf := gz_ip c1 hf
    refine sz_iconst dX6_hasGoer_19 (cI0) ?_
    cases hf
    exact sz_iret dX6_hasGoer_20 rfl rfl ⟨rfl, rfl⟩
  · have hf := gz_in1 c1 hf
    refine sz_iload_n dX6_hasGoer_4 rfl ?_
    refine sz_aload_n dX6_hasGoer_5 rfl ?_
    refine sz_getR dX6_hasGoer_6 flX6_11 (kdS hw0) rfl (rfS hw0) ?_
    refine sz_bipush dX6_hasGoer_9 (cB60) ?_
    refine sz_ialdL dX6_hasGoer_11 (kdSv hw0) vi60_61 tn60 ?_
    refine sz_icmp_ge 19 dX6_hasGoer_12 (by decide) (fun c12 => ?_) (fun c12 => ?_)
    · have hf := gz_ip c12 hf
      refine sz_iconst dX6_hasGoer_19 (cI0) ?_
      cases hf
      exact sz_iret dX6_hasGoer_20 rfl rfl ⟨rfl, rfl⟩
    · have hf := gz_in1 c12 hf
      refine sz_iconst dX6_hasGoer_15 (cI1) ?_
      refine sz_goto 20 dX6_hasGoer_16 (by decide) ?_
      cases hf
      exact sz_iret dX6_hasGoer_20 rfl rfl ⟨rfl, rfl⟩
def fX6_isLook (La : gz_L)  (x0 : Int32) (g : gz_S) : Option (Int32 × gz_S) :=
  if x0 < 0 then some (0, g) else if 4 ≤ x0 then some (0, g) else some (1, g)
set_option maxRecDepth 100000 in
set_option maxHeartbeats 4000000 in
theorem kX6_isLook {La : gz_L}  {x0 : Int32} {g : gz_S} {r : Int32 × gz_S}  (hf : fX6_isLook La  x0 g = some r) : gz_K La 1 mX6_isLook [.int x0] g (gz_Fi r) := by
  unfold fX6_isLook at hf
  refine gz_K.of 0 (by decide +kernel) rfl ?_
  show gz_J La 1 mX6_isLook 0 [some (.int x0)] [] g (gz_Fi r)
  refine sz_iload_n dX6_isLook_0 rfl ?_
  refine sz_if_lt 13 dX6_isLook_1 (by decide) (fun c1 => ?_) (fun c1 => ?_)
  · have hf := gz_ip c1 hf
    refine sz_iconst dX6_isLook_13 (cI0) ?_
    cases hf
    exact sz_iret dX6_isLook_14 rfl rfl ⟨rfl, rfl⟩
  · have hf := gz_in1 c1 hf
    refine sz_iload_n dX6_isLook_4 rfl ?_
    refine sz_iconst dX6_isLook_5 (cI4) ?_
    refine sz_icmp_ge 13 dX6_isLook_6 (by decide) (fun c6 => ?_) (fun c6 => ?_)
    · have hf := gz_ip c6 hf
      refine sz_iconst dX6_isLook_13 (cI0) ?_
      cases hf
      exact sz_iret dX6_isLook_14 rfl rfl ⟨rfl, rfl⟩
    · have hf := gz_in1 c6 hf
      refine sz_iconst dX6_isLook_9 (cI1) ?_
      refine sz_goto 14 dX6_isLook_10 (by decide) ?_
      cases hf
      exact sz_iret dX6_isLook_14 rfl rfl ⟨rfl, rfl⟩
def fX6_kind (La : gz_L)  (w0 : Nat) (x1 : Int32) (g : gz_S) : Option (Int32 × gz_S) :=
  if gz_ok ((0 : Int32) + x1) 61 then some (g.1 (w0 + 16) (Int32.toNatClampNeg ((0 : Int32) + x1)), g) else none
set_option maxRecDepth 100000 in
set_option maxHeartbeats 4000000 in
theorem kX6_kind {La : gz_L}  {w0 : Nat} {x1 : Int32} {g : gz_S} {r : Int32 × gz_S} (hw0 : gz_sc w0) (hf : fX6_kind La  w0 x1 g = some r) : gz_K La 1 mX6_kind [.ref w0, .int x1] g (gz_Fi r) := by
  unfold fX6_kind at hf
  refine gz_K.of 0 (by decide +kernel) rfl ?_
  show gz_J La 1 mX6_kind 0 [some (.ref w0), some (.int x1)] [] g (gz_Fi r)
  refine sz_aload_n dX6_kind_0 rfl ?_
  refine sz_getR dX6_kind_1 flX6_11 (kdS hw0) rfl (rfS hw0) ?_
  refine sz_iconst dX6_kind_4 (cI0) ?_
  refine sz_iload_n dX6_kind_5 rfl ?_
  refine sz_iadd dX6_kind_6 ?_
  obtain ⟨c7, hf⟩ := gz_gd hf
  refine sz_ialdL dX6_kind_7 (kdSv hw0) c7 rfl ?_
  cases hf
  exact sz_iret dX6_kind_8 rfl rfl ⟨rfl, rfl⟩
def fX6_mayBegin (La : gz_L)  (w0 : Nat) (x1 : Int32) (x2 : Int32) (g : gz_S) : Option (Int32 × gz_S) :=
  (fX6_hasGoer La  w0 x1 g).bind (fun q2 => if q2.1 = 0 then some (0, q2.2) else (fX6_isLook La  x2 q2.2).bind (fun q9 => if q9.1 = 0 then some (0, q9.2) else if gz_ok ((54 : Int32) + x1) 61 then (fX6_kind La  w0 (q9.2.1 (w0 + 16) (Int32.toNatClampNeg ((54 : Int32) + x1))) q9.2).bind (fun q25 => if q25.1 = 1 then some (0, q25.2) else if (q25.2.1 (w0 + 16) 48) < 3 then some (0, q25.2) else some (1, q25.2)) else none))
set_option maxRecDepth 100000 in
set_option maxHeartbeats 4000000 in
theorem kX6_mayBegin {La : gz_L}  {w0 : Nat} {x1 : Int32} {x2 : Int32} {g : gz_S} {r : Int32 × gz_S} (hw0 : gz_sc w0) (hf : fX6_mayBegin La  w0 x1 x2 g = some r) : gz_K La 2 mX6_mayBegin [.ref w0, .int x1, .int x2] g (gz_Fi r) := by
  unfold fX6_mayBegin at hf
  refine gz_K.of 0 (by decide +kernel) rfl ?_
  show gz_J La 2 mX6_mayBegin 0 [some (.ref w0), some (.int x1), some (.int x2)] [] g (gz_Fi r)
  refine sz_aload_n dX6_mayBegin_0 rfl ?_
  refine sz_iload_n dX6_mayBegin_1 rfl ?_
  obtain ⟨q2, eq2, hf⟩ := gz_bd hf
  refine sz_callVi [.int x1] [] dX6_mayBegin_2 mvX6_25 (Nat.le_of_ble_eq_true rfl) (by decide : 6 < 13) (kdS hw0) rfl (Nat.le_of_ble_eq_true rfl) (kX6_hasGoer  hw0 eq2) ?_
  refine sz_if_eq 47 dX6_mayBegin_5 (by decide) (fun c5 => ?_) (fun c5 => ?_)
  · have hf := gz_ip c5 hf
    refine sz_iconst dX6_mayBegin_47 (cI0) ?_
    cases hf
    exact sz_iret dX6_mayBegin_48 rfl rfl ⟨rfl, rfl⟩
  · have hf := gz_in1 c5 hf
    refine sz_iload_n dX6_mayBegin_8 rfl ?_
    obtain ⟨q9, eq9, hf⟩ := gz_bd hf
    refine sz_callSi [.int x2] [] dX6_mayBegin_9 msX6_56 (Nat.le_of_ble_eq_true rfl) (Nat.le_of_ble_eq_true rfl) (kX6_isLook   eq9) ?_
    refine sz_if_eq 47 dX6_mayBegin_12 (by decide) (fun c12 => ?_) (fun c12 => ?_)
    · have hf := gz_ip c12 hf
      refine sz_iconst dX6_mayBegin_47 (cI0) ?_
      cases hf
      exact sz_iret dX6_mayBegin_48 rfl rfl ⟨rfl, rfl⟩
    · have hf := gz_in1 c12 hf
      refine sz_aload_n dX6_mayBegin_15 rfl ?_
      refine sz_aload_n dX6_mayBegin_16 rfl ?_
      refine sz_getR dX6_mayBegin_17 flX6_11 (kdS hw0) rfl (rfS hw0) ?_
      refine sz_bipush dX6_mayBegin_20 (cB54) ?_
      refine sz_iload_n dX6_mayBegin_22 rfl ?_
      refine sz_iadd dX6_mayBegin_23 ?_
      obtain ⟨c24, hf⟩ := gz_gd hf
      refine sz_ialdL dX6_mayBegin_24 (kdSv hw0) c24 rfl ?_
      obtain ⟨q25, eq25, hf⟩ := gz_bd hf
      refine sz_callVi [.int (q9.2.1 (w0 + 16) (Int32.toNatClampNeg ((54 : Int32) + x1)))] [] dX6_mayBegin_25 mvX6_49 (Nat.le_of_ble_eq_true rfl) (by decide : 6 < 13) (kdS hw0) rfl (Nat.le_of_ble_eq_true rfl) (kX6_kind  hw0 eq25) ?_
      refine sz_iconst dX6_mayBegin_28 (cI1) ?_
      refine sz_icmp_eq 47 dX6_mayBegin_29 (by decide) (fun c29 => ?_) (fun c29 => ?_)
      · have hf := gz_ip c29 hf
        refine sz_iconst dX6_mayBegin_47 (cI0) ?_
        cases hf
        exact sz_iret dX6_mayBegin_48 rfl rfl ⟨rfl, rfl⟩
      · have hf := gz_in1 c29 hf
        refine sz_aload_n dX6_mayBegin_32 rfl ?_
        refine sz_getR dX6_mayBegin_33 flX6_11 (kdS hw0) rfl (rfS hw0) ?_
        refine sz_bipush dX6_mayBegin_36 (cB48) ?_
        refine sz_ialdL dX6_mayBegin_38 (kdSv hw0) vi48_61 tn48 ?_
        refine sz_iconst dX6_mayBegin_39 (cI3) ?_
        refine sz_icmp_lt 47 dX6_mayBegin_40 (by decide) (fun c40 => ?_) (fun c40 => ?_)
        · have hf := gz_ip c40 hf
          refine sz_iconst dX6_mayBegin_47 (cI0) ?_
          cases hf
          exact sz_iret dX6_mayBegin_48 rfl rfl ⟨rfl, rfl⟩
        · have hf := gz_in1 c40 hf
          refine sz_iconst dX6_mayBegin_43 (cI1) ?_
          refine sz_goto 48 dX6_mayBegin_44 (by decide) ?_
          cases hf
          exact sz_iret dX6_mayBegin_48 rfl rfl ⟨rfl, rfl⟩
def fX6_mayTurnTide (La : gz_L)  (w0 : Nat) (x1 : Int32) (g : gz_S) : Option (Int32 × gz_S) :=
  (fX6_hasShore La  w0 g).bind (fun q1 => if q1.1 = 0 then some (0, q1.2) else if x1 < 0 then some (0, q1.2) else if 5 < x1 then some (0, q1.2) else if x1 = (q1.2.1 (w0 + 16) 46) then some (0, q1.2) else some (1, q1.2))
set_option maxRecDepth 100000 in
set_option maxHeartbeats 4000000 in
theorem kX6_mayTurnTide {La : gz_L}  {w0 : Nat} {x1 : Int32} {g : gz_S} {r : Int32 × gz_S} (hw0 : gz_sc w0) (hf : fX6_mayTurnTide La  w0 x1 g = some r) : gz_K La 2 mX6_mayTurnTide [.ref w0, .int x1] g (gz_Fi r) := by
  unfold fX6_mayTurnTide at hf
  refine gz_K.of 0 (by decide +kernel) rfl ?_
  show gz_J La 2 mX6_mayTurnTide 0 [some (.ref w0), some (.int x1)] [] g (gz_Fi r)
  refine sz_aload_n dX6_mayTurnTide_0 rfl ?_
  obtain ⟨q1, eq1, hf⟩ := gz_bd hf
  refine sz_callVi [] [] dX6_mayTurnTide_1 mvX6_42 (Nat.le_of_ble_eq_true rfl) (by decide : 6 < 13) (kdS hw0) rfl (Nat.le_of_ble_eq_true rfl) (kX6_hasShore  hw0 eq1) ?_
  refine sz_if_eq 31 dX6_mayTurnTide_4 (by decide) (fun c4 => ?_) (fun c4 => ?_)
  · have hf := gz_ip c4 hf
    refine sz_iconst dX6_mayTurnTide_31 (cI0) ?_
    cases hf
    exact sz_iret dX6_mayTurnTide_32 rfl rfl ⟨rfl, rfl⟩
  · have hf := gz_in1 c4 hf
    refine sz_iload_n dX6_mayTurnTide_7 rfl ?_
    refine sz_if_lt 31 dX6_mayTurnTide_8 (by decide) (fun c8 => ?_) (fun c8 => ?_)
    · have hf := gz_ip c8 hf
      refine sz_iconst dX6_mayTurnTide_31 (cI0) ?_
      cases hf
      exact sz_iret dX6_mayTurnTide_32 rfl rfl ⟨rfl, rfl⟩
    · have hf := gz_in1 c8 hf
      refine sz_iload_n dX6_mayTurnTide_11 rfl ?_
      refine sz_iconst dX6_mayTurnTide_12 (cI5) ?_
      refine sz_icmp_gt 31 dX6_mayTurnTide_13 (by decide) (fun c13 => ?_) (fun c13 => ?_)
      · have hf := gz_ip c13 hf
        refine sz_iconst dX6_mayTurnTide_31 (cI0) ?_
        cases hf
        exact sz_iret dX6_mayTurnTide_32 rfl rfl ⟨rfl, rfl⟩
      · have hf := gz_in1 c13 hf
        refine sz_iload_n dX6_mayTurnTide_16 rfl ?_
        refine sz_aload_n dX6_mayTurnTide_17 rfl ?_
        refine sz_getR dX6_mayTurnTide_18 flX6_11 (kdS hw0) rfl (rfS hw0) ?_
        refine sz_bipush dX6_mayTurnTide_21 (cB46) ?_
        refine sz_ialdL dX6_mayTurnTide_23 (kdSv hw0) vi46_61 tn46 ?_
        refine sz_icmp_eq 31 dX6_mayTurnTide_24 (by decide) (fun c24 => ?_) (fun c24 => ?_)
        · have hf := gz_ip c24 hf
          refine sz_iconst dX6_mayTurnTide_31 (cI0) ?_
          cases hf
          exact sz_iret dX6_mayTurnTide_32 rfl rfl ⟨rfl, rfl⟩
        · have hf := gz_in1 c24 hf
          refine sz_iconst dX6_mayTurnTide_27 (cI1) ?_
          refine sz_goto 32 dX6_mayTurnTide_28 (by decide) ?_
          cases hf
          exact sz_iret dX6_mayTurnTide_32 rfl rfl ⟨rfl, rfl⟩
def fX6_cells (La : gz_L)  (w0 : Nat) (g : gz_S) : Option (Int32 × gz_S) :=
  some ((g.1 (w0 + 16) 58) * (g.1 (w0 + 16) 59), g)
set_option maxRecDepth 100000 in
set_option maxHeartbeats 4000000 in
theorem kX6_cells {La : gz_L}  {w0 : Nat} {g : gz_S} {r : Int32 × gz_S} (hw0 : gz_sc w0) (hf : fX6_cells La  w0 g = some r) : gz_K La 1 mX6_cells [.ref w0] g (gz_Fi r) := by
  unfold fX6_cells at hf
  refine gz_K.of 0 (by decide +kernel) rfl ?_
  show gz_J La 1 mX6_cells 0 [some (.ref w0)] [] g (gz_Fi r)
  refine sz_aload_n dX6_cells_0 rfl ?_
  refine sz_getR dX6_cells_1 flX6_11 (kdS hw0) rfl (rfS hw0) ?_
  refine sz_bipush dX6_cells_4 (cB58) ?_
  refine sz_ialdL dX6_cells_6 (kdSv hw0) vi58_61 tn58 ?_
  refine sz_aload_n dX6_cells_7 rfl ?_
  refine sz_getR dX6_cells_8 flX6_11 (kdS hw0) rfl (rfS hw0) ?_
  refine sz_bipush dX6_cells_11 (cB59) ?_
  refine sz_ialdL dX6_cells_13 (kdSv hw0) vi59_61 tn59 ?_
  refine sz_imul dX6_cells_14 ?_
  cases hf
  exact sz_iret dX6_cells_15 rfl rfl ⟨rfl, rfl⟩
def fX6_hasCell (La : gz_L)  (w0 : Nat) (x1 : Int32) (g : gz_S) : Option (Int32 × gz_S) :=
  if x1 < 0 then some (0, g) else (fX6_cells La  w0 g).bind (fun q6 => if q6.1 ≤ x1 then some (0, q6.2) else some (1, q6.2))
set_option maxRecDepth 100000 in
set_option maxHeartbeats 4000000 in
theorem kX6_hasCell {La : gz_L}  {w0 : Nat} {x1 : Int32} {g : gz_S} {r : Int32 × gz_S} (hw0 : gz_sc w0) (hf : fX6_hasCell La  w0 x1 g = some r) : gz_K La 2 mX6_hasCell [.ref w0, .int x1] g (gz_Fi r) := by
  unfold fX6_hasCell at hf
  refine gz_K.of 0 (by decide +kernel) rfl ?_
  show gz_J La 2 mX6_hasCell 0 [some (.ref w0), some (.int x1)] [] g (gz_Fi r)
  refine sz_iload_n dX6_hasCell_0 rfl ?_
  refine sz_if_lt 16 dX6_hasCell_1 (by decide) (fun c1 => ?_) (fun c1 => ?_)
  · have hf := gz_ip c1 hf
    refine sz_iconst dX6_hasCell_16 (cI0) ?_
    cases hf
    exact sz_iret dX6_hasCell_17 rfl rfl ⟨rfl, rfl⟩
  · have hf := gz_in1 c1 hf
    refine sz_iload_n dX6_hasCell_4 rfl ?_
    refine sz_aload_n dX6_hasCell_5 rfl ?_
    obtain ⟨q6, eq6, hf⟩ := gz_bd hf
    refine sz_callVi [] [.int x1] dX6_hasCell_6 mvX6_21 (Nat.le_of_ble_eq_true rfl) (by decide : 6 < 13) (kdS hw0) rfl (Nat.le_of_ble_eq_true rfl) (kX6_cells  hw0 eq6) ?_
    refine sz_icmp_ge 16 dX6_hasCell_9 (by decide) (fun c9 => ?_) (fun c9 => ?_)
    · have hf := gz_ip c9 hf
      refine sz_iconst dX6_hasCell_16 (cI0) ?_
      cases hf
      exact sz_iret dX6_hasCell_17 rfl rfl ⟨rfl, rfl⟩
    · have hf := gz_in1 c9 hf
      refine sz_iconst dX6_hasCell_12 (cI1) ?_
      refine sz_goto 17 dX6_hasCell_13 (by decide) ?_
      cases hf
      exact sz_iret dX6_hasCell_17 rfl rfl ⟨rfl, rfl⟩
def fX6_goesOn (La : gz_L)  (w0 : Nat) (x1 : Int32) (x2 : Int32) (g : gz_S) : Option (Int32 × gz_S) :=
  if gz_ok ((42 : Int32) + x1) 61 then if (g.1 (w0 + 16) (Int32.toNatClampNeg ((42 : Int32) + x1))) = 0 then if gz_ok ((30 : Int32) + x1) 61 then if (g.1 (w0 + 16) (Int32.toNatClampNeg ((30 : Int32) + x1))) = x2 then some (1, g) else some (0, g) else none else some (0, g) else none
set_option maxRecDepth 100000 in
set_option maxHeartbeats 4000000 in
theorem kX6_goesOn {La : gz_L}  {w0 : Nat} {x1 : Int32} {x2 : Int32} {g : gz_S} {r : Int32 × gz_S} (hw0 : gz_sc w0) (hf : fX6_goesOn La  w0 x1 x2 g = some r) : gz_K La 1 mX6_goesOn [.ref w0, .int x1, .int x2] g (gz_Fi r) := by
  unfold fX6_goesOn at hf
  refine gz_K.of 0 (by decide +kernel) rfl ?_
  show gz_J La 1 mX6_goesOn 0 [some (.ref w0), some (.int x1), some (.int x2)] [] g (gz_Fi r)
  refine sz_aload_n dX6_goesOn_0 rfl ?_
  refine sz_getR dX6_goesOn_1 flX6_11 (kdS hw0) rfl (rfS hw0) ?_
  refine sz_bipush dX6_goesOn_4 (cB42) ?_
  refine sz_iload_n dX6_goesOn_6 rfl ?_
  refine sz_iadd dX6_goesOn_7 ?_
  obtain ⟨c8, hf⟩ := gz_gd hf
  refine sz_ialdL dX6_goesOn_8 (kdSv hw0) c8 rfl ?_
  refine sz_if_ne 29 dX6_goesOn_9 (by decide) (fun c9 => ?_) (fun c9 => ?_)
  · have hf := gz_in1 c9 hf
    refine sz_iconst dX6_goesOn_29 (cI0) ?_
    cases hf
    exact sz_iret dX6_goesOn_30 rfl rfl ⟨rfl, rfl⟩
  · have hf := gz_ip c9 hf
    refine sz_aload_n dX6_goesOn_12 rfl ?_
    refine sz_getR dX6_goesOn_13 flX6_11 (kdS hw0) rfl (rfS hw0) ?_
    refine sz_bipush dX6_goesOn_16 (cB30) ?_
    refine sz_iload_n dX6_goesOn_18 rfl ?_
    refine sz_iadd dX6_goesOn_19 ?_
    obtain ⟨c20, hf⟩ := gz_gd hf
    refine sz_ialdL dX6_goesOn_20 (kdSv hw0) c20 rfl ?_
    refine sz_iload_n dX6_goesOn_21 rfl ?_
    refine sz_icmp_ne 29 dX6_goesOn_22 (by decide) (fun c22 => ?_) (fun c22 => ?_)
    · have hf := gz_in1 c22 hf
      refine sz_iconst dX6_goesOn_29 (cI0) ?_
      cases hf
      exact sz_iret dX6_goesOn_30 rfl rfl ⟨rfl, rfl⟩
    · have hf := gz_ip c22 hf
      refine sz_iconst dX6_goesOn_25 (cI1) ?_
      refine sz_goto 30 dX6_goesOn_26 (by decide) ?_
      cases hf
      exact sz_iret dX6_goesOn_30 rfl rfl ⟨rfl, rfl⟩
def fX6_goingOn_27 (La : gz_L)  (w0 : Nat) (k4 : Int32 → Int32 → Int32 → gz_S → Option (Int32 × gz_S)) (x1 : Int32) (x2 : Int32) (x3 : Int32) (g : gz_S) : Option (Int32 × gz_S) := gz_let (x3 + 1) (fun y27 => k4 x1 x2 y27 g)
set_option maxRecDepth 100000 in
set_option maxHeartbeats 4000000 in
theorem tX6_goingOn_27 {La : gz_L}  {w0 : Nat} {k4 : Int32 → Int32 → Int32 → gz_S → Option (Int32 × gz_S)} (hw0 : gz_sc w0) (hk4 : ∀ (x1 : Int32) (x2 : Int32) (x3 : Int32) (g : gz_S) (r : Int32 × gz_S), k4 x1 x2 x3 g = some r → gz_J La 2 mX6_goingOn 4 [some (.ref w0), some (.int x1), some (.int x2), some (.int x3)] [] g (gz_Fi r)) : ∀ (x1 : Int32) (x2 : Int32) (x3 : Int32) (g : gz_S) (r : Int32 × gz_S), fX6_goingOn_27 La  w0 k4 x1 x2 x3 g = some r → gz_J La 2 mX6_goingOn 27 [some (.ref w0), some (.int x1), some (.int x2), some (.int x3)] [] g (gz_Fi r) := by
  intro x1 x2 x3 g r hf
  unfold fX6_goingOn_27 at hf
  obtain ⟨y27, ey27, hf⟩ := gz_lt hf
  refine sz_iinc (v := y27) dX6_goingOn_27 rfl (by rw [ey27, cI1]) (Nat.le_of_ble_eq_true rfl) rfl ?_
  refine sz_ls (l2 := [some (.ref w0), some (.int x1), some (.int x2), some (.int y27)]) rfl ?_
  refine sz_goto 4 dX6_goingOn_30 (by decide) ?_
  exact hk4 _ _ _ _ _ hf
def fX6_goingOn_4 (La : gz_L)  (w0 : Nat)  : Nat → Int32 → Int32 → Int32 → gz_S → Option (Int32 × gz_S)
  | 0, _, _, _, _ => none
  | n + 1, x1, x2, x3, g => if (g.1 (w0 + 16) 60) ≤ x3 then some (x2, g) else (fX6_goesOn La  w0 x3 x1 g).bind (fun q18 => if q18.1 = 0 then fX6_goingOn_27 La  w0 (fX6_goingOn_4 La  w0  n)  x1 x2 x3 q18.2 else gz_let (x2 + 1) (fun y24 => fX6_goingOn_27 La  w0 (fX6_goingOn_4 La  w0  n)  x1 y24 x3 q18.2))
set_option maxRecDepth 100000 in
set_option maxHeartbeats 4000000 in
theorem tX6_goingOn_4 {La : gz_L}  {w0 : Nat}  (hw0 : gz_sc w0)  : ∀ (n : Nat) (x1 : Int32) (x2 : Int32) (x3 : Int32) (g : gz_S) (r : Int32 × gz_S), fX6_goingOn_4 La  w0  n x1 x2 x3 g = some r → gz_J La 2 mX6_goingOn 4 [some (.ref w0), some (.int x1), some (.int x2), some (.int x3)] [] g (gz_Fi r) := by
  intro n
  induction n with
  | zero => intro x1 x2 x3 g r hf; exact nomatch (show (none : Option (Int32 × gz_S)) = some r from hf)
  | succ n ih =>
    intro x1 x2 x3 g r hf
    unfold fX6_goingOn_4 at hf
    refine sz_iload_n dX6_goingOn_4 rfl ?_
    refine sz_aload_n dX6_goingOn_5 rfl ?_
    refine sz_getR dX6_goingOn_6 flX6_11 (kdS hw0) rfl (rfS hw0) ?_
    refine sz_bipush dX6_goingOn_9 (cB60) ?_
    refine sz_ialdL dX6_goingOn_11 (kdSv hw0) vi60_61 tn60 ?_
    refine sz_icmp_ge 33 dX6_goingOn_12 (by decide) (fun c12 => ?_) (fun c12 => ?_)
    · have hf := gz_ip c12 hf
      refine sz_iload_n dX6_goingOn_33 rfl ?_
      cases hf
      exact sz_iret dX6_goingOn_34 rfl rfl ⟨rfl, rfl⟩
    · have hf := gz_in1 c12 hf
      refine sz_aload_n dX6_goingOn_15 rfl ?_
      refine sz_iload_n dX6_goingOn_16 rfl ?_
      refine sz_iload_n dX6_goingOn_17 rfl ?_
      obtain ⟨q18, eq18, hf⟩ := gz_bd hf
      refine sz_callVi [.int x3, .int x1] [] dX6_goingOn_18 mvX6_36 (Nat.le_of_ble_eq_true rfl) (by decide : 6 < 13) (kdS hw0) rfl (Nat.le_of_ble_eq_true rfl) (kX6_goesOn  hw0 eq18) ?_
      refine sz_if_eq 27 dX6_goingOn_21 (by decide) (fun c21 => ?_) (fun c21 => ?_)
      · have hf := gz_ip c21 hf
        exact tX6_goingOn_27  hw0 ih _ _ _ _ _ hf
      · have hf := gz_in1 c21 hf
        obtain ⟨y24, ey24, hf⟩ := gz_lt hf
        refine sz_iinc (v := y24) dX6_goingOn_24 rfl (by rw [ey24, cI1]) (Nat.le_of_ble_eq_true rfl) rfl ?_
        refine sz_ls (l2 := [some (.ref w0), some (.int x1), some (.int y24), some (.int x3)]) rfl ?_
        exact tX6_goingOn_27  hw0 ih _ _ _ _ _ hf
def fX6_goingOn (La : gz_L)  (w0 : Nat) (x1 : Int32) (g : gz_S) : Option (Int32 × gz_S) :=
  fX6_goingOn_4 La  w0  gz_FU x1 0 0 g
set_option maxRecDepth 100000 in
set_option maxHeartbeats 4000000 in
theorem kX6_goingOn {La : gz_L}  {w0 : Nat} {x1 : Int32} {g : gz_S} {r : Int32 × gz_S} (hw0 : gz_sc w0) (hf : fX6_goingOn La  w0 x1 g = some r) : gz_K La 2 mX6_goingOn [.ref w0, .int x1] g (gz_Fi r) := by
  unfold fX6_goingOn at hf
  refine gz_K.of 2 (by decide +kernel) rfl ?_
  show gz_J La 2 mX6_goingOn 0 [some (.ref w0), some (.int x1), none, none] [] g (gz_Fi r)
  refine sz_iconst dX6_goingOn_0 (cI0) ?_
  refine sz_istore_n dX6_goingOn_1 rfl (Nat.le_of_ble_eq_true rfl) rfl ?_
  refine sz_ls (l2 := [some (.ref w0), some (.int x1), some (.int 0), none]) rfl ?_
  refine sz_iconst dX6_goingOn_2 (cI0) ?_
  refine sz_istore_n dX6_goingOn_3 rfl (Nat.le_of_ble_eq_true rfl) rfl ?_
  refine sz_ls (l2 := [some (.ref w0), some (.int x1), some (.int 0), some (.int 0)]) rfl ?_
  exact tX6_goingOn_4  hw0  _ _ _ _ _ _ hf
def fX6_maySweep (La : gz_L)  (w0 : Nat) (x1 : Int32) (g : gz_S) : Option (Int32 × gz_S) :=
  (fX6_hasCell La  w0 x1 g).bind (fun q2 => if q2.1 = 0 then some (0, q2.2) else (fX6_goingOn La  w0 x1 q2.2).bind (fun q10 => if q10.1 ≤ 0 then some (0, q10.2) else if (q10.2.1 (w0 + 16) 48) < 1 then some (0, q10.2) else some (1, q10.2)))
set_option maxRecDepth 100000 in
set_option maxHeartbeats 4000000 in
theorem kX6_maySweep {La : gz_L}  {w0 : Nat} {x1 : Int32} {g : gz_S} {r : Int32 × gz_S} (hw0 : gz_sc w0) (hf : fX6_maySweep La  w0 x1 g = some r) : gz_K La 3 mX6_maySweep [.ref w0, .int x1] g (gz_Fi r) := by
  unfold fX6_maySweep at hf
  refine gz_K.of 0 (by decide +kernel) rfl ?_
  show gz_J La 3 mX6_maySweep 0 [some (.ref w0), some (.int x1)] [] g (gz_Fi r)
  refine sz_aload_n dX6_maySweep_0 rfl ?_
  refine sz_iload_n dX6_maySweep_1 rfl ?_
  obtain ⟨q2, eq2, hf⟩ := gz_bd hf
  refine sz_callVi [.int x1] [] dX6_maySweep_2 mvX6_46 (Nat.le_of_ble_eq_true rfl) (by decide : 6 < 13) (kdS hw0) rfl (Nat.le_of_ble_eq_true rfl) (kX6_hasCell  hw0 eq2) ?_
  refine sz_if_eq 31 dX6_maySweep_5 (by decide) (fun c5 => ?_) (fun c5 => ?_)
  · have hf := gz_ip c5 hf
    refine sz_iconst dX6_maySweep_31 (cI0) ?_
    cases hf
    exact sz_iret dX6_maySweep_32 rfl rfl ⟨rfl, rfl⟩
  · have hf := gz_in1 c5 hf
    refine sz_aload_n dX6_maySweep_8 rfl ?_
    refine sz_iload_n dX6_maySweep_9 rfl ?_
    obtain ⟨q10, eq10, hf⟩ := gz_bd hf
    refine sz_callVi [.int x1] [] dX6_maySweep_10 mvX6_53 (Nat.le_of_ble_eq_true rfl) (by decide : 6 < 13) (kdS hw0) rfl (Nat.le_of_ble_eq_true rfl) (kX6_goingOn  hw0 eq10) ?_
    refine sz_if_le 31 dX6_maySweep_13 (by decide) (fun c13 => ?_) (fun c13 => ?_)
    · have hf := gz_ip c13 hf
      refine sz_iconst dX6_maySweep_31 (cI0) ?_
      cases hf
      exact sz_iret dX6_maySweep_32 rfl rfl ⟨rfl, rfl⟩
    · have hf := gz_in1 c13 hf
      refine sz_aload_n dX6_maySweep_16 rfl ?_
      refine sz_getR dX6_maySweep_17 flX6_11 (kdS hw0) rfl (rfS hw0) ?_
      refine sz_bipush dX6_maySweep_20 (cB48) ?_
      refine sz_ialdL dX6_maySweep_22 (kdSv hw0) vi48_61 tn48 ?_
      refine sz_iconst dX6_maySweep_23 (cI1) ?_
      refine sz_icmp_lt 31 dX6_maySweep_24 (by decide) (fun c24 => ?_) (fun c24 => ?_)
      · have hf := gz_ip c24 hf
        refine sz_iconst dX6_maySweep_31 (cI0) ?_
        cases hf
        exact sz_iret dX6_maySweep_32 rfl rfl ⟨rfl, rfl⟩
      · have hf := gz_in1 c24 hf
        refine sz_iconst dX6_maySweep_27 (cI1) ?_
        refine sz_goto 32 dX6_maySweep_28 (by decide) ?_
        cases hf
        exact sz_iret dX6_maySweep_32 rfl rfl ⟨rfl, rfl⟩
def fX6_begin (La : gz_L)  (w0 : Nat) (x1 : Int32) (x2 : Int32) (g : gz_S) : Option (gz_S) :=
  if gz_ok ((54 : Int32) + x1) 61 then if gz_ok ((30 : Int32) + x1) 61 then gz_let (gz_wi g (w0 + 16) (Int32.toNatClampNeg ((30 : Int32) + x1)) (g.1 (w0 + 16) (Int32.toNatClampNeg ((54 : Int32) + x1)))) (fun g17 => if gz_ok ((34 : Int32) + x1) 61 then gz_let (gz_wi g17 (w0 + 16) (Int32.toNatClampNeg ((34 : Int32) + x1)) x2) (fun g27 => if gz_ok ((38 : Int32) + x1) 61 then gz_let (gz_wi g27 (w0 + 16) (Int32.toNatClampNeg ((38 : Int32) + x1)) 0) (fun g37 => if gz_ok ((42 : Int32) + x1) 61 then gz_let (gz_wi g37 (w0 + 16) (Int32.toNatClampNeg ((42 : Int32) + x1)) 0) (fun g47 => some g47) else none) else none) else none) else none else none
set_option maxRecDepth 100000 in
set_option maxHeartbeats 4000000 in
theorem kX6_begin {La : gz_L}  {w0 : Nat} {x1 : Int32} {x2 : Int32} {g : gz_S} {r : gz_S} (hw0 : gz_sc w0) (hf : fX6_begin La  w0 x1 x2 g = some r) : gz_K La 1 mX6_begin [.ref w0, .int x1, .int x2] g (gz_Fv r) := by
  unfold fX6_begin at hf
  refine gz_K.of 0 (by decide +kernel) rfl ?_
  show gz_J La 1 mX6_begin 0 [some (.ref w0), some (.int x1), some (.int x2)] [] g (gz_Fv r)
  refine sz_aload_n dX6_begin_0 rfl ?_
  refine sz_getR dX6_begin_1 flX6_11 (kdS hw0) rfl (rfS hw0) ?_
  refine sz_bipush dX6_begin_4 (cB30) ?_
  refine sz_iload_n dX6_begin_6 rfl ?_
  refine sz_iadd dX6_begin_7 ?_
  refine sz_aload_n dX6_begin_8 rfl ?_
  refine sz_getR dX6_begin_9 flX6_11 (kdS hw0) rfl (rfS hw0) ?_
  refine sz_bipush dX6_begin_12 (cB54) ?_
  refine sz_iload_n dX6_begin_14 rfl ?_
  refine sz_iadd dX6_begin_15 ?_
  obtain ⟨c16, hf⟩ := gz_gd hf
  refine sz_ialdL dX6_begin_16 (kdSv hw0) c16 rfl ?_
  obtain ⟨c17, hf⟩ := gz_gd hf
  obtain ⟨g17, eg17, hf⟩ := gz_lt hf
  refine sz_iastL dX6_begin_17 (kdSv hw0) c17 rfl eg17 ?_
  refine sz_aload_n dX6_begin_18 rfl ?_
  refine sz_getR dX6_begin_19 flX6_11 (kdS hw0) rfl (rfS hw0) ?_
  refine sz_bipush dX6_begin_22 (cB34) ?_
  refine sz_iload_n dX6_begin_24 rfl ?_
  refine sz_iadd dX6_begin_25 ?_
  refine sz_iload_n dX6_begin_26 rfl ?_
  obtain ⟨c27, hf⟩ := gz_gd hf
  obtain ⟨g27, eg27, hf⟩ := gz_lt hf
  refine sz_iastL dX6_begin_27 (kdSv hw0) c27 rfl eg27 ?_
  refine sz_aload_n dX6_begin_28 rfl ?_
  refine sz_getR dX6_begin_29 flX6_11 (kdS hw0) rfl (rfS hw0) ?_
  refine sz_bipush dX6_begin_32 (cB38) ?_
  refine sz_iload_n dX6_begin_34 rfl ?_
  refine sz_iadd dX6_begin_35 ?_
  refine sz_iconst dX6_begin_36 (cI0) ?_
  obtain ⟨c37, hf⟩ := gz_gd hf
  obtain ⟨g37, eg37, hf⟩ := gz_lt hf
  refine sz_iastL dX6_begin_37 (kdSv hw0) c37 rfl eg37 ?_
  refine sz_aload_n dX6_begin_38 rfl ?_
  refine sz_getR dX6_begin_39 flX6_11 (kdS hw0) rfl (rfS hw0) ?_
  refine sz_bipush dX6_begin_42 (cB42) ?_
  refine sz_iload_n dX6_begin_44 rfl ?_
  refine sz_iadd dX6_begin_45 ?_
  refine sz_iconst dX6_begin_46 (cI0) ?_
  obtain ⟨c47, hf⟩ := gz_gd hf
  obtain ⟨g47, eg47, hf⟩ := gz_lt hf
  refine sz_iastL dX6_begin_47 (kdSv hw0) c47 rfl eg47 ?_
  cases hf
  exact sz_ret dX6_begin_48 rfl ⟨rfl, rfl⟩
def fX6_payAndBegin (La : gz_L)  (w0 : Nat) (x1 : Int32) (x2 : Int32) (g : gz_S) : Option (gz_S) :=
  gz_let (gz_wi g (w0 + 16) 48 ((g.1 (w0 + 16) 48) - 3)) (fun g10 => (fX6_begin La  w0 x1 x2 g10).bind (fun q14 => some q14))
set_option maxRecDepth 100000 in
set_option maxHeartbeats 4000000 in
theorem kX6_payAndBegin {La : gz_L}  {w0 : Nat} {x1 : Int32} {x2 : Int32} {g : gz_S} {r : gz_S} (hw0 : gz_sc w0) (hf : fX6_payAndBegin La  w0 x1 x2 g = some r) : gz_K La 2 mX6_payAndBegin [.ref w0, .int x1, .int x2] g (gz_Fv r) := by
  unfold fX6_payAndBegin at hf
  refine gz_K.of 0 (by decide +kernel) rfl ?_
  show gz_J La 2 mX6_payAndBegin 0 [some (.ref w0), some (.int x1), some (.int x2)] [] g (gz_Fv r)
  refine sz_aload_n dX6_payAndBegin_0 rfl ?_
  refine sz_getR dX6_payAndBegin_1 flX6_11 (kdS hw0) rfl (rfS hw0) ?_
  refine sz_bipush dX6_payAndBegin_4 (cB48) ?_
  refine sz_dup2 dX6_payAndBegin_6 rfl rfl ?_
  refine sz_ialdL dX6_payAndBegin_7 (kdSv hw0) vi48_61 tn48 ?_
  refine sz_iconst dX6_payAndBegin_8 (cI3) ?_
  refine sz_isub dX6_payAndBegin_9 ?_
  obtain ⟨g10, eg10, hf⟩ := gz_lt hf
  refine sz_iastL dX6_payAndBegin_10 (kdSv hw0) vi48_61 tn48 eg10 ?_
  refine sz_aload_n dX6_payAndBegin_11 rfl ?_
  refine sz_iload_n dX6_payAndBegin_12 rfl ?_
  refine sz_iload_n dX6_payAndBegin_13 rfl ?_
  obtain ⟨q14, eq14, hf⟩ := gz_bd hf
  refine sz_callVv [.int x1, .int x2] [] dX6_payAndBegin_14 mvX6_59 (Nat.le_of_ble_eq_true rfl) (by decide : 6 < 13) (kdS hw0) rfl (Nat.le_of_ble_eq_true rfl) (kX6_begin  hw0 eq14) ?_
  cases hf
  exact sz_ret dX6_payAndBegin_17 rfl ⟨rfl, rfl⟩
def fX6_sweepOff_37 (La : gz_L)  (w0 : Nat) (k4 : Int32 → Int32 → Int32 → gz_S → Option (Int32 × gz_S)) (x1 : Int32) (x2 : Int32) (x3 : Int32) (g : gz_S) : Option (Int32 × gz_S) := gz_let (x3 + 1) (fun y37 => k4 x1 x2 y37 g)
set_option maxRecDepth 100000 in
set_option maxHeartbeats 4000000 in
theorem tX6_sweepOff_37 {La : gz_L}  {w0 : Nat} {k4 : Int32 → Int32 → Int32 → gz_S → Option (Int32 × gz_S)} (hw0 : gz_sc w0) (hk4 : ∀ (x1 : Int32) (x2 : Int32) (x3 : Int32) (g : gz_S) (r : Int32 × gz_S), k4 x1 x2 x3 g = some r → gz_J La 2 mX6_sweepOff 4 [some (.ref w0), some (.int x1), some (.int x2), some (.int x3)] [] g (gz_Fi r)) : ∀ (x1 : Int32) (x2 : Int32) (x3 : Int32) (g : gz_S) (r : Int32 × gz_S), fX6_sweepOff_37 La  w0 k4 x1 x2 x3 g = some r → gz_J La 2 mX6_sweepOff 37 [some (.ref w0), some (.int x1), some (.int x2), some (.int x3)] [] g (gz_Fi r) := by
  intro x1 x2 x3 g r hf
  unfold fX6_sweepOff_37 at hf
  obtain ⟨y37, ey37, hf⟩ := gz_lt hf
  refine sz_iinc (v := y37) dX6_sweepOff_37 rfl (by rw [ey37, cI1]) (Nat.le_of_ble_eq_true rfl) rfl ?_
  refine sz_ls (l2 := [some (.ref w0), some (.int x1), some (.int x2), some (.int y37)]) rfl ?_
  refine sz_goto 4 dX6_sweepOff_40 (by decide) ?_
  exact hk4 _ _ _ _ _ hf
def fX6_sweepOff_4 (La : gz_L)  (w0 : Nat) (k43 : Int32 → gz_S → Option (Int32 × gz_S)) : Nat → Int32 → Int32 → Int32 → gz_S → Option (Int32 × gz_S)
  | 0, _, _, _, _ => none
  | n + 1, x1, x2, x3, g => if (g.1 (w0 + 16) 60) ≤ x3 then k43 x2 g else (fX6_goesOn La  w0 x3 x1 g).bind (fun q18 => if q18.1 = 0 then fX6_sweepOff_37 La  w0 (fX6_sweepOff_4 La  w0 k43 n)  x1 x2 x3 q18.2 else if gz_ok ((42 : Int32) + x3) 61 then gz_let (gz_wi q18.2 (w0 + 16) (Int32.toNatClampNeg ((42 : Int32) + x3)) 2) (fun g33 => gz_let (x2 + 1) (fun y34 => fX6_sweepOff_37 La  w0 (fX6_sweepOff_4 La  w0 k43 n)  x1 y34 x3 g33)) else none)
set_option maxRecDepth 100000 in
set_option maxHeartbeats 4000000 in
theorem tX6_sweepOff_4 {La : gz_L}  {w0 : Nat} {k43 : Int32 → gz_S → Option (Int32 × gz_S)} (hw0 : gz_sc w0) (hk43 : ∀ (x2 : Int32) (g : gz_S) (r : Int32 × gz_S), k43 x2 g = some r → gz_J La 2 mX6_sweepOff 43 [some (.ref w0), none, some (.int x2), none] [] g (gz_Fi r)) : ∀ (n : Nat) (x1 : Int32) (x2 : Int32) (x3 : Int32) (g : gz_S) (r : Int32 × gz_S), fX6_sweepOff_4 La  w0 k43 n x1 x2 x3 g = some r → gz_J La 2 mX6_sweepOff 4 [some (.ref w0), some (.int x1), some (.int x2), some (.int x3)] [] g (gz_Fi r) := by
  intro n
  induction n with
  | zero => intro x1 x2 x3 g r hf; exact nomatch (show (none : Option (Int32 × gz_S)) = some r from hf)
  | succ n ih =>
    intro x1 x2 x3 g r hf
    unfold fX6_sweepOff_4 at hf
    refine sz_iload_n dX6_sweepOff_4 rfl ?_
    refine sz_aload_n dX6_sweepOff_5 rfl ?_
    refine sz_getR dX6_sweepOff_6 flX6_11 (kdS hw0) rfl (rfS hw0) ?_
    refine sz_bipush dX6_sweepOff_9 (cB60) ?_
    refine sz_ialdL dX6_sweepOff_11 (kdSv hw0) vi60_61 tn60 ?_
    refine sz_icmp_ge 43 dX6_sweepOff_12 (by decide) (fun c12 => ?_) (fun c12 => ?_)
    · have hf := gz_ip c12 hf
      refine sz_weak (l2 := [some (.ref w0), none, some (.int x2), none]) (gz_subk (gz_subn (gz_subk (gz_subn gz_sub0)))) ?_
      exact hk43 _ _ _ hf
    · have hf := gz_in1 c12 hf
      refine sz_aload_n dX6_sweepOff_15 rfl ?_
      refine sz_iload_n dX6_sweepOff_16 rfl ?_
      refine sz_iload_n dX6_sweepOff_17 rfl ?_
      obtain ⟨q18, eq18, hf⟩ := gz_bd hf
      refine sz_callVi [.int x3, .int x1] [] dX6_sweepOff_18 mvX6_36 (Nat.le_of_ble_eq_true rfl) (by decide : 6 < 13) (kdS hw0) rfl (Nat.le_of_ble_eq_true rfl) (kX6_goesOn  hw0 eq18) ?_
      refine sz_if_eq 37 dX6_sweepOff_21 (by decide) (fun c21 => ?_) (fun c21 => ?_)
      · have hf := gz_ip c21 hf
        exact tX6_sweepOff_37  hw0 ih _ _ _ _ _ hf
      · have hf := gz_in1 c21 hf
        refine sz_aload_n dX6_sweepOff_24 rfl ?_
        refine sz_getR dX6_sweepOff_25 flX6_11 (kdS hw0) rfl (rfS hw0) ?_
        refine sz_bipush dX6_sweepOff_28 (cB42) ?_
        refine sz_iload_n dX6_sweepOff_30 rfl ?_
        refine sz_iadd dX6_sweepOff_31 ?_
        refine sz_iconst dX6_sweepOff_32 (cI2) ?_
        obtain ⟨c33, hf⟩ := gz_gd hf
        obtain ⟨g33, eg33, hf⟩ := gz_lt hf
        refine sz_iastL dX6_sweepOff_33 (kdSv hw0) c33 rfl eg33 ?_
        obtain ⟨y34, ey34, hf⟩ := gz_lt hf
        refine sz_iinc (v := y34) dX6_sweepOff_34 rfl (by rw [ey34, cI1]) (Nat.le_of_ble_eq_true rfl) rfl ?_
        refine sz_ls (l2 := [some (.ref w0), some (.int x1), some (.int y34), some (.int x3)]) rfl ?_
        exact tX6_sweepOff_37  hw0 ih _ _ _ _ _ hf
def fX6_sweepOff (La : gz_L)  (w0 : Nat) (x1 : Int32) (g : gz_S) : Option (Int32 × gz_S) :=
  fX6_sweepOff_4 La  w0 (fun (x2 : Int32) g => gz_let (gz_wi g (w0 + 16) 48 ((g.1 (w0 + 16) 48) - 1)) (fun g53 => some (x2, g53))) gz_FU x1 0 0 g
set_option maxRecDepth 100000 in
set_option maxHeartbeats 4000000 in
theorem kX6_sweepOff {La : gz_L}  {w0 : Nat} {x1 : Int32} {g : gz_S} {r : Int32 × gz_S} (hw0 : gz_sc w0) (hf : fX6_sweepOff La  w0 x1 g = some r) : gz_K La 2 mX6_sweepOff [.ref w0, .int x1] g (gz_Fi r) := by
  unfold fX6_sweepOff at hf
  refine gz_K.of 2 (by decide +kernel) rfl ?_
  show gz_J La 2 mX6_sweepOff 0 [some (.ref w0), some (.int x1), none, none] [] g (gz_Fi r)
  refine sz_iconst dX6_sweepOff_0 (cI0) ?_
  refine sz_istore_n dX6_sweepOff_1 rfl (Nat.le_of_ble_eq_true rfl) rfl ?_
  refine sz_ls (l2 := [some (.ref w0), some (.int x1), some (.int 0), none]) rfl ?_
  refine sz_iconst dX6_sweepOff_2 (cI0) ?_
  refine sz_istore_n dX6_sweepOff_3 rfl (Nat.le_of_ble_eq_true rfl) rfl ?_
  refine sz_ls (l2 := [some (.ref w0), some (.int x1), some (.int 0), some (.int 0)]) rfl ?_
  have hk43 : ∀ (x2 : Int32) (g : gz_S) (r : Int32 × gz_S), (fun (x2 : Int32) g => gz_let (gz_wi g (w0 + 16) 48 ((g.1 (w0 + 16) 48) - 1)) (fun g53 => some (x2, g53))) x2 g = some r → gz_J La 2 mX6_sweepOff 43 [some (.ref w0), none, some (.int x2), none] [] g (gz_Fi r) := by
    intro x2 g r hf
    refine sz_aload_n dX6_sweepOff_43 rfl ?_
    refine sz_getR dX6_sweepOff_44 flX6_11 (kdS hw0) rfl (rfS hw0) ?_
    refine sz_bipush dX6_sweepOff_47 (cB48) ?_
    refine sz_dup2 dX6_sweepOff_49 rfl rfl ?_
    refine sz_ialdL dX6_sweepOff_50 (kdSv hw0) vi48_61 tn48 ?_
    refine sz_iconst dX6_sweepOff_51 (cI1) ?_
    refine sz_isub dX6_sweepOff_52 ?_
    obtain ⟨g53, eg53, hf⟩ := gz_lt hf
    refine sz_iastL dX6_sweepOff_53 (kdSv hw0) vi48_61 tn48 eg53 ?_
    refine sz_iload_n dX6_sweepOff_54 rfl ?_
    cases hf
    exact sz_iret dX6_sweepOff_55 rfl rfl ⟨rfl, rfl⟩
  exact tX6_sweepOff_4  hw0 hk43 _ _ _ _ _ _ hf
def fX6_copy (La : gz_L)  (w0 : Nat) (w1 : Nat) (g : gz_S) : Option (gz_S) :=
  if 0 + 61 ≤ 61 ∧ 0 + 61 ≤ 61 then gz_let (gz_wa g (w0 + 16) (va_cpy (g.1 (w1 + 16)) (g.1 (w0 + 16)) 0 0 61)) (fun g12 => some g12) else none
set_option maxRecDepth 100000 in
set_option maxHeartbeats 4000000 in
theorem kX6_copy {La : gz_L}  {w0 : Nat} {w1 : Nat} {g : gz_S} {r : gz_S} (hw0 : gz_sc w0) (hw1 : gz_sc w1) (hf : fX6_copy La  w0 w1 g = some r) : gz_K La 1 mX6_copy [.ref w0, .ref w1] g (gz_Fv r) := by
  unfold fX6_copy at hf
  refine gz_K.of 0 (by decide +kernel) rfl ?_
  show gz_J La 1 mX6_copy 0 [some (.ref w0), some (.ref w1)] [] g (gz_Fv r)
  refine sz_aload_n dX6_copy_0 rfl ?_
  refine sz_getR dX6_copy_1 flX6_11 (kdS hw1) rfl (rfS hw1) ?_
  refine sz_iconst dX6_copy_4 (cI0) ?_
  refine sz_aload_n dX6_copy_5 rfl ?_
  refine sz_getR dX6_copy_6 flX6_11 (kdS hw0) rfl (rfS hw0) ?_
  refine sz_iconst dX6_copy_9 (cI0) ?_
  refine sz_bipush dX6_copy_10 (cB61) ?_
  obtain ⟨⟨c12_0, c12_1⟩, hf⟩ := gz_gd hf
  obtain ⟨g12, eg12, hf⟩ := gz_lt hf
  refine sz_acopy dX6_copy_12 acX6_15 (by decide) rfl (kdSv hw1) (kdSv hw0) (by decide) (by decide) (by decide) tn0 tn0 tn61 c12_0 c12_1 eg12 ?_
  cases hf
  exact sz_ret dX6_copy_15 rfl ⟨rfl, rfl⟩
def fX6_goes (La : gz_L)  (w0 : Nat) (x1 : Int32) (g : gz_S) : Option (Int32 × gz_S) :=
  if gz_ok ((42 : Int32) + x1) 61 then if (g.1 (w0 + 16) (Int32.toNatClampNeg ((42 : Int32) + x1))) = 0 then some (1, g) else some (0, g) else none
set_option maxRecDepth 100000 in
set_option maxHeartbeats 4000000 in
theorem kX6_goes {La : gz_L}  {w0 : Nat} {x1 : Int32} {g : gz_S} {r : Int32 × gz_S} (hw0 : gz_sc w0) (hf : fX6_goes La  w0 x1 g = some r) : gz_K La 1 mX6_goes [.ref w0, .int x1] g (gz_Fi r) := by
  unfold fX6_goes at hf
  refine gz_K.of 0 (by decide +kernel) rfl ?_
  show gz_J La 1 mX6_goes 0 [some (.ref w0), some (.int x1)] [] g (gz_Fi r)
  refine sz_aload_n dX6_goes_0 rfl ?_
  refine sz_getR dX6_goes_1 flX6_11 (kdS hw0) rfl (rfS hw0) ?_
  refine sz_bipush dX6_goes_4 (cB42) ?_
  refine sz_iload_n dX6_goes_6 rfl ?_
  refine sz_iadd dX6_goes_7 ?_
  obtain ⟨c8, hf⟩ := gz_gd hf
  refine sz_ialdL dX6_goes_8 (kdSv hw0) c8 rfl ?_
  refine sz_if_ne 16 dX6_goes_9 (by decide) (fun c9 => ?_) (fun c9 => ?_)
  · have hf := gz_in1 c9 hf
    refine sz_iconst dX6_goes_16 (cI0) ?_
    cases hf
    exact sz_iret dX6_goes_17 rfl rfl ⟨rfl, rfl⟩
  · have hf := gz_ip c9 hf
    refine sz_iconst dX6_goes_12 (cI1) ?_
    refine sz_goto 17 dX6_goes_13 (by decide) ?_
    cases hf
    exact sz_iret dX6_goes_17 rfl rfl ⟨rfl, rfl⟩
def fX6_under (La : gz_L)  (w0 : Nat) (x1 : Int32) (g : gz_S) : Option (Int32 × gz_S) :=
  if gz_ok ((0 : Int32) + x1) 61 then if (g.1 (w0 + 16) (Int32.toNatClampNeg ((0 : Int32) + x1))) = 2 then some (1, g) else if x1 < (((g.1 (w0 + 16) 59) - (g.1 (w0 + 16) 46)) * (g.1 (w0 + 16) 58)) then some (0, g) else some (1, g) else none
set_option maxRecDepth 100000 in
set_option maxHeartbeats 4000000 in
theorem kX6_under {La : gz_L}  {w0 : Nat} {x1 : Int32} {g : gz_S} {r : Int32 × gz_S} (hw0 : gz_sc w0) (hf : fX6_under La  w0 x1 g = some r) : gz_K La 1 mX6_under [.ref w0, .int x1] g (gz_Fi r) := by
  unfold fX6_under at hf
  refine gz_K.of 0 (by decide +kernel) rfl ?_
  show gz_J La 1 mX6_under 0 [some (.ref w0), some (.int x1)] [] g (gz_Fi r)
  refine sz_aload_n dX6_under_0 rfl ?_
  refine sz_getR dX6_under_1 flX6_11 (kdS hw0) rfl (rfS hw0) ?_
  refine sz_iconst dX6_under_4 (cI0) ?_
  refine sz_iload_n dX6_under_5 rfl ?_
  refine sz_iadd dX6_under_6 ?_
  obtain ⟨c7, hf⟩ := gz_gd hf
  refine sz_ialdL dX6_under_7 (kdSv hw0) c7 rfl ?_
  refine sz_iconst dX6_under_8 (cI2) ?_
  refine sz_icmp_eq 39 dX6_under_9 (by decide) (fun c9 => ?_) (fun c9 => ?_)
  · have hf := gz_ip c9 hf
    refine sz_iconst dX6_under_39 (cI1) ?_
    refine sz_goto 44 dX6_under_40 (by decide) ?_
    cases hf
    exact sz_iret dX6_under_44 rfl rfl ⟨rfl, rfl⟩
  · have hf := gz_in1 c9 hf
    refine sz_iload_n dX6_under_12 rfl ?_
    refine sz_aload_n dX6_under_13 rfl ?_
    refine sz_getR dX6_under_14 flX6_11 (kdS hw0) rfl (rfS hw0) ?_
    refine sz_bipush dX6_under_17 (cB59) ?_
    refine sz_ialdL dX6_under_19 (kdSv hw0) vi59_61 tn59 ?_
    refine sz_aload_n dX6_under_20 rfl ?_
    refine sz_getR dX6_under_21 flX6_11 (kdS hw0) rfl (rfS hw0) ?_
    refine sz_bipush dX6_under_24 (cB46) ?_
    refine sz_ialdL dX6_under_26 (kdSv hw0) vi46_61 tn46 ?_
    refine sz_isub dX6_under_27 ?_
    refine sz_aload_n dX6_under_28 rfl ?_
    refine sz_getR dX6_under_29 flX6_11 (kdS hw0) rfl (rfS hw0) ?_
    refine sz_bipush dX6_under_32 (cB58) ?_
    refine sz_ialdL dX6_under_34 (kdSv hw0) vi58_61 tn58 ?_
    refine sz_imul dX6_under_35 ?_
    refine sz_icmp_lt 43 dX6_under_36 (by decide) (fun c36 => ?_) (fun c36 => ?_)
    · have hf := gz_ip c36 hf
      refine sz_iconst dX6_under_43 (cI0) ?_
      cases hf
      exact sz_iret dX6_under_44 rfl rfl ⟨rfl, rfl⟩
    · have hf := gz_in1 c36 hf
      refine sz_iconst dX6_under_39 (cI1) ?_
      refine sz_goto 44 dX6_under_40 (by decide) ?_
      cases hf
      exact sz_iret dX6_under_44 rfl rfl ⟨rfl, rfl⟩
def fX6_beside (La : gz_L)  (w0 : Nat) (x1 : Int32) (x2 : Int32) (g : gz_S) : Option (Int32 × gz_S) :=
  gz_let (g.1 (w0 + 16) 58) (fun y7 => if x2 = 0 then if x1 < y7 then some ((-1), g) else some (x1 - y7, g) else if x2 = 1 then if y7 ≤ 0 then some ((-1), g) else if ¬ y7 = 0 then if ((x1 + 1) - (x1 + 1) / y7 * y7) = 0 then some ((-1), g) else some (x1 + 1, g) else none else if x2 = 2 then if (y7 * (g.1 (w0 + 16) 59)) ≤ (x1 + y7) then some ((-1), g) else some (x1 + y7, g) else if y7 ≤ 0 then some ((-1), g) else if ¬ y7 = 0 then if (x1 - x1 / y7 * y7) = 0 then some ((-1), g) else some (x1 - 1, g) else none)
set_option maxRecDepth 100000 in
set_option maxHeartbeats 4000000 in
theorem kX6_beside {La : gz_L}  {w0 : Nat} {x1 : Int32} {x2 : Int32} {g : gz_S} {r : Int32 × gz_S} (hw0 : gz_sc w0) (hf : fX6_beside La  w0 x1 x2 g = some r) : gz_K La 1 mX6_beside [.ref w0, .int x1, .int x2] g (gz_Fi r) := by
  unfold fX6_beside at hf
  refine gz_K.of 1 (by decide +kernel) rfl ?_
  show gz_J La 1 mX6_beside 0 [some (.ref w0), some (.int x1), some (.int x2), none] [] g (gz_Fi r)
  refine sz_aload_n dX6_beside_0 rfl ?_
  refine sz_getR dX6_beside_1 flX6_11 (kdS hw0) rfl (rfS hw0) ?_
  refine sz_bipush dX6_beside_4 (cB58) ?_
  refine sz_ialdL dX6_beside_6 (kdSv hw0) vi58_61 tn58 ?_
  obtain ⟨y7, ey7, hf⟩ := gz_lt hf
  refine sz_topi ey7 ?_
  refine sz_istore_n dX6_beside_7 rfl (Nat.le_of_ble_eq_true rfl) rfl ?_
  refine sz_ls (l2 := [some (.ref w0), some (.int x1), some (.int x2), some (.int y7)]) rfl ?_
  refine sz_iload_n dX6_beside_8 rfl ?_
  by_cases c9_0 : x2 = 0
  · have hf := gz_ip c9_0 hf
    refine sz_tableIn 36 dX6_beside_9 (by rw [c9_0]; decide) (by rw [c9_0]; decide) (by rw [c9_0]; rfl) (by decide) ?_
    refine sz_iload_n dX6_beside_36 rfl ?_
    refine sz_iload_n dX6_beside_37 rfl ?_
    refine sz_icmp_lt 47 dX6_beside_38 (by decide) (fun c38 => ?_) (fun c38 => ?_)
    · have hf := gz_ip c38 hf
      refine sz_iconst dX6_beside_47 (cIm1) ?_
      cases hf
      exact sz_iret dX6_beside_48 rfl rfl ⟨rfl, rfl⟩
    · have hf := gz_in1 c38 hf
      refine sz_iload_n dX6_beside_41 rfl ?_
      refine sz_iload_n dX6_beside_42 rfl ?_
      refine sz_isub dX6_beside_43 ?_
      refine sz_goto 48 dX6_beside_44 (by decide) ?_
      cases hf
      exact sz_iret dX6_beside_48 rfl rfl ⟨rfl, rfl⟩
  have hf := gz_in1 c9_0 hf
  by_cases c9_1 : x2 = 1
  · have hf := gz_ip c9_1 hf
    refine sz_tableIn 49 dX6_beside_9 (by rw [c9_1]; decide) (by rw [c9_1]; decide) (by rw [c9_1]; rfl) (by decide) ?_
    refine sz_iload_n dX6_beside_49 rfl ?_
    refine sz_if_le 67 dX6_beside_50 (by decide) (fun c50 => ?_) (fun c50 => ?_)
    · have hf := gz_ip c50 hf
      refine sz_iconst dX6_beside_67 (cIm1) ?_
      cases hf
      exact sz_iret dX6_beside_68 rfl rfl ⟨rfl, rfl⟩
    · have hf := gz_in1 c50 hf
      refine sz_iload_n dX6_beside_53 rfl ?_
      refine sz_iconst dX6_beside_54 (cI1) ?_
      refine sz_iadd dX6_beside_55 ?_
      refine sz_iload_n dX6_beside_56 rfl ?_
      obtain ⟨c57, hf⟩ := gz_gd hf
      refine sz_irem dX6_beside_57 c57 ?_
      refine sz_if_eq 67 dX6_beside_58 (by decide) (fun c58 => ?_) (fun c58 => ?_)
      · have hf := gz_ip c58 hf
        refine sz_iconst dX6_beside_67 (cIm1) ?_
        cases hf
        exact sz_iret dX6_beside_68 rfl rfl ⟨rfl, rfl⟩
      · have hf := gz_in1 c58 hf
        refine sz_iload_n dX6_beside_61 rfl ?_
        refine sz_iconst dX6_beside_62 (cI1) ?_
        refine sz_iadd dX6_beside_63 ?_
        refine sz_goto 68 dX6_beside_64 (by decide) ?_
        cases hf
        exact sz_iret dX6_beside_68 rfl rfl ⟨rfl, rfl⟩
  have hf := gz_in1 c9_1 hf
  by_cases c9_2 : x2 = 2
  · have hf := gz_ip c9_2 hf
    refine sz_tableIn 69 dX6_beside_9 (by rw [c9_2]; decide) (by rw [c9_2]; decide) (by rw [c9_2]; rfl) (by decide) ?_
    refine sz_iload_n dX6_beside_69 rfl ?_
    refine sz_iload_n dX6_beside_70 rfl ?_
    refine sz_iadd dX6_beside_71 ?_
    refine sz_iload_n dX6_beside_72 rfl ?_
    refine sz_aload_n dX6_beside_73 rfl ?_
    refine sz_getR dX6_beside_74 flX6_11 (kdS hw0) rfl (rfS hw0) ?_
    refine sz_bipush dX6_beside_77 (cB59) ?_
    refine sz_ialdL dX6_beside_79 (kdSv hw0) vi59_61 tn59 ?_
    refine sz_imul dX6_beside_80 ?_
    refine sz_icmp_ge 90 dX6_beside_81 (by decide) (fun c81 => ?_) (fun c81 => ?_)
    · have hf := gz_ip c81 hf
      refine sz_iconst dX6_beside_90 (cIm1) ?_
      cases hf
      exact sz_iret dX6_beside_91 rfl rfl ⟨rfl, rfl⟩
    · have hf := gz_in1 c81 hf
      refine sz_iload_n dX6_beside_84 rfl ?_
      refine sz_iload_n dX6_beside_85 rfl ?_
      refine sz_iadd dX6_beside_86 ?_
      refine sz_goto 91 dX6_beside_87 (by decide) ?_
      cases hf
      exact sz_iret dX6_beside_91 rfl rfl ⟨rfl, rfl⟩
  have hf := gz_in1 c9_2 hf
  refine sz_tableOut 92 dX6_beside_9 (by have z0 := lv_neT c9_0 (a := 0) (by decide); have z1 := lv_neT c9_1 (a := 1) (by decide); have z2 := lv_neT c9_2 (a := 2) (by decide); omega) (by decide) ?_
  refine sz_iload_n dX6_beside_92 rfl ?_
  refine sz_if_le 108 dX6_beside_93 (by decide) (fun c93 => ?_) (fun c93 => ?_)
  · have hf := gz_ip c93 hf
    refine sz_iconst dX6_beside_108 (cIm1) ?_
    cases hf
    exact sz_iret dX6_beside_109 rfl rfl ⟨rfl, rfl⟩
  · have hf := gz_in1 c93 hf
    refine sz_iload_n dX6_beside_96 rfl ?_
    refine sz_iload_n dX6_beside_97 rfl ?_
    obtain ⟨c98, hf⟩ := gz_gd hf
    refine sz_irem dX6_beside_98 c98 ?_
    refine sz_if_eq 108 dX6_beside_99 (by decide) (fun c99 => ?_) (fun c99 => ?_)
    · have hf := gz_ip c99 hf
      refine sz_iconst dX6_beside_108 (cIm1) ?_
      cases hf
      exact sz_iret dX6_beside_109 rfl rfl ⟨rfl, rfl⟩
    · have hf := gz_in1 c99 hf
      refine sz_iload_n dX6_beside_102 rfl ?_
      refine sz_iconst dX6_beside_103 (cI1) ?_
      refine sz_isub dX6_beside_104 ?_
      refine sz_goto 109 dX6_beside_105 (by decide) ?_
      cases hf
      exact sz_iret dX6_beside_109 rfl rfl ⟨rfl, rfl⟩
def fX6_lies (La : gz_L)  (w0 : Nat) (x1 : Int32) (g : gz_S) : Option (Int32 × gz_S) :=
  if x1 = (-1) then some (1, g) else if gz_ok ((0 : Int32) + x1) 61 then if (g.1 (w0 + 16) (Int32.toNatClampNeg ((0 : Int32) + x1))) = 1 then some (1, g) else (fX6_under La  w0 x1 g).bind (fun q21 => if q21.1 = 0 then if gz_ok ((0 : Int32) + x1) 61 then if (q21.2.1 (w0 + 16) (Int32.toNatClampNeg ((0 : Int32) + x1))) = 3 then some (3, q21.2) else some (0, q21.2) else none else some (2, q21.2)) else none
set_option maxRecDepth 100000 in
set_option maxHeartbeats 4000000 in
theorem kX6_lies {La : gz_L}  {w0 : Nat} {x1 : Int32} {g : gz_S} {r : Int32 × gz_S} (hw0 : gz_sc w0) (hf : fX6_lies La  w0 x1 g = some r) : gz_K La 2 mX6_lies [.ref w0, .int x1] g (gz_Fi r) := by
  unfold fX6_lies at hf
  refine gz_K.of 0 (by decide +kernel) rfl ?_
  show gz_J La 2 mX6_lies 0 [some (.ref w0), some (.int x1)] [] g (gz_Fi r)
  refine sz_iload_n dX6_lies_0 rfl ?_
  refine sz_iconst dX6_lies_1 (cIm1) ?_
  refine sz_icmp_eq 17 dX6_lies_2 (by decide) (fun c2 => ?_) (fun c2 => ?_)
  · have hf := gz_ip c2 hf
    refine sz_iconst dX6_lies_17 (cI1) ?_
    cases hf
    exact sz_iret dX6_lies_18 rfl rfl ⟨rfl, rfl⟩
  · have hf := gz_in1 c2 hf
    refine sz_aload_n dX6_lies_5 rfl ?_
    refine sz_getR dX6_lies_6 flX6_11 (kdS hw0) rfl (rfS hw0) ?_
    refine sz_iconst dX6_lies_9 (cI0) ?_
    refine sz_iload_n dX6_lies_10 rfl ?_
    refine sz_iadd dX6_lies_11 ?_
    obtain ⟨c12, hf⟩ := gz_gd hf
    refine sz_ialdL dX6_lies_12 (kdSv hw0) c12 rfl ?_
    refine sz_iconst dX6_lies_13 (cI1) ?_
    refine sz_icmp_ne 19 dX6_lies_14 (by decide) (fun c14 => ?_) (fun c14 => ?_)
    · have hf := gz_in1 c14 hf
      refine sz_aload_n dX6_lies_19 rfl ?_
      refine sz_iload_n dX6_lies_20 rfl ?_
      obtain ⟨q21, eq21, hf⟩ := gz_bd hf
      refine sz_callVi [.int x1] [] dX6_lies_21 mvX6_39 (Nat.le_of_ble_eq_true rfl) (by decide : 6 < 13) (kdS hw0) rfl (Nat.le_of_ble_eq_true rfl) (kX6_under  hw0 eq21) ?_
      refine sz_if_eq 29 dX6_lies_24 (by decide) (fun c24 => ?_) (fun c24 => ?_)
      · have hf := gz_ip c24 hf
        refine sz_aload_n dX6_lies_29 rfl ?_
        refine sz_getR dX6_lies_30 flX6_11 (kdS hw0) rfl (rfS hw0) ?_
        refine sz_iconst dX6_lies_33 (cI0) ?_
        refine sz_iload_n dX6_lies_34 rfl ?_
        refine sz_iadd dX6_lies_35 ?_
        obtain ⟨c36, hf⟩ := gz_gd hf
        refine sz_ialdL dX6_lies_36 (kdSv hw0) c36 rfl ?_
        refine sz_iconst dX6_lies_37 (cI3) ?_
        refine sz_icmp_ne 45 dX6_lies_38 (by decide) (fun c38 => ?_) (fun c38 => ?_)
        · have hf := gz_in1 c38 hf
          refine sz_iconst dX6_lies_45 (cI0) ?_
          cases hf
          exact sz_iret dX6_lies_46 rfl rfl ⟨rfl, rfl⟩
        · have hf := gz_ip c38 hf
          refine sz_iconst dX6_lies_41 (cI3) ?_
          refine sz_goto 46 dX6_lies_42 (by decide) ?_
          cases hf
          exact sz_iret dX6_lies_46 rfl rfl ⟨rfl, rfl⟩
      · have hf := gz_in1 c24 hf
        refine sz_iconst dX6_lies_27 (cI2) ?_
        cases hf
        exact sz_iret dX6_lies_28 rfl rfl ⟨rfl, rfl⟩
    · have hf := gz_ip c14 hf
      refine sz_iconst dX6_lies_17 (cI1) ?_
      cases hf
      exact sz_iret dX6_lies_18 rfl rfl ⟨rfl, rfl⟩
def fX6_together (La : gz_L)  (w0 : Nat) (x1 : Int32) (x2 : Int32) (g : gz_S) : Option (Int32 × gz_S) :=
  (fX6_goes La  w0 x1 g).bind (fun q2 => if q2.1 = 0 then some (0, q2.2) else if gz_ok ((30 : Int32) + x1) 61 then (fX6_goesOn La  w0 x2 (q2.2.1 (w0 + 16) (Int32.toNatClampNeg ((30 : Int32) + x1))) q2.2).bind (fun q19 => if q19.1 = 0 then some (0, q19.2) else some (1, q19.2)) else none)
set_option maxRecDepth 100000 in
set_option maxHeartbeats 4000000 in
theorem kX6_together {La : gz_L}  {w0 : Nat} {x1 : Int32} {x2 : Int32} {g : gz_S} {r : Int32 × gz_S} (hw0 : gz_sc w0) (hf : fX6_together La  w0 x1 x2 g = some r) : gz_K La 2 mX6_together [.ref w0, .int x1, .int x2] g (gz_Fi r) := by
  unfold fX6_together at hf
  refine gz_K.of 0 (by decide +kernel) rfl ?_
  show gz_J La 2 mX6_together 0 [some (.ref w0), some (.int x1), some (.int x2)] [] g (gz_Fi r)
  refine sz_aload_n dX6_together_0 rfl ?_
  refine sz_iload_n dX6_together_1 rfl ?_
  obtain ⟨q2, eq2, hf⟩ := gz_bd hf
  refine sz_callVi [.int x1] [] dX6_together_2 mvX6_33 (Nat.le_of_ble_eq_true rfl) (by decide : 6 < 13) (kdS hw0) rfl (Nat.le_of_ble_eq_true rfl) (kX6_goes  hw0 eq2) ?_
  refine sz_if_eq 29 dX6_together_5 (by decide) (fun c5 => ?_) (fun c5 => ?_)
  · have hf := gz_ip c5 hf
    refine sz_iconst dX6_together_29 (cI0) ?_
    cases hf
    exact sz_iret dX6_together_30 rfl rfl ⟨rfl, rfl⟩
  · have hf := gz_in1 c5 hf
    refine sz_aload_n dX6_together_8 rfl ?_
    refine sz_iload_n dX6_together_9 rfl ?_
    refine sz_aload_n dX6_together_10 rfl ?_
    refine sz_getR dX6_together_11 flX6_11 (kdS hw0) rfl (rfS hw0) ?_
    refine sz_bipush dX6_together_14 (cB30) ?_
    refine sz_iload_n dX6_together_16 rfl ?_
    refine sz_iadd dX6_together_17 ?_
    obtain ⟨c18, hf⟩ := gz_gd hf
    refine sz_ialdL dX6_together_18 (kdSv hw0) c18 rfl ?_
    obtain ⟨q19, eq19, hf⟩ := gz_bd hf
    refine sz_callVi [.int x2, .int (q2.2.1 (w0 + 16) (Int32.toNatClampNeg ((30 : Int32) + x1)))] [] dX6_together_19 mvX6_36 (Nat.le_of_ble_eq_true rfl) (by decide : 6 < 13) (kdS hw0) rfl (Nat.le_of_ble_eq_true rfl) (kX6_goesOn  hw0 eq19) ?_
    refine sz_if_eq 29 dX6_together_22 (by decide) (fun c22 => ?_) (fun c22 => ?_)
    · have hf := gz_ip c22 hf
      refine sz_iconst dX6_together_29 (cI0) ?_
      cases hf
      exact sz_iret dX6_together_30 rfl rfl ⟨rfl, rfl⟩
    · have hf := gz_in1 c22 hf
      refine sz_iconst dX6_together_25 (cI1) ?_
      refine sz_goto 30 dX6_together_26 (by decide) ?_
      cases hf
      exact sz_iret dX6_together_30 rfl rfl ⟨rfl, rfl⟩
def fX6_hasPair (La : gz_L)  (w0 : Nat) (x1 : Int32) (x2 : Int32) (g : gz_S) : Option (Int32 × gz_S) :=
  (fX6_hasGoer La  w0 x1 g).bind (fun q2 => if q2.1 = 0 then some (0, q2.2) else (fX6_hasGoer La  w0 x2 q2.2).bind (fun q10 => if q10.1 = 0 then some (0, q10.2) else if x1 = x2 then some (0, q10.2) else some (1, q10.2)))
set_option maxRecDepth 100000 in
set_option maxHeartbeats 4000000 in
theorem kX6_hasPair {La : gz_L}  {w0 : Nat} {x1 : Int32} {x2 : Int32} {g : gz_S} {r : Int32 × gz_S} (hw0 : gz_sc w0) (hf : fX6_hasPair La  w0 x1 x2 g = some r) : gz_K La 2 mX6_hasPair [.ref w0, .int x1, .int x2] g (gz_Fi r) := by
  unfold fX6_hasPair at hf
  refine gz_K.of 0 (by decide +kernel) rfl ?_
  show gz_J La 2 mX6_hasPair 0 [some (.ref w0), some (.int x1), some (.int x2)] [] g (gz_Fi r)
  refine sz_aload_n dX6_hasPair_0 rfl ?_
  refine sz_iload_n dX6_hasPair_1 rfl ?_
  obtain ⟨q2, eq2, hf⟩ := gz_bd hf
  refine sz_callVi [.int x1] [] dX6_hasPair_2 mvX6_25 (Nat.le_of_ble_eq_true rfl) (by decide : 6 < 13) (kdS hw0) rfl (Nat.le_of_ble_eq_true rfl) (kX6_hasGoer  hw0 eq2) ?_
  refine sz_if_eq 25 dX6_hasPair_5 (by decide) (fun c5 => ?_) (fun c5 => ?_)
  · have hf := gz_ip c5 hf
    refine sz_iconst dX6_hasPair_25 (cI0) ?_
    cases hf
    exact sz_iret dX6_hasPair_26 rfl rfl ⟨rfl, rfl⟩
  · have hf := gz_in1 c5 hf
    refine sz_aload_n dX6_hasPair_8 rfl ?_
    refine sz_iload_n dX6_hasPair_9 rfl ?_
    obtain ⟨q10, eq10, hf⟩ := gz_bd hf
    refine sz_callVi [.int x2] [] dX6_hasPair_10 mvX6_25 (Nat.le_of_ble_eq_true rfl) (by decide : 6 < 13) (kdS hw0) rfl (Nat.le_of_ble_eq_true rfl) (kX6_hasGoer  hw0 eq10) ?_
    refine sz_if_eq 25 dX6_hasPair_13 (by decide) (fun c13 => ?_) (fun c13 => ?_)
    · have hf := gz_ip c13 hf
      refine sz_iconst dX6_hasPair_25 (cI0) ?_
      cases hf
      exact sz_iret dX6_hasPair_26 rfl rfl ⟨rfl, rfl⟩
    · have hf := gz_in1 c13 hf
      refine sz_iload_n dX6_hasPair_16 rfl ?_
      refine sz_iload_n dX6_hasPair_17 rfl ?_
      refine sz_icmp_eq 25 dX6_hasPair_18 (by decide) (fun c18 => ?_) (fun c18 => ?_)
      · have hf := gz_ip c18 hf
        refine sz_iconst dX6_hasPair_25 (cI0) ?_
        cases hf
        exact sz_iret dX6_hasPair_26 rfl rfl ⟨rfl, rfl⟩
      · have hf := gz_in1 c18 hf
        refine sz_iconst dX6_hasPair_21 (cI1) ?_
        refine sz_goto 26 dX6_hasPair_22 (by decide) ?_
        cases hf
        exact sz_iret dX6_hasPair_26 rfl rfl ⟨rfl, rfl⟩
def fX6_hasGoingPair (La : gz_L)  (w0 : Nat) (x1 : Int32) (x2 : Int32) (g : gz_S) : Option (Int32 × gz_S) :=
  (fX6_hasPair La  w0 x1 x2 g).bind (fun q3 => if q3.1 = 0 then some (0, q3.2) else (fX6_goes La  w0 x1 q3.2).bind (fun q11 => if q11.1 = 0 then some (0, q11.2) else (fX6_goes La  w0 x2 q11.2).bind (fun q19 => if q19.1 = 0 then some (0, q19.2) else some (1, q19.2))))
set_option maxRecDepth 100000 in
set_option maxHeartbeats 4000000 in
theorem kX6_hasGoingPair {La : gz_L}  {w0 : Nat} {x1 : Int32} {x2 : Int32} {g : gz_S} {r : Int32 × gz_S} (hw0 : gz_sc w0) (hf : fX6_hasGoingPair La  w0 x1 x2 g = some r) : gz_K La 3 mX6_hasGoingPair [.ref w0, .int x1, .int x2] g (gz_Fi r) := by
  unfold fX6_hasGoingPair at hf
  refine gz_K.of 0 (by decide +kernel) rfl ?_
  show gz_J La 3 mX6_hasGoingPair 0 [some (.ref w0), some (.int x1), some (.int x2)] [] g (gz_Fi r)
  refine sz_aload_n dX6_hasGoingPair_0 rfl ?_
  refine sz_iload_n dX6_hasGoingPair_1 rfl ?_
  refine sz_iload_n dX6_hasGoingPair_2 rfl ?_
  obtain ⟨q3, eq3, hf⟩ := gz_bd hf
  refine sz_callVi [.int x1, .int x2] [] dX6_hasGoingPair_3 mvX6_29 (Nat.le_of_ble_eq_true rfl) (by decide : 6 < 13) (kdS hw0) rfl (Nat.le_of_ble_eq_true rfl) (kX6_hasPair  hw0 eq3) ?_
  refine sz_if_eq 29 dX6_hasGoingPair_6 (by decide) (fun c6 => ?_) (fun c6 => ?_)
  · have hf := gz_ip c6 hf
    refine sz_iconst dX6_hasGoingPair_29 (cI0) ?_
    cases hf
    exact sz_iret dX6_hasGoingPair_30 rfl rfl ⟨rfl, rfl⟩
  · have hf := gz_in1 c6 hf
    refine sz_aload_n dX6_hasGoingPair_9 rfl ?_
    refine sz_iload_n dX6_hasGoingPair_10 rfl ?_
    obtain ⟨q11, eq11, hf⟩ := gz_bd hf
    refine sz_callVi [.int x1] [] dX6_hasGoingPair_11 mvX6_33 (Nat.le_of_ble_eq_true rfl) (by decide : 6 < 13) (kdS hw0) rfl (Nat.le_of_ble_eq_true rfl) (kX6_goes  hw0 eq11) ?_
    refine sz_if_eq 29 dX6_hasGoingPair_14 (by decide) (fun c14 => ?_) (fun c14 => ?_)
    · have hf := gz_ip c14 hf
      refine sz_iconst dX6_hasGoingPair_29 (cI0) ?_
      cases hf
      exact sz_iret dX6_hasGoingPair_30 rfl rfl ⟨rfl, rfl⟩
    · have hf := gz_in1 c14 hf
      refine sz_aload_n dX6_hasGoingPair_17 rfl ?_
      refine sz_iload_n dX6_hasGoingPair_18 rfl ?_
      obtain ⟨q19, eq19, hf⟩ := gz_bd hf
      refine sz_callVi [.int x2] [] dX6_hasGoingPair_19 mvX6_33 (Nat.le_of_ble_eq_true rfl) (by decide : 6 < 13) (kdS hw0) rfl (Nat.le_of_ble_eq_true rfl) (kX6_goes  hw0 eq19) ?_
      refine sz_if_eq 29 dX6_hasGoingPair_22 (by decide) (fun c22 => ?_) (fun c22 => ?_)
      · have hf := gz_ip c22 hf
        refine sz_iconst dX6_hasGoingPair_29 (cI0) ?_
        cases hf
        exact sz_iret dX6_hasGoingPair_30 rfl rfl ⟨rfl, rfl⟩
      · have hf := gz_in1 c22 hf
        refine sz_iconst dX6_hasGoingPair_25 (cI1) ?_
        refine sz_goto 30 dX6_hasGoingPair_26 (by decide) ?_
        cases hf
        exact sz_iret dX6_hasGoingPair_30 rfl rfl ⟨rfl, rfl⟩
def fX6_mayTurnStone (La : gz_L)  (w0 : Nat) (x1 : Int32) (g : gz_S) : Option (Int32 × gz_S) :=
  (fX6_hasCell La  w0 x1 g).bind (fun q2 => if q2.1 = 0 then some (0, q2.2) else (fX6_kind La  w0 x1 q2.2).bind (fun q10 => if 1 < q10.1 then some (0, q10.2) else (fX6_goingOn La  w0 x1 q10.2).bind (fun q19 => if q19.1 = 0 then if (q19.2.1 (w0 + 16) 48) < 2 then some (0, q19.2) else some (1, q19.2) else some (0, q19.2))))
set_option maxRecDepth 100000 in
set_option maxHeartbeats 4000000 in
theorem kX6_mayTurnStone {La : gz_L}  {w0 : Nat} {x1 : Int32} {g : gz_S} {r : Int32 × gz_S} (hw0 : gz_sc w0) (hf : fX6_mayTurnStone La  w0 x1 g = some r) : gz_K La 3 mX6_mayTurnStone [.ref w0, .int x1] g (gz_Fi r) := by
  unfold fX6_mayTurnStone at hf
  refine gz_K.of 0 (by decide +kernel) rfl ?_
  show gz_J La 3 mX6_mayTurnStone 0 [some (.ref w0), some (.int x1)] [] g (gz_Fi r)
  refine sz_aload_n dX6_mayTurnStone_0 rfl ?_
  refine sz_iload_n dX6_mayTurnStone_1 rfl ?_
  obtain ⟨q2, eq2, hf⟩ := gz_bd hf
  refine sz_callVi [.int x1] [] dX6_mayTurnStone_2 mvX6_46 (Nat.le_of_ble_eq_true rfl) (by decide : 6 < 13) (kdS hw0) rfl (Nat.le_of_ble_eq_true rfl) (kX6_hasCell  hw0 eq2) ?_
  refine sz_if_eq 40 dX6_mayTurnStone_5 (by decide) (fun c5 => ?_) (fun c5 => ?_)
  · have hf := gz_ip c5 hf
    refine sz_iconst dX6_mayTurnStone_40 (cI0) ?_
    cases hf
    exact sz_iret dX6_mayTurnStone_41 rfl rfl ⟨rfl, rfl⟩
  · have hf := gz_in1 c5 hf
    refine sz_aload_n dX6_mayTurnStone_8 rfl ?_
    refine sz_iload_n dX6_mayTurnStone_9 rfl ?_
    obtain ⟨q10, eq10, hf⟩ := gz_bd hf
    refine sz_callVi [.int x1] [] dX6_mayTurnStone_10 mvX6_49 (Nat.le_of_ble_eq_true rfl) (by decide : 6 < 13) (kdS hw0) rfl (Nat.le_of_ble_eq_true rfl) (kX6_kind  hw0 eq10) ?_
    refine sz_iconst dX6_mayTurnStone_13 (cI1) ?_
    refine sz_icmp_gt 40 dX6_mayTurnStone_14 (by decide) (fun c14 => ?_) (fun c14 => ?_)
    · have hf := gz_ip c14 hf
      refine sz_iconst dX6_mayTurnStone_40 (cI0) ?_
      cases hf
      exact sz_iret dX6_mayTurnStone_41 rfl rfl ⟨rfl, rfl⟩
    · have hf := gz_in1 c14 hf
      refine sz_aload_n dX6_mayTurnStone_17 rfl ?_
      refine sz_iload_n dX6_mayTurnStone_18 rfl ?_
      obtain ⟨q19, eq19, hf⟩ := gz_bd hf
      refine sz_callVi [.int x1] [] dX6_mayTurnStone_19 mvX6_53 (Nat.le_of_ble_eq_true rfl) (by decide : 6 < 13) (kdS hw0) rfl (Nat.le_of_ble_eq_true rfl) (kX6_goingOn  hw0 eq19) ?_
      refine sz_if_ne 40 dX6_mayTurnStone_22 (by decide) (fun c22 => ?_) (fun c22 => ?_)
      · have hf := gz_in1 c22 hf
        refine sz_iconst dX6_mayTurnStone_40 (cI0) ?_
        cases hf
        exact sz_iret dX6_mayTurnStone_41 rfl rfl ⟨rfl, rfl⟩
      · have hf := gz_ip c22 hf
        refine sz_aload_n dX6_mayTurnStone_25 rfl ?_
        refine sz_getR dX6_mayTurnStone_26 flX6_11 (kdS hw0) rfl (rfS hw0) ?_
        refine sz_bipush dX6_mayTurnStone_29 (cB48) ?_
        refine sz_ialdL dX6_mayTurnStone_31 (kdSv hw0) vi48_61 tn48 ?_
        refine sz_iconst dX6_mayTurnStone_32 (cI2) ?_
        refine sz_icmp_lt 40 dX6_mayTurnStone_33 (by decide) (fun c33 => ?_) (fun c33 => ?_)
        · have hf := gz_ip c33 hf
          refine sz_iconst dX6_mayTurnStone_40 (cI0) ?_
          cases hf
          exact sz_iret dX6_mayTurnStone_41 rfl rfl ⟨rfl, rfl⟩
        · have hf := gz_in1 c33 hf
          refine sz_iconst dX6_mayTurnStone_36 (cI1) ?_
          refine sz_goto 41 dX6_mayTurnStone_37 (by decide) ?_
          cases hf
          exact sz_iret dX6_mayTurnStone_41 rfl rfl ⟨rfl, rfl⟩
def fX6_turnStone_31 (La : gz_L)  (w0 : Nat)  (s0 : Int32) (s1 : Int32) (g : gz_S) : Option (gz_S) := if gz_ok s1 61 then gz_let (gz_wi g (w0 + 16) (Int32.toNatClampNeg s1) s0) (fun g31 => some g31) else none
set_option maxRecDepth 100000 in
set_option maxHeartbeats 4000000 in
theorem tX6_turnStone_31 {La : gz_L}  {w0 : Nat}  (hw0 : gz_sc w0)  : ∀ (s0 : Int32) (s1 : Int32) (g : gz_S) (r : gz_S), fX6_turnStone_31 La  w0  s0 s1 g = some r → gz_J La 2 mX6_turnStone 31 [none, none] [.int s0, .int s1, .ref (w0 + 16)] g (gz_Fv r) := by
  intro s0 s1 g r hf
  unfold fX6_turnStone_31 at hf
  obtain ⟨c31, hf⟩ := gz_gd hf
  obtain ⟨g31, eg31, hf⟩ := gz_lt hf
  refine sz_iastL dX6_turnStone_31 (kdSv hw0) c31 rfl eg31 ?_
  cases hf
  exact sz_ret dX6_turnStone_32 rfl ⟨rfl, rfl⟩
def fX6_turnStone (La : gz_L)  (w0 : Nat) (x1 : Int32) (g : gz_S) : Option (gz_S) :=
  gz_let (gz_wi g (w0 + 16) 48 ((g.1 (w0 + 16) 48) - 2)) (fun g10 => (fX6_kind La  w0 x1 g10).bind (fun q20 => if q20.1 = 0 then fX6_turnStone_31 La  w0   1 ((0 : Int32) + x1) q20.2 else fX6_turnStone_31 La  w0   0 ((0 : Int32) + x1) q20.2))
set_option maxRecDepth 100000 in
set_option maxHeartbeats 4000000 in
theorem kX6_turnStone {La : gz_L}  {w0 : Nat} {x1 : Int32} {g : gz_S} {r : gz_S} (hw0 : gz_sc w0) (hf : fX6_turnStone La  w0 x1 g = some r) : gz_K La 2 mX6_turnStone [.ref w0, .int x1] g (gz_Fv r) := by
  unfold fX6_turnStone at hf
  refine gz_K.of 0 (by decide +kernel) rfl ?_
  show gz_J La 2 mX6_turnStone 0 [some (.ref w0), some (.int x1)] [] g (gz_Fv r)
  refine sz_aload_n dX6_turnStone_0 rfl ?_
  refine sz_getR dX6_turnStone_1 flX6_11 (kdS hw0) rfl (rfS hw0) ?_
  refine sz_bipush dX6_turnStone_4 (cB48) ?_
  refine sz_dup2 dX6_turnStone_6 rfl rfl ?_
  refine sz_ialdL dX6_turnStone_7 (kdSv hw0) vi48_61 tn48 ?_
  refine sz_iconst dX6_turnStone_8 (cI2) ?_
  refine sz_isub dX6_turnStone_9 ?_
  obtain ⟨g10, eg10, hf⟩ := gz_lt hf
  refine sz_iastL dX6_turnStone_10 (kdSv hw0) vi48_61 tn48 eg10 ?_
  refine sz_aload_n dX6_turnStone_11 rfl ?_
  refine sz_getR dX6_turnStone_12 flX6_11 (kdS hw0) rfl (rfS hw0) ?_
  refine sz_iconst dX6_turnStone_15 (cI0) ?_
  refine sz_iload_n dX6_turnStone_16 rfl ?_
  refine sz_iadd dX6_turnStone_17 ?_
  refine sz_aload_n dX6_turnStone_18 rfl ?_
  refine sz_iload_n dX6_turnStone_19 rfl ?_
  obtain ⟨q20, eq20, hf⟩ := gz_bd hf
  refine sz_callVi [.int x1] [.int ((0 : Int32) + x1), .ref (w0 + 16)] dX6_turnStone_20 mvX6_49 (Nat.le_of_ble_eq_true rfl) (by decide : 6 < 13) (kdS hw0) rfl (Nat.le_of_ble_eq_true rfl) (kX6_kind  hw0 eq20) ?_
  refine sz_if_ne 30 dX6_turnStone_23 (by decide) (fun c23 => ?_) (fun c23 => ?_)
  · have hf := gz_in1 c23 hf
    refine sz_iconst dX6_turnStone_30 (cI0) ?_
    refine sz_weak (l2 := [none, none]) (gz_subn (gz_subn gz_sub0)) ?_
    exact tX6_turnStone_31  hw0  _ _ _ _ hf
  · have hf := gz_ip c23 hf
    refine sz_iconst dX6_turnStone_26 (cI1) ?_
    refine sz_goto 31 dX6_turnStone_27 (by decide) ?_
    refine sz_weak (l2 := [none, none]) (gz_subn (gz_subn gz_sub0)) ?_
    exact tX6_turnStone_31  hw0  _ _ _ _ hf
def fX6_mayBeGiven (La : gz_L)  (w0 : Nat) (x1 : Int32) (g : gz_S) : Option (Int32 × gz_S) :=
  (fX6_hasShore La  w0 g).bind (fun q1 => if q1.1 = 0 then some (0, q1.2) else if x1 < 1 then some (0, q1.2) else if 50 < x1 then some (0, q1.2) else if 999 < ((q1.2.1 (w0 + 16) 48) + x1) then some (0, q1.2) else some (1, q1.2))
set_option maxRecDepth 100000 in
set_option maxHeartbeats 4000000 in
theorem kX6_mayBeGiven {La : gz_L}  {w0 : Nat} {x1 : Int32} {g : gz_S} {r : Int32 × gz_S} (hw0 : gz_sc w0) (hf : fX6_mayBeGiven La  w0 x1 g = some r) : gz_K La 2 mX6_mayBeGiven [.ref w0, .int x1] g (gz_Fi r) := by
  unfold fX6_mayBeGiven at hf
  refine gz_K.of 0 (by decide +kernel) rfl ?_
  show gz_J La 2 mX6_mayBeGiven 0 [some (.ref w0), some (.int x1)] [] g (gz_Fi r)
  refine sz_aload_n dX6_mayBeGiven_0 rfl ?_
  obtain ⟨q1, eq1, hf⟩ := gz_bd hf
  refine sz_callVi [] [] dX6_mayBeGiven_1 mvX6_42 (Nat.le_of_ble_eq_true rfl) (by decide : 6 < 13) (kdS hw0) rfl (Nat.le_of_ble_eq_true rfl) (kX6_hasShore  hw0 eq1) ?_
  refine sz_if_eq 37 dX6_mayBeGiven_4 (by decide) (fun c4 => ?_) (fun c4 => ?_)
  · have hf := gz_ip c4 hf
    refine sz_iconst dX6_mayBeGiven_37 (cI0) ?_
    cases hf
    exact sz_iret dX6_mayBeGiven_38 rfl rfl ⟨rfl, rfl⟩
  · have hf := gz_in1 c4 hf
    refine sz_iload_n dX6_mayBeGiven_7 rfl ?_
    refine sz_iconst dX6_mayBeGiven_8 (cI1) ?_
    refine sz_icmp_lt 37 dX6_mayBeGiven_9 (by decide) (fun c9 => ?_) (fun c9 => ?_)
    · have hf := gz_ip c9 hf
      refine sz_iconst dX6_mayBeGiven_37 (cI0) ?_
      cases hf
      exact sz_iret dX6_mayBeGiven_38 rfl rfl ⟨rfl, rfl⟩
    · have hf := gz_in1 c9 hf
      refine sz_iload_n dX6_mayBeGiven_12 rfl ?_
      refine sz_bipush dX6_mayBeGiven_13 (cB50) ?_
      refine sz_icmp_gt 37 dX6_mayBeGiven_15 (by decide) (fun c15 => ?_) (fun c15 => ?_)
      · have hf := gz_ip c15 hf
        refine sz_iconst dX6_mayBeGiven_37 (cI0) ?_
        cases hf
        exact sz_iret dX6_mayBeGiven_38 rfl rfl ⟨rfl, rfl⟩
      · have hf := gz_in1 c15 hf
        refine sz_aload_n dX6_mayBeGiven_18 rfl ?_
        refine sz_getR dX6_mayBeGiven_19 flX6_11 (kdS hw0) rfl (rfS hw0) ?_
        refine sz_bipush dX6_mayBeGiven_22 (cB48) ?_
        refine sz_ialdL dX6_mayBeGiven_24 (kdSv hw0) vi48_61 tn48 ?_
        refine sz_iload_n dX6_mayBeGiven_25 rfl ?_
        refine sz_iadd dX6_mayBeGiven_26 ?_
        refine sz_sipush dX6_mayBeGiven_27 (cH999) ?_
        refine sz_icmp_gt 37 dX6_mayBeGiven_30 (by decide) (fun c30 => ?_) (fun c30 => ?_)
        · have hf := gz_ip c30 hf
          refine sz_iconst dX6_mayBeGiven_37 (cI0) ?_
          cases hf
          exact sz_iret dX6_mayBeGiven_38 rfl rfl ⟨rfl, rfl⟩
        · have hf := gz_in1 c30 hf
          refine sz_iconst dX6_mayBeGiven_33 (cI1) ?_
          refine sz_goto 38 dX6_mayBeGiven_34 (by decide) ?_
          cases hf
          exact sz_iret dX6_mayBeGiven_38 rfl rfl ⟨rfl, rfl⟩
def fX6_wentInAll_4 (La : gz_L)  (w0 : Nat)  : Nat → Int32 → Int32 → gz_S → Option (Int32 × gz_S)
  | 0, _, _, _ => none
  | n + 1, x1, x2, g => if (g.1 (w0 + 16) 60) ≤ x2 then some (x1, g) else if gz_ok ((38 : Int32) + x2) 61 then gz_let (x1 + (g.1 (w0 + 16) (Int32.toNatClampNeg ((38 : Int32) + x2)))) (fun y26 => gz_let (x2 + 1) (fun y27 => fX6_wentInAll_4 La  w0  n y26 y27 g)) else none
set_option maxRecDepth 100000 in
set_option maxHeartbeats 4000000 in
theorem tX6_wentInAll_4 {La : gz_L}  {w0 : Nat}  (hw0 : gz_sc w0)  : ∀ (n : Nat) (x1 : Int32) (x2 : Int32) (g : gz_S) (r : Int32 × gz_S), fX6_wentInAll_4 La  w0  n x1 x2 g = some r → gz_J La 1 mX6_wentInAll 4 [some (.ref w0), some (.int x1), some (.int x2)] [] g (gz_Fi r) := by
  intro n
  induction n with
  | zero => intro x1 x2 g r hf; exact nomatch (show (none : Option (Int32 × gz_S)) = some r from hf)
  | succ n ih =>
    intro x1 x2 g r hf
    unfold fX6_wentInAll_4 at hf
    refine sz_iload_n dX6_wentInAll_4 rfl ?_
    refine sz_aload_n dX6_wentInAll_5 rfl ?_
    refine sz_getR dX6_wentInAll_6 flX6_11 (kdS hw0) rfl (rfS hw0) ?_
    refine sz_bipush dX6_wentInAll_9 (cB60) ?_
    refine sz_ialdL dX6_wentInAll_11 (kdSv hw0) vi60_61 tn60 ?_
    refine sz_icmp_ge 33 dX6_wentInAll_12 (by decide) (fun c12 => ?_) (fun c12 => ?_)
    · have hf := gz_ip c12 hf
      refine sz_iload_n dX6_wentInAll_33 rfl ?_
      cases hf
      exact sz_iret dX6_wentInAll_34 rfl rfl ⟨rfl, rfl⟩
    · have hf := gz_in1 c12 hf
      refine sz_iload_n dX6_wentInAll_15 rfl ?_
      refine sz_aload_n dX6_wentInAll_16 rfl ?_
      refine sz_getR dX6_wentInAll_17 flX6_11 (kdS hw0) rfl (rfS hw0) ?_
      refine sz_bipush dX6_wentInAll_20 (cB38) ?_
      refine sz_iload_n dX6_wentInAll_22 rfl ?_
      refine sz_iadd dX6_wentInAll_23 ?_
      obtain ⟨c24, hf⟩ := gz_gd hf
      refine sz_ialdL dX6_wentInAll_24 (kdSv hw0) c24 rfl ?_
      refine sz_iadd dX6_wentInAll_25 ?_
      obtain ⟨y26, ey26, hf⟩ := gz_lt hf
      refine sz_topi ey26 ?_
      refine sz_istore_n dX6_wentInAll_26 rfl (Nat.le_of_ble_eq_true rfl) rfl ?_
      refine sz_ls (l2 := [some (.ref w0), some (.int y26), some (.int x2)]) rfl ?_
      obtain ⟨y27, ey27, hf⟩ := gz_lt hf
      refine sz_iinc (v := y27) dX6_wentInAll_27 rfl (by rw [ey27, cI1]) (Nat.le_of_ble_eq_true rfl) rfl ?_
      refine sz_ls (l2 := [some (.ref w0), some (.int y26), some (.int y27)]) rfl ?_
      refine sz_goto 4 dX6_wentInAll_30 (by decide) ?_
      exact ih _ _ _ _ hf
def fX6_wentInAll (La : gz_L)  (w0 : Nat) (g : gz_S) : Option (Int32 × gz_S) :=
  fX6_wentInAll_4 La  w0  gz_FU 0 0 g
set_option maxRecDepth 100000 in
set_option maxHeartbeats 4000000 in
theorem kX6_wentInAll {La : gz_L}  {w0 : Nat} {g : gz_S} {r : Int32 × gz_S} (hw0 : gz_sc w0) (hf : fX6_wentInAll La  w0 g = some r) : gz_K La 1 mX6_wentInAll [.ref w0] g (gz_Fi r) := by
  unfold fX6_wentInAll at hf
  refine gz_K.of 2 (by decide +kernel) rfl ?_
  show gz_J La 1 mX6_wentInAll 0 [some (.ref w0), none, none] [] g (gz_Fi r)
  refine sz_iconst dX6_wentInAll_0 (cI0) ?_
  refine sz_istore_n dX6_wentInAll_1 rfl (Nat.le_of_ble_eq_true rfl) rfl ?_
  refine sz_ls (l2 := [some (.ref w0), some (.int 0), none]) rfl ?_
  refine sz_iconst dX6_wentInAll_2 (cI0) ?_
  refine sz_istore_n dX6_wentInAll_3 rfl (Nat.le_of_ble_eq_true rfl) rfl ?_
  refine sz_ls (l2 := [some (.ref w0), some (.int 0), some (.int 0)]) rfl ?_
  exact tX6_wentInAll_4  hw0  _ _ _ _ _ hf
def fX6_goerWithMost_36 (La : gz_L)  (w0 : Nat) (k4 : Int32 → Int32 → Int32 → gz_S → Option (Int32 × gz_S)) (x1 : Int32) (x2 : Int32) (x3 : Int32) (g : gz_S) : Option (Int32 × gz_S) := gz_let (x3 + 1) (fun y36 => k4 x1 x2 y36 g)
set_option maxRecDepth 100000 in
set_option maxHeartbeats 4000000 in
theorem tX6_goerWithMost_36 {La : gz_L}  {w0 : Nat} {k4 : Int32 → Int32 → Int32 → gz_S → Option (Int32 × gz_S)} (hw0 : gz_sc w0) (hk4 : ∀ (x1 : Int32) (x2 : Int32) (x3 : Int32) (g : gz_S) (r : Int32 × gz_S), k4 x1 x2 x3 g = some r → gz_J La 1 mX6_goerWithMost 4 [some (.ref w0), some (.int x1), some (.int x2), some (.int x3)] [] g (gz_Fi r)) : ∀ (x1 : Int32) (x2 : Int32) (x3 : Int32) (g : gz_S) (r : Int32 × gz_S), fX6_goerWithMost_36 La  w0 k4 x1 x2 x3 g = some r → gz_J La 1 mX6_goerWithMost 36 [some (.ref w0), some (.int x1), some (.int x2), some (.int x3)] [] g (gz_Fi r) := by
  intro x1 x2 x3 g r hf
  unfold fX6_goerWithMost_36 at hf
  obtain ⟨y36, ey36, hf⟩ := gz_lt hf
  refine sz_iinc (v := y36) dX6_goerWithMost_36 rfl (by rw [ey36, cI1]) (Nat.le_of_ble_eq_true rfl) rfl ?_
  refine sz_ls (l2 := [some (.ref w0), some (.int x1), some (.int x2), some (.int y36)]) rfl ?_
  refine sz_goto 4 dX6_goerWithMost_39 (by decide) ?_
  exact hk4 _ _ _ _ _ hf
def fX6_goerWithMost_4 (La : gz_L)  (w0 : Nat)  : Nat → Int32 → Int32 → Int32 → gz_S → Option (Int32 × gz_S)
  | 0, _, _, _, _ => none
  | n + 1, x1, x2, x3, g => if (g.1 (w0 + 16) 60) ≤ x3 then some (x2, g) else if gz_ok (x1 + x3) 61 then if gz_ok (x1 + x2) 61 then if (g.1 (w0 + 16) (Int32.toNatClampNeg (x1 + x3))) ≤ (g.1 (w0 + 16) (Int32.toNatClampNeg (x1 + x2))) then fX6_goerWithMost_36 La  w0 (fX6_goerWithMost_4 La  w0  n)  x1 x2 x3 g else fX6_goerWithMost_36 La  w0 (fX6_goerWithMost_4 La  w0  n)  x1 x3 x3 g else none else none
set_option maxRecDepth 100000 in
set_option maxHeartbeats 4000000 in
theorem tX6_goerWithMost_4 {La : gz_L}  {w0 : Nat}  (hw0 : gz_sc w0)  : ∀ (n : Nat) (x1 : Int32) (x2 : Int32) (x3 : Int32) (g : gz_S) (r : Int32 × gz_S), fX6_goerWithMost_4 La  w0  n x1 x2 x3 g = some r → gz_J La 1 mX6_goerWithMost 4 [some (.ref w0), some (.int x1), some (.int x2), some (.int x3)] [] g (gz_Fi r) := by
  intro n
  induction n with
  | zero => intro x1 x2 x3 g r hf; exact nomatch (show (none : Option (Int32 × gz_S)) = some r from hf)
  | succ n ih =>
    intro x1 x2 x3 g r hf
    unfold fX6_goerWithMost_4 at hf
    refine sz_iload_n dX6_goerWithMost_4 rfl ?_
    refine sz_aload_n dX6_goerWithMost_5 rfl ?_
    refine sz_getR dX6_goerWithMost_6 flX6_11 (kdS hw0) rfl (rfS hw0) ?_
    refine sz_bipush dX6_goerWithMost_9 (cB60) ?_
    refine sz_ialdL dX6_goerWithMost_11 (kdSv hw0) vi60_61 tn60 ?_
    refine sz_icmp_ge 42 dX6_goerWithMost_12 (by decide) (fun c12 => ?_) (fun c12 => ?_)
    · have hf := gz_ip c12 hf
      refine sz_iload_n dX6_goerWithMost_42 rfl ?_
      cases hf
      exact sz_iret dX6_goerWithMost_43 rfl rfl ⟨rfl, rfl⟩
    · have hf := gz_in1 c12 hf
      refine sz_aload_n dX6_goerWithMost_15 rfl ?_
      refine sz_getR dX6_goerWithMost_16 flX6_11 (kdS hw0) rfl (rfS hw0) ?_
      refine sz_iload_n dX6_goerWithMost_19 rfl ?_
      refine sz_iload_n dX6_goerWithMost_20 rfl ?_
      refine sz_iadd dX6_goerWithMost_21 ?_
      obtain ⟨c22, hf⟩ := gz_gd hf
      refine sz_ialdL dX6_goerWithMost_22 (kdSv hw0) c22 rfl ?_
      refine sz_aload_n dX6_goerWithMost_23 rfl ?_
      refine sz_getR dX6_goerWithMost_24 flX6_11 (kdS hw0) rfl (rfS hw0) ?_
      refine sz_iload_n dX6_goerWithMost_27 rfl ?_
      refine sz_iload_n dX6_goerWithMost_28 rfl ?_
      refine sz_iadd dX6_goerWithMost_29 ?_
      obtain ⟨c30, hf⟩ := gz_gd hf
      refine sz_ialdL dX6_goerWithMost_30 (kdSv hw0) c30 rfl ?_
      refine sz_icmp_le 36 dX6_goerWithMost_31 (by decide) (fun c31 => ?_) (fun c31 => ?_)
      · have hf := gz_ip c31 hf
        exact tX6_goerWithMost_36  hw0 ih _ _ _ _ _ hf
      · have hf := gz_in1 c31 hf
        refine sz_iload_n dX6_goerWithMost_34 rfl ?_
        refine sz_istore_n dX6_goerWithMost_35 rfl (Nat.le_of_ble_eq_true rfl) rfl ?_
        refine sz_ls (l2 := [some (.ref w0), some (.int x1), some (.int x3), some (.int x3)]) rfl ?_
        exact tX6_goerWithMost_36  hw0 ih _ _ _ _ _ hf
def fX6_goerWithMost (La : gz_L)  (w0 : Nat) (x1 : Int32) (g : gz_S) : Option (Int32 × gz_S) :=
  fX6_goerWithMost_4 La  w0  gz_FU x1 0 1 g
set_option maxRecDepth 100000 in
set_option maxHeartbeats 4000000 in
theorem kX6_goerWithMost {La : gz_L}  {w0 : Nat} {x1 : Int32} {g : gz_S} {r : Int32 × gz_S} (hw0 : gz_sc w0) (hf : fX6_goerWithMost La  w0 x1 g = some r) : gz_K La 1 mX6_goerWithMost [.ref w0, .int x1] g (gz_Fi r) := by
  unfold fX6_goerWithMost at hf
  refine gz_K.of 2 (by decide +kernel) rfl ?_
  show gz_J La 1 mX6_goerWithMost 0 [some (.ref w0), some (.int x1), none, none] [] g (gz_Fi r)
  refine sz_iconst dX6_goerWithMost_0 (cI0) ?_
  refine sz_istore_n dX6_goerWithMost_1 rfl (Nat.le_of_ble_eq_true rfl) rfl ?_
  refine sz_ls (l2 := [some (.ref w0), some (.int x1), some (.int 0), none]) rfl ?_
  refine sz_iconst dX6_goerWithMost_2 (cI1) ?_
  refine sz_istore_n dX6_goerWithMost_3 rfl (Nat.le_of_ble_eq_true rfl) rfl ?_
  refine sz_ls (l2 := [some (.ref w0), some (.int x1), some (.int 0), some (.int 1)]) rfl ?_
  exact tX6_goerWithMost_4  hw0  _ _ _ _ _ _ hf
def fX6_goersWith_34 (La : gz_L)  (w0 : Nat) (k4 : Int32 → Int32 → Int32 → gz_S → Option (Int32 × gz_S)) (x1 : Int32) (x2 : Int32) (x3 : Int32) (g : gz_S) : Option (Int32 × gz_S) := gz_let (x3 + 1) (fun y34 => k4 x1 x2 y34 g)
set_option maxRecDepth 100000 in
set_option maxHeartbeats 4000000 in
theorem tX6_goersWith_34 {La : gz_L}  {w0 : Nat} {k4 : Int32 → Int32 → Int32 → gz_S → Option (Int32 × gz_S)} (hw0 : gz_sc w0) (hk4 : ∀ (x1 : Int32) (x2 : Int32) (x3 : Int32) (g : gz_S) (r : Int32 × gz_S), k4 x1 x2 x3 g = some r → gz_J La 1 mX6_goersWith 4 [some (.ref w0), some (.int x1), some (.int x2), some (.int x3)] [] g (gz_Fi r)) : ∀ (x1 : Int32) (x2 : Int32) (x3 : Int32) (g : gz_S) (r : Int32 × gz_S), fX6_goersWith_34 La  w0 k4 x1 x2 x3 g = some r → gz_J La 1 mX6_goersWith 34 [some (.ref w0), some (.int x1), some (.int x2), some (.int x3)] [] g (gz_Fi r) := by
  intro x1 x2 x3 g r hf
  unfold fX6_goersWith_34 at hf
  obtain ⟨y34, ey34, hf⟩ := gz_lt hf
  refine sz_iinc (v := y34) dX6_goersWith_34 rfl (by rw [ey34, cI1]) (Nat.le_of_ble_eq_true rfl) rfl ?_
  refine sz_ls (l2 := [some (.ref w0), some (.int x1), some (.int x2), some (.int y34)]) rfl ?_
  refine sz_goto 4 dX6_goersWith_37 (by decide) ?_
  exact hk4 _ _ _ _ _ hf
def fX6_goersWith_4 (La : gz_L)  (w0 : Nat)  : Nat → Int32 → Int32 → Int32 → gz_S → Option (Int32 × gz_S)
  | 0, _, _, _, _ => none
  | n + 1, x1, x2, x3, g => if (g.1 (w0 + 16) 60) ≤ x3 then some (x2, g) else if gz_ok ((42 : Int32) + x3) 61 then if (g.1 (w0 + 16) (Int32.toNatClampNeg ((42 : Int32) + x3))) = x1 then gz_let (x2 ||| ((1 : Int32) <<< (x3 &&& 31))) (fun y33 => fX6_goersWith_34 La  w0 (fX6_goersWith_4 La  w0  n)  x1 y33 x3 g) else fX6_goersWith_34 La  w0 (fX6_goersWith_4 La  w0  n)  x1 x2 x3 g else none
set_option maxRecDepth 100000 in
set_option maxHeartbeats 4000000 in
theorem tX6_goersWith_4 {La : gz_L}  {w0 : Nat}  (hw0 : gz_sc w0)  : ∀ (n : Nat) (x1 : Int32) (x2 : Int32) (x3 : Int32) (g : gz_S) (r : Int32 × gz_S), fX6_goersWith_4 La  w0  n x1 x2 x3 g = some r → gz_J La 1 mX6_goersWith 4 [some (.ref w0), some (.int x1), some (.int x2), some (.int x3)] [] g (gz_Fi r) := by
  intro n
  induction n with
  | zero => intro x1 x2 x3 g r hf; exact nomatch (show (none : Option (Int32 × gz_S)) = some r from hf)
  | succ n ih =>
    intro x1 x2 x3 g r hf
    unfold fX6_goersWith_4 at hf
    refine sz_iload_n dX6_goersWith_4 rfl ?_
    refine sz_aload_n dX6_goersWith_5 rfl ?_
    refine sz_getR dX6_goersWith_6 flX6_11 (kdS hw0) rfl (rfS hw0) ?_
    refine sz_bipush dX6_goersWith_9 (cB60) ?_
    refine sz_ialdL dX6_goersWith_11 (kdSv hw0) vi60_61 tn60 ?_
    refine sz_icmp_ge 40 dX6_goersWith_12 (by decide) (fun c12 => ?_) (fun c12 => ?_)
    · have hf := gz_ip c12 hf
      refine sz_iload_n dX6_goersWith_40 rfl ?_
      cases hf
      exact sz_iret dX6_goersWith_41 rfl rfl ⟨rfl, rfl⟩
    · have hf := gz_in1 c12 hf
      refine sz_aload_n dX6_goersWith_15 rfl ?_
      refine sz_getR dX6_goersWith_16 flX6_11 (kdS hw0) rfl (rfS hw0) ?_
      refine sz_bipush dX6_goersWith_19 (cB42) ?_
      refine sz_iload_n dX6_goersWith_21 rfl ?_
      refine sz_iadd dX6_goersWith_22 ?_
      obtain ⟨c23, hf⟩ := gz_gd hf
      refine sz_ialdL dX6_goersWith_23 (kdSv hw0) c23 rfl ?_
      refine sz_iload_n dX6_goersWith_24 rfl ?_
      refine sz_icmp_ne 34 dX6_goersWith_25 (by decide) (fun c25 => ?_) (fun c25 => ?_)
      · have hf := gz_in1 c25 hf
        exact tX6_goersWith_34  hw0 ih _ _ _ _ _ hf
      · have hf := gz_ip c25 hf
        refine sz_iload_n dX6_goersWith_28 rfl ?_
        refine sz_iconst dX6_goersWith_29 (cI1) ?_
        refine sz_iload_n dX6_goersWith_30 rfl ?_
        refine sz_ishl dX6_goersWith_31 ?_
        refine sz_ior dX6_goersWith_32 ?_
        obtain ⟨y33, ey33, hf⟩ := gz_lt hf
        refine sz_topi ey33 ?_
        refine sz_istore_n dX6_goersWith_33 rfl (Nat.le_of_ble_eq_true rfl) rfl ?_
        refine sz_ls (l2 := [some (.ref w0), some (.int x1), some (.int y33), some (.int x3)]) rfl ?_
        exact tX6_goersWith_34  hw0 ih _ _ _ _ _ hf
def fX6_goersWith (La : gz_L)  (w0 : Nat) (x1 : Int32) (g : gz_S) : Option (Int32 × gz_S) :=
  fX6_goersWith_4 La  w0  gz_FU x1 0 0 g
set_option maxRecDepth 100000 in
set_option maxHeartbeats 4000000 in
theorem kX6_goersWith {La : gz_L}  {w0 : Nat} {x1 : Int32} {g : gz_S} {r : Int32 × gz_S} (hw0 : gz_sc w0) (hf : fX6_goersWith La  w0 x1 g = some r) : gz_K La 1 mX6_goersWith [.ref w0, .int x1] g (gz_Fi r) := by
  unfold fX6_goersWith at hf
  refine gz_K.of 2 (by decide +kernel) rfl ?_
  show gz_J La 1 mX6_goersWith 0 [some (.ref w0), some (.int x1), none, none] [] g (gz_Fi r)
  refine sz_iconst dX6_goersWith_0 (cI0) ?_
  refine sz_istore_n dX6_goersWith_1 rfl (Nat.le_of_ble_eq_true rfl) rfl ?_
  refine sz_ls (l2 := [some (.ref w0), some (.int x1), some (.int 0), none]) rfl ?_
  refine sz_iconst dX6_goersWith_2 (cI0) ?_
  refine sz_istore_n dX6_goersWith_3 rfl (Nat.le_of_ble_eq_true rfl) rfl ?_
  refine sz_ls (l2 := [some (.ref w0), some (.int x1), some (.int 0), some (.int 0)]) rfl ?_
  exact tX6_goersWith_4  hw0  _ _ _ _ _ _ hf
def fX6_busyCells_37 (La : gz_L)  (w0 : Nat) (k4 : Int32 → Int32 → gz_S → Option (Int32 × gz_S)) (x1 : Int32) (x2 : Int32) (g : gz_S) : Option (Int32 × gz_S) := gz_let (x2 + 1) (fun y37 => k4 x1 y37 g)
set_option maxRecDepth 100000 in
set_option maxHeartbeats 4000000 in
theorem tX6_busyCells_37 {La : gz_L}  {w0 : Nat} {k4 : Int32 → Int32 → gz_S → Option (Int32 × gz_S)} (hw0 : gz_sc w0) (hk4 : ∀ (x1 : Int32) (x2 : Int32) (g : gz_S) (r : Int32 × gz_S), k4 x1 x2 g = some r → gz_J La 2 mX6_busyCells 4 [some (.ref w0), some (.int x1), some (.int x2)] [] g (gz_Fi r)) : ∀ (x1 : Int32) (x2 : Int32) (g : gz_S) (r : Int32 × gz_S), fX6_busyCells_37 La  w0 k4 x1 x2 g = some r → gz_J La 2 mX6_busyCells 37 [some (.ref w0), some (.int x1), some (.int x2)] [] g (gz_Fi r) := by
  intro x1 x2 g r hf
  unfold fX6_busyCells_37 at hf
  obtain ⟨y37, ey37, hf⟩ := gz_lt hf
  refine sz_iinc (v := y37) dX6_busyCells_37 rfl (by rw [ey37, cI1]) (Nat.le_of_ble_eq_true rfl) rfl ?_
  refine sz_ls (l2 := [some (.ref w0), some (.int x1), some (.int y37)]) rfl ?_
  refine sz_goto 4 dX6_busyCells_40 (by decide) ?_
  exact hk4 _ _ _ _ hf
def fX6_busyCells_4 (La : gz_L)  (w0 : Nat)  : Nat → Int32 → Int32 → gz_S → Option (Int32 × gz_S)
  | 0, _, _, _ => none
  | n + 1, x1, x2, g => if (g.1 (w0 + 16) 60) ≤ x2 then some (x1, g) else (fX6_goes La  w0 x2 g).bind (fun q17 => if q17.1 = 0 then fX6_busyCells_37 La  w0 (fX6_busyCells_4 La  w0  n)  x1 x2 q17.2 else if gz_ok ((30 : Int32) + x2) 61 then gz_let (x1 ||| ((1 : Int32) <<< ((q17.2.1 (w0 + 16) (Int32.toNatClampNeg ((30 : Int32) + x2))) &&& 31))) (fun y36 => fX6_busyCells_37 La  w0 (fX6_busyCells_4 La  w0  n)  y36 x2 q17.2) else none)
set_option maxRecDepth 100000 in
set_option maxHeartbeats 4000000 in
theorem tX6_busyCells_4 {La : gz_L}  {w0 : Nat}  (hw0 : gz_sc w0)  : ∀ (n : Nat) (x1 : Int32) (x2 : Int32) (g : gz_S) (r : Int32 × gz_S), fX6_busyCells_4 La  w0  n x1 x2 g = some r → gz_J La 2 mX6_busyCells 4 [some (.ref w0), some (.int x1), some (.int x2)] [] g (gz_Fi r) := by
  intro n
  induction n with
  | zero => intro x1 x2 g r hf; exact nomatch (show (none : Option (Int32 × gz_S)) = some r from hf)
  | succ n ih =>
    intro x1 x2 g r hf
    unfold fX6_busyCells_4 at hf
    refine sz_iload_n dX6_busyCells_4 rfl ?_
    refine sz_aload_n dX6_busyCells_5 rfl ?_
    refine sz_getR dX6_busyCells_6 flX6_11 (kdS hw0) rfl (rfS hw0) ?_
    refine sz_bipush dX6_busyCells_9 (cB60) ?_
    refine sz_ialdL dX6_busyCells_11 (kdSv hw0) vi60_61 tn60 ?_
    refine sz_icmp_ge 43 dX6_busyCells_12 (by decide) (fun c12 => ?_) (fun c12 => ?_)
    · have hf := gz_ip c12 hf
      refine sz_iload_n dX6_busyCells_43 rfl ?_
      cases hf
      exact sz_iret dX6_busyCells_44 rfl rfl ⟨rfl, rfl⟩
    · have hf := gz_in1 c12 hf
      refine sz_aload_n dX6_busyCells_15 rfl ?_
      refine sz_iload_n dX6_busyCells_16 rfl ?_
      obtain ⟨q17, eq17, hf⟩ := gz_bd hf
      refine sz_callVi [.int x2] [] dX6_busyCells_17 mvX6_33 (Nat.le_of_ble_eq_true rfl) (by decide : 6 < 13) (kdS hw0) rfl (Nat.le_of_ble_eq_true rfl) (kX6_goes  hw0 eq17) ?_
      refine sz_if_eq 37 dX6_busyCells_20 (by decide) (fun c20 => ?_) (fun c20 => ?_)
      · have hf := gz_ip c20 hf
        exact tX6_busyCells_37  hw0 ih _ _ _ _ hf
      · have hf := gz_in1 c20 hf
        refine sz_iload_n dX6_busyCells_23 rfl ?_
        refine sz_iconst dX6_busyCells_24 (cI1) ?_
        refine sz_aload_n dX6_busyCells_25 rfl ?_
        refine sz_getR dX6_busyCells_26 flX6_11 (kdS hw0) rfl (rfS hw0) ?_
        refine sz_bipush dX6_busyCells_29 (cB30) ?_
        refine sz_iload_n dX6_busyCells_31 rfl ?_
        refine sz_iadd dX6_busyCells_32 ?_
        obtain ⟨c33, hf⟩ := gz_gd hf
        refine sz_ialdL dX6_busyCells_33 (kdSv hw0) c33 rfl ?_
        refine sz_ishl dX6_busyCells_34 ?_
        refine sz_ior dX6_busyCells_35 ?_
        obtain ⟨y36, ey36, hf⟩ := gz_lt hf
        refine sz_topi ey36 ?_
        refine sz_istore_n dX6_busyCells_36 rfl (Nat.le_of_ble_eq_true rfl) rfl ?_
        refine sz_ls (l2 := [some (.ref w0), some (.int y36), some (.int x2)]) rfl ?_
        exact tX6_busyCells_37  hw0 ih _ _ _ _ hf
def fX6_busyCells (La : gz_L)  (w0 : Nat) (g : gz_S) : Option (Int32 × gz_S) :=
  fX6_busyCells_4 La  w0  gz_FU 0 0 g
set_option maxRecDepth 100000 in
set_option maxHeartbeats 4000000 in
theorem kX6_busyCells {La : gz_L}  {w0 : Nat} {g : gz_S} {r : Int32 × gz_S} (hw0 : gz_sc w0) (hf : fX6_busyCells La  w0 g = some r) : gz_K La 2 mX6_busyCells [.ref w0] g (gz_Fi r) := by
  unfold fX6_busyCells at hf
  refine gz_K.of 2 (by decide +kernel) rfl ?_
  show gz_J La 2 mX6_busyCells 0 [some (.ref w0), none, none] [] g (gz_Fi r)
  refine sz_iconst dX6_busyCells_0 (cI0) ?_
  refine sz_istore_n dX6_busyCells_1 rfl (Nat.le_of_ble_eq_true rfl) rfl ?_
  refine sz_ls (l2 := [some (.ref w0), some (.int 0), none]) rfl ?_
  refine sz_iconst dX6_busyCells_2 (cI0) ?_
  refine sz_istore_n dX6_busyCells_3 rfl (Nat.le_of_ble_eq_true rfl) rfl ?_
  refine sz_ls (l2 := [some (.ref w0), some (.int 0), some (.int 0)]) rfl ?_
  exact tX6_busyCells_4  hw0  _ _ _ _ _ hf
def fX6_crowd_41 (La : gz_L)  (w0 : Nat) (k4 : Int32 → Int32 → gz_S → Option (Int32 × gz_S)) (x1 : Int32) (x2 : Int32) (g : gz_S) : Option (Int32 × gz_S) := gz_let (x2 + 1) (fun y41 => k4 x1 y41 g)
set_option maxRecDepth 100000 in
set_option maxHeartbeats 4000000 in
theorem tX6_crowd_41 {La : gz_L}  {w0 : Nat} {k4 : Int32 → Int32 → gz_S → Option (Int32 × gz_S)} (hw0 : gz_sc w0) (hk4 : ∀ (x1 : Int32) (x2 : Int32) (g : gz_S) (r : Int32 × gz_S), k4 x1 x2 g = some r → gz_J La 3 mX6_crowd 4 [some (.ref w0), some (.int x1), some (.int x2)] [] g (gz_Fi r)) : ∀ (x1 : Int32) (x2 : Int32) (g : gz_S) (r : Int32 × gz_S), fX6_crowd_41 La  w0 k4 x1 x2 g = some r → gz_J La 3 mX6_crowd 41 [some (.ref w0), some (.int x1), some (.int x2)] [] g (gz_Fi r) := by
  intro x1 x2 g r hf
  unfold fX6_crowd_41 at hf
  obtain ⟨y41, ey41, hf⟩ := gz_lt hf
  refine sz_iinc (v := y41) dX6_crowd_41 rfl (by rw [ey41, cI1]) (Nat.le_of_ble_eq_true rfl) rfl ?_
  refine sz_ls (l2 := [some (.ref w0), some (.int x1), some (.int y41)]) rfl ?_
  refine sz_goto 4 dX6_crowd_44 (by decide) ?_
  exact hk4 _ _ _ _ hf
def fX6_crowd_4 (La : gz_L)  (w0 : Nat)  : Nat → Int32 → Int32 → gz_S → Option (Int32 × gz_S)
  | 0, _, _, _ => none
  | n + 1, x1, x2, g => if (g.1 (w0 + 16) 60) ≤ x2 then some (x1, g) else (fX6_goes La  w0 x2 g).bind (fun q17 => if q17.1 = 0 then fX6_crowd_41 La  w0 (fX6_crowd_4 La  w0  n)  x1 x2 q17.2 else if gz_ok ((30 : Int32) + x2) 61 then (fX6_goingOn La  w0 (q17.2.1 (w0 + 16) (Int32.toNatClampNeg ((30 : Int32) + x2))) q17.2).bind (fun q34 => (fJ9_max_7cf53 La  x1 q34.1 q34.2).bind (fun q37 => fX6_crowd_41 La  w0 (fX6_crowd_4 La  w0  n)  q37.1 x2 q37.2)) else none)
set_option maxRecDepth 100000 in
set_option maxHeartbeats 4000000 in
theorem tX6_crowd_4 {La : gz_L}  {w0 : Nat}  (hw0 : gz_sc w0)  : ∀ (n : Nat) (x1 : Int32) (x2 : Int32) (g : gz_S) (r : Int32 × gz_S), fX6_crowd_4 La  w0  n x1 x2 g = some r → gz_J La 3 mX6_crowd 4 [some (.ref w0), some (.int x1), some (.int x2)] [] g (gz_Fi r) := by
  intro n
  induction n with
  | zero => intro x1 x2 g r hf; exact nomatch (show (none : Option (Int32 × gz_S)) = some r from hf)
  | succ n ih =>
    intro x1 x2 g r hf
    unfold fX6_crowd_4 at hf
    refine sz_iload_n dX6_crowd_4 rfl ?_
    refine sz_aload_n dX6_crowd_5 rfl ?_
    refine sz_getR dX6_crowd_6 flX6_11 (kdS hw0) rfl (rfS hw0) ?_
    refine sz_bipush dX6_crowd_9 (cB60) ?_
    refine sz_ialdL dX6_crowd_11 (kdSv hw0) vi60_61 tn60 ?_
    refine sz_icmp_ge 47 dX6_crowd_12 (by decide) (fun c12 => ?_) (fun c12 => ?_)
    · have hf := gz_ip c12 hf
      refine sz_iload_n dX6_crowd_47 rfl ?_
      cases hf
      exact sz_iret dX6_crowd_48 rfl rfl ⟨rfl, rfl⟩
    · have hf := gz_in1 c12 hf
      refine sz_aload_n dX6_crowd_15 rfl ?_
      refine sz_iload_n dX6_crowd_16 rfl ?_
      obtain ⟨q17, eq17, hf⟩ := gz_bd hf
      refine sz_callVi [.int x2] [] dX6_crowd_17 mvX6_33 (Nat.le_of_ble_eq_true rfl) (by decide : 6 < 13) (kdS hw0) rfl (Nat.le_of_ble_eq_true rfl) (kX6_goes  hw0 eq17) ?_
      refine sz_if_eq 41 dX6_crowd_20 (by decide) (fun c20 => ?_) (fun c20 => ?_)
      · have hf := gz_ip c20 hf
        exact tX6_crowd_41  hw0 ih _ _ _ _ hf
      · have hf := gz_in1 c20 hf
        refine sz_iload_n dX6_crowd_23 rfl ?_
        refine sz_aload_n dX6_crowd_24 rfl ?_
        refine sz_aload_n dX6_crowd_25 rfl ?_
        refine sz_getR dX6_crowd_26 flX6_11 (kdS hw0) rfl (rfS hw0) ?_
        refine sz_bipush dX6_crowd_29 (cB30) ?_
        refine sz_iload_n dX6_crowd_31 rfl ?_
        refine sz_iadd dX6_crowd_32 ?_
        obtain ⟨c33, hf⟩ := gz_gd hf
        refine sz_ialdL dX6_crowd_33 (kdSv hw0) c33 rfl ?_
        obtain ⟨q34, eq34, hf⟩ := gz_bd hf
        refine sz_callVi [.int (q17.2.1 (w0 + 16) (Int32.toNatClampNeg ((30 : Int32) + x2)))] [.int x1] dX6_crowd_34 mvX6_53 (Nat.le_of_ble_eq_true rfl) (by decide : 6 < 13) (kdS hw0) rfl (Nat.le_of_ble_eq_true rfl) (kX6_goingOn  hw0 eq34) ?_
        obtain ⟨q37, eq37, hf⟩ := gz_bd hf
        refine sz_callSi [.int x1, .int q34.1] [] dX6_crowd_37 msX6_63 (Nat.le_of_ble_eq_true rfl) (Nat.le_of_ble_eq_true rfl) (kJ9_max_7cf53   eq37) ?_
        refine sz_istore_n dX6_crowd_40 rfl (Nat.le_of_ble_eq_true rfl) rfl ?_
        refine sz_ls (l2 := [some (.ref w0), some (.int q37.1), some (.int x2)]) rfl ?_
        exact tX6_crowd_41  hw0 ih _ _ _ _ hf
def fX6_crowd (La : gz_L)  (w0 : Nat) (g : gz_S) : Option (Int32 × gz_S) :=
  fX6_crowd_4 La  w0  gz_FU 0 0 g
set_option maxRecDepth 100000 in
set_option maxHeartbeats 4000000 in
theorem kX6_crowd {La : gz_L}  {w0 : Nat} {g : gz_S} {r : Int32 × gz_S} (hw0 : gz_sc w0) (hf : fX6_crowd La  w0 g = some r) : gz_K La 3 mX6_crowd [.ref w0] g (gz_Fi r) := by
  unfold fX6_crowd at hf
  refine gz_K.of 2 (by decide +kernel) rfl ?_
  show gz_J La 3 mX6_crowd 0 [some (.ref w0), none, none] [] g (gz_Fi r)
  refine sz_iconst dX6_crowd_0 (cI0) ?_
  refine sz_istore_n dX6_crowd_1 rfl (Nat.le_of_ble_eq_true rfl) rfl ?_
  refine sz_ls (l2 := [some (.ref w0), some (.int 0), none]) rfl ?_
  refine sz_iconst dX6_crowd_2 (cI0) ?_
  refine sz_istore_n dX6_crowd_3 rfl (Nat.le_of_ble_eq_true rfl) rfl ?_
  refine sz_ls (l2 := [some (.ref w0), some (.int 0), some (.int 0)]) rfl ?_
  exact tX6_crowd_4  hw0  _ _ _ _ _ hf
def fX6_looksAt (La : gz_L)  (w0 : Nat) (x1 : Int32) (x2 : Int32) (g : gz_S) : Option (Int32 × gz_S) :=
  if gz_ok ((30 : Int32) + x1) 61 then if gz_ok ((34 : Int32) + x1) 61 then (fX6_beside La  w0 (g.1 (w0 + 16) (Int32.toNatClampNeg ((30 : Int32) + x1))) (g.1 (w0 + 16) (Int32.toNatClampNeg ((34 : Int32) + x1))) g).bind (fun q19 => if gz_ok ((30 : Int32) + x2) 61 then if q19.1 = (q19.2.1 (w0 + 16) (Int32.toNatClampNeg ((30 : Int32) + x2))) then some (1, q19.2) else some (0, q19.2) else none) else none else none
set_option maxRecDepth 100000 in
set_option maxHeartbeats 4000000 in
theorem kX6_looksAt {La : gz_L}  {w0 : Nat} {x1 : Int32} {x2 : Int32} {g : gz_S} {r : Int32 × gz_S} (hw0 : gz_sc w0) (hf : fX6_looksAt La  w0 x1 x2 g = some r) : gz_K La 2 mX6_looksAt [.ref w0, .int x1, .int x2] g (gz_Fi r) := by
  unfold fX6_looksAt at hf
  refine gz_K.of 0 (by decide +kernel) rfl ?_
  show gz_J La 2 mX6_looksAt 0 [some (.ref w0), some (.int x1), some (.int x2)] [] g (gz_Fi r)
  refine sz_aload_n dX6_looksAt_0 rfl ?_
  refine sz_aload_n dX6_looksAt_1 rfl ?_
  refine sz_getR dX6_looksAt_2 flX6_11 (kdS hw0) rfl (rfS hw0) ?_
  refine sz_bipush dX6_looksAt_5 (cB30) ?_
  refine sz_iload_n dX6_looksAt_7 rfl ?_
  refine sz_iadd dX6_looksAt_8 ?_
  obtain ⟨c9, hf⟩ := gz_gd hf
  refine sz_ialdL dX6_looksAt_9 (kdSv hw0) c9 rfl ?_
  refine sz_aload_n dX6_looksAt_10 rfl ?_
  refine sz_getR dX6_looksAt_11 flX6_11 (kdS hw0) rfl (rfS hw0) ?_
  refine sz_bipush dX6_looksAt_14 (cB34) ?_
  refine sz_iload_n dX6_looksAt_16 rfl ?_
  refine sz_iadd dX6_looksAt_17 ?_
  obtain ⟨c18, hf⟩ := gz_gd hf
  refine sz_ialdL dX6_looksAt_18 (kdSv hw0) c18 rfl ?_
  obtain ⟨q19, eq19, hf⟩ := gz_bd hf
  refine sz_callVi [.int (g.1 (w0 + 16) (Int32.toNatClampNeg ((30 : Int32) + x1))), .int (g.1 (w0 + 16) (Int32.toNatClampNeg ((34 : Int32) + x1)))] [] dX6_looksAt_19 mvX6_72 (Nat.le_of_ble_eq_true rfl) (by decide : 6 < 13) (kdS hw0) rfl (Nat.le_of_ble_eq_true rfl) (kX6_beside  hw0 eq19) ?_
  refine sz_aload_n dX6_looksAt_22 rfl ?_
  refine sz_getR dX6_looksAt_23 flX6_11 (kdS hw0) rfl (rfS hw0) ?_
  refine sz_bipush dX6_looksAt_26 (cB30) ?_
  refine sz_iload_n dX6_looksAt_28 rfl ?_
  refine sz_iadd dX6_looksAt_29 ?_
  obtain ⟨c30, hf⟩ := gz_gd hf
  refine sz_ialdL dX6_looksAt_30 (kdSv hw0) c30 rfl ?_
  refine sz_icmp_ne 38 dX6_looksAt_31 (by decide) (fun c31 => ?_) (fun c31 => ?_)
  · have hf := gz_in1 c31 hf
    refine sz_iconst dX6_looksAt_38 (cI0) ?_
    cases hf
    exact sz_iret dX6_looksAt_39 rfl rfl ⟨rfl, rfl⟩
  · have hf := gz_ip c31 hf
    refine sz_iconst dX6_looksAt_34 (cI1) ?_
    refine sz_goto 39 dX6_looksAt_35 (by decide) ?_
    cases hf
    exact sz_iret dX6_looksAt_39 rfl rfl ⟨rfl, rfl⟩
def fX6_faced_67 (La : gz_L)  (w0 : Nat) (k19 : Int32 → Int32 → Int32 → gz_S → Option (Int32 × gz_S)) (x1 : Int32) (x2 : Int32) (x3 : Int32) (g : gz_S) : Option (Int32 × gz_S) := gz_let (x3 + 1) (fun y67 => k19 x1 x2 y67 g)
set_option maxRecDepth 100000 in
set_option maxHeartbeats 4000000 in
theorem tX6_faced_67 {La : gz_L}  {w0 : Nat} {k19 : Int32 → Int32 → Int32 → gz_S → Option (Int32 × gz_S)} (hw0 : gz_sc w0) (hk19 : ∀ (x1 : Int32) (x2 : Int32) (x3 : Int32) (g : gz_S) (r : Int32 × gz_S), k19 x1 x2 x3 g = some r → gz_J La 3 mX6_faced 19 [some (.ref w0), some (.int x1), some (.int x2), some (.int x3)] [] g (gz_Fi r)) : ∀ (x1 : Int32) (x2 : Int32) (x3 : Int32) (g : gz_S) (r : Int32 × gz_S), fX6_faced_67 La  w0 k19 x1 x2 x3 g = some r → gz_J La 3 mX6_faced 67 [some (.ref w0), some (.int x1), some (.int x2), some (.int x3)] [] g (gz_Fi r) := by
  intro x1 x2 x3 g r hf
  unfold fX6_faced_67 at hf
  obtain ⟨y67, ey67, hf⟩ := gz_lt hf
  refine sz_iinc (v := y67) dX6_faced_67 rfl (by rw [ey67, cI1]) (Nat.le_of_ble_eq_true rfl) rfl ?_
  refine sz_ls (l2 := [some (.ref w0), some (.int x1), some (.int x2), some (.int y67)]) rfl ?_
  refine sz_goto 19 dX6_faced_70 (by decide) ?_
  exact hk19 _ _ _ _ _ hf
def fX6_faced_19 (La : gz_L)  (w0 : Nat) (k73 : Int32 → Int32 → gz_S → Option (Int32 × gz_S)) : Nat → Int32 → Int32 → Int32 → gz_S → Option (Int32 × gz_S)
  | 0, _, _, _, _ => none
  | n + 1, x1, x2, x3, g => if (g.1 (w0 + 16) 60) ≤ x3 then k73 x1 x2 g else (fX6_goes La  w0 x2 g).bind (fun q32 => if q32.1 = 0 then fX6_faced_67 La  w0 (fX6_faced_19 La  w0 k73 n)  x1 x2 x3 q32.2 else (fX6_goes La  w0 x3 q32.2).bind (fun q40 => if q40.1 = 0 then fX6_faced_67 La  w0 (fX6_faced_19 La  w0 k73 n)  x1 x2 x3 q40.2 else (fX6_looksAt La  w0 x2 x3 q40.2).bind (fun q49 => if q49.1 = 0 then fX6_faced_67 La  w0 (fX6_faced_19 La  w0 k73 n)  x1 x2 x3 q49.2 else (fX6_looksAt La  w0 x3 x2 q49.2).bind (fun q58 => if q58.1 = 0 then fX6_faced_67 La  w0 (fX6_faced_19 La  w0 k73 n)  x1 x2 x3 q58.2 else gz_let (x1 + 1) (fun y64 => fX6_faced_67 La  w0 (fX6_faced_19 La  w0 k73 n)  y64 x2 x3 q58.2)))))
set_option maxRecDepth 100000 in
set_option maxHeartbeats 4000000 in
theorem tX6_faced_19 {La : gz_L}  {w0 : Nat} {k73 : Int32 → Int32 → gz_S → Option (Int32 × gz_S)} (hw0 : gz_sc w0) (hk73 : ∀ (x1 : Int32) (x2 : Int32) (g : gz_S) (r : Int32 × gz_S), k73 x1 x2 g = some r → gz_J La 3 mX6_faced 73 [some (.ref w0), some (.int x1), some (.int x2), none] [] g (gz_Fi r)) : ∀ (n : Nat) (x1 : Int32) (x2 : Int32) (x3 : Int32) (g : gz_S) (r : Int32 × gz_S), fX6_faced_19 La  w0 k73 n x1 x2 x3 g = some r → gz_J La 3 mX6_faced 19 [some (.ref w0), some (.int x1), some (.int x2), some (.int x3)] [] g (gz_Fi r) := by
  intro n
  induction n with
  | zero => intro x1 x2 x3 g r hf; exact nomatch (show (none : Option (Int32 × gz_S)) = some r from hf)
  | succ n ih =>
    intro x1 x2 x3 g r hf
    unfold fX6_faced_19 at hf
    refine sz_iload_n dX6_faced_19 rfl ?_
    refine sz_aload_n dX6_faced_20 rfl ?_
    refine sz_getR dX6_faced_21 flX6_11 (kdS hw0) rfl (rfS hw0) ?_
    refine sz_bipush dX6_faced_24 (cB60) ?_
    refine sz_ialdL dX6_faced_26 (kdSv hw0) vi60_61 tn60 ?_
    refine sz_icmp_ge 73 dX6_faced_27 (by decide) (fun c27 => ?_) (fun c27 => ?_)
    · have hf := gz_ip c27 hf
      refine sz_weak (l2 := [some (.ref w0), some (.int x1), some (.int x2), none]) (gz_subk (gz_subk (gz_subk (gz_subn gz_sub0)))) ?_
      exact hk73 _ _ _ _ hf
    · have hf := gz_in1 c27 hf
      refine sz_aload_n dX6_faced_30 rfl ?_
      refine sz_iload_n dX6_faced_31 rfl ?_
      obtain ⟨q32, eq32, hf⟩ := gz_bd hf
      refine sz_callVi [.int x2] [] dX6_faced_32 mvX6_33 (Nat.le_of_ble_eq_true rfl) (by decide : 6 < 13) (kdS hw0) rfl (Nat.le_of_ble_eq_true rfl) (kX6_goes  hw0 eq32) ?_
      refine sz_if_eq 67 dX6_faced_35 (by decide) (fun c35 => ?_) (fun c35 => ?_)
      · have hf := gz_ip c35 hf
        exact tX6_faced_67  hw0 ih _ _ _ _ _ hf
      · have hf := gz_in1 c35 hf
        refine sz_aload_n dX6_faced_38 rfl ?_
        refine sz_iload_n dX6_faced_39 rfl ?_
        obtain ⟨q40, eq40, hf⟩ := gz_bd hf
        refine sz_callVi [.int x3] [] dX6_faced_40 mvX6_33 (Nat.le_of_ble_eq_true rfl) (by decide : 6 < 13) (kdS hw0) rfl (Nat.le_of_ble_eq_true rfl) (kX6_goes  hw0 eq40) ?_
        refine sz_if_eq 67 dX6_faced_43 (by decide) (fun c43 => ?_) (fun c43 => ?_)
        · have hf := gz_ip c43 hf
          exact tX6_faced_67  hw0 ih _ _ _ _ _ hf
        · have hf := gz_in1 c43 hf
          refine sz_aload_n dX6_faced_46 rfl ?_
          refine sz_iload_n dX6_faced_47 rfl ?_
          refine sz_iload_n dX6_faced_48 rfl ?_
          obtain ⟨q49, eq49, hf⟩ := gz_bd hf
          refine sz_callVi [.int x2, .int x3] [] dX6_faced_49 mvX6_69 (Nat.le_of_ble_eq_true rfl) (by decide : 6 < 13) (kdS hw0) rfl (Nat.le_of_ble_eq_true rfl) (kX6_looksAt  hw0 eq49) ?_
          refine sz_if_eq 67 dX6_faced_52 (by decide) (fun c52 => ?_) (fun c52 => ?_)
          · have hf := gz_ip c52 hf
            exact tX6_faced_67  hw0 ih _ _ _ _ _ hf
          · have hf := gz_in1 c52 hf
            refine sz_aload_n dX6_faced_55 rfl ?_
            refine sz_iload_n dX6_faced_56 rfl ?_
            refine sz_iload_n dX6_faced_57 rfl ?_
            obtain ⟨q58, eq58, hf⟩ := gz_bd hf
            refine sz_callVi [.int x3, .int x2] [] dX6_faced_58 mvX6_69 (Nat.le_of_ble_eq_true rfl) (by decide : 6 < 13) (kdS hw0) rfl (Nat.le_of_ble_eq_true rfl) (kX6_looksAt  hw0 eq58) ?_
            refine sz_if_eq 67 dX6_faced_61 (by decide) (fun c61 => ?_) (fun c61 => ?_)
            · have hf := gz_ip c61 hf
              exact tX6_faced_67  hw0 ih _ _ _ _ _ hf
            · have hf := gz_in1 c61 hf
              obtain ⟨y64, ey64, hf⟩ := gz_lt hf
              refine sz_iinc (v := y64) dX6_faced_64 rfl (by rw [ey64, cI1]) (Nat.le_of_ble_eq_true rfl) rfl ?_
              refine sz_ls (l2 := [some (.ref w0), some (.int y64), some (.int x2), some (.int x3)]) rfl ?_
              exact tX6_faced_67  hw0 ih _ _ _ _ _ hf
def fX6_faced_4 (La : gz_L)  (w0 : Nat)  : Nat → Int32 → Int32 → gz_S → Option (Int32 × gz_S)
  | 0, _, _, _ => none
  | n + 1, x1, x2, g => if (g.1 (w0 + 16) 60) ≤ x2 then some (x1, g) else gz_let (x2 + 1) (fun y18 => fX6_faced_19 La  w0 (fun (x1 : Int32) (x2 : Int32) g => gz_let (x2 + 1) (fun y73 => fX6_faced_4 La  w0  n x1 y73 g)) gz_FU x1 x2 y18 g)
set_option maxRecDepth 100000 in
set_option maxHeartbeats 4000000 in
theorem tX6_faced_4 {La : gz_L}  {w0 : Nat}  (hw0 : gz_sc w0)  : ∀ (n : Nat) (x1 : Int32) (x2 : Int32) (g : gz_S) (r : Int32 × gz_S), fX6_faced_4 La  w0  n x1 x2 g = some r → gz_J La 3 mX6_faced 4 [some (.ref w0), some (.int x1), some (.int x2), none] [] g (gz_Fi r) := by
  intro n
  induction n with
  | zero => intro x1 x2 g r hf; exact nomatch (show (none : Option (Int32 × gz_S)) = some r from hf)
  | succ n ih =>
    intro x1 x2 g r hf
    unfold fX6_faced_4 at hf
    refine sz_iload_n dX6_faced_4 rfl ?_
    refine sz_aload_n dX6_faced_5 rfl ?_
    refine sz_getR dX6_faced_6 flX6_11 (kdS hw0) rfl (rfS hw0) ?_
    refine sz_bipush dX6_faced_9 (cB60) ?_
    refine sz_ialdL dX6_faced_11 (kdSv hw0) vi60_61 tn60 ?_
    refine sz_icmp_ge 79 dX6_faced_12 (by decide) (fun c12 => ?_) (fun c12 => ?_)
    · have hf := gz_ip c12 hf
      refine sz_iload_n dX6_faced_79 rfl ?_
      cases hf
      exact sz_iret dX6_faced_80 rfl rfl ⟨rfl, rfl⟩
    · have hf := gz_in1 c12 hf
      refine sz_iload_n dX6_faced_15 rfl ?_
      refine sz_iconst dX6_faced_16 (cI1) ?_
      refine sz_iadd dX6_faced_17 ?_
      obtain ⟨y18, ey18, hf⟩ := gz_lt hf
      refine sz_topi ey18 ?_
      refine sz_istore_n dX6_faced_18 rfl (Nat.le_of_ble_eq_true rfl) rfl ?_
      refine sz_ls (l2 := [some (.ref w0), some (.int x1), some (.int x2), some (.int y18)]) rfl ?_
      have hk73 : ∀ (x1 : Int32) (x2 : Int32) (g : gz_S) (r : Int32 × gz_S), (fun (x1 : Int32) (x2 : Int32) g => gz_let (x2 + 1) (fun y73 => fX6_faced_4 La  w0  n x1 y73 g)) x1 x2 g = some r → gz_J La 3 mX6_faced 73 [some (.ref w0), some (.int x1), some (.int x2), none] [] g (gz_Fi r) := by
        intro x1 x2 g r hf
        obtain ⟨y73, ey73, hf⟩ := gz_lt hf
        refine sz_iinc (v := y73) dX6_faced_73 rfl (by rw [ey73, cI1]) (Nat.le_of_ble_eq_true rfl) rfl ?_
        refine sz_ls (l2 := [some (.ref w0), some (.int x1), some (.int y73), none]) rfl ?_
        refine sz_goto 4 dX6_faced_76 (by decide) ?_
        exact ih _ _ _ _ hf
      exact tX6_faced_19  hw0 hk73 _ _ _ _ _ _ hf
def fX6_faced (La : gz_L)  (w0 : Nat) (g : gz_S) : Option (Int32 × gz_S) :=
  fX6_faced_4 La  w0  gz_FU 0 0 g
set_option maxRecDepth 100000 in
set_option maxHeartbeats 4000000 in
theorem kX6_faced {La : gz_L}  {w0 : Nat} {g : gz_S} {r : Int32 × gz_S} (hw0 : gz_sc w0) (hf : fX6_faced La  w0 g = some r) : gz_K La 3 mX6_faced [.ref w0] g (gz_Fi r) := by
  unfold fX6_faced at hf
  refine gz_K.of 3 (by decide +kernel) rfl ?_
  show gz_J La 3 mX6_faced 0 [some (.ref w0), none, none, none] [] g (gz_Fi r)
  refine sz_iconst dX6_faced_0 (cI0) ?_
  refine sz_istore_n dX6_faced_1 rfl (Nat.le_of_ble_eq_true rfl) rfl ?_
  refine sz_ls (l2 := [some (.ref w0), some (.int 0), none, none]) rfl ?_
  refine sz_iconst dX6_faced_2 (cI0) ?_
  refine sz_istore_n dX6_faced_3 rfl (Nat.le_of_ble_eq_true rfl) rfl ?_
  refine sz_ls (l2 := [some (.ref w0), some (.int 0), some (.int 0), none]) rfl ?_
  exact tX6_faced_4  hw0  _ _ _ _ _ hf
def fX6_dryCells_35 (La : gz_L)  (w0 : Nat) (k4 : Int32 → Int32 → gz_S → Option (Int32 × gz_S)) (x1 : Int32) (x2 : Int32) (g : gz_S) : Option (Int32 × gz_S) := gz_let (x2 + 1) (fun y35 => k4 x1 y35 g)
set_option maxRecDepth 100000 in
set_option maxHeartbeats 4000000 in
theorem tX6_dryCells_35 {La : gz_L}  {w0 : Nat} {k4 : Int32 → Int32 → gz_S → Option (Int32 × gz_S)} (hw0 : gz_sc w0) (hk4 : ∀ (x1 : Int32) (x2 : Int32) (g : gz_S) (r : Int32 × gz_S), k4 x1 x2 g = some r → gz_J La 2 mX6_dryCells 4 [some (.ref w0), some (.int x1), some (.int x2)] [] g (gz_Fi r)) : ∀ (x1 : Int32) (x2 : Int32) (g : gz_S) (r : Int32 × gz_S), fX6_dryCells_35 La  w0 k4 x1 x2 g = some r → gz_J La 2 mX6_dryCells 35 [some (.ref w0), some (.int x1), some (.int x2)] [] g (gz_Fi r) := by
  intro x1 x2 g r hf
  unfold fX6_dryCells_35 at hf
  obtain ⟨y35, ey35, hf⟩ := gz_lt hf
  refine sz_iinc (v := y35) dX6_dryCells_35 rfl (by rw [ey35, cI1]) (Nat.le_of_ble_eq_true rfl) rfl ?_
  refine sz_ls (l2 := [some (.ref w0), some (.int x1), some (.int y35)]) rfl ?_
  refine sz_goto 4 dX6_dryCells_38 (by decide) ?_
  exact hk4 _ _ _ _ hf
def fX6_dryCells_4 (La : gz_L)  (w0 : Nat)  : Nat → Int32 → Int32 → gz_S → Option (Int32 × gz_S)
  | 0, _, _, _ => none
  | n + 1, x1, x2, g => (fX6_cells La  w0 g).bind (fun q6 => if q6.1 ≤ x2 then some (x1, q6.2) else (fX6_kind La  w0 x2 q6.2).bind (fun q14 => if q14.1 = 1 then fX6_dryCells_35 La  w0 (fX6_dryCells_4 La  w0  n)  x1 x2 q14.2 else (fX6_under La  w0 x2 q14.2).bind (fun q23 => if q23.1 = 0 then gz_let (x1 ||| ((1 : Int32) <<< (x2 &&& 31))) (fun y34 => fX6_dryCells_35 La  w0 (fX6_dryCells_4 La  w0  n)  y34 x2 q23.2) else fX6_dryCells_35 La  w0 (fX6_dryCells_4 La  w0  n)  x1 x2 q23.2)))
set_option maxRecDepth 100000 in
set_option maxHeartbeats 4000000 in
theorem tX6_dryCells_4 {La : gz_L}  {w0 : Nat}  (hw0 : gz_sc w0)  : ∀ (n : Nat) (x1 : Int32) (x2 : Int32) (g : gz_S) (r : Int32 × gz_S), fX6_dryCells_4 La  w0  n x1 x2 g = some r → gz_J La 2 mX6_dryCells 4 [some (.ref w0), some (.int x1), some (.int x2)] [] g (gz_Fi r) := by
  intro n
  induction n with
  | zero => intro x1 x2 g r hf; exact nomatch (show (none : Option (Int32 × gz_S)) = some r from hf)
  | succ n ih =>
    intro x1 x2 g r hf
    unfold fX6_dryCells_4 at hf
    refine sz_iload_n dX6_dryCells_4 rfl ?_
    refine sz_aload_n dX6_dryCells_5 rfl ?_
    obtain ⟨q6, eq6, hf⟩ := gz_bd hf
    refine sz_callVi [] [.int x2] dX6_dryCells_6 mvX6_21 (Nat.le_of_ble_eq_true rfl) (by decide : 6 < 13) (kdS hw0) rfl (Nat.le_of_ble_eq_true rfl) (kX6_cells  hw0 eq6) ?_
    refine sz_icmp_ge 41 dX6_dryCells_9 (by decide) (fun c9 => ?_) (fun c9 => ?_)
    · have hf := gz_ip c9 hf
      refine sz_iload_n dX6_dryCells_41 rfl ?_
      cases hf
      exact sz_iret dX6_dryCells_42 rfl rfl ⟨rfl, rfl⟩
    · have hf := gz_in1 c9 hf
      refine sz_aload_n dX6_dryCells_12 rfl ?_
      refine sz_iload_n dX6_dryCells_13 rfl ?_
      obtain ⟨q14, eq14, hf⟩ := gz_bd hf
      refine sz_callVi [.int x2] [] dX6_dryCells_14 mvX6_49 (Nat.le_of_ble_eq_true rfl) (by decide : 6 < 13) (kdS hw0) rfl (Nat.le_of_ble_eq_true rfl) (kX6_kind  hw0 eq14) ?_
      refine sz_iconst dX6_dryCells_17 (cI1) ?_
      refine sz_icmp_eq 35 dX6_dryCells_18 (by decide) (fun c18 => ?_) (fun c18 => ?_)
      · have hf := gz_ip c18 hf
        exact tX6_dryCells_35  hw0 ih _ _ _ _ hf
      · have hf := gz_in1 c18 hf
        refine sz_aload_n dX6_dryCells_21 rfl ?_
        refine sz_iload_n dX6_dryCells_22 rfl ?_
        obtain ⟨q23, eq23, hf⟩ := gz_bd hf
        refine sz_callVi [.int x2] [] dX6_dryCells_23 mvX6_39 (Nat.le_of_ble_eq_true rfl) (by decide : 6 < 13) (kdS hw0) rfl (Nat.le_of_ble_eq_true rfl) (kX6_under  hw0 eq23) ?_
        refine sz_if_ne 35 dX6_dryCells_26 (by decide) (fun c26 => ?_) (fun c26 => ?_)
        · have hf := gz_in1 c26 hf
          exact tX6_dryCells_35  hw0 ih _ _ _ _ hf
        · have hf := gz_ip c26 hf
          refine sz_iload_n dX6_dryCells_29 rfl ?_
          refine sz_iconst dX6_dryCells_30 (cI1) ?_
          refine sz_iload_n dX6_dryCells_31 rfl ?_
          refine sz_ishl dX6_dryCells_32 ?_
          refine sz_ior dX6_dryCells_33 ?_
          obtain ⟨y34, ey34, hf⟩ := gz_lt hf
          refine sz_topi ey34 ?_
          refine sz_istore_n dX6_dryCells_34 rfl (Nat.le_of_ble_eq_true rfl) rfl ?_
          refine sz_ls (l2 := [some (.ref w0), some (.int y34), some (.int x2)]) rfl ?_
          exact tX6_dryCells_35  hw0 ih _ _ _ _ hf
def fX6_dryCells (La : gz_L)  (w0 : Nat) (g : gz_S) : Option (Int32 × gz_S) :=
  fX6_dryCells_4 La  w0  gz_FU 0 0 g
set_option maxRecDepth 100000 in
set_option maxHeartbeats 4000000 in
theorem kX6_dryCells {La : gz_L}  {w0 : Nat} {g : gz_S} {r : Int32 × gz_S} (hw0 : gz_sc w0) (hf : fX6_dryCells La  w0 g = some r) : gz_K La 2 mX6_dryCells [.ref w0] g (gz_Fi r) := by
  unfold fX6_dryCells at hf
  refine gz_K.of 2 (by decide +kernel) rfl ?_
  show gz_J La 2 mX6_dryCells 0 [some (.ref w0), none, none] [] g (gz_Fi r)
  refine sz_iconst dX6_dryCells_0 (cI0) ?_
  refine sz_istore_n dX6_dryCells_1 rfl (Nat.le_of_ble_eq_true rfl) rfl ?_
  refine sz_ls (l2 := [some (.ref w0), some (.int 0), none]) rfl ?_
  refine sz_iconst dX6_dryCells_2 (cI0) ?_
  refine sz_istore_n dX6_dryCells_3 rfl (Nat.le_of_ble_eq_true rfl) rfl ?_
  refine sz_ls (l2 := [some (.ref w0), some (.int 0), some (.int 0)]) rfl ?_
  exact tX6_dryCells_4  hw0  _ _ _ _ _ hf
def fX6_widened_57 (La : gz_L)  (w0 : Nat) (k17 : Int32 → Int32 → Int32 → Int32 → Int32 → gz_S → Option (Int32 × gz_S)) (x1 : Int32) (x2 : Int32) (x3 : Int32) (x4 : Int32) (x5 : Int32) (g : gz_S) : Option (Int32 × gz_S) := gz_let (x5 + 1) (fun y57 => k17 x1 x2 x3 x4 y57 g)
set_option maxRecDepth 100000 in
set_option maxHeartbeats 4000000 in
theorem tX6_widened_57 {La : gz_L}  {w0 : Nat} {k17 : Int32 → Int32 → Int32 → Int32 → Int32 → gz_S → Option (Int32 × gz_S)} (hw0 : gz_sc w0) (hk17 : ∀ (x1 : Int32) (x2 : Int32) (x3 : Int32) (x4 : Int32) (x5 : Int32) (g : gz_S) (r : Int32 × gz_S), k17 x1 x2 x3 x4 x5 g = some r → gz_J La 2 mX6_widened 17 [some (.ref w0), some (.int x1), some (.int x2), some (.int x3), some (.int x4), some (.int x5), none] [] g (gz_Fi r)) : ∀ (x1 : Int32) (x2 : Int32) (x3 : Int32) (x4 : Int32) (x5 : Int32) (g : gz_S) (r : Int32 × gz_S), fX6_widened_57 La  w0 k17 x1 x2 x3 x4 x5 g = some r → gz_J La 2 mX6_widened 57 [some (.ref w0), some (.int x1), some (.int x2), some (.int x3), some (.int x4), some (.int x5), none] [] g (gz_Fi r) := by
  intro x1 x2 x3 x4 x5 g r hf
  unfold fX6_widened_57 at hf
  obtain ⟨y57, ey57, hf⟩ := gz_lt hf
  refine sz_iinc (v := y57) dX6_widened_57 rfl (by rw [ey57, cI1]) (Nat.le_of_ble_eq_true rfl) rfl ?_
  refine sz_ls (l2 := [some (.ref w0), some (.int x1), some (.int x2), some (.int x3), some (.int x4), some (.int y57), none]) rfl ?_
  refine sz_goto 17 dX6_widened_60 (by decide) ?_
  exact hk17 _ _ _ _ _ _ _ hf
def fX6_widened_17 (La : gz_L)  (w0 : Nat) (k63 : Int32 → Int32 → Int32 → Int32 → gz_S → Option (Int32 × gz_S)) : Nat → Int32 → Int32 → Int32 → Int32 → Int32 → gz_S → Option (Int32 × gz_S)
  | 0, _, _, _, _, _, _ => none
  | n + 1, x1, x2, x3, x4, x5, g => if 4 ≤ x5 then k63 x1 x2 x3 x4 g else if ((x1 >>> (x4 &&& 31)) &&& (1 : Int32)) = 0 then k63 x1 x2 x3 x4 g else (fX6_beside La  w0 x4 x5 g).bind (fun q37 => if q37.1 = (-1) then fX6_widened_57 La  w0 (fX6_widened_17 La  w0 k63 n)  x1 x2 x3 x4 x5 q37.2 else gz_let (x3 ||| (((1 : Int32) <<< (q37.1 &&& 31)) &&& x2)) (fun y56 => fX6_widened_57 La  w0 (fX6_widened_17 La  w0 k63 n)  x1 x2 y56 x4 x5 q37.2))
set_option maxRecDepth 100000 in
set_option maxHeartbeats 4000000 in
theorem tX6_widened_17 {La : gz_L}  {w0 : Nat} {k63 : Int32 → Int32 → Int32 → Int32 → gz_S → Option (Int32 × gz_S)} (hw0 : gz_sc w0) (hk63 : ∀ (x1 : Int32) (x2 : Int32) (x3 : Int32) (x4 : Int32) (g : gz_S) (r : Int32 × gz_S), k63 x1 x2 x3 x4 g = some r → gz_J La 2 mX6_widened 63 [some (.ref w0), some (.int x1), some (.int x2), some (.int x3), some (.int x4), none, none] [] g (gz_Fi r)) : ∀ (n : Nat) (x1 : Int32) (x2 : Int32) (x3 : Int32) (x4 : Int32) (x5 : Int32) (g : gz_S) (r : Int32 × gz_S), fX6_widened_17 La  w0 k63 n x1 x2 x3 x4 x5 g = some r → gz_J La 2 mX6_widened 17 [some (.ref w0), some (.int x1), some (.int x2), some (.int x3), some (.int x4), some (.int x5), none] [] g (gz_Fi r) := by
  intro n
  induction n with
  | zero => intro x1 x2 x3 x4 x5 g r hf; exact nomatch (show (none : Option (Int32 × gz_S)) = some r from hf)
  | succ n ih =>
    intro x1 x2 x3 x4 x5 g r hf
    unfold fX6_widened_17 at hf
    refine sz_iload dX6_widened_17 rfl ?_
    refine sz_iconst dX6_widened_19 (cI4) ?_
    refine sz_icmp_ge 63 dX6_widened_20 (by decide) (fun c20 => ?_) (fun c20 => ?_)
    · have hf := gz_ip c20 hf
      refine sz_weak (l2 := [some (.ref w0), some (.int x1), some (.int x2), some (.int x3), some (.int x4), none, none]) (gz_subk (gz_subk (gz_subk (gz_subk (gz_subk (gz_subn (gz_subk gz_sub0))))))) ?_
      exact hk63 _ _ _ _ _ _ hf
    · have hf := gz_in1 c20 hf
      refine sz_iload_n dX6_widened_23 rfl ?_
      refine sz_iload dX6_widened_24 rfl ?_
      refine sz_ishr dX6_widened_26 ?_
      refine sz_iconst dX6_widened_27 (cI1) ?_
      refine sz_iand dX6_widened_28 ?_
      refine sz_if_eq 63 dX6_widened_29 (by decide) (fun c29 => ?_) (fun c29 => ?_)
      · have hf := gz_ip c29 hf
        refine sz_weak (l2 := [some (.ref w0), some (.int x1), some (.int x2), some (.int x3), some (.int x4), none, none]) (gz_subk (gz_subk (gz_subk (gz_subk (gz_subk (gz_subn (gz_subk gz_sub0))))))) ?_
        exact hk63 _ _ _ _ _ _ hf
      · have hf := gz_in1 c29 hf
        refine sz_aload_n dX6_widened_32 rfl ?_
        refine sz_iload dX6_widened_33 rfl ?_
        refine sz_iload dX6_widened_35 rfl ?_
        obtain ⟨q37, eq37, hf⟩ := gz_bd hf
        refine sz_callVi [.int x4, .int x5] [] dX6_widened_37 mvX6_72 (Nat.le_of_ble_eq_true rfl) (by decide : 6 < 13) (kdS hw0) rfl (Nat.le_of_ble_eq_true rfl) (kX6_beside  hw0 eq37) ?_
        refine sz_istore dX6_widened_40 (Nat.le_of_ble_eq_true rfl) rfl ?_
        refine sz_ls (l2 := [some (.ref w0), some (.int x1), some (.int x2), some (.int x3), some (.int x4), some (.int x5), some (.int q37.1)]) rfl ?_
        refine sz_iload dX6_widened_42 rfl ?_
        refine sz_iconst dX6_widened_44 (cIm1) ?_
        refine sz_icmp_eq 57 dX6_widened_45 (by decide) (fun c45 => ?_) (fun c45 => ?_)
        · have hf := gz_ip c45 hf
          refine sz_weak (l2 := [some (.ref w0), some (.int x1), some (.int x2), some (.int x3), some (.int x4), some (.int x5), none]) (gz_subk (gz_subk (gz_subk (gz_subk (gz_subk (gz_subk (gz_subn gz_sub0))))))) ?_
          exact tX6_widened_57  hw0 ih _ _ _ _ _ _ _ hf
        · have hf := gz_in1 c45 hf
          refine sz_iload_n dX6_widened_48 rfl ?_
          refine sz_iconst dX6_widened_49 (cI1) ?_
          refine sz_iload dX6_widened_50 rfl ?_
          refine sz_ishl dX6_widened_52 ?_
          refine sz_iload_n dX6_widened_53 rfl ?_
          refine sz_iand dX6_widened_54 ?_
          refine sz_ior dX6_widened_55 ?_
          obtain ⟨y56, ey56, hf⟩ := gz_lt hf
          refine sz_topi ey56 ?_
          refine sz_istore_n dX6_widened_56 rfl (Nat.le_of_ble_eq_true rfl) rfl ?_
          refine sz_ls (l2 := [some (.ref w0), some (.int x1), some (.int x2), some (.int y56), some (.int x4), some (.int x5), some (.int q37.1)]) rfl ?_
          refine sz_weak (l2 := [some (.ref w0), some (.int x1), some (.int x2), some (.int y56), some (.int x4), some (.int x5), none]) (gz_subk (gz_subk (gz_subk (gz_subk (gz_subk (gz_subk (gz_subn gz_sub0))))))) ?_
          exact tX6_widened_57  hw0 ih _ _ _ _ _ _ _ hf
def fX6_widened_63 (La : gz_L)  (w0 : Nat) (k5 : Int32 → Int32 → Int32 → Int32 → gz_S → Option (Int32 × gz_S)) (x1 : Int32) (x2 : Int32) (x3 : Int32) (x4 : Int32) (g : gz_S) : Option (Int32 × gz_S) := gz_let (x4 + 1) (fun y63 => k5 x1 x2 x3 y63 g)
set_option maxRecDepth 100000 in
set_option maxHeartbeats 4000000 in
theorem tX6_widened_63 {La : gz_L}  {w0 : Nat} {k5 : Int32 → Int32 → Int32 → Int32 → gz_S → Option (Int32 × gz_S)} (hw0 : gz_sc w0) (hk5 : ∀ (x1 : Int32) (x2 : Int32) (x3 : Int32) (x4 : Int32) (g : gz_S) (r : Int32 × gz_S), k5 x1 x2 x3 x4 g = some r → gz_J La 2 mX6_widened 5 [some (.ref w0), some (.int x1), some (.int x2), some (.int x3), some (.int x4), none, none] [] g (gz_Fi r)) : ∀ (x1 : Int32) (x2 : Int32) (x3 : Int32) (x4 : Int32) (g : gz_S) (r : Int32 × gz_S), fX6_widened_63 La  w0 k5 x1 x2 x3 x4 g = some r → gz_J La 2 mX6_widened 63 [some (.ref w0), some (.int x1), some (.int x2), some (.int x3), some (.int x4), none, none] [] g (gz_Fi r) := by
  intro x1 x2 x3 x4 g r hf
  unfold fX6_widened_63 at hf
  obtain ⟨y63, ey63, hf⟩ := gz_lt hf
  refine sz_iinc (v := y63) dX6_widened_63 rfl (by rw [ey63, cI1]) (Nat.le_of_ble_eq_true rfl) rfl ?_
  refine sz_ls (l2 := [some (.ref w0), some (.int x1), some (.int x2), some (.int x3), some (.int y63), none, none]) rfl ?_
  refine sz_goto 5 dX6_widened_66 (by decide) ?_
  exact hk5 _ _ _ _ _ _ hf
def fX6_widened_5 (La : gz_L)  (w0 : Nat)  : Nat → Int32 → Int32 → Int32 → Int32 → gz_S → Option (Int32 × gz_S)
  | 0, _, _, _, _, _ => none
  | n + 1, x1, x2, x3, x4, g => (fX6_cells La  w0 g).bind (fun q8 => if q8.1 ≤ x4 then some (x3, q8.2) else fX6_widened_17 La  w0 (fX6_widened_63 La  w0 (fX6_widened_5 La  w0  n) ) gz_FU x1 x2 x3 x4 0 q8.2)
set_option maxRecDepth 100000 in
set_option maxHeartbeats 4000000 in
theorem tX6_widened_5 {La : gz_L}  {w0 : Nat}  (hw0 : gz_sc w0)  : ∀ (n : Nat) (x1 : Int32) (x2 : Int32) (x3 : Int32) (x4 : Int32) (g : gz_S) (r : Int32 × gz_S), fX6_widened_5 La  w0  n x1 x2 x3 x4 g = some r → gz_J La 2 mX6_widened 5 [some (.ref w0), some (.int x1), some (.int x2), some (.int x3), some (.int x4), none, none] [] g (gz_Fi r) := by
  intro n
  induction n with
  | zero => intro x1 x2 x3 x4 g r hf; exact nomatch (show (none : Option (Int32 × gz_S)) = some r from hf)
  | succ n ih =>
    intro x1 x2 x3 x4 g r hf
    unfold fX6_widened_5 at hf
    refine sz_iload dX6_widened_5 rfl ?_
    refine sz_aload_n dX6_widened_7 rfl ?_
    obtain ⟨q8, eq8, hf⟩ := gz_bd hf
    refine sz_callVi [] [.int x4] dX6_widened_8 mvX6_21 (Nat.le_of_ble_eq_true rfl) (by decide : 6 < 13) (kdS hw0) rfl (Nat.le_of_ble_eq_true rfl) (kX6_cells  hw0 eq8) ?_
    refine sz_icmp_ge 69 dX6_widened_11 (by decide) (fun c11 => ?_) (fun c11 => ?_)
    · have hf := gz_ip c11 hf
      refine sz_iload_n dX6_widened_69 rfl ?_
      cases hf
      exact sz_iret dX6_widened_70 rfl rfl ⟨rfl, rfl⟩
    · have hf := gz_in1 c11 hf
      refine sz_iconst dX6_widened_14 (cI0) ?_
      refine sz_istore dX6_widened_15 (Nat.le_of_ble_eq_true rfl) rfl ?_
      refine sz_ls (l2 := [some (.ref w0), some (.int x1), some (.int x2), some (.int x3), some (.int x4), some (.int 0), none]) rfl ?_
      exact tX6_widened_17  hw0 (tX6_widened_63  hw0 ih) _ _ _ _ _ _ _ _ hf
def fX6_widened (La : gz_L)  (w0 : Nat) (x1 : Int32) (x2 : Int32) (g : gz_S) : Option (Int32 × gz_S) :=
  fX6_widened_5 La  w0  gz_FU x1 x2 x1 0 g
set_option maxRecDepth 100000 in
set_option maxHeartbeats 4000000 in
theorem kX6_widened {La : gz_L}  {w0 : Nat} {x1 : Int32} {x2 : Int32} {g : gz_S} {r : Int32 × gz_S} (hw0 : gz_sc w0) (hf : fX6_widened La  w0 x1 x2 g = some r) : gz_K La 2 mX6_widened [.ref w0, .int x1, .int x2] g (gz_Fi r) := by
  unfold fX6_widened at hf
  refine gz_K.of 4 (by decide +kernel) rfl ?_
  show gz_J La 2 mX6_widened 0 [some (.ref w0), some (.int x1), some (.int x2), none, none, none, none] [] g (gz_Fi r)
  refine sz_iload_n dX6_widened_0 rfl ?_
  refine sz_istore_n dX6_widened_1 rfl (Nat.le_of_ble_eq_true rfl) rfl ?_
  refine sz_ls (l2 := [some (.ref w0), some (.int x1), some (.int x2), some (.int x1), none, none, none]) rfl ?_
  refine sz_iconst dX6_widened_2 (cI0) ?_
  refine sz_istore dX6_widened_3 (Nat.le_of_ble_eq_true rfl) rfl ?_
  refine sz_ls (l2 := [some (.ref w0), some (.int x1), some (.int x2), some (.int x1), some (.int 0), none, none]) rfl ?_
  exact tX6_widened_5  hw0  _ _ _ _ _ _ _ hf
def fX6_reached_5 (La : gz_L)  (w0 : Nat)  : Nat → Int32 → Int32 → Int32 → gz_S → Option (Int32 × gz_S)
  | 0, _, _, _, _ => none
  | n + 1, x2, x3, x4, g => if 30 ≤ x4 then some (x3, g) else (fX6_widened La  w0 x3 x2 g).bind (fun q15 => gz_let (x4 + 1) (fun y19 => fX6_reached_5 La  w0  n x2 q15.1 y19 q15.2))
set_option maxRecDepth 100000 in
set_option maxHeartbeats 4000000 in
theorem tX6_reached_5 {La : gz_L}  {w0 : Nat}  (hw0 : gz_sc w0)  : ∀ (n : Nat) (x2 : Int32) (x3 : Int32) (x4 : Int32) (g : gz_S) (r : Int32 × gz_S), fX6_reached_5 La  w0  n x2 x3 x4 g = some r → gz_J La 3 mX6_reached 5 [some (.ref w0), none, some (.int x2), some (.int x3), some (.int x4)] [] g (gz_Fi r) := by
  intro n
  induction n with
  | zero => intro x2 x3 x4 g r hf; exact nomatch (show (none : Option (Int32 × gz_S)) = some r from hf)
  | succ n ih =>
    intro x2 x3 x4 g r hf
    unfold fX6_reached_5 at hf
    refine sz_iload dX6_reached_5 rfl ?_
    refine sz_bipush dX6_reached_7 (cB30) ?_
    refine sz_icmp_ge 25 dX6_reached_9 (by decide) (fun c9 => ?_) (fun c9 => ?_)
    · have hf := gz_ip c9 hf
      refine sz_iload_n dX6_reached_25 rfl ?_
      cases hf
      exact sz_iret dX6_reached_26 rfl rfl ⟨rfl, rfl⟩
    · have hf := gz_in1 c9 hf
      refine sz_aload_n dX6_reached_12 rfl ?_
      refine sz_iload_n dX6_reached_13 rfl ?_
      refine sz_iload_n dX6_reached_14 rfl ?_
      obtain ⟨q15, eq15, hf⟩ := gz_bd hf
      refine sz_callVi [.int x3, .int x2] [] dX6_reached_15 mvX6_81 (Nat.le_of_ble_eq_true rfl) (by decide : 6 < 13) (kdS hw0) rfl (Nat.le_of_ble_eq_true rfl) (kX6_widened  hw0 eq15) ?_
      refine sz_istore_n dX6_reached_18 rfl (Nat.le_of_ble_eq_true rfl) rfl ?_
      refine sz_ls (l2 := [some (.ref w0), none, some (.int x2), some (.int q15.1), some (.int x4)]) rfl ?_
      obtain ⟨y19, ey19, hf⟩ := gz_lt hf
      refine sz_iinc (v := y19) dX6_reached_19 rfl (by rw [ey19, cI1]) (Nat.le_of_ble_eq_true rfl) rfl ?_
      refine sz_ls (l2 := [some (.ref w0), none, some (.int x2), some (.int q15.1), some (.int y19)]) rfl ?_
      refine sz_goto 5 dX6_reached_22 (by decide) ?_
      exact ih _ _ _ _ _ hf
def fX6_reached (La : gz_L)  (w0 : Nat) (x1 : Int32) (x2 : Int32) (g : gz_S) : Option (Int32 × gz_S) :=
  fX6_reached_5 La  w0  gz_FU x2 x1 0 g
set_option maxRecDepth 100000 in
set_option maxHeartbeats 4000000 in
theorem kX6_reached {La : gz_L}  {w0 : Nat} {x1 : Int32} {x2 : Int32} {g : gz_S} {r : Int32 × gz_S} (hw0 : gz_sc w0) (hf : fX6_reached La  w0 x1 x2 g = some r) : gz_K La 3 mX6_reached [.ref w0, .int x1, .int x2] g (gz_Fi r) := by
  unfold fX6_reached at hf
  refine gz_K.of 2 (by decide +kernel) rfl ?_
  show gz_J La 3 mX6_reached 0 [some (.ref w0), some (.int x1), some (.int x2), none, none] [] g (gz_Fi r)
  refine sz_iload_n dX6_reached_0 rfl ?_
  refine sz_istore_n dX6_reached_1 rfl (Nat.le_of_ble_eq_true rfl) rfl ?_
  refine sz_ls (l2 := [some (.ref w0), some (.int x1), some (.int x2), some (.int x1), none]) rfl ?_
  refine sz_iconst dX6_reached_2 (cI0) ?_
  refine sz_istore dX6_reached_3 (Nat.le_of_ble_eq_true rfl) rfl ?_
  refine sz_ls (l2 := [some (.ref w0), some (.int x1), some (.int x2), some (.int x1), some (.int 0)]) rfl ?_
  refine sz_weak (l2 := [some (.ref w0), none, some (.int x2), some (.int x1), some (.int 0)]) (gz_subk (gz_subn (gz_subk (gz_subk (gz_subk gz_sub0))))) ?_
  exact tX6_reached_5  hw0  _ _ _ _ _ _ hf
def fX6_dryParts_41 (La : gz_L)  (w0 : Nat) (k9 : Int32 → Int32 → Int32 → gz_S → Option (Int32 × gz_S)) (x1 : Int32) (x2 : Int32) (x3 : Int32) (g : gz_S) : Option (Int32 × gz_S) := gz_let (x3 + 1) (fun y41 => k9 x1 x2 y41 g)
set_option maxRecDepth 100000 in
set_option maxHeartbeats 4000000 in
theorem tX6_dryParts_41 {La : gz_L}  {w0 : Nat} {k9 : Int32 → Int32 → Int32 → gz_S → Option (Int32 × gz_S)} (hw0 : gz_sc w0) (hk9 : ∀ (x1 : Int32) (x2 : Int32) (x3 : Int32) (g : gz_S) (r : Int32 × gz_S), k9 x1 x2 x3 g = some r → gz_J La 4 mX6_dryParts 9 [some (.ref w0), some (.int x1), some (.int x2), some (.int x3)] [] g (gz_Fi r)) : ∀ (x1 : Int32) (x2 : Int32) (x3 : Int32) (g : gz_S) (r : Int32 × gz_S), fX6_dryParts_41 La  w0 k9 x1 x2 x3 g = some r → gz_J La 4 mX6_dryParts 41 [some (.ref w0), some (.int x1), some (.int x2), some (.int x3)] [] g (gz_Fi r) := by
  intro x1 x2 x3 g r hf
  unfold fX6_dryParts_41 at hf
  obtain ⟨y41, ey41, hf⟩ := gz_lt hf
  refine sz_iinc (v := y41) dX6_dryParts_41 rfl (by rw [ey41, cI1]) (Nat.le_of_ble_eq_true rfl) rfl ?_
  refine sz_ls (l2 := [some (.ref w0), some (.int x1), some (.int x2), some (.int y41)]) rfl ?_
  refine sz_goto 9 dX6_dryParts_44 (by decide) ?_
  exact hk9 _ _ _ _ _ hf
def fX6_dryParts_9 (La : gz_L)  (w0 : Nat)  : Nat → Int32 → Int32 → Int32 → gz_S → Option (Int32 × gz_S)
  | 0, _, _, _, _ => none
  | n + 1, x1, x2, x3, g => (fX6_cells La  w0 g).bind (fun q11 => if q11.1 ≤ x3 then some (x2, q11.2) else if ((x1 >>> (x3 &&& 31)) &&& (1 : Int32)) = 0 then fX6_dryParts_41 La  w0 (fX6_dryParts_9 La  w0  n)  x1 x2 x3 q11.2 else (fX6_reached La  w0 ((1 : Int32) <<< (x3 &&& 31)) x1 q11.2).bind (fun q31 => gz_let (x1 &&& (q31.1 ^^^ ((-1) : Int32))) (fun y37 => gz_let (x2 + 1) (fun y38 => fX6_dryParts_41 La  w0 (fX6_dryParts_9 La  w0  n)  y37 y38 x3 q31.2))))
set_option maxRecDepth 100000 in
set_option maxHeartbeats 4000000 in
theorem tX6_dryParts_9 {La : gz_L}  {w0 : Nat}  (hw0 : gz_sc w0)  : ∀ (n : Nat) (x1 : Int32) (x2 : Int32) (x3 : Int32) (g : gz_S) (r : Int32 × gz_S), fX6_dryParts_9 La  w0  n x1 x2 x3 g = some r → gz_J La 4 mX6_dryParts 9 [some (.ref w0), some (.int x1), some (.int x2), some (.int x3)] [] g (gz_Fi r) := by
  intro n
  induction n with
  | zero => intro x1 x2 x3 g r hf; exact nomatch (show (none : Option (Int32 × gz_S)) = some r from hf)
  | succ n ih =>
    intro x1 x2 x3 g r hf
    unfold fX6_dryParts_9 at hf
    refine sz_iload_n dX6_dryParts_9 rfl ?_
    refine sz_aload_n dX6_dryParts_10 rfl ?_
    obtain ⟨q11, eq11, hf⟩ := gz_bd hf
    refine sz_callVi [] [.int x3] dX6_dryParts_11 mvX6_21 (Nat.le_of_ble_eq_true rfl) (by decide : 6 < 13) (kdS hw0) rfl (Nat.le_of_ble_eq_true rfl) (kX6_cells  hw0 eq11) ?_
    refine sz_icmp_ge 47 dX6_dryParts_14 (by decide) (fun c14 => ?_) (fun c14 => ?_)
    · have hf := gz_ip c14 hf
      refine sz_iload_n dX6_dryParts_47 rfl ?_
      cases hf
      exact sz_iret dX6_dryParts_48 rfl rfl ⟨rfl, rfl⟩
    · have hf := gz_in1 c14 hf
      refine sz_iload_n dX6_dryParts_17 rfl ?_
      refine sz_iload_n dX6_dryParts_18 rfl ?_
      refine sz_ishr dX6_dryParts_19 ?_
      refine sz_iconst dX6_dryParts_20 (cI1) ?_
      refine sz_iand dX6_dryParts_21 ?_
      refine sz_if_eq 41 dX6_dryParts_22 (by decide) (fun c22 => ?_) (fun c22 => ?_)
      · have hf := gz_ip c22 hf
        exact tX6_dryParts_41  hw0 ih _ _ _ _ _ hf
      · have hf := gz_in1 c22 hf
        refine sz_iload_n dX6_dryParts_25 rfl ?_
        refine sz_aload_n dX6_dryParts_26 rfl ?_
        refine sz_iconst dX6_dryParts_27 (cI1) ?_
        refine sz_iload_n dX6_dryParts_28 rfl ?_
        refine sz_ishl dX6_dryParts_29 ?_
        refine sz_iload_n dX6_dryParts_30 rfl ?_
        obtain ⟨q31, eq31, hf⟩ := gz_bd hf
        refine sz_callVi [.int ((1 : Int32) <<< (x3 &&& 31)), .int x1] [.int x1] dX6_dryParts_31 mvX6_78 (Nat.le_of_ble_eq_true rfl) (by decide : 6 < 13) (kdS hw0) rfl (Nat.le_of_ble_eq_true rfl) (kX6_reached  hw0 eq31) ?_
        refine sz_iconst dX6_dryParts_34 (cIm1) ?_
        refine sz_ixor dX6_dryParts_35 ?_
        refine sz_iand dX6_dryParts_36 ?_
        obtain ⟨y37, ey37, hf⟩ := gz_lt hf
        refine sz_topi ey37 ?_
        refine sz_istore_n dX6_dryParts_37 rfl (Nat.le_of_ble_eq_true rfl) rfl ?_
        refine sz_ls (l2 := [some (.ref w0), some (.int y37), some (.int x2), some (.int x3)]) rfl ?_
        obtain ⟨y38, ey38, hf⟩ := gz_lt hf
        refine sz_iinc (v := y38) dX6_dryParts_38 rfl (by rw [ey38, cI1]) (Nat.le_of_ble_eq_true rfl) rfl ?_
        refine sz_ls (l2 := [some (.ref w0), some (.int y37), some (.int y38), some (.int x3)]) rfl ?_
        exact tX6_dryParts_41  hw0 ih _ _ _ _ _ hf
def fX6_dryParts (La : gz_L)  (w0 : Nat) (g : gz_S) : Option (Int32 × gz_S) :=
  (fX6_dryCells La  w0 g).bind (fun q1 => fX6_dryParts_9 La  w0  gz_FU q1.1 0 0 q1.2)
set_option maxRecDepth 100000 in
set_option maxHeartbeats 4000000 in
theorem kX6_dryParts {La : gz_L}  {w0 : Nat} {g : gz_S} {r : Int32 × gz_S} (hw0 : gz_sc w0) (hf : fX6_dryParts La  w0 g = some r) : gz_K La 4 mX6_dryParts [.ref w0] g (gz_Fi r) := by
  unfold fX6_dryParts at hf
  refine gz_K.of 3 (by decide +kernel) rfl ?_
  show gz_J La 4 mX6_dryParts 0 [some (.ref w0), none, none, none] [] g (gz_Fi r)
  refine sz_aload_n dX6_dryParts_0 rfl ?_
  obtain ⟨q1, eq1, hf⟩ := gz_bd hf
  refine sz_callVi [] [] dX6_dryParts_1 mvX6_75 (Nat.le_of_ble_eq_true rfl) (by decide : 6 < 13) (kdS hw0) rfl (Nat.le_of_ble_eq_true rfl) (kX6_dryCells  hw0 eq1) ?_
  refine sz_istore_n dX6_dryParts_4 rfl (Nat.le_of_ble_eq_true rfl) rfl ?_
  refine sz_ls (l2 := [some (.ref w0), some (.int q1.1), none, none]) rfl ?_
  refine sz_iconst dX6_dryParts_5 (cI0) ?_
  refine sz_istore_n dX6_dryParts_6 rfl (Nat.le_of_ble_eq_true rfl) rfl ?_
  refine sz_ls (l2 := [some (.ref w0), some (.int q1.1), some (.int 0), none]) rfl ?_
  refine sz_iconst dX6_dryParts_7 (cI0) ?_
  refine sz_istore_n dX6_dryParts_8 rfl (Nat.le_of_ble_eq_true rfl) rfl ?_
  refine sz_ls (l2 := [some (.ref w0), some (.int q1.1), some (.int 0), some (.int 0)]) rfl ?_
  exact tX6_dryParts_9  hw0  _ _ _ _ _ _ hf
def fX6_fewestSteps_23 (La : gz_L)  (w0 : Nat)  : Nat → Int32 → Int32 → Int32 → Int32 → gz_S → Option (Int32 × gz_S)
  | 0, _, _, _, _, _ => none
  | n + 1, x2, x3, x4, x5, g => if 30 ≤ x5 then some ((-1), g) else if ((x4 >>> (x2 &&& 31)) &&& (1 : Int32)) = 0 then (fX6_widened La  w0 x4 x3 g).bind (fun q46 => gz_let (x5 + 1) (fun y51 => fX6_fewestSteps_23 La  w0  n x2 x3 q46.1 y51 q46.2)) else some (x5, g)
set_option maxRecDepth 100000 in
set_option maxHeartbeats 4000000 in
theorem tX6_fewestSteps_23 {La : gz_L}  {w0 : Nat}  (hw0 : gz_sc w0)  : ∀ (n : Nat) (x2 : Int32) (x3 : Int32) (x4 : Int32) (x5 : Int32) (g : gz_S) (r : Int32 × gz_S), fX6_fewestSteps_23 La  w0  n x2 x3 x4 x5 g = some r → gz_J La 3 mX6_fewestSteps 23 [some (.ref w0), none, some (.int x2), some (.int x3), some (.int x4), some (.int x5)] [] g (gz_Fi r) := by
  intro n
  induction n with
  | zero => intro x2 x3 x4 x5 g r hf; exact nomatch (show (none : Option (Int32 × gz_S)) = some r from hf)
  | succ n ih =>
    intro x2 x3 x4 x5 g r hf
    unfold fX6_fewestSteps_23 at hf
    refine sz_iload dX6_fewestSteps_23 rfl ?_
    refine sz_bipush dX6_fewestSteps_25 (cB30) ?_
    refine sz_icmp_ge 57 dX6_fewestSteps_27 (by decide) (fun c27 => ?_) (fun c27 => ?_)
    · have hf := gz_ip c27 hf
      refine sz_iconst dX6_fewestSteps_57 (cIm1) ?_
      cases hf
      exact sz_iret dX6_fewestSteps_58 rfl rfl ⟨rfl, rfl⟩
    · have hf := gz_in1 c27 hf
      refine sz_iload dX6_fewestSteps_30 rfl ?_
      refine sz_iload_n dX6_fewestSteps_32 rfl ?_
      refine sz_ishr dX6_fewestSteps_33 ?_
      refine sz_iconst dX6_fewestSteps_34 (cI1) ?_
      refine sz_iand dX6_fewestSteps_35 ?_
      refine sz_if_eq 42 dX6_fewestSteps_36 (by decide) (fun c36 => ?_) (fun c36 => ?_)
      · have hf := gz_ip c36 hf
        refine sz_aload_n dX6_fewestSteps_42 rfl ?_
        refine sz_iload dX6_fewestSteps_43 rfl ?_
        refine sz_iload_n dX6_fewestSteps_45 rfl ?_
        obtain ⟨q46, eq46, hf⟩ := gz_bd hf
        refine sz_callVi [.int x4, .int x3] [] dX6_fewestSteps_46 mvX6_81 (Nat.le_of_ble_eq_true rfl) (by decide : 6 < 13) (kdS hw0) rfl (Nat.le_of_ble_eq_true rfl) (kX6_widened  hw0 eq46) ?_
        refine sz_istore dX6_fewestSteps_49 (Nat.le_of_ble_eq_true rfl) rfl ?_
        refine sz_ls (l2 := [some (.ref w0), none, some (.int x2), some (.int x3), some (.int q46.1), some (.int x5)]) rfl ?_
        obtain ⟨y51, ey51, hf⟩ := gz_lt hf
        refine sz_iinc (v := y51) dX6_fewestSteps_51 rfl (by rw [ey51, cI1]) (Nat.le_of_ble_eq_true rfl) rfl ?_
        refine sz_ls (l2 := [some (.ref w0), none, some (.int x2), some (.int x3), some (.int q46.1), some (.int y51)]) rfl ?_
        refine sz_goto 23 dX6_fewestSteps_54 (by decide) ?_
        exact ih _ _ _ _ _ _ hf
      · have hf := gz_in1 c36 hf
        refine sz_iload dX6_fewestSteps_39 rfl ?_
        cases hf
        exact sz_iret dX6_fewestSteps_41 rfl rfl ⟨rfl, rfl⟩
def fX6_fewestSteps (La : gz_L)  (w0 : Nat) (x1 : Int32) (x2 : Int32) (g : gz_S) : Option (Int32 × gz_S) :=
  (fX6_dryCells La  w0 g).bind (fun q1 => if ((q1.1 >>> (x1 &&& 31)) &&& (1 : Int32)) = 0 then some ((-1), q1.2) else gz_let ((1 : Int32) <<< (x1 &&& 31)) (fun y18 => fX6_fewestSteps_23 La  w0  gz_FU x2 q1.1 y18 0 q1.2))
set_option maxRecDepth 100000 in
set_option maxHeartbeats 4000000 in
theorem kX6_fewestSteps {La : gz_L}  {w0 : Nat} {x1 : Int32} {x2 : Int32} {g : gz_S} {r : Int32 × gz_S} (hw0 : gz_sc w0) (hf : fX6_fewestSteps La  w0 x1 x2 g = some r) : gz_K La 3 mX6_fewestSteps [.ref w0, .int x1, .int x2] g (gz_Fi r) := by
  unfold fX6_fewestSteps at hf
  refine gz_K.of 3 (by decide +kernel) rfl ?_
  show gz_J La 3 mX6_fewestSteps 0 [some (.ref w0), some (.int x1), some (.int x2), none, none, none] [] g (gz_Fi r)
  refine sz_aload_n dX6_fewestSteps_0 rfl ?_
  obtain ⟨q1, eq1, hf⟩ := gz_bd hf
  refine sz_callVi [] [] dX6_fewestSteps_1 mvX6_75 (Nat.le_of_ble_eq_true rfl) (by decide : 6 < 13) (kdS hw0) rfl (Nat.le_of_ble_eq_true rfl) (kX6_dryCells  hw0 eq1) ?_
  refine sz_istore_n dX6_fewestSteps_4 rfl (Nat.le_of_ble_eq_true rfl) rfl ?_
  refine sz_ls (l2 := [some (.ref w0), some (.int x1), some (.int x2), some (.int q1.1), none, none]) rfl ?_
  refine sz_iload_n dX6_fewestSteps_5 rfl ?_
  refine sz_iload_n dX6_fewestSteps_6 rfl ?_
  refine sz_ishr dX6_fewestSteps_7 ?_
  refine sz_iconst dX6_fewestSteps_8 (cI1) ?_
  refine sz_iand dX6_fewestSteps_9 ?_
  refine sz_if_ne 15 dX6_fewestSteps_10 (by decide) (fun c10 => ?_) (fun c10 => ?_)
  · have hf := gz_in1 c10 hf
    refine sz_iconst dX6_fewestSteps_15 (cI1) ?_
    refine sz_iload_n dX6_fewestSteps_16 rfl ?_
    refine sz_ishl dX6_fewestSteps_17 ?_
    obtain ⟨y18, ey18, hf⟩ := gz_lt hf
    refine sz_topi ey18 ?_
    refine sz_istore dX6_fewestSteps_18 (Nat.le_of_ble_eq_true rfl) rfl ?_
    refine sz_ls (l2 := [some (.ref w0), some (.int x1), some (.int x2), some (.int q1.1), some (.int y18), none]) rfl ?_
    refine sz_iconst dX6_fewestSteps_20 (cI0) ?_
    refine sz_istore dX6_fewestSteps_21 (Nat.le_of_ble_eq_true rfl) rfl ?_
    refine sz_ls (l2 := [some (.ref w0), some (.int x1), some (.int x2), some (.int q1.1), some (.int y18), some (.int 0)]) rfl ?_
    refine sz_weak (l2 := [some (.ref w0), none, some (.int x2), some (.int q1.1), some (.int y18), some (.int 0)]) (gz_subk (gz_subn (gz_subk (gz_subk (gz_subk (gz_subk gz_sub0)))))) ?_
    exact tX6_fewestSteps_23  hw0  _ _ _ _ _ _ _ hf
  · have hf := gz_ip c10 hf
    refine sz_iconst dX6_fewestSteps_13 (cIm1) ?_
    cases hf
    exact sz_iret dX6_fewestSteps_14 rfl rfl ⟨rfl, rfl⟩
