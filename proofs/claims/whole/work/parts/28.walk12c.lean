def fX12_way (La : gz_L)  (x1 : Int32) (x2 : Int32) (g : gz_S) : Option (Int32 × gz_S) :=
  gz_let (gz_wi g 39 0 0) (fun g2 => (fX12_isCell La  x1 g2).bind (fun q7 => if q7.1 = 0 then some ((-1), q7.2) else (fX12_isCell La  x2 q7.2).bind (fun q15 => if q15.1 = 0 then some ((-1), q15.2) else (fX12_goSteps La  x1 q15.2).bind (fun q25 => if gz_ok x2 30 then some (q25.1 58 (Int32.toNatClampNeg x2), q25) else none))))
set_option maxRecDepth 100000 in
set_option maxHeartbeats 4000000 in
theorem kX12_way {La : gz_L}  {x1 : Int32} {x2 : Int32} {g : gz_S} {r : Int32 × gz_S}  (hf : fX12_way La  x1 x2 g = some r) : gz_K La 4 mX12_way [.ref 39, .int x1, .int x2] g (gz_Fi r) := by
  unfold fX12_way at hf
  refine gz_K.of 0 (by decide +kernel) rfl ?_
  show gz_J La 4 mX12_way 0 [some (.ref 39), some (.int x1), some (.int x2)] [] g (gz_Fi r)
  refine sz_aload_n dX12_way_0 rfl ?_
  refine sz_iconst dX12_way_1 (cI0) ?_
  obtain ⟨g2, eg2, hf⟩ := gz_lt hf
  refine sz_putI2 dX12_way_2 flX12_104 kd39 fi12_0 eg2 ?_
  refine sz_aload_n dX12_way_5 rfl ?_
  refine sz_iload_n dX12_way_6 rfl ?_
  obtain ⟨q7, eq7, hf⟩ := gz_bd hf
  refine sz_callVi [.int x1] [] dX12_way_7 mvX12_373 (Nat.le_of_ble_eq_true rfl) (by decide : 12 < 13) kd39 rfl (Nat.le_of_ble_eq_true rfl) (kX12_isCell   eq7) ?_
  refine sz_if_eq 21 dX12_way_10 (by decide) (fun c10 => ?_) (fun c10 => ?_)
  · have hf := gz_ip c10 hf
    refine sz_iconst dX12_way_21 (cIm1) ?_
    cases hf
    exact sz_iret dX12_way_22 rfl rfl ⟨rfl, rfl⟩
  · have hf := gz_in1 c10 hf
    refine sz_aload_n dX12_way_13 rfl ?_
    refine sz_iload_n dX12_way_14 rfl ?_
    obtain ⟨q15, eq15, hf⟩ := gz_bd hf
    refine sz_callVi [.int x2] [] dX12_way_15 mvX12_373 (Nat.le_of_ble_eq_true rfl) (by decide : 12 < 13) kd39 rfl (Nat.le_of_ble_eq_true rfl) (kX12_isCell   eq15) ?_
    refine sz_if_ne 23 dX12_way_18 (by decide) (fun c18 => ?_) (fun c18 => ?_)
    · have hf := gz_in1 c18 hf
      refine sz_aload_n dX12_way_23 rfl ?_
      refine sz_iload_n dX12_way_24 rfl ?_
      obtain ⟨q25, eq25, hf⟩ := gz_bd hf
      refine sz_callVv [.int x1] [] dX12_way_25 mvX12_459 (Nat.le_of_ble_eq_true rfl) (by decide : 12 < 13) kd39 rfl (Nat.le_of_ble_eq_true rfl) (kX12_goSteps   eq25) ?_
      refine sz_aload_n dX12_way_28 rfl ?_
      refine sz_getR dX12_way_29 flX12_86 kd39 rfl rf39_43 ?_
      refine sz_iload_n dX12_way_32 rfl ?_
      obtain ⟨c33, hf⟩ := gz_gd hf
      refine sz_ialdL dX12_way_33 kd58 c33 rfl ?_
      cases hf
      exact sz_iret dX12_way_34 rfl rfl ⟨rfl, rfl⟩
    · have hf := gz_ip c18 hf
      refine sz_iconst dX12_way_21 (cIm1) ?_
      cases hf
      exact sz_iret dX12_way_22 rfl rfl ⟨rfl, rfl⟩
def fX12_canLay (La : gz_L)  (x1 : Int32) (g : gz_S) : Option (Int32 × gz_S) :=
  if gz_ok x1 231 then if (g.1 53 (Int32.toNatClampNeg x1)) = 0 then (fX12_goingOn La  53 x1 g).bind (fun q15 => if q15.1 = 0 then some (1, q15.2) else some (0, q15.2)) else some (0, g) else none
set_option maxRecDepth 100000 in
set_option maxHeartbeats 4000000 in
theorem kX12_canLay {La : gz_L}  {x1 : Int32} {g : gz_S} {r : Int32 × gz_S}  (hf : fX12_canLay La  x1 g = some r) : gz_K La 3 mX12_canLay [.ref 39, .int x1] g (gz_Fi r) := by
  unfold fX12_canLay at hf
  refine gz_K.of 0 (by decide +kernel) rfl ?_
  show gz_J La 3 mX12_canLay 0 [some (.ref 39), some (.int x1)] [] g (gz_Fi r)
  refine sz_aload_n dX12_canLay_0 rfl ?_
  refine sz_getR dX12_canLay_1 flX12_64 kd39 rfl rf39_32 ?_
  refine sz_iload_n dX12_canLay_4 rfl ?_
  obtain ⟨c5, hf⟩ := gz_gd hf
  refine sz_ialdL dX12_canLay_5 kd53 c5 rfl ?_
  refine sz_if_ne 25 dX12_canLay_6 (by decide) (fun c6 => ?_) (fun c6 => ?_)
  · have hf := gz_in1 c6 hf
    refine sz_iconst dX12_canLay_25 (cI0) ?_
    cases hf
    exact sz_iret dX12_canLay_26 rfl rfl ⟨rfl, rfl⟩
  · have hf := gz_ip c6 hf
    refine sz_aload_n dX12_canLay_9 rfl ?_
    refine sz_aload_n dX12_canLay_10 rfl ?_
    refine sz_getR dX12_canLay_11 flX12_64 kd39 rfl rf39_32 ?_
    refine sz_iload_n dX12_canLay_14 rfl ?_
    obtain ⟨q15, eq15, hf⟩ := gz_bd hf
    refine sz_callVi [.ref 53, .int x1] [] dX12_canLay_15 mvX12_391 (Nat.le_of_ble_eq_true rfl) (by decide : 12 < 13) kd39 rfl (Nat.le_of_ble_eq_true rfl) (kX12_goingOn  (Or.inl rfl) eq15) ?_
    refine sz_if_ne 25 dX12_canLay_18 (by decide) (fun c18 => ?_) (fun c18 => ?_)
    · have hf := gz_in1 c18 hf
      refine sz_iconst dX12_canLay_25 (cI0) ?_
      cases hf
      exact sz_iret dX12_canLay_26 rfl rfl ⟨rfl, rfl⟩
    · have hf := gz_ip c18 hf
      refine sz_iconst dX12_canLay_21 (cI1) ?_
      refine sz_goto 26 dX12_canLay_22 (by decide) ?_
      cases hf
      exact sz_iret dX12_canLay_26 rfl rfl ⟨rfl, rfl⟩
def fX12_doesKeep_39 (La : gz_L)    (x1 : Int32) (x2 : Int32) (x3 : Int32) (g : gz_S) : Option (Int32 × gz_S) := (fX12_meetsWithin La  x1 x2 x3 g).bind (fun q43 => if q43.1 = (-1) then some (1, q43.2) else some (0, q43.2))
set_option maxRecDepth 100000 in
set_option maxHeartbeats 4000000 in
theorem tX12_doesKeep_39 {La : gz_L}      : ∀ (x1 : Int32) (x2 : Int32) (x3 : Int32) (g : gz_S) (r : Int32 × gz_S), fX12_doesKeep_39 La    x1 x2 x3 g = some r → gz_J La 147 mX12_doesKeep 39 [some (.ref 39), some (.int x1), some (.int x2), some (.int x3), none, none] [] g (gz_Fi r) := by
  intro x1 x2 x3 g r hf
  unfold fX12_doesKeep_39 at hf
  refine sz_aload_n dX12_doesKeep_39 rfl ?_
  refine sz_iload_n dX12_doesKeep_40 rfl ?_
  refine sz_iload_n dX12_doesKeep_41 rfl ?_
  refine sz_iload_n dX12_doesKeep_42 rfl ?_
  obtain ⟨q43, eq43, hf⟩ := gz_bd hf
  refine sz_callVi [.int x1, .int x2, .int x3] [] dX12_doesKeep_43 mvX12_452 (Nat.le_of_ble_eq_true rfl) (by decide : 12 < 13) kd39 rfl (Nat.le_of_ble_eq_true rfl) (kX12_meetsWithin   eq43) ?_
  refine sz_iconst dX12_doesKeep_46 (cIm1) ?_
  refine sz_icmp_ne 54 dX12_doesKeep_47 (by decide) (fun c47 => ?_) (fun c47 => ?_)
  · have hf := gz_in1 c47 hf
    refine sz_iconst dX12_doesKeep_54 (cI0) ?_
    cases hf
    exact sz_iret dX12_doesKeep_55 rfl rfl ⟨rfl, rfl⟩
  · have hf := gz_ip c47 hf
    refine sz_iconst dX12_doesKeep_50 (cI1) ?_
    refine sz_goto 55 dX12_doesKeep_51 (by decide) ?_
    cases hf
    exact sz_iret dX12_doesKeep_55 rfl rfl ⟨rfl, rfl⟩
def fX12_doesKeep_25 (La : gz_L)    (x1 : Int32) (x2 : Int32) (x3 : Int32) (x5 : Int32) (g : gz_S) : Option (Int32 × gz_S) := if x5 = (-1) then fX12_doesKeep_39 La     x1 x2 x3 g else if gz_ok x5 231 then gz_let (gz_wi g 54 (Int32.toNatClampNeg x5) 1) (fun g38 => fX12_doesKeep_39 La     x1 x2 x3 g38) else none
set_option maxRecDepth 100000 in
set_option maxHeartbeats 4000000 in
theorem tX12_doesKeep_25 {La : gz_L}      : ∀ (x1 : Int32) (x2 : Int32) (x3 : Int32) (x5 : Int32) (g : gz_S) (r : Int32 × gz_S), fX12_doesKeep_25 La    x1 x2 x3 x5 g = some r → gz_J La 147 mX12_doesKeep 25 [some (.ref 39), some (.int x1), some (.int x2), some (.int x3), none, some (.int x5)] [] g (gz_Fi r) := by
  intro x1 x2 x3 x5 g r hf
  unfold fX12_doesKeep_25 at hf
  refine sz_iload dX12_doesKeep_25 rfl ?_
  refine sz_iconst dX12_doesKeep_27 (cIm1) ?_
  refine sz_icmp_eq 39 dX12_doesKeep_28 (by decide) (fun c28 => ?_) (fun c28 => ?_)
  · have hf := gz_ip c28 hf
    refine sz_weak (l2 := [some (.ref 39), some (.int x1), some (.int x2), some (.int x3), none, none]) (gz_subk (gz_subk (gz_subk (gz_subk (gz_subk (gz_subn gz_sub0)))))) ?_
    exact tX12_doesKeep_39    _ _ _ _ _ hf
  · have hf := gz_in1 c28 hf
    refine sz_aload_n dX12_doesKeep_31 rfl ?_
    refine sz_getR dX12_doesKeep_32 flX12_67 kd39 rfl rf39_33 ?_
    refine sz_iload dX12_doesKeep_35 rfl ?_
    refine sz_iconst dX12_doesKeep_37 (cI1) ?_
    obtain ⟨c38, hf⟩ := gz_gd hf
    obtain ⟨g38, eg38, hf⟩ := gz_lt hf
    refine sz_iastL dX12_doesKeep_38 kd54 c38 rfl eg38 ?_
    refine sz_weak (l2 := [some (.ref 39), some (.int x1), some (.int x2), some (.int x3), none, none]) (gz_subk (gz_subk (gz_subk (gz_subk (gz_subk (gz_subn gz_sub0)))))) ?_
    exact tX12_doesKeep_39    _ _ _ _ _ hf
def fX12_doesKeep (La : gz_L)  (x1 : Int32) (x2 : Int32) (x3 : Int32) (x4 : Int32) (x5 : Int32) (g : gz_S) : Option (Int32 × gz_S) :=
  (fX12_copy La   g).bind (fun q8 => if x4 = (-1) then fX12_doesKeep_25 La     x1 x2 x3 x5 q8 else if gz_ok x4 231 then gz_let (gz_wi q8 54 (Int32.toNatClampNeg x4) 1) (fun g24 => fX12_doesKeep_25 La     x1 x2 x3 x5 g24) else none)
set_option maxRecDepth 100000 in
set_option maxHeartbeats 4000000 in
theorem kX12_doesKeep {La : gz_L}  {x1 : Int32} {x2 : Int32} {x3 : Int32} {x4 : Int32} {x5 : Int32} {g : gz_S} {r : Int32 × gz_S}  (hf : fX12_doesKeep La  x1 x2 x3 x4 x5 g = some r) : gz_K La 147 mX12_doesKeep [.ref 39, .int x1, .int x2, .int x3, .int x4, .int x5] g (gz_Fi r) := by
  unfold fX12_doesKeep at hf
  refine gz_K.of 0 (by decide +kernel) rfl ?_
  show gz_J La 147 mX12_doesKeep 0 [some (.ref 39), some (.int x1), some (.int x2), some (.int x3), some (.int x4), some (.int x5)] [] g (gz_Fi r)
  refine sz_aload_n dX12_doesKeep_0 rfl ?_
  refine sz_getR dX12_doesKeep_1 flX12_64 kd39 rfl rf39_32 ?_
  refine sz_aload_n dX12_doesKeep_4 rfl ?_
  refine sz_getR dX12_doesKeep_5 flX12_67 kd39 rfl rf39_33 ?_
  obtain ⟨q8, eq8, hf⟩ := gz_bd hf
  refine sz_callSv [.ref 53, .ref 54] [] dX12_doesKeep_8 msX12_434 (Nat.le_of_ble_eq_true rfl) (Nat.le_of_ble_eq_true rfl) (kX12_copy   eq8) ?_
  refine sz_iload dX12_doesKeep_11 rfl ?_
  refine sz_iconst dX12_doesKeep_13 (cIm1) ?_
  refine sz_icmp_eq 25 dX12_doesKeep_14 (by decide) (fun c14 => ?_) (fun c14 => ?_)
  · have hf := gz_ip c14 hf
    refine sz_weak (l2 := [some (.ref 39), some (.int x1), some (.int x2), some (.int x3), none, some (.int x5)]) (gz_subk (gz_subk (gz_subk (gz_subk (gz_subn (gz_subk gz_sub0)))))) ?_
    exact tX12_doesKeep_25    _ _ _ _ _ _ hf
  · have hf := gz_in1 c14 hf
    refine sz_aload_n dX12_doesKeep_17 rfl ?_
    refine sz_getR dX12_doesKeep_18 flX12_67 kd39 rfl rf39_33 ?_
    refine sz_iload dX12_doesKeep_21 rfl ?_
    refine sz_iconst dX12_doesKeep_23 (cI1) ?_
    obtain ⟨c24, hf⟩ := gz_gd hf
    obtain ⟨g24, eg24, hf⟩ := gz_lt hf
    refine sz_iastL dX12_doesKeep_24 kd54 c24 rfl eg24 ?_
    refine sz_weak (l2 := [some (.ref 39), some (.int x1), some (.int x2), some (.int x3), none, some (.int x5)]) (gz_subk (gz_subk (gz_subk (gz_subk (gz_subn (gz_subk gz_sub0)))))) ?_
    exact tX12_doesKeep_25    _ _ _ _ _ _ hf
def fX12_stonesOf_55 (La : gz_L)   (k17 : Int32 → Int32 → Int32 → Int32 → gz_S → Option (Int32 × gz_S)) (x1 : Int32) (x2 : Int32) (x3 : Int32) (x4 : Int32) (g : gz_S) : Option (Int32 × gz_S) := gz_let (x4 + 1) (fun y55 => k17 x1 x2 x3 y55 g)
set_option maxRecDepth 100000 in
set_option maxHeartbeats 4000000 in
theorem tX12_stonesOf_55 {La : gz_L}   {k17 : Int32 → Int32 → Int32 → Int32 → gz_S → Option (Int32 × gz_S)}  (hk17 : ∀ (x1 : Int32) (x2 : Int32) (x3 : Int32) (x4 : Int32) (g : gz_S) (r : Int32 × gz_S), k17 x1 x2 x3 x4 g = some r → gz_J La 148 mX12_stonesOf 17 [some (.ref 39), some (.int x1), some (.int x2), some (.int x3), some (.int x4), none] [] g (gz_Fi r)) : ∀ (x1 : Int32) (x2 : Int32) (x3 : Int32) (x4 : Int32) (g : gz_S) (r : Int32 × gz_S), fX12_stonesOf_55 La   k17 x1 x2 x3 x4 g = some r → gz_J La 148 mX12_stonesOf 55 [some (.ref 39), some (.int x1), some (.int x2), some (.int x3), some (.int x4), none] [] g (gz_Fi r) := by
  intro x1 x2 x3 x4 g r hf
  unfold fX12_stonesOf_55 at hf
  obtain ⟨y55, ey55, hf⟩ := gz_lt hf
  refine sz_iinc (v := y55) dX12_stonesOf_55 rfl (by rw [ey55, cI1]) (Nat.le_of_ble_eq_true rfl) rfl ?_
  refine sz_ls (l2 := [some (.ref 39), some (.int x1), some (.int x2), some (.int x3), some (.int y55), none]) rfl ?_
  refine sz_goto 17 dX12_stonesOf_58 (by decide) ?_
  exact hk17 _ _ _ _ _ _ hf
def fX12_stonesOf_17 (La : gz_L)   (k61 : Int32 → Int32 → Int32 → gz_S → Option (Int32 × gz_S)) (k48 : Int32 → gz_S → Option (Int32 × gz_S)) : Nat → Int32 → Int32 → Int32 → Int32 → gz_S → Option (Int32 × gz_S)
  | 0, _, _, _, _, _ => none
  | n + 1, x1, x2, x3, x4, g => (fX12_cells La   g).bind (fun q20 => if q20.1 ≤ x4 then k61 x1 x2 x3 q20.2 else (fX12_canLay La  x4 q20.2).bind (fun q29 => if q29.1 = 0 then fX12_stonesOf_55 La   (fX12_stonesOf_17 La   k61 k48 n)  x1 x2 x3 x4 q29.2 else (fX12_doesKeep La  x1 x2 x3 x4 (-1) q29.2).bind (fun q42 => if q42.1 = 0 then fX12_stonesOf_55 La   (fX12_stonesOf_17 La   k61 k48 n)  x1 x2 x3 x4 q42.2 else k48 x4 q42.2)))
set_option maxRecDepth 100000 in
set_option maxHeartbeats 4000000 in
theorem tX12_stonesOf_17 {La : gz_L}   {k61 : Int32 → Int32 → Int32 → gz_S → Option (Int32 × gz_S)} {k48 : Int32 → gz_S → Option (Int32 × gz_S)}  (hk61 : ∀ (x1 : Int32) (x2 : Int32) (x3 : Int32) (g : gz_S) (r : Int32 × gz_S), k61 x1 x2 x3 g = some r → gz_J La 148 mX12_stonesOf 61 [some (.ref 39), some (.int x1), some (.int x2), some (.int x3), none, none] [] g (gz_Fi r)) (hk48 : ∀ (x4 : Int32) (g : gz_S) (r : Int32 × gz_S), k48 x4 g = some r → gz_J La 148 mX12_stonesOf 48 [none, none, none, none, some (.int x4), none] [] g (gz_Fi r)) : ∀ (n : Nat) (x1 : Int32) (x2 : Int32) (x3 : Int32) (x4 : Int32) (g : gz_S) (r : Int32 × gz_S), fX12_stonesOf_17 La   k61 k48 n x1 x2 x3 x4 g = some r → gz_J La 148 mX12_stonesOf 17 [some (.ref 39), some (.int x1), some (.int x2), some (.int x3), some (.int x4), none] [] g (gz_Fi r) := by
  intro n
  induction n with
  | zero => intro x1 x2 x3 x4 g r hf; exact nomatch (show (none : Option (Int32 × gz_S)) = some r from hf)
  | succ n ih =>
    intro x1 x2 x3 x4 g r hf
    unfold fX12_stonesOf_17 at hf
    refine sz_iload dX12_stonesOf_17 rfl ?_
    refine sz_aload_n dX12_stonesOf_19 rfl ?_
    obtain ⟨q20, eq20, hf⟩ := gz_bd hf
    refine sz_callVi [] [.int x4] dX12_stonesOf_20 mvX12_319 (Nat.le_of_ble_eq_true rfl) (by decide : 12 < 13) kd39 rfl (Nat.le_of_ble_eq_true rfl) (kX12_cells   eq20) ?_
    refine sz_icmp_ge 61 dX12_stonesOf_23 (by decide) (fun c23 => ?_) (fun c23 => ?_)
    · have hf := gz_ip c23 hf
      refine sz_weak (l2 := [some (.ref 39), some (.int x1), some (.int x2), some (.int x3), none, none]) (gz_subk (gz_subk (gz_subk (gz_subk (gz_subn (gz_subk gz_sub0)))))) ?_
      exact hk61 _ _ _ _ _ hf
    · have hf := gz_in1 c23 hf
      refine sz_aload_n dX12_stonesOf_26 rfl ?_
      refine sz_iload dX12_stonesOf_27 rfl ?_
      obtain ⟨q29, eq29, hf⟩ := gz_bd hf
      refine sz_callVi [.int x4] [] dX12_stonesOf_29 mvX12_466 (Nat.le_of_ble_eq_true rfl) (by decide : 12 < 13) kd39 rfl (Nat.le_of_ble_eq_true rfl) (kX12_canLay   eq29) ?_
      refine sz_if_eq 55 dX12_stonesOf_32 (by decide) (fun c32 => ?_) (fun c32 => ?_)
      · have hf := gz_ip c32 hf
        exact tX12_stonesOf_55   ih _ _ _ _ _ _ hf
      · have hf := gz_in1 c32 hf
        refine sz_aload_n dX12_stonesOf_35 rfl ?_
        refine sz_iload_n dX12_stonesOf_36 rfl ?_
        refine sz_iload_n dX12_stonesOf_37 rfl ?_
        refine sz_iload_n dX12_stonesOf_38 rfl ?_
        refine sz_iload dX12_stonesOf_39 rfl ?_
        refine sz_iconst dX12_stonesOf_41 (cIm1) ?_
        obtain ⟨q42, eq42, hf⟩ := gz_bd hf
        refine sz_callVi [.int x1, .int x2, .int x3, .int x4, .int (-1)] [] dX12_stonesOf_42 mvX12_462 (Nat.le_of_ble_eq_true rfl) (by decide : 12 < 13) kd39 rfl (Nat.le_of_ble_eq_true rfl) (kX12_doesKeep   eq42) ?_
        refine sz_if_eq 55 dX12_stonesOf_45 (by decide) (fun c45 => ?_) (fun c45 => ?_)
        · have hf := gz_ip c45 hf
          exact tX12_stonesOf_55   ih _ _ _ _ _ _ hf
        · have hf := gz_in1 c45 hf
          refine sz_weak (l2 := [none, none, none, none, some (.int x4), none]) (gz_subn (gz_subn (gz_subn (gz_subn (gz_subk (gz_subk gz_sub0)))))) ?_
          exact hk48 _ _ _ hf
def fX12_stonesOf_133 (La : gz_L)   (k79 : Int32 → Int32 → Int32 → Int32 → Int32 → gz_S → Option (Int32 × gz_S)) (x1 : Int32) (x2 : Int32) (x3 : Int32) (x4 : Int32) (x5 : Int32) (g : gz_S) : Option (Int32 × gz_S) := gz_let (x5 + 1) (fun y133 => k79 x1 x2 x3 x4 y133 g)
set_option maxRecDepth 100000 in
set_option maxHeartbeats 4000000 in
theorem tX12_stonesOf_133 {La : gz_L}   {k79 : Int32 → Int32 → Int32 → Int32 → Int32 → gz_S → Option (Int32 × gz_S)}  (hk79 : ∀ (x1 : Int32) (x2 : Int32) (x3 : Int32) (x4 : Int32) (x5 : Int32) (g : gz_S) (r : Int32 × gz_S), k79 x1 x2 x3 x4 x5 g = some r → gz_J La 148 mX12_stonesOf 79 [some (.ref 39), some (.int x1), some (.int x2), some (.int x3), some (.int x4), some (.int x5)] [] g (gz_Fi r)) : ∀ (x1 : Int32) (x2 : Int32) (x3 : Int32) (x4 : Int32) (x5 : Int32) (g : gz_S) (r : Int32 × gz_S), fX12_stonesOf_133 La   k79 x1 x2 x3 x4 x5 g = some r → gz_J La 148 mX12_stonesOf 133 [some (.ref 39), some (.int x1), some (.int x2), some (.int x3), some (.int x4), some (.int x5)] [] g (gz_Fi r) := by
  intro x1 x2 x3 x4 x5 g r hf
  unfold fX12_stonesOf_133 at hf
  obtain ⟨y133, ey133, hf⟩ := gz_lt hf
  refine sz_iinc (v := y133) dX12_stonesOf_133 rfl (by rw [ey133, cI1]) (Nat.le_of_ble_eq_true rfl) rfl ?_
  refine sz_ls (l2 := [some (.ref 39), some (.int x1), some (.int x2), some (.int x3), some (.int x4), some (.int y133)]) rfl ?_
  refine sz_goto 79 dX12_stonesOf_136 (by decide) ?_
  exact hk79 _ _ _ _ _ _ _ hf
def fX12_stonesOf_79 (La : gz_L)   (k139 : Int32 → Int32 → Int32 → Int32 → gz_S → Option (Int32 × gz_S)) (k120 : Int32 → Int32 → gz_S → Option (Int32 × gz_S)) : Nat → Int32 → Int32 → Int32 → Int32 → Int32 → gz_S → Option (Int32 × gz_S)
  | 0, _, _, _, _, _, _ => none
  | n + 1, x1, x2, x3, x4, x5, g => (fX12_cells La   g).bind (fun q82 => if q82.1 ≤ x5 then k139 x1 x2 x3 x4 q82.2 else (fX12_canLay La  x4 q82.2).bind (fun q91 => if q91.1 = 0 then fX12_stonesOf_133 La   (fX12_stonesOf_79 La   k139 k120 n)  x1 x2 x3 x4 x5 q91.2 else (fX12_canLay La  x5 q91.2).bind (fun q100 => if q100.1 = 0 then fX12_stonesOf_133 La   (fX12_stonesOf_79 La   k139 k120 n)  x1 x2 x3 x4 x5 q100.2 else (fX12_doesKeep La  x1 x2 x3 x4 x5 q100.2).bind (fun q114 => if q114.1 = 0 then fX12_stonesOf_133 La   (fX12_stonesOf_79 La   k139 k120 n)  x1 x2 x3 x4 x5 q114.2 else k120 x4 x5 q114.2))))
set_option maxRecDepth 100000 in
set_option maxHeartbeats 4000000 in
theorem tX12_stonesOf_79 {La : gz_L}   {k139 : Int32 → Int32 → Int32 → Int32 → gz_S → Option (Int32 × gz_S)} {k120 : Int32 → Int32 → gz_S → Option (Int32 × gz_S)}  (hk139 : ∀ (x1 : Int32) (x2 : Int32) (x3 : Int32) (x4 : Int32) (g : gz_S) (r : Int32 × gz_S), k139 x1 x2 x3 x4 g = some r → gz_J La 148 mX12_stonesOf 139 [some (.ref 39), some (.int x1), some (.int x2), some (.int x3), some (.int x4), none] [] g (gz_Fi r)) (hk120 : ∀ (x4 : Int32) (x5 : Int32) (g : gz_S) (r : Int32 × gz_S), k120 x4 x5 g = some r → gz_J La 148 mX12_stonesOf 120 [none, none, none, none, some (.int x4), some (.int x5)] [] g (gz_Fi r)) : ∀ (n : Nat) (x1 : Int32) (x2 : Int32) (x3 : Int32) (x4 : Int32) (x5 : Int32) (g : gz_S) (r : Int32 × gz_S), fX12_stonesOf_79 La   k139 k120 n x1 x2 x3 x4 x5 g = some r → gz_J La 148 mX12_stonesOf 79 [some (.ref 39), some (.int x1), some (.int x2), some (.int x3), some (.int x4), some (.int x5)] [] g (gz_Fi r) := by
  intro n
  induction n with
  | zero => intro x1 x2 x3 x4 x5 g r hf; exact nomatch (show (none : Option (Int32 × gz_S)) = some r from hf)
  | succ n ih =>
    intro x1 x2 x3 x4 x5 g r hf
    unfold fX12_stonesOf_79 at hf
    refine sz_iload dX12_stonesOf_79 rfl ?_
    refine sz_aload_n dX12_stonesOf_81 rfl ?_
    obtain ⟨q82, eq82, hf⟩ := gz_bd hf
    refine sz_callVi [] [.int x5] dX12_stonesOf_82 mvX12_319 (Nat.le_of_ble_eq_true rfl) (by decide : 12 < 13) kd39 rfl (Nat.le_of_ble_eq_true rfl) (kX12_cells   eq82) ?_
    refine sz_icmp_ge 139 dX12_stonesOf_85 (by decide) (fun c85 => ?_) (fun c85 => ?_)
    · have hf := gz_ip c85 hf
      refine sz_weak (l2 := [some (.ref 39), some (.int x1), some (.int x2), some (.int x3), some (.int x4), none]) (gz_subk (gz_subk (gz_subk (gz_subk (gz_subk (gz_subn gz_sub0)))))) ?_
      exact hk139 _ _ _ _ _ _ hf
    · have hf := gz_in1 c85 hf
      refine sz_aload_n dX12_stonesOf_88 rfl ?_
      refine sz_iload dX12_stonesOf_89 rfl ?_
      obtain ⟨q91, eq91, hf⟩ := gz_bd hf
      refine sz_callVi [.int x4] [] dX12_stonesOf_91 mvX12_466 (Nat.le_of_ble_eq_true rfl) (by decide : 12 < 13) kd39 rfl (Nat.le_of_ble_eq_true rfl) (kX12_canLay   eq91) ?_
      refine sz_if_eq 133 dX12_stonesOf_94 (by decide) (fun c94 => ?_) (fun c94 => ?_)
      · have hf := gz_ip c94 hf
        exact tX12_stonesOf_133   ih _ _ _ _ _ _ _ hf
      · have hf := gz_in1 c94 hf
        refine sz_aload_n dX12_stonesOf_97 rfl ?_
        refine sz_iload dX12_stonesOf_98 rfl ?_
        obtain ⟨q100, eq100, hf⟩ := gz_bd hf
        refine sz_callVi [.int x5] [] dX12_stonesOf_100 mvX12_466 (Nat.le_of_ble_eq_true rfl) (by decide : 12 < 13) kd39 rfl (Nat.le_of_ble_eq_true rfl) (kX12_canLay   eq100) ?_
        refine sz_if_eq 133 dX12_stonesOf_103 (by decide) (fun c103 => ?_) (fun c103 => ?_)
        · have hf := gz_ip c103 hf
          exact tX12_stonesOf_133   ih _ _ _ _ _ _ _ hf
        · have hf := gz_in1 c103 hf
          refine sz_aload_n dX12_stonesOf_106 rfl ?_
          refine sz_iload_n dX12_stonesOf_107 rfl ?_
          refine sz_iload_n dX12_stonesOf_108 rfl ?_
          refine sz_iload_n dX12_stonesOf_109 rfl ?_
          refine sz_iload dX12_stonesOf_110 rfl ?_
          refine sz_iload dX12_stonesOf_112 rfl ?_
          obtain ⟨q114, eq114, hf⟩ := gz_bd hf
          refine sz_callVi [.int x1, .int x2, .int x3, .int x4, .int x5] [] dX12_stonesOf_114 mvX12_462 (Nat.le_of_ble_eq_true rfl) (by decide : 12 < 13) kd39 rfl (Nat.le_of_ble_eq_true rfl) (kX12_doesKeep   eq114) ?_
          refine sz_if_eq 133 dX12_stonesOf_117 (by decide) (fun c117 => ?_) (fun c117 => ?_)
          · have hf := gz_ip c117 hf
            exact tX12_stonesOf_133   ih _ _ _ _ _ _ _ hf
          · have hf := gz_in1 c117 hf
            refine sz_weak (l2 := [none, none, none, none, some (.int x4), some (.int x5)]) (gz_subn (gz_subn (gz_subn (gz_subn (gz_subk (gz_subk gz_sub0)))))) ?_
            exact hk120 _ _ _ _ hf
def fX12_stonesOf_64 (La : gz_L)   (k120 : Int32 → Int32 → gz_S → Option (Int32 × gz_S)) : Nat → Int32 → Int32 → Int32 → Int32 → gz_S → Option (Int32 × gz_S)
  | 0, _, _, _, _, _ => none
  | n + 1, x1, x2, x3, x4, g => (fX12_cells La   g).bind (fun q67 => if q67.1 ≤ x4 then some ((-1), q67.2) else gz_let (x4 + 1) (fun y77 => fX12_stonesOf_79 La   (fun (x1 : Int32) (x2 : Int32) (x3 : Int32) (x4 : Int32) g => gz_let (x4 + 1) (fun y139 => fX12_stonesOf_64 La   k120 n x1 x2 x3 y139 g)) k120 gz_FU x1 x2 x3 x4 y77 q67.2))
set_option maxRecDepth 100000 in
set_option maxHeartbeats 4000000 in
theorem tX12_stonesOf_64 {La : gz_L}   {k120 : Int32 → Int32 → gz_S → Option (Int32 × gz_S)}  (hk120 : ∀ (x4 : Int32) (x5 : Int32) (g : gz_S) (r : Int32 × gz_S), k120 x4 x5 g = some r → gz_J La 148 mX12_stonesOf 120 [none, none, none, none, some (.int x4), some (.int x5)] [] g (gz_Fi r)) : ∀ (n : Nat) (x1 : Int32) (x2 : Int32) (x3 : Int32) (x4 : Int32) (g : gz_S) (r : Int32 × gz_S), fX12_stonesOf_64 La   k120 n x1 x2 x3 x4 g = some r → gz_J La 148 mX12_stonesOf 64 [some (.ref 39), some (.int x1), some (.int x2), some (.int x3), some (.int x4), none] [] g (gz_Fi r) := by
  intro n
  induction n with
  | zero => intro x1 x2 x3 x4 g r hf; exact nomatch (show (none : Option (Int32 × gz_S)) = some r from hf)
  | succ n ih =>
    intro x1 x2 x3 x4 g r hf
    unfold fX12_stonesOf_64 at hf
    refine sz_iload dX12_stonesOf_64 rfl ?_
    refine sz_aload_n dX12_stonesOf_66 rfl ?_
    obtain ⟨q67, eq67, hf⟩ := gz_bd hf
    refine sz_callVi [] [.int x4] dX12_stonesOf_67 mvX12_319 (Nat.le_of_ble_eq_true rfl) (by decide : 12 < 13) kd39 rfl (Nat.le_of_ble_eq_true rfl) (kX12_cells   eq67) ?_
    refine sz_icmp_ge 145 dX12_stonesOf_70 (by decide) (fun c70 => ?_) (fun c70 => ?_)
    · have hf := gz_ip c70 hf
      refine sz_iconst dX12_stonesOf_145 (cIm1) ?_
      cases hf
      exact sz_iret dX12_stonesOf_146 rfl rfl ⟨rfl, rfl⟩
    · have hf := gz_in1 c70 hf
      refine sz_iload dX12_stonesOf_73 rfl ?_
      refine sz_iconst dX12_stonesOf_75 (cI1) ?_
      refine sz_iadd dX12_stonesOf_76 ?_
      obtain ⟨y77, ey77, hf⟩ := gz_lt hf
      refine sz_topi ey77 ?_
      refine sz_istore dX12_stonesOf_77 (Nat.le_of_ble_eq_true rfl) rfl ?_
      refine sz_ls (l2 := [some (.ref 39), some (.int x1), some (.int x2), some (.int x3), some (.int x4), some (.int y77)]) rfl ?_
      have hk139 : ∀ (x1 : Int32) (x2 : Int32) (x3 : Int32) (x4 : Int32) (g : gz_S) (r : Int32 × gz_S), (fun (x1 : Int32) (x2 : Int32) (x3 : Int32) (x4 : Int32) g => gz_let (x4 + 1) (fun y139 => fX12_stonesOf_64 La   k120 n x1 x2 x3 y139 g)) x1 x2 x3 x4 g = some r → gz_J La 148 mX12_stonesOf 139 [some (.ref 39), some (.int x1), some (.int x2), some (.int x3), some (.int x4), none] [] g (gz_Fi r) := by
        intro x1 x2 x3 x4 g r hf
        obtain ⟨y139, ey139, hf⟩ := gz_lt hf
        refine sz_iinc (v := y139) dX12_stonesOf_139 rfl (by rw [ey139, cI1]) (Nat.le_of_ble_eq_true rfl) rfl ?_
        refine sz_ls (l2 := [some (.ref 39), some (.int x1), some (.int x2), some (.int x3), some (.int y139), none]) rfl ?_
        refine sz_goto 64 dX12_stonesOf_142 (by decide) ?_
        exact ih _ _ _ _ _ _ hf
      exact tX12_stonesOf_79   hk139 hk120 _ _ _ _ _ _ _ _ hf
def fX12_stonesOf (La : gz_L)  (x1 : Int32) (x2 : Int32) (x3 : Int32) (g : gz_S) : Option (Int32 × gz_S) :=
  (fX12_doesKeep La  x1 x2 x3 (-1) (-1) g).bind (fun q6 => if q6.1 = 0 then fX12_stonesOf_17 La   (fun (x1 : Int32) (x2 : Int32) (x3 : Int32) g => fX12_stonesOf_64 La   (fun (x4 : Int32) (x5 : Int32) g => some (((200000 : Int32) + ((100 : Int32) * x4)) + x5, g)) gz_FU x1 x2 x3 0 g) (fun (x4 : Int32) g => some ((100000 : Int32) + x4, g)) gz_FU x1 x2 x3 0 q6.2 else some (0, q6.2))
set_option maxRecDepth 100000 in
set_option maxHeartbeats 4000000 in
theorem kX12_stonesOf {La : gz_L}  {x1 : Int32} {x2 : Int32} {x3 : Int32} {g : gz_S} {r : Int32 × gz_S}  (hf : fX12_stonesOf La  x1 x2 x3 g = some r) : gz_K La 148 mX12_stonesOf [.ref 39, .int x1, .int x2, .int x3] g (gz_Fi r) := by
  unfold fX12_stonesOf at hf
  refine gz_K.of 2 (by decide +kernel) rfl ?_
  show gz_J La 148 mX12_stonesOf 0 [some (.ref 39), some (.int x1), some (.int x2), some (.int x3), none, none] [] g (gz_Fi r)
  refine sz_aload_n dX12_stonesOf_0 rfl ?_
  refine sz_iload_n dX12_stonesOf_1 rfl ?_
  refine sz_iload_n dX12_stonesOf_2 rfl ?_
  refine sz_iload_n dX12_stonesOf_3 rfl ?_
  refine sz_iconst dX12_stonesOf_4 (cIm1) ?_
  refine sz_iconst dX12_stonesOf_5 (cIm1) ?_
  obtain ⟨q6, eq6, hf⟩ := gz_bd hf
  refine sz_callVi [.int x1, .int x2, .int x3, .int (-1), .int (-1)] [] dX12_stonesOf_6 mvX12_462 (Nat.le_of_ble_eq_true rfl) (by decide : 12 < 13) kd39 rfl (Nat.le_of_ble_eq_true rfl) (kX12_doesKeep   eq6) ?_
  refine sz_if_eq 14 dX12_stonesOf_9 (by decide) (fun c9 => ?_) (fun c9 => ?_)
  · have hf := gz_ip c9 hf
    refine sz_iconst dX12_stonesOf_14 (cI0) ?_
    refine sz_istore dX12_stonesOf_15 (Nat.le_of_ble_eq_true rfl) rfl ?_
    refine sz_ls (l2 := [some (.ref 39), some (.int x1), some (.int x2), some (.int x3), some (.int 0), none]) rfl ?_
    have hk61 : ∀ (x1 : Int32) (x2 : Int32) (x3 : Int32) (g : gz_S) (r : Int32 × gz_S), (fun (x1 : Int32) (x2 : Int32) (x3 : Int32) g => fX12_stonesOf_64 La   (fun (x4 : Int32) (x5 : Int32) g => some (((200000 : Int32) + ((100 : Int32) * x4)) + x5, g)) gz_FU x1 x2 x3 0 g) x1 x2 x3 g = some r → gz_J La 148 mX12_stonesOf 61 [some (.ref 39), some (.int x1), some (.int x2), some (.int x3), none, none] [] g (gz_Fi r) := by
      intro x1 x2 x3 g r hf
      refine sz_iconst dX12_stonesOf_61 (cI0) ?_
      refine sz_istore dX12_stonesOf_62 (Nat.le_of_ble_eq_true rfl) rfl ?_
      refine sz_ls (l2 := [some (.ref 39), some (.int x1), some (.int x2), some (.int x3), some (.int 0), none]) rfl ?_
      have hk120 : ∀ (x4 : Int32) (x5 : Int32) (g : gz_S) (r : Int32 × gz_S), (fun (x4 : Int32) (x5 : Int32) g => some (((200000 : Int32) + ((100 : Int32) * x4)) + x5, g)) x4 x5 g = some r → gz_J La 148 mX12_stonesOf 120 [none, none, none, none, some (.int x4), some (.int x5)] [] g (gz_Fi r) := by
        intro x4 x5 g r hf
        refine sz_ldcw dX12_stonesOf_120 cstX12_470 ?_
        refine sz_bipush dX12_stonesOf_123 (cB100) ?_
        refine sz_iload dX12_stonesOf_125 rfl ?_
        refine sz_imul dX12_stonesOf_127 ?_
        refine sz_iadd dX12_stonesOf_128 ?_
        refine sz_iload dX12_stonesOf_129 rfl ?_
        refine sz_iadd dX12_stonesOf_131 ?_
        cases hf
        exact sz_iret dX12_stonesOf_132 rfl rfl ⟨rfl, rfl⟩
      exact tX12_stonesOf_64   hk120 _ _ _ _ _ _ _ hf
    have hk48 : ∀ (x4 : Int32) (g : gz_S) (r : Int32 × gz_S), (fun (x4 : Int32) g => some ((100000 : Int32) + x4, g)) x4 g = some r → gz_J La 148 mX12_stonesOf 48 [none, none, none, none, some (.int x4), none] [] g (gz_Fi r) := by
      intro x4 g r hf
      refine sz_ldcw dX12_stonesOf_48 cstX12_469 ?_
      refine sz_iload dX12_stonesOf_51 rfl ?_
      refine sz_iadd dX12_stonesOf_53 ?_
      cases hf
      exact sz_iret dX12_stonesOf_54 rfl rfl ⟨rfl, rfl⟩
    exact tX12_stonesOf_17   hk61 hk48 _ _ _ _ _ _ _ hf
  · have hf := gz_in1 c9 hf
    refine sz_iconst dX12_stonesOf_12 (cI0) ?_
    cases hf
    exact sz_iret dX12_stonesOf_13 rfl rfl ⟨rfl, rfl⟩
def fX12_stones (La : gz_L)  (x1 : Int32) (x2 : Int32) (x3 : Int32) (x4 : Int32) (g : gz_S) : Option (Int32 × gz_S) :=
  gz_let (gz_wi g 39 0 0) (fun g2 => (fX12_areTwo La  x1 x2 g2).bind (fun q8 => if q8.1 = 0 then some ((-1), q8.2) else (fX12_isIn La  (Int32.toInt64 x3) 1 20 q8.2).bind (fun q20 => if q20.1 = 0 then some ((-1), q20.2) else (fX12_isIn La  (Int32.toInt64 x4) 0 1 q20.2).bind (fun q31 => if q31.1 = 0 then some ((-1), q31.2) else (fX12_stonesOf La  x1 x2 x3 q31.2).bind (fun q43 => if q43.1 = (-1) then some ((-1), q43.2) else if x4 = 0 then some (q43.1 / 100000, q43.2) else if q43.1 = 0 then some ((-1), q43.2) else some (q43.1 - q43.1 / 100000 * 100000, q43.2))))))
set_option maxRecDepth 100000 in
set_option maxHeartbeats 4000000 in
theorem kX12_stones {La : gz_L}  {x1 : Int32} {x2 : Int32} {x3 : Int32} {x4 : Int32} {g : gz_S} {r : Int32 × gz_S}  (hf : fX12_stones La  x1 x2 x3 x4 g = some r) : gz_K La 149 mX12_stones [.ref 39, .int x1, .int x2, .int x3, .int x4] g (gz_Fi r) := by
  unfold fX12_stones at hf
  refine gz_K.of 1 (by decide +kernel) rfl ?_
  show gz_J La 149 mX12_stones 0 [some (.ref 39), some (.int x1), some (.int x2), some (.int x3), some (.int x4), none] [] g (gz_Fi r)
  refine sz_aload_n dX12_stones_0 rfl ?_
  refine sz_iconst dX12_stones_1 (cI0) ?_
  obtain ⟨g2, eg2, hf⟩ := gz_lt hf
  refine sz_putI2 dX12_stones_2 flX12_104 kd39 fi12_0 eg2 ?_
  refine sz_aload_n dX12_stones_5 rfl ?_
  refine sz_iload_n dX12_stones_6 rfl ?_
  refine sz_iload_n dX12_stones_7 rfl ?_
  obtain ⟨q8, eq8, hf⟩ := gz_bd hf
  refine sz_callVi [.int x1, .int x2] [] dX12_stones_8 mvX12_449 (Nat.le_of_ble_eq_true rfl) (by decide : 12 < 13) kd39 rfl (Nat.le_of_ble_eq_true rfl) (kX12_areTwo   eq8) ?_
  refine sz_if_eq 37 dX12_stones_11 (by decide) (fun c11 => ?_) (fun c11 => ?_)
  · have hf := gz_ip c11 hf
    refine sz_iconst dX12_stones_37 (cIm1) ?_
    cases hf
    exact sz_iret dX12_stones_38 rfl rfl ⟨rfl, rfl⟩
  · have hf := gz_in1 c11 hf
    refine sz_iload_n dX12_stones_14 rfl ?_
    refine sz_i2l dX12_stones_15 ?_
    refine sz_lconst (v := 1) dX12_stones_16 rfl ?_
    refine sz_ldc2 dX12_stones_17 cstlX12_471 ?_
    obtain ⟨q20, eq20, hf⟩ := gz_bd hf
    refine sz_callSi [.long (Int32.toInt64 x3), .long 1, .long 20] [] dX12_stones_20 msX12_225 (Nat.le_of_ble_eq_true rfl) (Nat.le_of_ble_eq_true rfl) (kX12_isIn   eq20) ?_
    refine sz_if_eq 37 dX12_stones_23 (by decide) (fun c23 => ?_) (fun c23 => ?_)
    · have hf := gz_ip c23 hf
      refine sz_iconst dX12_stones_37 (cIm1) ?_
      cases hf
      exact sz_iret dX12_stones_38 rfl rfl ⟨rfl, rfl⟩
    · have hf := gz_in1 c23 hf
      refine sz_iload dX12_stones_26 rfl ?_
      refine sz_i2l dX12_stones_28 ?_
      refine sz_lconst (v := 0) dX12_stones_29 rfl ?_
      refine sz_lconst (v := 1) dX12_stones_30 rfl ?_
      obtain ⟨q31, eq31, hf⟩ := gz_bd hf
      refine sz_callSi [.long (Int32.toInt64 x4), .long 0, .long 1] [] dX12_stones_31 msX12_225 (Nat.le_of_ble_eq_true rfl) (Nat.le_of_ble_eq_true rfl) (kX12_isIn   eq31) ?_
      refine sz_if_ne 39 dX12_stones_34 (by decide) (fun c34 => ?_) (fun c34 => ?_)
      · have hf := gz_in1 c34 hf
        refine sz_aload_n dX12_stones_39 rfl ?_
        refine sz_iload_n dX12_stones_40 rfl ?_
        refine sz_iload_n dX12_stones_41 rfl ?_
        refine sz_iload_n dX12_stones_42 rfl ?_
        obtain ⟨q43, eq43, hf⟩ := gz_bd hf
        refine sz_callVi [.int x1, .int x2, .int x3] [] dX12_stones_43 mvX12_473 (Nat.le_of_ble_eq_true rfl) (by decide : 12 < 13) kd39 rfl (Nat.le_of_ble_eq_true rfl) (kX12_stonesOf   eq43) ?_
        refine sz_istore dX12_stones_46 (Nat.le_of_ble_eq_true rfl) rfl ?_
        refine sz_ls (l2 := [some (.ref 39), some (.int x1), some (.int x2), some (.int x3), some (.int x4), some (.int q43.1)]) rfl ?_
        refine sz_iload dX12_stones_48 rfl ?_
        refine sz_iconst dX12_stones_50 (cIm1) ?_
        refine sz_icmp_ne 56 dX12_stones_51 (by decide) (fun c51 => ?_) (fun c51 => ?_)
        · have hf := gz_in1 c51 hf
          refine sz_iload dX12_stones_56 rfl ?_
          refine sz_if_ne 68 dX12_stones_58 (by decide) (fun c58 => ?_) (fun c58 => ?_)
          · have hf := gz_in1 c58 hf
            refine sz_iload dX12_stones_68 rfl ?_
            refine sz_if_ne 77 dX12_stones_70 (by decide) (fun c70 => ?_) (fun c70 => ?_)
            · have hf := gz_in1 c70 hf
              refine sz_iload dX12_stones_77 rfl ?_
              refine sz_ldcw dX12_stones_79 cstX12_469 ?_
              refine sz_irem dX12_stones_82 (by decide) ?_
              cases hf
              exact sz_iret dX12_stones_83 rfl rfl ⟨rfl, rfl⟩
            · have hf := gz_ip c70 hf
              refine sz_iconst dX12_stones_73 (cIm1) ?_
              refine sz_goto 83 dX12_stones_74 (by decide) ?_
              cases hf
              exact sz_iret dX12_stones_83 rfl rfl ⟨rfl, rfl⟩
          · have hf := gz_ip c58 hf
            refine sz_iload dX12_stones_61 rfl ?_
            refine sz_ldcw dX12_stones_63 cstX12_469 ?_
            refine sz_idiv dX12_stones_66 (by decide) ?_
            cases hf
            exact sz_iret dX12_stones_67 rfl rfl ⟨rfl, rfl⟩
        · have hf := gz_ip c51 hf
          refine sz_iconst dX12_stones_54 (cIm1) ?_
          cases hf
          exact sz_iret dX12_stones_55 rfl rfl ⟨rfl, rfl⟩
      · have hf := gz_ip c34 hf
        refine sz_iconst dX12_stones_37 (cIm1) ?_
        cases hf
        exact sz_iret dX12_stones_38 rfl rfl ⟨rfl, rfl⟩
def fX12_seen (La : gz_L)  (x1 : Int32) (x2 : Int32) (x3 : Int32) (g : gz_S) : Option (Int32 × gz_S) :=
  gz_let (gz_wi g 39 0 0) (fun g2 => (fX12_isGoer La  x1 g2).bind (fun q7 => if q7.1 = 0 then some ((-1), q7.2) else (fX12_isIn La  (Int32.toInt64 x2) 0 30 q7.2).bind (fun q19 => if q19.1 = 0 then some ((-1), q19.2) else (fX12_isCell La  x3 q19.2).bind (fun q27 => if q27.1 = 0 then some ((-1), q27.2) else if (q27.2.1 39 47) = 10 then some ((-1), q27.2) else if gz_ok ((3 : Int32) * (q27.2.1 39 47)) 30 then gz_let (gz_wi q27.2 59 (Int32.toNatClampNeg ((3 : Int32) * (q27.2.1 39 47))) x1) (fun g55 => if gz_ok (((3 : Int32) * (g55.1 39 47)) + 1) 30 then gz_let (gz_wi g55 59 (Int32.toNatClampNeg (((3 : Int32) * (g55.1 39 47)) + 1)) x2) (fun g69 => if gz_ok (((3 : Int32) * (g69.1 39 47)) + 2) 30 then gz_let (gz_wi g69 59 (Int32.toNatClampNeg (((3 : Int32) * (g69.1 39 47)) + 2)) x3) (fun g83 => gz_let (gz_wi g83 39 47 ((g83.1 39 47) + 1)) (fun g91 => some (g91.1 39 47, g91))) else none) else none) else none))))
set_option maxRecDepth 100000 in
set_option maxHeartbeats 4000000 in
theorem kX12_seen {La : gz_L}  {x1 : Int32} {x2 : Int32} {x3 : Int32} {g : gz_S} {r : Int32 × gz_S}  (hf : fX12_seen La  x1 x2 x3 g = some r) : gz_K La 3 mX12_seen [.ref 39, .int x1, .int x2, .int x3] g (gz_Fi r) := by
  unfold fX12_seen at hf
  refine gz_K.of 0 (by decide +kernel) rfl ?_
  show gz_J La 3 mX12_seen 0 [some (.ref 39), some (.int x1), some (.int x2), some (.int x3)] [] g (gz_Fi r)
  refine sz_aload_n dX12_seen_0 rfl ?_
  refine sz_iconst dX12_seen_1 (cI0) ?_
  obtain ⟨g2, eg2, hf⟩ := gz_lt hf
  refine sz_putI2 dX12_seen_2 flX12_104 kd39 fi12_0 eg2 ?_
  refine sz_aload_n dX12_seen_5 rfl ?_
  refine sz_iload_n dX12_seen_6 rfl ?_
  obtain ⟨q7, eq7, hf⟩ := gz_bd hf
  refine sz_callVi [.int x1] [] dX12_seen_7 mvX12_325 (Nat.le_of_ble_eq_true rfl) (by decide : 12 < 13) kd39 rfl (Nat.le_of_ble_eq_true rfl) (kX12_isGoer   eq7) ?_
  refine sz_if_eq 42 dX12_seen_10 (by decide) (fun c10 => ?_) (fun c10 => ?_)
  · have hf := gz_ip c10 hf
    refine sz_iconst dX12_seen_42 (cIm1) ?_
    cases hf
    exact sz_iret dX12_seen_43 rfl rfl ⟨rfl, rfl⟩
  · have hf := gz_in1 c10 hf
    refine sz_iload_n dX12_seen_13 rfl ?_
    refine sz_i2l dX12_seen_14 ?_
    refine sz_lconst (v := 0) dX12_seen_15 rfl ?_
    refine sz_ldc2 dX12_seen_16 cstlX12_425 ?_
    obtain ⟨q19, eq19, hf⟩ := gz_bd hf
    refine sz_callSi [.long (Int32.toInt64 x2), .long 0, .long 30] [] dX12_seen_19 msX12_225 (Nat.le_of_ble_eq_true rfl) (Nat.le_of_ble_eq_true rfl) (kX12_isIn   eq19) ?_
    refine sz_if_eq 42 dX12_seen_22 (by decide) (fun c22 => ?_) (fun c22 => ?_)
    · have hf := gz_ip c22 hf
      refine sz_iconst dX12_seen_42 (cIm1) ?_
      cases hf
      exact sz_iret dX12_seen_43 rfl rfl ⟨rfl, rfl⟩
    · have hf := gz_in1 c22 hf
      refine sz_aload_n dX12_seen_25 rfl ?_
      refine sz_iload_n dX12_seen_26 rfl ?_
      obtain ⟨q27, eq27, hf⟩ := gz_bd hf
      refine sz_callVi [.int x3] [] dX12_seen_27 mvX12_373 (Nat.le_of_ble_eq_true rfl) (by decide : 12 < 13) kd39 rfl (Nat.le_of_ble_eq_true rfl) (kX12_isCell   eq27) ?_
      refine sz_if_eq 42 dX12_seen_30 (by decide) (fun c30 => ?_) (fun c30 => ?_)
      · have hf := gz_ip c30 hf
        refine sz_iconst dX12_seen_42 (cIm1) ?_
        cases hf
        exact sz_iret dX12_seen_43 rfl rfl ⟨rfl, rfl⟩
      · have hf := gz_in1 c30 hf
        refine sz_aload_n dX12_seen_33 rfl ?_
        refine sz_getI dX12_seen_34 flX12_310 kd39 rfl ?_
        refine sz_bipush dX12_seen_37 (cB10) ?_
        refine sz_icmp_ne 44 dX12_seen_39 (by decide) (fun c39 => ?_) (fun c39 => ?_)
        · have hf := gz_in1 c39 hf
          refine sz_aload_n dX12_seen_44 rfl ?_
          refine sz_getR dX12_seen_45 flX12_89 kd39 rfl rf39_44 ?_
          refine sz_iconst dX12_seen_48 (cI3) ?_
          refine sz_aload_n dX12_seen_49 rfl ?_
          refine sz_getI dX12_seen_50 flX12_310 kd39 rfl ?_
          refine sz_imul dX12_seen_53 ?_
          refine sz_iload_n dX12_seen_54 rfl ?_
          obtain ⟨c55, hf⟩ := gz_gd hf
          obtain ⟨g55, eg55, hf⟩ := gz_lt hf
          refine sz_iastL dX12_seen_55 kd59 c55 rfl eg55 ?_
          refine sz_aload_n dX12_seen_56 rfl ?_
          refine sz_getR dX12_seen_57 flX12_89 kd39 rfl rf39_44 ?_
          refine sz_iconst dX12_seen_60 (cI3) ?_
          refine sz_aload_n dX12_seen_61 rfl ?_
          refine sz_getI dX12_seen_62 flX12_310 kd39 rfl ?_
          refine sz_imul dX12_seen_65 ?_
          refine sz_iconst dX12_seen_66 (cI1) ?_
          refine sz_iadd dX12_seen_67 ?_
          refine sz_iload_n dX12_seen_68 rfl ?_
          obtain ⟨c69, hf⟩ := gz_gd hf
          obtain ⟨g69, eg69, hf⟩ := gz_lt hf
          refine sz_iastL dX12_seen_69 kd59 c69 rfl eg69 ?_
          refine sz_aload_n dX12_seen_70 rfl ?_
          refine sz_getR dX12_seen_71 flX12_89 kd39 rfl rf39_44 ?_
          refine sz_iconst dX12_seen_74 (cI3) ?_
          refine sz_aload_n dX12_seen_75 rfl ?_
          refine sz_getI dX12_seen_76 flX12_310 kd39 rfl ?_
          refine sz_imul dX12_seen_79 ?_
          refine sz_iconst dX12_seen_80 (cI2) ?_
          refine sz_iadd dX12_seen_81 ?_
          refine sz_iload_n dX12_seen_82 rfl ?_
          obtain ⟨c83, hf⟩ := gz_gd hf
          obtain ⟨g83, eg83, hf⟩ := gz_lt hf
          refine sz_iastL dX12_seen_83 kd59 c83 rfl eg83 ?_
          refine sz_aload_n dX12_seen_84 rfl ?_
          refine sz_dup dX12_seen_85 rfl ?_
          refine sz_getI dX12_seen_86 flX12_310 kd39 rfl ?_
          refine sz_iconst dX12_seen_89 (cI1) ?_
          refine sz_iadd dX12_seen_90 ?_
          obtain ⟨g91, eg91, hf⟩ := gz_lt hf
          refine sz_putI2 dX12_seen_91 flX12_310 kd39 fi12_47 eg91 ?_
          refine sz_aload_n dX12_seen_94 rfl ?_
          refine sz_getI dX12_seen_95 flX12_310 kd39 rfl ?_
          cases hf
          exact sz_iret dX12_seen_98 rfl rfl ⟨rfl, rfl⟩
        · have hf := gz_ip c39 hf
          refine sz_iconst dX12_seen_42 (cIm1) ?_
          cases hf
          exact sz_iret dX12_seen_43 rfl rfl ⟨rfl, rfl⟩
def fX12_laysPaths_51 (La : gz_L)   (k106 : Int32 → Int32 → Int32 → gz_S → Option (gz_S)) : Nat → Int32 → Int32 → Int32 → Int32 → Int32 → gz_S → Option (gz_S)
  | 0, _, _, _, _, _, _ => none
  | n + 1, x1, x2, x3, x4, x5, g => if 30 < x5 then k106 x1 x2 x3 g else if gz_ok ((30 : Int32) + ((4 : Int32) * x1)) 231 then if gz_ok (x4 + x5) 496 then gz_let (gz_wi g 60 (Int32.toNatClampNeg (x4 + x5)) (g.1 54 (Int32.toNatClampNeg ((30 : Int32) + ((4 : Int32) * x1))))) (fun g78 => (fX12_goesOn La  54 x1 x2 g78).bind (fun q86 => gz_let (gz_wi q86 54 49 ((q86.1 54 49) + 1)) (fun g99 => gz_let (x5 + 1) (fun y100 => fX12_laysPaths_51 La   k106 n x1 x2 x3 x4 y100 g99)))) else none else none
set_option maxRecDepth 100000 in
set_option maxHeartbeats 4000000 in
theorem tX12_laysPaths_51 {La : gz_L}   {k106 : Int32 → Int32 → Int32 → gz_S → Option (gz_S)}  (hk106 : ∀ (x1 : Int32) (x2 : Int32) (x3 : Int32) (g : gz_S) (r : gz_S), k106 x1 x2 x3 g = some r → gz_J La 145 mX12_laysPaths 106 [some (.ref 39), some (.int x1), some (.int x2), some (.int x3), none, none] [] g (gz_Fv r)) : ∀ (n : Nat) (x1 : Int32) (x2 : Int32) (x3 : Int32) (x4 : Int32) (x5 : Int32) (g : gz_S) (r : gz_S), fX12_laysPaths_51 La   k106 n x1 x2 x3 x4 x5 g = some r → gz_J La 145 mX12_laysPaths 51 [some (.ref 39), some (.int x1), some (.int x2), some (.int x3), some (.int x4), some (.int x5)] [] g (gz_Fv r) := by
  intro n
  induction n with
  | zero => intro x1 x2 x3 x4 x5 g r hf; exact nomatch (show (none : Option (gz_S)) = some r from hf)
  | succ n ih =>
    intro x1 x2 x3 x4 x5 g r hf
    unfold fX12_laysPaths_51 at hf
    refine sz_iload dX12_laysPaths_51 rfl ?_
    refine sz_bipush dX12_laysPaths_53 (cB30) ?_
    refine sz_icmp_gt 106 dX12_laysPaths_55 (by decide) (fun c55 => ?_) (fun c55 => ?_)
    · have hf := gz_ip c55 hf
      refine sz_weak (l2 := [some (.ref 39), some (.int x1), some (.int x2), some (.int x3), none, none]) (gz_subk (gz_subk (gz_subk (gz_subk (gz_subn (gz_subn gz_sub0)))))) ?_
      exact hk106 _ _ _ _ _ hf
    · have hf := gz_in1 c55 hf
      refine sz_aload_n dX12_laysPaths_58 rfl ?_
      refine sz_getR dX12_laysPaths_59 flX12_92 kd39 rfl rf39_45 ?_
      refine sz_iload dX12_laysPaths_62 rfl ?_
      refine sz_iload dX12_laysPaths_64 rfl ?_
      refine sz_iadd dX12_laysPaths_66 ?_
      refine sz_aload_n dX12_laysPaths_67 rfl ?_
      refine sz_getR dX12_laysPaths_68 flX12_67 kd39 rfl rf39_33 ?_
      refine sz_bipush dX12_laysPaths_71 (cB30) ?_
      refine sz_iconst dX12_laysPaths_73 (cI4) ?_
      refine sz_iload_n dX12_laysPaths_74 rfl ?_
      refine sz_imul dX12_laysPaths_75 ?_
      refine sz_iadd dX12_laysPaths_76 ?_
      obtain ⟨c77, hf⟩ := gz_gd hf
      refine sz_ialdL dX12_laysPaths_77 kd54 c77 rfl ?_
      obtain ⟨c78, hf⟩ := gz_gd hf
      obtain ⟨g78, eg78, hf⟩ := gz_lt hf
      refine sz_iastL dX12_laysPaths_78 kd60 c78 rfl eg78 ?_
      refine sz_aload_n dX12_laysPaths_79 rfl ?_
      refine sz_aload_n dX12_laysPaths_80 rfl ?_
      refine sz_getR dX12_laysPaths_81 flX12_67 kd39 rfl rf39_33 ?_
      refine sz_iload_n dX12_laysPaths_84 rfl ?_
      refine sz_iload_n dX12_laysPaths_85 rfl ?_
      obtain ⟨q86, eq86, hf⟩ := gz_bd hf
      refine sz_callVv [.ref 54, .int x1, .int x2] [] dX12_laysPaths_86 mvX12_362 (Nat.le_of_ble_eq_true rfl) (by decide : 12 < 13) kd39 rfl (Nat.le_of_ble_eq_true rfl) (kX12_goesOn  (Or.inr rfl) eq86) ?_
      refine sz_aload_n dX12_laysPaths_89 rfl ?_
      refine sz_getR dX12_laysPaths_90 flX12_67 kd39 rfl rf39_33 ?_
      refine sz_bipush dX12_laysPaths_93 (cB49) ?_
      refine sz_dup2 dX12_laysPaths_95 rfl rfl ?_
      refine sz_ialdL dX12_laysPaths_96 kd54 vi49_231 tn49 ?_
      refine sz_iconst dX12_laysPaths_97 (cI1) ?_
      refine sz_iadd dX12_laysPaths_98 ?_
      obtain ⟨g99, eg99, hf⟩ := gz_lt hf
      refine sz_iastL dX12_laysPaths_99 kd54 vi49_231 tn49 eg99 ?_
      obtain ⟨y100, ey100, hf⟩ := gz_lt hf
      refine sz_iinc (v := y100) dX12_laysPaths_100 rfl (by rw [ey100, cI1]) (Nat.le_of_ble_eq_true rfl) rfl ?_
      refine sz_ls (l2 := [some (.ref 39), some (.int x1), some (.int x2), some (.int x3), some (.int x4), some (.int y100)]) rfl ?_
      refine sz_goto 51 dX12_laysPaths_103 (by decide) ?_
      exact ih _ _ _ _ _ _ _ hf
def fX12_laysPaths_9 (La : gz_L)   (k112 : Int32 → Int32 → gz_S → Option (gz_S)) : Nat → Int32 → Int32 → Int32 → gz_S → Option (gz_S)
  | 0, _, _, _, _ => none
  | n + 1, x1, x2, x3, g => if 4 ≤ x3 then k112 x1 x2 g else (fX12_lays La  54 g).bind (fun q19 => if gz_ok (((30 : Int32) + ((4 : Int32) * x1)) + 1) 231 then gz_let (gz_wi q19 54 (Int32.toNatClampNeg (((30 : Int32) + ((4 : Int32) * x1)) + 1)) x3) (fun g35 => gz_let ((31 : Int32) * (((4 : Int32) * (x2 - 1)) + x3)) (fun y46 => fX12_laysPaths_51 La   (fun (x1 : Int32) (x2 : Int32) (x3 : Int32) g => gz_let (x3 + 1) (fun y106 => fX12_laysPaths_9 La   k112 n x1 x2 y106 g)) gz_FU x1 x2 x3 y46 0 g35)) else none)
set_option maxRecDepth 100000 in
set_option maxHeartbeats 4000000 in
theorem tX12_laysPaths_9 {La : gz_L}   {k112 : Int32 → Int32 → gz_S → Option (gz_S)}  (hk112 : ∀ (x1 : Int32) (x2 : Int32) (g : gz_S) (r : gz_S), k112 x1 x2 g = some r → gz_J La 145 mX12_laysPaths 112 [some (.ref 39), some (.int x1), some (.int x2), none, none, none] [] g (gz_Fv r)) : ∀ (n : Nat) (x1 : Int32) (x2 : Int32) (x3 : Int32) (g : gz_S) (r : gz_S), fX12_laysPaths_9 La   k112 n x1 x2 x3 g = some r → gz_J La 145 mX12_laysPaths 9 [some (.ref 39), some (.int x1), some (.int x2), some (.int x3), none, none] [] g (gz_Fv r) := by
  intro n
  induction n with
  | zero => intro x1 x2 x3 g r hf; exact nomatch (show (none : Option (gz_S)) = some r from hf)
  | succ n ih =>
    intro x1 x2 x3 g r hf
    unfold fX12_laysPaths_9 at hf
    refine sz_iload_n dX12_laysPaths_9 rfl ?_
    refine sz_iconst dX12_laysPaths_10 (cI4) ?_
    refine sz_icmp_ge 112 dX12_laysPaths_11 (by decide) (fun c11 => ?_) (fun c11 => ?_)
    · have hf := gz_ip c11 hf
      refine sz_weak (l2 := [some (.ref 39), some (.int x1), some (.int x2), none, none, none]) (gz_subk (gz_subk (gz_subk (gz_subn (gz_subk (gz_subk gz_sub0)))))) ?_
      exact hk112 _ _ _ _ hf
    · have hf := gz_in1 c11 hf
      refine sz_aload_n dX12_laysPaths_14 rfl ?_
      refine sz_aload_n dX12_laysPaths_15 rfl ?_
      refine sz_getR dX12_laysPaths_16 flX12_67 kd39 rfl rf39_33 ?_
      obtain ⟨q19, eq19, hf⟩ := gz_bd hf
      refine sz_callVv [.ref 54] [] dX12_laysPaths_19 mvX12_306 (Nat.le_of_ble_eq_true rfl) (by decide : 12 < 13) kd39 rfl (Nat.le_of_ble_eq_true rfl) (kX12_lays  (Or.inr rfl) eq19) ?_
      refine sz_aload_n dX12_laysPaths_22 rfl ?_
      refine sz_getR dX12_laysPaths_23 flX12_67 kd39 rfl rf39_33 ?_
      refine sz_bipush dX12_laysPaths_26 (cB30) ?_
      refine sz_iconst dX12_laysPaths_28 (cI4) ?_
      refine sz_iload_n dX12_laysPaths_29 rfl ?_
      refine sz_imul dX12_laysPaths_30 ?_
      refine sz_iadd dX12_laysPaths_31 ?_
      refine sz_iconst dX12_laysPaths_32 (cI1) ?_
      refine sz_iadd dX12_laysPaths_33 ?_
      refine sz_iload_n dX12_laysPaths_34 rfl ?_
      obtain ⟨c35, hf⟩ := gz_gd hf
      obtain ⟨g35, eg35, hf⟩ := gz_lt hf
      refine sz_iastL dX12_laysPaths_35 kd54 c35 rfl eg35 ?_
      refine sz_bipush dX12_laysPaths_36 (cB31) ?_
      refine sz_iconst dX12_laysPaths_38 (cI4) ?_
      refine sz_iload_n dX12_laysPaths_39 rfl ?_
      refine sz_iconst dX12_laysPaths_40 (cI1) ?_
      refine sz_isub dX12_laysPaths_41 ?_
      refine sz_imul dX12_laysPaths_42 ?_
      refine sz_iload_n dX12_laysPaths_43 rfl ?_
      refine sz_iadd dX12_laysPaths_44 ?_
      refine sz_imul dX12_laysPaths_45 ?_
      obtain ⟨y46, ey46, hf⟩ := gz_lt hf
      refine sz_topi ey46 ?_
      refine sz_istore dX12_laysPaths_46 (Nat.le_of_ble_eq_true rfl) rfl ?_
      refine sz_ls (l2 := [some (.ref 39), some (.int x1), some (.int x2), some (.int x3), some (.int y46), none]) rfl ?_
      refine sz_iconst dX12_laysPaths_48 (cI0) ?_
      refine sz_istore dX12_laysPaths_49 (Nat.le_of_ble_eq_true rfl) rfl ?_
      refine sz_ls (l2 := [some (.ref 39), some (.int x1), some (.int x2), some (.int x3), some (.int y46), some (.int 0)]) rfl ?_
      have hk106 : ∀ (x1 : Int32) (x2 : Int32) (x3 : Int32) (g : gz_S) (r : gz_S), (fun (x1 : Int32) (x2 : Int32) (x3 : Int32) g => gz_let (x3 + 1) (fun y106 => fX12_laysPaths_9 La   k112 n x1 x2 y106 g)) x1 x2 x3 g = some r → gz_J La 145 mX12_laysPaths 106 [some (.ref 39), some (.int x1), some (.int x2), some (.int x3), none, none] [] g (gz_Fv r) := by
        intro x1 x2 x3 g r hf
        obtain ⟨y106, ey106, hf⟩ := gz_lt hf
        refine sz_iinc (v := y106) dX12_laysPaths_106 rfl (by rw [ey106, cI1]) (Nat.le_of_ble_eq_true rfl) rfl ?_
        refine sz_ls (l2 := [some (.ref 39), some (.int x1), some (.int x2), some (.int y106), none, none]) rfl ?_
        refine sz_goto 9 dX12_laysPaths_109 (by decide) ?_
        exact ih _ _ _ _ _ hf
      exact tX12_laysPaths_51   hk106 _ _ _ _ _ _ _ _ hf
def fX12_laysPaths_2 (La : gz_L)    : Nat → Int32 → Int32 → gz_S → Option (gz_S)
  | 0, _, _, _ => none
  | n + 1, x1, x2, g => if 4 < x2 then some g else fX12_laysPaths_9 La   (fun (x1 : Int32) (x2 : Int32) g => gz_let (x2 + 1) (fun y112 => fX12_laysPaths_2 La    n x1 y112 g)) gz_FU x1 x2 0 g
set_option maxRecDepth 100000 in
set_option maxHeartbeats 4000000 in
theorem tX12_laysPaths_2 {La : gz_L}      : ∀ (n : Nat) (x1 : Int32) (x2 : Int32) (g : gz_S) (r : gz_S), fX12_laysPaths_2 La    n x1 x2 g = some r → gz_J La 145 mX12_laysPaths 2 [some (.ref 39), some (.int x1), some (.int x2), none, none, none] [] g (gz_Fv r) := by
  intro n
  induction n with
  | zero => intro x1 x2 g r hf; exact nomatch (show (none : Option (gz_S)) = some r from hf)
  | succ n ih =>
    intro x1 x2 g r hf
    unfold fX12_laysPaths_2 at hf
    refine sz_iload_n dX12_laysPaths_2 rfl ?_
    refine sz_iconst dX12_laysPaths_3 (cI4) ?_
    refine sz_icmp_gt 118 dX12_laysPaths_4 (by decide) (fun c4 => ?_) (fun c4 => ?_)
    · have hf := gz_ip c4 hf
      cases hf
      exact sz_ret dX12_laysPaths_118 rfl ⟨rfl, rfl⟩
    · have hf := gz_in1 c4 hf
      refine sz_iconst dX12_laysPaths_7 (cI0) ?_
      refine sz_istore_n dX12_laysPaths_8 rfl (Nat.le_of_ble_eq_true rfl) rfl ?_
      refine sz_ls (l2 := [some (.ref 39), some (.int x1), some (.int x2), some (.int 0), none, none]) rfl ?_
      have hk112 : ∀ (x1 : Int32) (x2 : Int32) (g : gz_S) (r : gz_S), (fun (x1 : Int32) (x2 : Int32) g => gz_let (x2 + 1) (fun y112 => fX12_laysPaths_2 La    n x1 y112 g)) x1 x2 g = some r → gz_J La 145 mX12_laysPaths 112 [some (.ref 39), some (.int x1), some (.int x2), none, none, none] [] g (gz_Fv r) := by
        intro x1 x2 g r hf
        obtain ⟨y112, ey112, hf⟩ := gz_lt hf
        refine sz_iinc (v := y112) dX12_laysPaths_112 rfl (by rw [ey112, cI1]) (Nat.le_of_ble_eq_true rfl) rfl ?_
        refine sz_ls (l2 := [some (.ref 39), some (.int x1), some (.int y112), none, none, none]) rfl ?_
        refine sz_goto 2 dX12_laysPaths_115 (by decide) ?_
        exact ih _ _ _ _ hf
      exact tX12_laysPaths_9   hk112 _ _ _ _ _ _ hf
def fX12_laysPaths (La : gz_L)  (x1 : Int32) (g : gz_S) : Option (gz_S) :=
  fX12_laysPaths_2 La    gz_FU x1 1 g
set_option maxRecDepth 100000 in
set_option maxHeartbeats 4000000 in
theorem kX12_laysPaths {La : gz_L}  {x1 : Int32} {g : gz_S} {r : gz_S}  (hf : fX12_laysPaths La  x1 g = some r) : gz_K La 145 mX12_laysPaths [.ref 39, .int x1] g (gz_Fv r) := by
  unfold fX12_laysPaths at hf
  refine gz_K.of 4 (by decide +kernel) rfl ?_
  show gz_J La 145 mX12_laysPaths 0 [some (.ref 39), some (.int x1), none, none, none, none] [] g (gz_Fv r)
  refine sz_iconst dX12_laysPaths_0 (cI1) ?_
  refine sz_istore_n dX12_laysPaths_1 rfl (Nat.le_of_ble_eq_true rfl) rfl ?_
  refine sz_ls (l2 := [some (.ref 39), some (.int x1), some (.int 1), none, none, none]) rfl ?_
  exact tX12_laysPaths_2    _ _ _ _ _ hf
def fX12_isFit_57 (La : gz_L)   (k2 : Int32 → Int32 → Int32 → gz_S → Option (Int32 × gz_S)) (x1 : Int32) (x2 : Int32) (x3 : Int32) (g : gz_S) : Option (Int32 × gz_S) := gz_let (x3 + 1) (fun y57 => k2 x1 x2 y57 g)
set_option maxRecDepth 100000 in
set_option maxHeartbeats 4000000 in
theorem tX12_isFit_57 {La : gz_L}   {k2 : Int32 → Int32 → Int32 → gz_S → Option (Int32 × gz_S)}  (hk2 : ∀ (x1 : Int32) (x2 : Int32) (x3 : Int32) (g : gz_S) (r : Int32 × gz_S), k2 x1 x2 x3 g = some r → gz_J La 1 mX12_isFit 2 [some (.ref 39), some (.int x1), some (.int x2), some (.int x3)] [] g (gz_Fi r)) : ∀ (x1 : Int32) (x2 : Int32) (x3 : Int32) (g : gz_S) (r : Int32 × gz_S), fX12_isFit_57 La   k2 x1 x2 x3 g = some r → gz_J La 1 mX12_isFit 57 [some (.ref 39), some (.int x1), some (.int x2), some (.int x3)] [] g (gz_Fi r) := by
  intro x1 x2 x3 g r hf
  unfold fX12_isFit_57 at hf
  obtain ⟨y57, ey57, hf⟩ := gz_lt hf
  refine sz_iinc (v := y57) dX12_isFit_57 rfl (by rw [ey57, cI1]) (Nat.le_of_ble_eq_true rfl) rfl ?_
  refine sz_ls (l2 := [some (.ref 39), some (.int x1), some (.int x2), some (.int y57)]) rfl ?_
  refine sz_goto 2 dX12_isFit_60 (by decide) ?_
  exact hk2 _ _ _ _ _ hf
def fX12_isFit_2 (La : gz_L)    : Nat → Int32 → Int32 → Int32 → gz_S → Option (Int32 × gz_S)
  | 0, _, _, _, _ => none
  | n + 1, x1, x2, x3, g => if (g.1 39 47) ≤ x3 then some (1, g) else if gz_ok ((3 : Int32) * x3) 30 then if (g.1 59 (Int32.toNatClampNeg ((3 : Int32) * x3))) = x1 then if gz_ok (((3 : Int32) * x3) + 1) 30 then if gz_ok (((31 : Int32) * x2) + (g.1 59 (Int32.toNatClampNeg (((3 : Int32) * x3) + 1)))) 496 then if gz_ok (((3 : Int32) * x3) + 2) 30 then if (g.1 60 (Int32.toNatClampNeg (((31 : Int32) * x2) + (g.1 59 (Int32.toNatClampNeg (((3 : Int32) * x3) + 1)))))) = (g.1 59 (Int32.toNatClampNeg (((3 : Int32) * x3) + 2))) then fX12_isFit_57 La   (fX12_isFit_2 La    n)  x1 x2 x3 g else some (0, g) else none else none else none else fX12_isFit_57 La   (fX12_isFit_2 La    n)  x1 x2 x3 g else none
set_option maxRecDepth 100000 in
set_option maxHeartbeats 4000000 in
theorem tX12_isFit_2 {La : gz_L}      : ∀ (n : Nat) (x1 : Int32) (x2 : Int32) (x3 : Int32) (g : gz_S) (r : Int32 × gz_S), fX12_isFit_2 La    n x1 x2 x3 g = some r → gz_J La 1 mX12_isFit 2 [some (.ref 39), some (.int x1), some (.int x2), some (.int x3)] [] g (gz_Fi r) := by
  intro n
  induction n with
  | zero => intro x1 x2 x3 g r hf; exact nomatch (show (none : Option (Int32 × gz_S)) = some r from hf)
  | succ n ih =>
    intro x1 x2 x3 g r hf
    unfold fX12_isFit_2 at hf
    refine sz_iload_n dX12_isFit_2 rfl ?_
    refine sz_aload_n dX12_isFit_3 rfl ?_
    refine sz_getI dX12_isFit_4 flX12_310 kd39 rfl ?_
    refine sz_icmp_ge 63 dX12_isFit_7 (by decide) (fun c7 => ?_) (fun c7 => ?_)
    · have hf := gz_ip c7 hf
      refine sz_iconst dX12_isFit_63 (cI1) ?_
      cases hf
      exact sz_iret dX12_isFit_64 rfl rfl ⟨rfl, rfl⟩
    · have hf := gz_in1 c7 hf
      refine sz_aload_n dX12_isFit_10 rfl ?_
      refine sz_getR dX12_isFit_11 flX12_89 kd39 rfl rf39_44 ?_
      refine sz_iconst dX12_isFit_14 (cI3) ?_
      refine sz_iload_n dX12_isFit_15 rfl ?_
      refine sz_imul dX12_isFit_16 ?_
      obtain ⟨c17, hf⟩ := gz_gd hf
      refine sz_ialdL dX12_isFit_17 kd59 c17 rfl ?_
      refine sz_iload_n dX12_isFit_18 rfl ?_
      refine sz_icmp_ne 57 dX12_isFit_19 (by decide) (fun c19 => ?_) (fun c19 => ?_)
      · have hf := gz_in1 c19 hf
        exact tX12_isFit_57   ih _ _ _ _ _ hf
      · have hf := gz_ip c19 hf
        refine sz_aload_n dX12_isFit_22 rfl ?_
        refine sz_getR dX12_isFit_23 flX12_92 kd39 rfl rf39_45 ?_
        refine sz_bipush dX12_isFit_26 (cB31) ?_
        refine sz_iload_n dX12_isFit_28 rfl ?_
        refine sz_imul dX12_isFit_29 ?_
        refine sz_aload_n dX12_isFit_30 rfl ?_
        refine sz_getR dX12_isFit_31 flX12_89 kd39 rfl rf39_44 ?_
        refine sz_iconst dX12_isFit_34 (cI3) ?_
        refine sz_iload_n dX12_isFit_35 rfl ?_
        refine sz_imul dX12_isFit_36 ?_
        refine sz_iconst dX12_isFit_37 (cI1) ?_
        refine sz_iadd dX12_isFit_38 ?_
        obtain ⟨c39, hf⟩ := gz_gd hf
        refine sz_ialdL dX12_isFit_39 kd59 c39 rfl ?_
        refine sz_iadd dX12_isFit_40 ?_
        obtain ⟨c41, hf⟩ := gz_gd hf
        refine sz_ialdL dX12_isFit_41 kd60 c41 rfl ?_
        refine sz_aload_n dX12_isFit_42 rfl ?_
        refine sz_getR dX12_isFit_43 flX12_89 kd39 rfl rf39_44 ?_
        refine sz_iconst dX12_isFit_46 (cI3) ?_
        refine sz_iload_n dX12_isFit_47 rfl ?_
        refine sz_imul dX12_isFit_48 ?_
        refine sz_iconst dX12_isFit_49 (cI2) ?_
        refine sz_iadd dX12_isFit_50 ?_
        obtain ⟨c51, hf⟩ := gz_gd hf
        refine sz_ialdL dX12_isFit_51 kd59 c51 rfl ?_
        refine sz_icmp_eq 57 dX12_isFit_52 (by decide) (fun c52 => ?_) (fun c52 => ?_)
        · have hf := gz_ip c52 hf
          exact tX12_isFit_57   ih _ _ _ _ _ hf
        · have hf := gz_in1 c52 hf
          refine sz_iconst dX12_isFit_55 (cI0) ?_
          cases hf
          exact sz_iret dX12_isFit_56 rfl rfl ⟨rfl, rfl⟩
def fX12_isFit (La : gz_L)  (x1 : Int32) (x2 : Int32) (g : gz_S) : Option (Int32 × gz_S) :=
  fX12_isFit_2 La    gz_FU x1 x2 0 g
set_option maxRecDepth 100000 in
set_option maxHeartbeats 4000000 in
theorem kX12_isFit {La : gz_L}  {x1 : Int32} {x2 : Int32} {g : gz_S} {r : Int32 × gz_S}  (hf : fX12_isFit La  x1 x2 g = some r) : gz_K La 1 mX12_isFit [.ref 39, .int x1, .int x2] g (gz_Fi r) := by
  unfold fX12_isFit at hf
  refine gz_K.of 1 (by decide +kernel) rfl ?_
  show gz_J La 1 mX12_isFit 0 [some (.ref 39), some (.int x1), some (.int x2), none] [] g (gz_Fi r)
  refine sz_iconst dX12_isFit_0 (cI0) ?_
  refine sz_istore_n dX12_isFit_1 rfl (Nat.le_of_ble_eq_true rfl) rfl ?_
  refine sz_ls (l2 := [some (.ref 39), some (.int x1), some (.int x2), some (.int 0)]) rfl ?_
  exact tX12_isFit_2    _ _ _ _ _ _ hf
def fX12_fits_73 (La : gz_L)   (k30 : Int32 → Int32 → Int32 → Int32 → gz_S → Option (Int32 × gz_S)) (x1 : Int32) (x2 : Int32) (x3 : Int32) (x4 : Int32) (g : gz_S) : Option (Int32 × gz_S) := gz_let (x4 + 1) (fun y73 => k30 x1 x2 x3 y73 g)
set_option maxRecDepth 100000 in
set_option maxHeartbeats 4000000 in
theorem tX12_fits_73 {La : gz_L}   {k30 : Int32 → Int32 → Int32 → Int32 → gz_S → Option (Int32 × gz_S)}  (hk30 : ∀ (x1 : Int32) (x2 : Int32) (x3 : Int32) (x4 : Int32) (g : gz_S) (r : Int32 × gz_S), k30 x1 x2 x3 x4 g = some r → gz_J La 146 mX12_fits 30 [some (.ref 39), some (.int x1), some (.int x2), some (.int x3), some (.int x4)] [] g (gz_Fi r)) : ∀ (x1 : Int32) (x2 : Int32) (x3 : Int32) (x4 : Int32) (g : gz_S) (r : Int32 × gz_S), fX12_fits_73 La   k30 x1 x2 x3 x4 g = some r → gz_J La 146 mX12_fits 73 [some (.ref 39), some (.int x1), some (.int x2), some (.int x3), some (.int x4)] [] g (gz_Fi r) := by
  intro x1 x2 x3 x4 g r hf
  unfold fX12_fits_73 at hf
  obtain ⟨y73, ey73, hf⟩ := gz_lt hf
  refine sz_iinc (v := y73) dX12_fits_73 rfl (by rw [ey73, cI1]) (Nat.le_of_ble_eq_true rfl) rfl ?_
  refine sz_ls (l2 := [some (.ref 39), some (.int x1), some (.int x2), some (.int x3), some (.int y73)]) rfl ?_
  refine sz_goto 30 dX12_fits_76 (by decide) ?_
  exact hk30 _ _ _ _ _ _ hf
def fX12_fits_30 (La : gz_L)   (k79 : Int32 → Int32 → gz_S → Option (Int32 × gz_S)) (k55 : Int32 → gz_S → Option (Int32 × gz_S)) : Nat → Int32 → Int32 → Int32 → Int32 → gz_S → Option (Int32 × gz_S)
  | 0, _, _, _, _, _ => none
  | n + 1, x1, x2, x3, x4, g => if 16 ≤ x4 then k79 x2 x3 g else (fX12_isFit La  x1 x4 g).bind (fun q41 => if q41.1 = 0 then fX12_fits_73 La   (fX12_fits_30 La   k79 k55 n)  x1 x2 x3 x4 q41.2 else if x3 = x2 then k55 x4 q41.2 else gz_let (x3 + 1) (fun y70 => fX12_fits_73 La   (fX12_fits_30 La   k79 k55 n)  x1 x2 y70 x4 q41.2))
set_option maxRecDepth 100000 in
set_option maxHeartbeats 4000000 in
theorem tX12_fits_30 {La : gz_L}   {k79 : Int32 → Int32 → gz_S → Option (Int32 × gz_S)} {k55 : Int32 → gz_S → Option (Int32 × gz_S)}  (hk79 : ∀ (x2 : Int32) (x3 : Int32) (g : gz_S) (r : Int32 × gz_S), k79 x2 x3 g = some r → gz_J La 146 mX12_fits 79 [none, none, some (.int x2), some (.int x3), none] [] g (gz_Fi r)) (hk55 : ∀ (x4 : Int32) (g : gz_S) (r : Int32 × gz_S), k55 x4 g = some r → gz_J La 146 mX12_fits 55 [none, none, none, none, some (.int x4)] [] g (gz_Fi r)) : ∀ (n : Nat) (x1 : Int32) (x2 : Int32) (x3 : Int32) (x4 : Int32) (g : gz_S) (r : Int32 × gz_S), fX12_fits_30 La   k79 k55 n x1 x2 x3 x4 g = some r → gz_J La 146 mX12_fits 30 [some (.ref 39), some (.int x1), some (.int x2), some (.int x3), some (.int x4)] [] g (gz_Fi r) := by
  intro n
  induction n with
  | zero => intro x1 x2 x3 x4 g r hf; exact nomatch (show (none : Option (Int32 × gz_S)) = some r from hf)
  | succ n ih =>
    intro x1 x2 x3 x4 g r hf
    unfold fX12_fits_30 at hf
    refine sz_iload dX12_fits_30 rfl ?_
    refine sz_bipush dX12_fits_32 (cB16) ?_
    refine sz_icmp_ge 79 dX12_fits_34 (by decide) (fun c34 => ?_) (fun c34 => ?_)
    · have hf := gz_ip c34 hf
      refine sz_weak (l2 := [none, none, some (.int x2), some (.int x3), none]) (gz_subn (gz_subn (gz_subk (gz_subk (gz_subn gz_sub0))))) ?_
      exact hk79 _ _ _ _ hf
    · have hf := gz_in1 c34 hf
      refine sz_aload_n dX12_fits_37 rfl ?_
      refine sz_iload_n dX12_fits_38 rfl ?_
      refine sz_iload dX12_fits_39 rfl ?_
      obtain ⟨q41, eq41, hf⟩ := gz_bd hf
      refine sz_callVi [.int x1, .int x4] [] dX12_fits_41 mvX12_479 (Nat.le_of_ble_eq_true rfl) (by decide : 12 < 13) kd39 rfl (Nat.le_of_ble_eq_true rfl) (kX12_isFit   eq41) ?_
      refine sz_if_ne 50 dX12_fits_44 (by decide) (fun c44 => ?_) (fun c44 => ?_)
      · have hf := gz_in1 c44 hf
        refine sz_iload_n dX12_fits_50 rfl ?_
        refine sz_iload_n dX12_fits_51 rfl ?_
        refine sz_icmp_ne 70 dX12_fits_52 (by decide) (fun c52 => ?_) (fun c52 => ?_)
        · have hf := gz_in1 c52 hf
          obtain ⟨y70, ey70, hf⟩ := gz_lt hf
          refine sz_iinc (v := y70) dX12_fits_70 rfl (by rw [ey70, cI1]) (Nat.le_of_ble_eq_true rfl) rfl ?_
          refine sz_ls (l2 := [some (.ref 39), some (.int x1), some (.int x2), some (.int y70), some (.int x4)]) rfl ?_
          exact tX12_fits_73   ih _ _ _ _ _ _ hf
        · have hf := gz_ip c52 hf
          refine sz_weak (l2 := [none, none, none, none, some (.int x4)]) (gz_subn (gz_subn (gz_subn (gz_subn (gz_subk gz_sub0))))) ?_
          exact hk55 _ _ _ hf
      · have hf := gz_ip c44 hf
        refine sz_goto 73 dX12_fits_47 (by decide) ?_
        exact tX12_fits_73   ih _ _ _ _ _ _ hf
def fX12_fits (La : gz_L)  (x1 : Int32) (x2 : Int32) (g : gz_S) : Option (Int32 × gz_S) :=
  gz_let (gz_wi g 39 0 0) (fun g2 => (fX12_isGoer La  x1 g2).bind (fun q7 => if q7.1 = 0 then some ((-1), q7.2) else if (-1) ≤ x2 then (fX12_laysPaths La  x1 q7.2).bind (fun q22 => fX12_fits_30 La   (fun (x2 : Int32) (x3 : Int32) g => if x2 = (-1) then some (x3, g) else some ((-1), g)) (fun (x4 : Int32) g => some (((10 : Int32) * ((x4 / 4) + 1)) + (x4 - x4 / 4 * 4), g)) gz_FU x1 x2 0 0 q22) else some ((-1), q7.2)))
set_option maxRecDepth 100000 in
set_option maxHeartbeats 4000000 in
theorem kX12_fits {La : gz_L}  {x1 : Int32} {x2 : Int32} {g : gz_S} {r : Int32 × gz_S}  (hf : fX12_fits La  x1 x2 g = some r) : gz_K La 146 mX12_fits [.ref 39, .int x1, .int x2] g (gz_Fi r) := by
  unfold fX12_fits at hf
  refine gz_K.of 2 (by decide +kernel) rfl ?_
  show gz_J La 146 mX12_fits 0 [some (.ref 39), some (.int x1), some (.int x2), none, none] [] g (gz_Fi r)
  refine sz_aload_n dX12_fits_0 rfl ?_
  refine sz_iconst dX12_fits_1 (cI0) ?_
  obtain ⟨g2, eg2, hf⟩ := gz_lt hf
  refine sz_putI2 dX12_fits_2 flX12_104 kd39 fi12_0 eg2 ?_
  refine sz_aload_n dX12_fits_5 rfl ?_
  refine sz_iload_n dX12_fits_6 rfl ?_
  obtain ⟨q7, eq7, hf⟩ := gz_bd hf
  refine sz_callVi [.int x1] [] dX12_fits_7 mvX12_325 (Nat.le_of_ble_eq_true rfl) (by decide : 12 < 13) kd39 rfl (Nat.le_of_ble_eq_true rfl) (kX12_isGoer   eq7) ?_
  refine sz_if_eq 18 dX12_fits_10 (by decide) (fun c10 => ?_) (fun c10 => ?_)
  · have hf := gz_ip c10 hf
    refine sz_iconst dX12_fits_18 (cIm1) ?_
    cases hf
    exact sz_iret dX12_fits_19 rfl rfl ⟨rfl, rfl⟩
  · have hf := gz_in1 c10 hf
    refine sz_iload_n dX12_fits_13 rfl ?_
    refine sz_iconst dX12_fits_14 (cIm1) ?_
    refine sz_icmp_ge 20 dX12_fits_15 (by decide) (fun c15 => ?_) (fun c15 => ?_)
    · have hf := gz_ip c15 hf
      refine sz_aload_n dX12_fits_20 rfl ?_
      refine sz_iload_n dX12_fits_21 rfl ?_
      obtain ⟨q22, eq22, hf⟩ := gz_bd hf
      refine sz_callVv [.int x1] [] dX12_fits_22 mvX12_476 (Nat.le_of_ble_eq_true rfl) (by decide : 12 < 13) kd39 rfl (Nat.le_of_ble_eq_true rfl) (kX12_laysPaths   eq22) ?_
      refine sz_iconst dX12_fits_25 (cI0) ?_
      refine sz_istore_n dX12_fits_26 rfl (Nat.le_of_ble_eq_true rfl) rfl ?_
      refine sz_ls (l2 := [some (.ref 39), some (.int x1), some (.int x2), some (.int 0), none]) rfl ?_
      refine sz_iconst dX12_fits_27 (cI0) ?_
      refine sz_istore dX12_fits_28 (Nat.le_of_ble_eq_true rfl) rfl ?_
      refine sz_ls (l2 := [some (.ref 39), some (.int x1), some (.int x2), some (.int 0), some (.int 0)]) rfl ?_
      have hk79 : ∀ (x2 : Int32) (x3 : Int32) (g : gz_S) (r : Int32 × gz_S), (fun (x2 : Int32) (x3 : Int32) g => if x2 = (-1) then some (x3, g) else some ((-1), g)) x2 x3 g = some r → gz_J La 146 mX12_fits 79 [none, none, some (.int x2), some (.int x3), none] [] g (gz_Fi r) := by
        intro x2 x3 g r hf
        refine sz_iload_n dX12_fits_79 rfl ?_
        refine sz_iconst dX12_fits_80 (cIm1) ?_
        refine sz_icmp_ne 88 dX12_fits_81 (by decide) (fun c81 => ?_) (fun c81 => ?_)
        · have hf := gz_in1 c81 hf
          refine sz_iconst dX12_fits_88 (cIm1) ?_
          cases hf
          exact sz_iret dX12_fits_89 rfl rfl ⟨rfl, rfl⟩
        · have hf := gz_ip c81 hf
          refine sz_iload_n dX12_fits_84 rfl ?_
          refine sz_goto 89 dX12_fits_85 (by decide) ?_
          cases hf
          exact sz_iret dX12_fits_89 rfl rfl ⟨rfl, rfl⟩
      have hk55 : ∀ (x4 : Int32) (g : gz_S) (r : Int32 × gz_S), (fun (x4 : Int32) g => some (((10 : Int32) * ((x4 / 4) + 1)) + (x4 - x4 / 4 * 4), g)) x4 g = some r → gz_J La 146 mX12_fits 55 [none, none, none, none, some (.int x4)] [] g (gz_Fi r) := by
        intro x4 g r hf
        refine sz_bipush dX12_fits_55 (cB10) ?_
        refine sz_iload dX12_fits_57 rfl ?_
        refine sz_iconst dX12_fits_59 (cI4) ?_
        refine sz_idiv dX12_fits_60 (by decide) ?_
        refine sz_iconst dX12_fits_61 (cI1) ?_
        refine sz_iadd dX12_fits_62 ?_
        refine sz_imul dX12_fits_63 ?_
        refine sz_iload dX12_fits_64 rfl ?_
        refine sz_iconst dX12_fits_66 (cI4) ?_
        refine sz_irem dX12_fits_67 (by decide) ?_
        refine sz_iadd dX12_fits_68 ?_
        cases hf
        exact sz_iret dX12_fits_69 rfl rfl ⟨rfl, rfl⟩
      exact tX12_fits_30   hk79 hk55 _ _ _ _ _ _ _ hf
    · have hf := gz_in1 c15 hf
      refine sz_iconst dX12_fits_18 (cIm1) ?_
      cases hf
      exact sz_iret dX12_fits_19 rfl rfl ⟨rfl, rfl⟩
def fX12_ask_37 (La : gz_L)   (k58 : Int32 → Int32 → Int32 → Int32 → gz_S → Option (Int32 × gz_S)) : Nat → Int32 → Int32 → Int32 → Int32 → Int32 → gz_S → Option (Int32 × gz_S)
  | 0, _, _, _, _, _, _ => none
  | n + 1, x1, x2, x3, x4, x5, g => if 30 ≤ x5 then k58 x1 x2 x3 x4 g else if gz_ok x5 30 then gz_let (gz_wi g 61 (Int32.toNatClampNeg x5) 0) (fun g51 => gz_let (x5 + 1) (fun y52 => fX12_ask_37 La   k58 n x1 x2 x3 x4 y52 g51)) else none
set_option maxRecDepth 100000 in
set_option maxHeartbeats 4000000 in
theorem tX12_ask_37 {La : gz_L}   {k58 : Int32 → Int32 → Int32 → Int32 → gz_S → Option (Int32 × gz_S)}  (hk58 : ∀ (x1 : Int32) (x2 : Int32) (x3 : Int32) (x4 : Int32) (g : gz_S) (r : Int32 × gz_S), k58 x1 x2 x3 x4 g = some r → gz_J La 146 mX12_ask 58 [some (.ref 39), some (.int x1), some (.int x2), some (.int x3), some (.int x4), none, none] [] g (gz_Fi r)) : ∀ (n : Nat) (x1 : Int32) (x2 : Int32) (x3 : Int32) (x4 : Int32) (x5 : Int32) (g : gz_S) (r : Int32 × gz_S), fX12_ask_37 La   k58 n x1 x2 x3 x4 x5 g = some r → gz_J La 146 mX12_ask 37 [some (.ref 39), some (.int x1), some (.int x2), some (.int x3), some (.int x4), some (.int x5), none] [] g (gz_Fi r) := by
  intro n
  induction n with
  | zero => intro x1 x2 x3 x4 x5 g r hf; exact nomatch (show (none : Option (Int32 × gz_S)) = some r from hf)
  | succ n ih =>
    intro x1 x2 x3 x4 x5 g r hf
    unfold fX12_ask_37 at hf
    refine sz_iload dX12_ask_37 rfl ?_
    refine sz_bipush dX12_ask_39 (cB30) ?_
    refine sz_icmp_ge 58 dX12_ask_41 (by decide) (fun c41 => ?_) (fun c41 => ?_)
    · have hf := gz_ip c41 hf
      refine sz_weak (l2 := [some (.ref 39), some (.int x1), some (.int x2), some (.int x3), some (.int x4), none, none]) (gz_subk (gz_subk (gz_subk (gz_subk (gz_subk (gz_subn (gz_subk gz_sub0))))))) ?_
      exact hk58 _ _ _ _ _ _ hf
    · have hf := gz_in1 c41 hf
      refine sz_aload_n dX12_ask_44 rfl ?_
      refine sz_getR dX12_ask_45 flX12_95 kd39 rfl rf39_46 ?_
      refine sz_iload dX12_ask_48 rfl ?_
      refine sz_iconst dX12_ask_50 (cI0) ?_
      obtain ⟨c51, hf⟩ := gz_gd hf
      obtain ⟨g51, eg51, hf⟩ := gz_lt hf
      refine sz_iastL dX12_ask_51 kd61 c51 rfl eg51 ?_
      obtain ⟨y52, ey52, hf⟩ := gz_lt hf
      refine sz_iinc (v := y52) dX12_ask_52 rfl (by rw [ey52, cI1]) (Nat.le_of_ble_eq_true rfl) rfl ?_
      refine sz_ls (l2 := [some (.ref 39), some (.int x1), some (.int x2), some (.int x3), some (.int x4), some (.int y52), none]) rfl ?_
      refine sz_goto 37 dX12_ask_55 (by decide) ?_
      exact ih _ _ _ _ _ _ _ hf
def fX12_ask_100 (La : gz_L)   (k61 : Int32 → Int32 → Int32 → Int32 → Int32 → gz_S → Option (Int32 × gz_S)) (x1 : Int32) (x2 : Int32) (x3 : Int32) (x4 : Int32) (x5 : Int32) (g : gz_S) : Option (Int32 × gz_S) := gz_let (x5 + 1) (fun y100 => k61 x1 x2 x3 x4 y100 g)
set_option maxRecDepth 100000 in
set_option maxHeartbeats 4000000 in
theorem tX12_ask_100 {La : gz_L}   {k61 : Int32 → Int32 → Int32 → Int32 → Int32 → gz_S → Option (Int32 × gz_S)}  (hk61 : ∀ (x1 : Int32) (x2 : Int32) (x3 : Int32) (x4 : Int32) (x5 : Int32) (g : gz_S) (r : Int32 × gz_S), k61 x1 x2 x3 x4 x5 g = some r → gz_J La 146 mX12_ask 61 [some (.ref 39), some (.int x1), some (.int x2), some (.int x3), some (.int x4), some (.int x5), none] [] g (gz_Fi r)) : ∀ (x1 : Int32) (x2 : Int32) (x3 : Int32) (x4 : Int32) (x5 : Int32) (g : gz_S) (r : Int32 × gz_S), fX12_ask_100 La   k61 x1 x2 x3 x4 x5 g = some r → gz_J La 146 mX12_ask 100 [some (.ref 39), some (.int x1), some (.int x2), some (.int x3), some (.int x4), some (.int x5), none] [] g (gz_Fi r) := by
  intro x1 x2 x3 x4 x5 g r hf
  unfold fX12_ask_100 at hf
  obtain ⟨y100, ey100, hf⟩ := gz_lt hf
  refine sz_iinc (v := y100) dX12_ask_100 rfl (by rw [ey100, cI1]) (Nat.le_of_ble_eq_true rfl) rfl ?_
  refine sz_ls (l2 := [some (.ref 39), some (.int x1), some (.int x2), some (.int x3), some (.int x4), some (.int y100), none]) rfl ?_
  refine sz_goto 61 dX12_ask_103 (by decide) ?_
  exact hk61 _ _ _ _ _ _ _ hf
def fX12_ask_61 (La : gz_L)   (k106 : Int32 → Int32 → Int32 → Int32 → gz_S → Option (Int32 × gz_S)) : Nat → Int32 → Int32 → Int32 → Int32 → Int32 → gz_S → Option (Int32 × gz_S)
  | 0, _, _, _, _, _, _ => none
  | n + 1, x1, x2, x3, x4, x5, g => if 16 ≤ x5 then k106 x1 x2 x3 x4 g else (fX12_isFit La  x1 x5 g).bind (fun q72 => if q72.1 = 0 then fX12_ask_100 La   (fX12_ask_61 La   k106 n)  x1 x2 x3 x4 x5 q72.2 else if gz_ok (((31 : Int32) * x5) + x4) 496 then if gz_ok (q72.2.1 60 (Int32.toNatClampNeg (((31 : Int32) * x5) + x4))) 30 then if gz_ok (q72.2.1 60 (Int32.toNatClampNeg (((31 : Int32) * x5) + x4))) 30 then gz_let (gz_wi q72.2 61 (Int32.toNatClampNeg (q72.2.1 60 (Int32.toNatClampNeg (((31 : Int32) * x5) + x4)))) ((q72.2.1 61 (Int32.toNatClampNeg (q72.2.1 60 (Int32.toNatClampNeg (((31 : Int32) * x5) + x4))))) + 1)) (fun g99 => fX12_ask_100 La   (fX12_ask_61 La   k106 n)  x1 x2 x3 x4 x5 g99) else none else none else none)
set_option maxRecDepth 100000 in
set_option maxHeartbeats 4000000 in
theorem tX12_ask_61 {La : gz_L}   {k106 : Int32 → Int32 → Int32 → Int32 → gz_S → Option (Int32 × gz_S)}  (hk106 : ∀ (x1 : Int32) (x2 : Int32) (x3 : Int32) (x4 : Int32) (g : gz_S) (r : Int32 × gz_S), k106 x1 x2 x3 x4 g = some r → gz_J La 146 mX12_ask 106 [some (.ref 39), some (.int x1), some (.int x2), some (.int x3), some (.int x4), none, none] [] g (gz_Fi r)) : ∀ (n : Nat) (x1 : Int32) (x2 : Int32) (x3 : Int32) (x4 : Int32) (x5 : Int32) (g : gz_S) (r : Int32 × gz_S), fX12_ask_61 La   k106 n x1 x2 x3 x4 x5 g = some r → gz_J La 146 mX12_ask 61 [some (.ref 39), some (.int x1), some (.int x2), some (.int x3), some (.int x4), some (.int x5), none] [] g (gz_Fi r) := by
  intro n
  induction n with
  | zero => intro x1 x2 x3 x4 x5 g r hf; exact nomatch (show (none : Option (Int32 × gz_S)) = some r from hf)
  | succ n ih =>
    intro x1 x2 x3 x4 x5 g r hf
    unfold fX12_ask_61 at hf
    refine sz_iload dX12_ask_61 rfl ?_
    refine sz_bipush dX12_ask_63 (cB16) ?_
    refine sz_icmp_ge 106 dX12_ask_65 (by decide) (fun c65 => ?_) (fun c65 => ?_)
    · have hf := gz_ip c65 hf
      refine sz_weak (l2 := [some (.ref 39), some (.int x1), some (.int x2), some (.int x3), some (.int x4), none, none]) (gz_subk (gz_subk (gz_subk (gz_subk (gz_subk (gz_subn (gz_subk gz_sub0))))))) ?_
      exact hk106 _ _ _ _ _ _ hf
    · have hf := gz_in1 c65 hf
      refine sz_aload_n dX12_ask_68 rfl ?_
      refine sz_iload_n dX12_ask_69 rfl ?_
      refine sz_iload dX12_ask_70 rfl ?_
      obtain ⟨q72, eq72, hf⟩ := gz_bd hf
      refine sz_callVi [.int x1, .int x5] [] dX12_ask_72 mvX12_479 (Nat.le_of_ble_eq_true rfl) (by decide : 12 < 13) kd39 rfl (Nat.le_of_ble_eq_true rfl) (kX12_isFit   eq72) ?_
      refine sz_if_eq 100 dX12_ask_75 (by decide) (fun c75 => ?_) (fun c75 => ?_)
      · have hf := gz_ip c75 hf
        exact tX12_ask_100   ih _ _ _ _ _ _ _ hf
      · have hf := gz_in1 c75 hf
        refine sz_aload_n dX12_ask_78 rfl ?_
        refine sz_getR dX12_ask_79 flX12_95 kd39 rfl rf39_46 ?_
        refine sz_aload_n dX12_ask_82 rfl ?_
        refine sz_getR dX12_ask_83 flX12_92 kd39 rfl rf39_45 ?_
        refine sz_bipush dX12_ask_86 (cB31) ?_
        refine sz_iload dX12_ask_88 rfl ?_
        refine sz_imul dX12_ask_90 ?_
        refine sz_iload dX12_ask_91 rfl ?_
        refine sz_iadd dX12_ask_93 ?_
        obtain ⟨c94, hf⟩ := gz_gd hf
        refine sz_ialdL dX12_ask_94 kd60 c94 rfl ?_
        refine sz_dup2 dX12_ask_95 rfl rfl ?_
        obtain ⟨c96, hf⟩ := gz_gd hf
        refine sz_ialdL dX12_ask_96 kd61 c96 rfl ?_
        refine sz_iconst dX12_ask_97 (cI1) ?_
        refine sz_iadd dX12_ask_98 ?_
        obtain ⟨c99, hf⟩ := gz_gd hf
        obtain ⟨g99, eg99, hf⟩ := gz_lt hf
        refine sz_iastL dX12_ask_99 kd61 c99 rfl eg99 ?_
        exact tX12_ask_100   ih _ _ _ _ _ _ _ hf
def fX12_ask_112 (La : gz_L)   (k139 : Int32 → Int32 → Int32 → Int32 → Int32 → gz_S → Option (Int32 × gz_S)) : Nat → Int32 → Int32 → Int32 → Int32 → Int32 → Int32 → gz_S → Option (Int32 × gz_S)
  | 0, _, _, _, _, _, _, _ => none
  | n + 1, x1, x2, x3, x4, x5, x6, g => if 30 ≤ x6 then k139 x1 x2 x3 x4 x5 g else if gz_ok x6 30 then (fJ9_max_7cf53 La  x5 (g.1 61 (Int32.toNatClampNeg x6)) g).bind (fun q128 => gz_let (x6 + 1) (fun y133 => fX12_ask_112 La   k139 n x1 x2 x3 x4 q128.1 y133 q128.2)) else none
set_option maxRecDepth 100000 in
set_option maxHeartbeats 4000000 in
theorem tX12_ask_112 {La : gz_L}   {k139 : Int32 → Int32 → Int32 → Int32 → Int32 → gz_S → Option (Int32 × gz_S)}  (hk139 : ∀ (x1 : Int32) (x2 : Int32) (x3 : Int32) (x4 : Int32) (x5 : Int32) (g : gz_S) (r : Int32 × gz_S), k139 x1 x2 x3 x4 x5 g = some r → gz_J La 146 mX12_ask 139 [some (.ref 39), some (.int x1), some (.int x2), some (.int x3), some (.int x4), some (.int x5), none] [] g (gz_Fi r)) : ∀ (n : Nat) (x1 : Int32) (x2 : Int32) (x3 : Int32) (x4 : Int32) (x5 : Int32) (x6 : Int32) (g : gz_S) (r : Int32 × gz_S), fX12_ask_112 La   k139 n x1 x2 x3 x4 x5 x6 g = some r → gz_J La 146 mX12_ask 112 [some (.ref 39), some (.int x1), some (.int x2), some (.int x3), some (.int x4), some (.int x5), some (.int x6)] [] g (gz_Fi r) := by
  intro n
  induction n with
  | zero => intro x1 x2 x3 x4 x5 x6 g r hf; exact nomatch (show (none : Option (Int32 × gz_S)) = some r from hf)
  | succ n ih =>
    intro x1 x2 x3 x4 x5 x6 g r hf
    unfold fX12_ask_112 at hf
    refine sz_iload dX12_ask_112 rfl ?_
    refine sz_bipush dX12_ask_114 (cB30) ?_
    refine sz_icmp_ge 139 dX12_ask_116 (by decide) (fun c116 => ?_) (fun c116 => ?_)
    · have hf := gz_ip c116 hf
      refine sz_weak (l2 := [some (.ref 39), some (.int x1), some (.int x2), some (.int x3), some (.int x4), some (.int x5), none]) (gz_subk (gz_subk (gz_subk (gz_subk (gz_subk (gz_subk (gz_subn gz_sub0))))))) ?_
      exact hk139 _ _ _ _ _ _ _ hf
    · have hf := gz_in1 c116 hf
      refine sz_iload dX12_ask_119 rfl ?_
      refine sz_aload_n dX12_ask_121 rfl ?_
      refine sz_getR dX12_ask_122 flX12_95 kd39 rfl rf39_46 ?_
      refine sz_iload dX12_ask_125 rfl ?_
      obtain ⟨c127, hf⟩ := gz_gd hf
      refine sz_ialdL dX12_ask_127 kd61 c127 rfl ?_
      obtain ⟨q128, eq128, hf⟩ := gz_bd hf
      refine sz_callSi [.int x5, .int (g.1 61 (Int32.toNatClampNeg x6))] [] dX12_ask_128 msX12_371 (Nat.le_of_ble_eq_true rfl) (Nat.le_of_ble_eq_true rfl) (kJ9_max_7cf53   eq128) ?_
      refine sz_istore dX12_ask_131 (Nat.le_of_ble_eq_true rfl) rfl ?_
      refine sz_ls (l2 := [some (.ref 39), some (.int x1), some (.int x2), some (.int x3), some (.int x4), some (.int q128.1), some (.int x6)]) rfl ?_
      obtain ⟨y133, ey133, hf⟩ := gz_lt hf
      refine sz_iinc (v := y133) dX12_ask_133 rfl (by rw [ey133, cI1]) (Nat.le_of_ble_eq_true rfl) rfl ?_
      refine sz_ls (l2 := [some (.ref 39), some (.int x1), some (.int x2), some (.int x3), some (.int x4), some (.int q128.1), some (.int y133)]) rfl ?_
      refine sz_goto 112 dX12_ask_136 (by decide) ?_
      exact ih _ _ _ _ _ _ _ _ hf
def fX12_ask_166 (La : gz_L)   (k27 : Int32 → Int32 → Int32 → Int32 → gz_S → Option (Int32 × gz_S)) (x1 : Int32) (x2 : Int32) (x3 : Int32) (x4 : Int32) (g : gz_S) : Option (Int32 × gz_S) := gz_let (x4 + 1) (fun y166 => k27 x1 x2 x3 y166 g)
set_option maxRecDepth 100000 in
set_option maxHeartbeats 4000000 in
theorem tX12_ask_166 {La : gz_L}   {k27 : Int32 → Int32 → Int32 → Int32 → gz_S → Option (Int32 × gz_S)}  (hk27 : ∀ (x1 : Int32) (x2 : Int32) (x3 : Int32) (x4 : Int32) (g : gz_S) (r : Int32 × gz_S), k27 x1 x2 x3 x4 g = some r → gz_J La 146 mX12_ask 27 [some (.ref 39), some (.int x1), some (.int x2), some (.int x3), some (.int x4), none, none] [] g (gz_Fi r)) : ∀ (x1 : Int32) (x2 : Int32) (x3 : Int32) (x4 : Int32) (g : gz_S) (r : Int32 × gz_S), fX12_ask_166 La   k27 x1 x2 x3 x4 g = some r → gz_J La 146 mX12_ask 166 [some (.ref 39), some (.int x1), some (.int x2), some (.int x3), some (.int x4), none, none] [] g (gz_Fi r) := by
  intro x1 x2 x3 x4 g r hf
  unfold fX12_ask_166 at hf
  obtain ⟨y166, ey166, hf⟩ := gz_lt hf
  refine sz_iinc (v := y166) dX12_ask_166 rfl (by rw [ey166, cI1]) (Nat.le_of_ble_eq_true rfl) rfl ?_
  refine sz_ls (l2 := [some (.ref 39), some (.int x1), some (.int x2), some (.int x3), some (.int y166), none, none]) rfl ?_
  refine sz_goto 27 dX12_ask_169 (by decide) ?_
  exact hk27 _ _ _ _ _ _ hf
def fX12_ask_160 (La : gz_L)   (k27 : Int32 → Int32 → Int32 → Int32 → gz_S → Option (Int32 × gz_S)) (x1 : Int32) (x4 : Int32) (x5 : Int32) (g : gz_S) : Option (Int32 × gz_S) := fX12_ask_166 La   k27  x1 x4 x5 x4 g
set_option maxRecDepth 100000 in
set_option maxHeartbeats 4000000 in
theorem tX12_ask_160 {La : gz_L}   {k27 : Int32 → Int32 → Int32 → Int32 → gz_S → Option (Int32 × gz_S)}  (hk27 : ∀ (x1 : Int32) (x2 : Int32) (x3 : Int32) (x4 : Int32) (g : gz_S) (r : Int32 × gz_S), k27 x1 x2 x3 x4 g = some r → gz_J La 146 mX12_ask 27 [some (.ref 39), some (.int x1), some (.int x2), some (.int x3), some (.int x4), none, none] [] g (gz_Fi r)) : ∀ (x1 : Int32) (x4 : Int32) (x5 : Int32) (g : gz_S) (r : Int32 × gz_S), fX12_ask_160 La   k27 x1 x4 x5 g = some r → gz_J La 146 mX12_ask 160 [some (.ref 39), some (.int x1), none, none, some (.int x4), some (.int x5), none] [] g (gz_Fi r) := by
  intro x1 x4 x5 g r hf
  unfold fX12_ask_160 at hf
  refine sz_iload dX12_ask_160 rfl ?_
  refine sz_istore_n dX12_ask_162 rfl (Nat.le_of_ble_eq_true rfl) rfl ?_
  refine sz_ls (l2 := [some (.ref 39), some (.int x1), some (.int x4), none, some (.int x4), some (.int x5), none]) rfl ?_
  refine sz_iload dX12_ask_163 rfl ?_
  refine sz_istore_n dX12_ask_165 rfl (Nat.le_of_ble_eq_true rfl) rfl ?_
  refine sz_ls (l2 := [some (.ref 39), some (.int x1), some (.int x4), some (.int x5), some (.int x4), some (.int x5), none]) rfl ?_
  refine sz_weak (l2 := [some (.ref 39), some (.int x1), some (.int x4), some (.int x5), some (.int x4), none, none]) (gz_subk (gz_subk (gz_subk (gz_subk (gz_subk (gz_subn (gz_subk gz_sub0))))))) ?_
  exact tX12_ask_166   hk27 _ _ _ _ _ _ hf
def fX12_ask_27 (La : gz_L)    : Nat → Int32 → Int32 → Int32 → Int32 → gz_S → Option (Int32 × gz_S)
  | 0, _, _, _, _, _ => none
  | n + 1, x1, x2, x3, x4, g => if 30 < x4 then some (x2, g) else fX12_ask_37 La   (fun (x1 : Int32) (x2 : Int32) (x3 : Int32) (x4 : Int32) g => fX12_ask_61 La   (fun (x1 : Int32) (x2 : Int32) (x3 : Int32) (x4 : Int32) g => fX12_ask_112 La   (fun (x1 : Int32) (x2 : Int32) (x3 : Int32) (x4 : Int32) (x5 : Int32) g => if x5 = 0 then some ((-1), g) else if x2 = (-1) then fX12_ask_160 La   (fX12_ask_27 La    n)  x1 x4 x5 g else if x5 < x3 then fX12_ask_160 La   (fX12_ask_27 La    n)  x1 x4 x5 g else fX12_ask_166 La   (fX12_ask_27 La    n)  x1 x2 x3 x4 g) gz_FU x1 x2 x3 x4 0 0 g) gz_FU x1 x2 x3 x4 0 g) gz_FU x1 x2 x3 x4 0 g
set_option maxRecDepth 100000 in
set_option maxHeartbeats 4000000 in
theorem tX12_ask_27 {La : gz_L}      : ∀ (n : Nat) (x1 : Int32) (x2 : Int32) (x3 : Int32) (x4 : Int32) (g : gz_S) (r : Int32 × gz_S), fX12_ask_27 La    n x1 x2 x3 x4 g = some r → gz_J La 146 mX12_ask 27 [some (.ref 39), some (.int x1), some (.int x2), some (.int x3), some (.int x4), none, none] [] g (gz_Fi r) := by
  intro n
  induction n with
  | zero => intro x1 x2 x3 x4 g r hf; exact nomatch (show (none : Option (Int32 × gz_S)) = some r from hf)
  | succ n ih =>
    intro x1 x2 x3 x4 g r hf
    unfold fX12_ask_27 at hf
    refine sz_iload dX12_ask_27 rfl ?_
    refine sz_bipush dX12_ask_29 (cB30) ?_
    refine sz_icmp_gt 172 dX12_ask_31 (by decide) (fun c31 => ?_) (fun c31 => ?_)
    · have hf := gz_ip c31 hf
      refine sz_iload_n dX12_ask_172 rfl ?_
      cases hf
      exact sz_iret dX12_ask_173 rfl rfl ⟨rfl, rfl⟩
    · have hf := gz_in1 c31 hf
      refine sz_iconst dX12_ask_34 (cI0) ?_
      refine sz_istore dX12_ask_35 (Nat.le_of_ble_eq_true rfl) rfl ?_
      refine sz_ls (l2 := [some (.ref 39), some (.int x1), some (.int x2), some (.int x3), some (.int x4), some (.int 0), none]) rfl ?_
      have hk58 : ∀ (x1 : Int32) (x2 : Int32) (x3 : Int32) (x4 : Int32) (g : gz_S) (r : Int32 × gz_S), (fun (x1 : Int32) (x2 : Int32) (x3 : Int32) (x4 : Int32) g => fX12_ask_61 La   (fun (x1 : Int32) (x2 : Int32) (x3 : Int32) (x4 : Int32) g => fX12_ask_112 La   (fun (x1 : Int32) (x2 : Int32) (x3 : Int32) (x4 : Int32) (x5 : Int32) g => if x5 = 0 then some ((-1), g) else if x2 = (-1) then fX12_ask_160 La   (fX12_ask_27 La    n)  x1 x4 x5 g else if x5 < x3 then fX12_ask_160 La   (fX12_ask_27 La    n)  x1 x4 x5 g else fX12_ask_166 La   (fX12_ask_27 La    n)  x1 x2 x3 x4 g) gz_FU x1 x2 x3 x4 0 0 g) gz_FU x1 x2 x3 x4 0 g) x1 x2 x3 x4 g = some r → gz_J La 146 mX12_ask 58 [some (.ref 39), some (.int x1), some (.int x2), some (.int x3), some (.int x4), none, none] [] g (gz_Fi r) := by
        intro x1 x2 x3 x4 g r hf
        refine sz_iconst dX12_ask_58 (cI0) ?_
        refine sz_istore dX12_ask_59 (Nat.le_of_ble_eq_true rfl) rfl ?_
        refine sz_ls (l2 := [some (.ref 39), some (.int x1), some (.int x2), some (.int x3), some (.int x4), some (.int 0), none]) rfl ?_
        have hk106 : ∀ (x1 : Int32) (x2 : Int32) (x3 : Int32) (x4 : Int32) (g : gz_S) (r : Int32 × gz_S), (fun (x1 : Int32) (x2 : Int32) (x3 : Int32) (x4 : Int32) g => fX12_ask_112 La   (fun (x1 : Int32) (x2 : Int32) (x3 : Int32) (x4 : Int32) (x5 : Int32) g => if x5 = 0 then some ((-1), g) else if x2 = (-1) then fX12_ask_160 La   (fX12_ask_27 La    n)  x1 x4 x5 g else if x5 < x3 then fX12_ask_160 La   (fX12_ask_27 La    n)  x1 x4 x5 g else fX12_ask_166 La   (fX12_ask_27 La    n)  x1 x2 x3 x4 g) gz_FU x1 x2 x3 x4 0 0 g) x1 x2 x3 x4 g = some r → gz_J La 146 mX12_ask 106 [some (.ref 39), some (.int x1), some (.int x2), some (.int x3), some (.int x4), none, none] [] g (gz_Fi r) := by
          intro x1 x2 x3 x4 g r hf
          refine sz_iconst dX12_ask_106 (cI0) ?_
          refine sz_istore dX12_ask_107 (Nat.le_of_ble_eq_true rfl) rfl ?_
          refine sz_ls (l2 := [some (.ref 39), some (.int x1), some (.int x2), some (.int x3), some (.int x4), some (.int 0), none]) rfl ?_
          refine sz_iconst dX12_ask_109 (cI0) ?_
          refine sz_istore dX12_ask_110 (Nat.le_of_ble_eq_true rfl) rfl ?_
          refine sz_ls (l2 := [some (.ref 39), some (.int x1), some (.int x2), some (.int x3), some (.int x4), some (.int 0), some (.int 0)]) rfl ?_
          have hk139 : ∀ (x1 : Int32) (x2 : Int32) (x3 : Int32) (x4 : Int32) (x5 : Int32) (g : gz_S) (r : Int32 × gz_S), (fun (x1 : Int32) (x2 : Int32) (x3 : Int32) (x4 : Int32) (x5 : Int32) g => if x5 = 0 then some ((-1), g) else if x2 = (-1) then fX12_ask_160 La   (fX12_ask_27 La    n)  x1 x4 x5 g else if x5 < x3 then fX12_ask_160 La   (fX12_ask_27 La    n)  x1 x4 x5 g else fX12_ask_166 La   (fX12_ask_27 La    n)  x1 x2 x3 x4 g) x1 x2 x3 x4 x5 g = some r → gz_J La 146 mX12_ask 139 [some (.ref 39), some (.int x1), some (.int x2), some (.int x3), some (.int x4), some (.int x5), none] [] g (gz_Fi r) := by
            intro x1 x2 x3 x4 x5 g r hf
            refine sz_iload dX12_ask_139 rfl ?_
            refine sz_if_ne 146 dX12_ask_141 (by decide) (fun c141 => ?_) (fun c141 => ?_)
            · have hf := gz_in1 c141 hf
              refine sz_iload_n dX12_ask_146 rfl ?_
              refine sz_iconst dX12_ask_147 (cIm1) ?_
              refine sz_icmp_eq 160 dX12_ask_148 (by decide) (fun c148 => ?_) (fun c148 => ?_)
              · have hf := gz_ip c148 hf
                refine sz_weak (l2 := [some (.ref 39), some (.int x1), none, none, some (.int x4), some (.int x5), none]) (gz_subk (gz_subk (gz_subn (gz_subn (gz_subk (gz_subk (gz_subk gz_sub0))))))) ?_
                exact tX12_ask_160   ih _ _ _ _ _ hf
              · have hf := gz_in1 c148 hf
                refine sz_iload dX12_ask_151 rfl ?_
                refine sz_iload_n dX12_ask_153 rfl ?_
                refine sz_icmp_lt 160 dX12_ask_154 (by decide) (fun c154 => ?_) (fun c154 => ?_)
                · have hf := gz_ip c154 hf
                  refine sz_weak (l2 := [some (.ref 39), some (.int x1), none, none, some (.int x4), some (.int x5), none]) (gz_subk (gz_subk (gz_subn (gz_subn (gz_subk (gz_subk (gz_subk gz_sub0))))))) ?_
                  exact tX12_ask_160   ih _ _ _ _ _ hf
                · have hf := gz_in1 c154 hf
                  refine sz_goto 166 dX12_ask_157 (by decide) ?_
                  refine sz_weak (l2 := [some (.ref 39), some (.int x1), some (.int x2), some (.int x3), some (.int x4), none, none]) (gz_subk (gz_subk (gz_subk (gz_subk (gz_subk (gz_subn (gz_subk gz_sub0))))))) ?_
                  exact tX12_ask_166   ih _ _ _ _ _ _ hf
            · have hf := gz_ip c141 hf
              refine sz_iconst dX12_ask_144 (cIm1) ?_
              cases hf
              exact sz_iret dX12_ask_145 rfl rfl ⟨rfl, rfl⟩
          exact tX12_ask_112   hk139 _ _ _ _ _ _ _ _ _ hf
        exact tX12_ask_61   hk106 _ _ _ _ _ _ _ _ hf
      exact tX12_ask_37   hk58 _ _ _ _ _ _ _ _ hf
def fX12_ask (La : gz_L)  (x1 : Int32) (g : gz_S) : Option (Int32 × gz_S) :=
  gz_let (gz_wi g 39 0 0) (fun g2 => (fX12_isGoer La  x1 g2).bind (fun q7 => if q7.1 = 0 then some ((-1), q7.2) else (fX12_laysPaths La  x1 q7.2).bind (fun q17 => fX12_ask_27 La    gz_FU x1 (-1) 0 1 q17)))
set_option maxRecDepth 100000 in
set_option maxHeartbeats 4000000 in
theorem kX12_ask {La : gz_L}  {x1 : Int32} {g : gz_S} {r : Int32 × gz_S}  (hf : fX12_ask La  x1 g = some r) : gz_K La 146 mX12_ask [.ref 39, .int x1] g (gz_Fi r) := by
  unfold fX12_ask at hf
  refine gz_K.of 5 (by decide +kernel) rfl ?_
  show gz_J La 146 mX12_ask 0 [some (.ref 39), some (.int x1), none, none, none, none, none] [] g (gz_Fi r)
  refine sz_aload_n dX12_ask_0 rfl ?_
  refine sz_iconst dX12_ask_1 (cI0) ?_
  obtain ⟨g2, eg2, hf⟩ := gz_lt hf
  refine sz_putI2 dX12_ask_2 flX12_104 kd39 fi12_0 eg2 ?_
  refine sz_aload_n dX12_ask_5 rfl ?_
  refine sz_iload_n dX12_ask_6 rfl ?_
  obtain ⟨q7, eq7, hf⟩ := gz_bd hf
  refine sz_callVi [.int x1] [] dX12_ask_7 mvX12_325 (Nat.le_of_ble_eq_true rfl) (by decide : 12 < 13) kd39 rfl (Nat.le_of_ble_eq_true rfl) (kX12_isGoer   eq7) ?_
  refine sz_if_ne 15 dX12_ask_10 (by decide) (fun c10 => ?_) (fun c10 => ?_)
  · have hf := gz_in1 c10 hf
    refine sz_aload_n dX12_ask_15 rfl ?_
    refine sz_iload_n dX12_ask_16 rfl ?_
    obtain ⟨q17, eq17, hf⟩ := gz_bd hf
    refine sz_callVv [.int x1] [] dX12_ask_17 mvX12_476 (Nat.le_of_ble_eq_true rfl) (by decide : 12 < 13) kd39 rfl (Nat.le_of_ble_eq_true rfl) (kX12_laysPaths   eq17) ?_
    refine sz_iconst dX12_ask_20 (cIm1) ?_
    refine sz_istore_n dX12_ask_21 rfl (Nat.le_of_ble_eq_true rfl) rfl ?_
    refine sz_ls (l2 := [some (.ref 39), some (.int x1), some (.int (-1)), none, none, none, none]) rfl ?_
    refine sz_iconst dX12_ask_22 (cI0) ?_
    refine sz_istore_n dX12_ask_23 rfl (Nat.le_of_ble_eq_true rfl) rfl ?_
    refine sz_ls (l2 := [some (.ref 39), some (.int x1), some (.int (-1)), some (.int 0), none, none, none]) rfl ?_
    refine sz_iconst dX12_ask_24 (cI1) ?_
    refine sz_istore dX12_ask_25 (Nat.le_of_ble_eq_true rfl) rfl ?_
    refine sz_ls (l2 := [some (.ref 39), some (.int x1), some (.int (-1)), some (.int 0), some (.int 1), none, none]) rfl ?_
    exact tX12_ask_27    _ _ _ _ _ _ _ hf
  · have hf := gz_ip c10 hf
    refine sz_iconst dX12_ask_13 (cIm1) ?_
    cases hf
    exact sz_iret dX12_ask_14 rfl rfl ⟨rfl, rfl⟩
def fX12_gameOf_116 (La : gz_L)   (k66 : Int32 → Int32 → Int32 → Int32 → Int32 → Int32 → gz_S → Option (Int32 × gz_S)) (x1 : Int32) (x2 : Int32) (x6 : Int32) (x7 : Int32) (x9 : Int32) (s0 : Int32) (g : gz_S) : Option (Int32 × gz_S) := gz_let (x9 + 1) (fun y118 => k66 x1 x2 x6 x7 s0 y118 g)
set_option maxRecDepth 100000 in
set_option maxHeartbeats 4000000 in
theorem tX12_gameOf_116 {La : gz_L}   {k66 : Int32 → Int32 → Int32 → Int32 → Int32 → Int32 → gz_S → Option (Int32 × gz_S)}  (hk66 : ∀ (x1 : Int32) (x2 : Int32) (x6 : Int32) (x7 : Int32) (x8 : Int32) (x9 : Int32) (g : gz_S) (r : Int32 × gz_S), k66 x1 x2 x6 x7 x8 x9 g = some r → gz_J La 146 mX12_gameOf 66 [some (.ref 39), some (.int x1), some (.int x2), none, none, none, some (.int x6), some (.int x7), some (.int x8), some (.int x9), none] [] g (gz_Fi r)) : ∀ (x1 : Int32) (x2 : Int32) (x6 : Int32) (x7 : Int32) (x9 : Int32) (s0 : Int32) (g : gz_S) (r : Int32 × gz_S), fX12_gameOf_116 La   k66 x1 x2 x6 x7 x9 s0 g = some r → gz_J La 146 mX12_gameOf 116 [some (.ref 39), some (.int x1), some (.int x2), none, none, none, some (.int x6), some (.int x7), none, some (.int x9), none] [.int s0] g (gz_Fi r) := by
  intro x1 x2 x6 x7 x9 s0 g r hf
  unfold fX12_gameOf_116 at hf
  refine sz_istore dX12_gameOf_116 (Nat.le_of_ble_eq_true rfl) rfl ?_
  refine sz_ls (l2 := [some (.ref 39), some (.int x1), some (.int x2), none, none, none, some (.int x6), some (.int x7), some (.int s0), some (.int x9), none]) rfl ?_
  obtain ⟨y118, ey118, hf⟩ := gz_lt hf
  refine sz_iinc (v := y118) dX12_gameOf_118 rfl (by rw [ey118, cI1]) (Nat.le_of_ble_eq_true rfl) rfl ?_
  refine sz_ls (l2 := [some (.ref 39), some (.int x1), some (.int x2), none, none, none, some (.int x6), some (.int x7), some (.int s0), some (.int y118), none]) rfl ?_
  refine sz_goto 66 dX12_gameOf_121 (by decide) ?_
  exact hk66 _ _ _ _ _ _ _ _ hf
def fX12_gameOf_111 (La : gz_L)   (k66 : Int32 → Int32 → Int32 → Int32 → Int32 → Int32 → gz_S → Option (Int32 × gz_S)) (x1 : Int32) (x2 : Int32) (x6 : Int32) (x7 : Int32) (x9 : Int32) (g : gz_S) : Option (Int32 × gz_S) := fX12_gameOf_116 La   k66  x1 x2 x6 x7 x9 1 g
set_option maxRecDepth 100000 in
set_option maxHeartbeats 4000000 in
theorem tX12_gameOf_111 {La : gz_L}   {k66 : Int32 → Int32 → Int32 → Int32 → Int32 → Int32 → gz_S → Option (Int32 × gz_S)}  (hk66 : ∀ (x1 : Int32) (x2 : Int32) (x6 : Int32) (x7 : Int32) (x8 : Int32) (x9 : Int32) (g : gz_S) (r : Int32 × gz_S), k66 x1 x2 x6 x7 x8 x9 g = some r → gz_J La 146 mX12_gameOf 66 [some (.ref 39), some (.int x1), some (.int x2), none, none, none, some (.int x6), some (.int x7), some (.int x8), some (.int x9), none] [] g (gz_Fi r)) : ∀ (x1 : Int32) (x2 : Int32) (x6 : Int32) (x7 : Int32) (x9 : Int32) (g : gz_S) (r : Int32 × gz_S), fX12_gameOf_111 La   k66 x1 x2 x6 x7 x9 g = some r → gz_J La 146 mX12_gameOf 111 [some (.ref 39), some (.int x1), some (.int x2), none, none, none, some (.int x6), some (.int x7), none, some (.int x9), none] [] g (gz_Fi r) := by
  intro x1 x2 x6 x7 x9 g r hf
  unfold fX12_gameOf_111 at hf
  refine sz_iconst dX12_gameOf_111 (cI1) ?_
  refine sz_goto 116 dX12_gameOf_112 (by decide) ?_
  exact tX12_gameOf_116   hk66 _ _ _ _ _ _ _ _ hf
def fX12_gameOf_66 (La : gz_L)   (k124 : Int32 → Int32 → Int32 → gz_S → Option (Int32 × gz_S)) : Nat → Int32 → Int32 → Int32 → Int32 → Int32 → Int32 → gz_S → Option (Int32 × gz_S)
  | 0, _, _, _, _, _, _, _ => none
  | n + 1, x1, x2, x6, x7, x8, x9, g => if 6 ≤ x9 then k124 x6 x7 x8 g else (fX12_passes La  54 g).bind (fun q78 => if gz_ok x6 231 then gz_let (x7 ||| ((1 : Int32) <<< ((q78.2.1 54 (Int32.toNatClampNeg x6)) &&& 31))) (fun y95 => if x8 = 0 then (fX12_haveMet La  x1 x2 q78.2).bind (fun q105 => if q105.1 = 0 then fX12_gameOf_116 La   (fX12_gameOf_66 La   k124 n)  x1 x2 x6 y95 x9 0 q105.2 else fX12_gameOf_111 La   (fX12_gameOf_66 La   k124 n)  x1 x2 x6 y95 x9 q105.2) else fX12_gameOf_111 La   (fX12_gameOf_66 La   k124 n)  x1 x2 x6 y95 x9 q78.2) else none)
set_option maxRecDepth 100000 in
set_option maxHeartbeats 4000000 in
theorem tX12_gameOf_66 {La : gz_L}   {k124 : Int32 → Int32 → Int32 → gz_S → Option (Int32 × gz_S)}  (hk124 : ∀ (x6 : Int32) (x7 : Int32) (x8 : Int32) (g : gz_S) (r : Int32 × gz_S), k124 x6 x7 x8 g = some r → gz_J La 146 mX12_gameOf 124 [some (.ref 39), none, none, none, none, none, some (.int x6), some (.int x7), some (.int x8), none, none] [] g (gz_Fi r)) : ∀ (n : Nat) (x1 : Int32) (x2 : Int32) (x6 : Int32) (x7 : Int32) (x8 : Int32) (x9 : Int32) (g : gz_S) (r : Int32 × gz_S), fX12_gameOf_66 La   k124 n x1 x2 x6 x7 x8 x9 g = some r → gz_J La 146 mX12_gameOf 66 [some (.ref 39), some (.int x1), some (.int x2), none, none, none, some (.int x6), some (.int x7), some (.int x8), some (.int x9), none] [] g (gz_Fi r) := by
  intro n
  induction n with
  | zero => intro x1 x2 x6 x7 x8 x9 g r hf; exact nomatch (show (none : Option (Int32 × gz_S)) = some r from hf)
  | succ n ih =>
    intro x1 x2 x6 x7 x8 x9 g r hf
    unfold fX12_gameOf_66 at hf
    refine sz_iload dX12_gameOf_66 rfl ?_
    refine sz_bipush dX12_gameOf_68 (cB6) ?_
    refine sz_icmp_ge 124 dX12_gameOf_70 (by decide) (fun c70 => ?_) (fun c70 => ?_)
    · have hf := gz_ip c70 hf
      refine sz_weak (l2 := [some (.ref 39), none, none, none, none, none, some (.int x6), some (.int x7), some (.int x8), none, none]) (gz_subk (gz_subn (gz_subn (gz_subk (gz_subk (gz_subk (gz_subk (gz_subk (gz_subk (gz_subn (gz_subk gz_sub0))))))))))) ?_
      exact hk124 _ _ _ _ _ hf
    · have hf := gz_in1 c70 hf
      refine sz_aload_n dX12_gameOf_73 rfl ?_
      refine sz_aload_n dX12_gameOf_74 rfl ?_
      refine sz_getR dX12_gameOf_75 flX12_67 kd39 rfl rf39_33 ?_
      obtain ⟨q78, eq78, hf⟩ := gz_bd hf
      refine sz_callVi [.ref 54] [] dX12_gameOf_78 mvX12_367 (Nat.le_of_ble_eq_true rfl) (by decide : 12 < 13) kd39 rfl (Nat.le_of_ble_eq_true rfl) (kX12_passes  (Or.inr rfl) eq78) ?_
      refine sz_istore dX12_gameOf_81 (Nat.le_of_ble_eq_true rfl) rfl ?_
      refine sz_ls (l2 := [some (.ref 39), some (.int x1), some (.int x2), none, none, none, some (.int x6), some (.int x7), some (.int x8), some (.int x9), some (.int q78.1)]) rfl ?_
      refine sz_iload dX12_gameOf_83 rfl ?_
      refine sz_iconst dX12_gameOf_85 (cI1) ?_
      refine sz_aload_n dX12_gameOf_86 rfl ?_
      refine sz_getR dX12_gameOf_87 flX12_67 kd39 rfl rf39_33 ?_
      refine sz_iload dX12_gameOf_90 rfl ?_
      obtain ⟨c92, hf⟩ := gz_gd hf
      refine sz_ialdL dX12_gameOf_92 kd54 c92 rfl ?_
      refine sz_ishl dX12_gameOf_93 ?_
      refine sz_ior dX12_gameOf_94 ?_
      obtain ⟨y95, ey95, hf⟩ := gz_lt hf
      refine sz_topi ey95 ?_
      refine sz_istore dX12_gameOf_95 (Nat.le_of_ble_eq_true rfl) rfl ?_
      refine sz_ls (l2 := [some (.ref 39), some (.int x1), some (.int x2), none, none, none, some (.int x6), some (.int y95), some (.int x8), some (.int x9), some (.int q78.1)]) rfl ?_
      refine sz_iload dX12_gameOf_97 rfl ?_
      refine sz_if_ne 111 dX12_gameOf_99 (by decide) (fun c99 => ?_) (fun c99 => ?_)
      · have hf := gz_in1 c99 hf
        refine sz_weak (l2 := [some (.ref 39), some (.int x1), some (.int x2), none, none, none, some (.int x6), some (.int y95), none, some (.int x9), none]) (gz_subk (gz_subk (gz_subk (gz_subk (gz_subk (gz_subk (gz_subk (gz_subk (gz_subn (gz_subk (gz_subn gz_sub0))))))))))) ?_
        exact tX12_gameOf_111   ih _ _ _ _ _ _ _ hf
      · have hf := gz_ip c99 hf
        refine sz_aload_n dX12_gameOf_102 rfl ?_
        refine sz_iload_n dX12_gameOf_103 rfl ?_
        refine sz_iload_n dX12_gameOf_104 rfl ?_
        obtain ⟨q105, eq105, hf⟩ := gz_bd hf
        refine sz_callVi [.int x1, .int x2] [] dX12_gameOf_105 mvX12_446 (Nat.le_of_ble_eq_true rfl) (by decide : 12 < 13) kd39 rfl (Nat.le_of_ble_eq_true rfl) (kX12_haveMet   eq105) ?_
        refine sz_if_eq 115 dX12_gameOf_108 (by decide) (fun c108 => ?_) (fun c108 => ?_)
        · have hf := gz_ip c108 hf
          refine sz_iconst dX12_gameOf_115 (cI0) ?_
          refine sz_weak (l2 := [some (.ref 39), some (.int x1), some (.int x2), none, none, none, some (.int x6), some (.int y95), none, some (.int x9), none]) (gz_subk (gz_subk (gz_subk (gz_subk (gz_subk (gz_subk (gz_subk (gz_subk (gz_subn (gz_subk (gz_subn gz_sub0))))))))))) ?_
          exact tX12_gameOf_116   ih _ _ _ _ _ _ _ _ hf
        · have hf := gz_in1 c108 hf
          refine sz_weak (l2 := [some (.ref 39), some (.int x1), some (.int x2), none, none, none, some (.int x6), some (.int y95), none, some (.int x9), none]) (gz_subk (gz_subk (gz_subk (gz_subk (gz_subk (gz_subk (gz_subk (gz_subk (gz_subn (gz_subk (gz_subn gz_sub0))))))))))) ?_
          exact tX12_gameOf_111   ih _ _ _ _ _ _ _ hf
def fX12_gameOf_151 (La : gz_L)    (s0 : Int32) (s1 : Int32) (g : gz_S) : Option (Int32 × gz_S) := some (s1 - s0, g)
set_option maxRecDepth 100000 in
set_option maxHeartbeats 4000000 in
theorem tX12_gameOf_151 {La : gz_L}      : ∀ (s0 : Int32) (s1 : Int32) (g : gz_S) (r : Int32 × gz_S), fX12_gameOf_151 La    s0 s1 g = some r → gz_J La 146 mX12_gameOf 151 [none, none, none, none, none, none, none, none, none, none, none] [.int s0, .int s1] g (gz_Fi r) := by
  intro s0 s1 g r hf
  unfold fX12_gameOf_151 at hf
  refine sz_isub dX12_gameOf_151 ?_
  cases hf
  exact sz_iret dX12_gameOf_152 rfl rfl ⟨rfl, rfl⟩
def fX12_gameOf_53 (La : gz_L)    (x1 : Int32) (x2 : Int32) (s0 : Int32) (s1 : Int32) (s2 : Int32) (g : gz_S) : Option (Int32 × gz_S) := gz_let (s2 + (s1 * s0)) (fun y55 => fX12_gameOf_66 La   (fun (x6 : Int32) (x7 : Int32) (x8 : Int32) g => if gz_ok x6 231 then (fJ6_bitCount_0f7a4 La  (x7 &&& (((1 : Int32) <<< ((g.1 53 (Int32.toNatClampNeg x6)) &&& 31)) ^^^ ((-1) : Int32))) g).bind (fun q138 => if x8 = 0 then fX12_gameOf_151 La     0 q138.1 q138.2 else fX12_gameOf_151 La     3 q138.1 q138.2) else none) gz_FU x1 x2 y55 0 0 0 g)
set_option maxRecDepth 100000 in
set_option maxHeartbeats 4000000 in
theorem tX12_gameOf_53 {La : gz_L}      : ∀ (x1 : Int32) (x2 : Int32) (s0 : Int32) (s1 : Int32) (s2 : Int32) (g : gz_S) (r : Int32 × gz_S), fX12_gameOf_53 La    x1 x2 s0 s1 s2 g = some r → gz_J La 146 mX12_gameOf 53 [some (.ref 39), some (.int x1), some (.int x2), none, none, none, none, none, none, none, none] [.int s0, .int s1, .int s2] g (gz_Fi r) := by
  intro x1 x2 s0 s1 s2 g r hf
  unfold fX12_gameOf_53 at hf
  refine sz_imul dX12_gameOf_53 ?_
  refine sz_iadd dX12_gameOf_54 ?_
  obtain ⟨y55, ey55, hf⟩ := gz_lt hf
  refine sz_topi ey55 ?_
  refine sz_istore dX12_gameOf_55 (Nat.le_of_ble_eq_true rfl) rfl ?_
  refine sz_ls (l2 := [some (.ref 39), some (.int x1), some (.int x2), none, none, none, some (.int y55), none, none, none, none]) rfl ?_
  refine sz_iconst dX12_gameOf_57 (cI0) ?_
  refine sz_istore dX12_gameOf_58 (Nat.le_of_ble_eq_true rfl) rfl ?_
  refine sz_ls (l2 := [some (.ref 39), some (.int x1), some (.int x2), none, none, none, some (.int y55), some (.int 0), none, none, none]) rfl ?_
  refine sz_iconst dX12_gameOf_60 (cI0) ?_
  refine sz_istore dX12_gameOf_61 (Nat.le_of_ble_eq_true rfl) rfl ?_
  refine sz_ls (l2 := [some (.ref 39), some (.int x1), some (.int x2), none, none, none, some (.int y55), some (.int 0), some (.int 0), none, none]) rfl ?_
  refine sz_iconst dX12_gameOf_63 (cI0) ?_
  refine sz_istore dX12_gameOf_64 (Nat.le_of_ble_eq_true rfl) rfl ?_
  refine sz_ls (l2 := [some (.ref 39), some (.int x1), some (.int x2), none, none, none, some (.int y55), some (.int 0), some (.int 0), some (.int 0), none]) rfl ?_
  have hk124 : ∀ (x6 : Int32) (x7 : Int32) (x8 : Int32) (g : gz_S) (r : Int32 × gz_S), (fun (x6 : Int32) (x7 : Int32) (x8 : Int32) g => if gz_ok x6 231 then (fJ6_bitCount_0f7a4 La  (x7 &&& (((1 : Int32) <<< ((g.1 53 (Int32.toNatClampNeg x6)) &&& 31)) ^^^ ((-1) : Int32))) g).bind (fun q138 => if x8 = 0 then fX12_gameOf_151 La     0 q138.1 q138.2 else fX12_gameOf_151 La     3 q138.1 q138.2) else none) x6 x7 x8 g = some r → gz_J La 146 mX12_gameOf 124 [some (.ref 39), none, none, none, none, none, some (.int x6), some (.int x7), some (.int x8), none, none] [] g (gz_Fi r) := by
    intro x6 x7 x8 g r hf
    refine sz_iload dX12_gameOf_124 rfl ?_
    refine sz_iconst dX12_gameOf_126 (cI1) ?_
    refine sz_aload_n dX12_gameOf_127 rfl ?_
    refine sz_getR dX12_gameOf_128 flX12_64 kd39 rfl rf39_32 ?_
    refine sz_iload dX12_gameOf_131 rfl ?_
    obtain ⟨c133, hf⟩ := gz_gd hf
    refine sz_ialdL dX12_gameOf_133 kd53 c133 rfl ?_
    refine sz_ishl dX12_gameOf_134 ?_
    refine sz_iconst dX12_gameOf_135 (cIm1) ?_
    refine sz_ixor dX12_gameOf_136 ?_
    refine sz_iand dX12_gameOf_137 ?_
    obtain ⟨q138, eq138, hf⟩ := gz_bd hf
    refine sz_callSi [.int (x7 &&& (((1 : Int32) <<< ((g.1 53 (Int32.toNatClampNeg x6)) &&& 31)) ^^^ ((-1) : Int32)))] [] dX12_gameOf_138 msX12_395 (Nat.le_of_ble_eq_true rfl) (Nat.le_of_ble_eq_true rfl) (kJ6_bitCount_0f7a4   eq138) ?_
    refine sz_iload dX12_gameOf_141 rfl ?_
    refine sz_if_eq 150 dX12_gameOf_143 (by decide) (fun c143 => ?_) (fun c143 => ?_)
    · have hf := gz_ip c143 hf
      refine sz_iconst dX12_gameOf_150 (cI0) ?_
      refine sz_weak (l2 := [none, none, none, none, none, none, none, none, none, none, none]) (gz_subn (gz_subk (gz_subk (gz_subk (gz_subk (gz_subk (gz_subn (gz_subn (gz_subn (gz_subk (gz_subk gz_sub0))))))))))) ?_
      exact tX12_gameOf_151    _ _ _ _ hf
    · have hf := gz_in1 c143 hf
      refine sz_iconst dX12_gameOf_146 (cI3) ?_
      refine sz_goto 151 dX12_gameOf_147 (by decide) ?_
      refine sz_weak (l2 := [none, none, none, none, none, none, none, none, none, none, none]) (gz_subn (gz_subk (gz_subk (gz_subk (gz_subk (gz_subk (gz_subn (gz_subn (gz_subn (gz_subk (gz_subk gz_sub0))))))))))) ?_
      exact tX12_gameOf_151    _ _ _ _ hf
  exact tX12_gameOf_66   hk124 _ _ _ _ _ _ _ _ _ hf
def fX12_gameOf (La : gz_L)  (x1 : Int32) (x2 : Int32) (x3 : Int32) (x4 : Int32) (x5 : Int32) (g : gz_S) : Option (Int32 × gz_S) :=
  (fX12_copy La   g).bind (fun q8 => if gz_ok (((30 : Int32) + ((4 : Int32) * x1)) + 1) 231 then gz_let (gz_wi q8 54 (Int32.toNatClampNeg (((30 : Int32) + ((4 : Int32) * x1)) + 1)) x3) (fun g24 => if gz_ok (((30 : Int32) + ((4 : Int32) * x2)) + 1) 231 then gz_let (gz_wi g24 54 (Int32.toNatClampNeg (((30 : Int32) + ((4 : Int32) * x2)) + 1)) x4) (fun g39 => if x5 = 0 then fX12_gameOf_53 La     x1 x2 x1 4 30 g39 else fX12_gameOf_53 La     x1 x2 x2 4 30 g39) else none) else none)
set_option maxRecDepth 100000 in
set_option maxHeartbeats 4000000 in
theorem kX12_gameOf {La : gz_L}  {x1 : Int32} {x2 : Int32} {x3 : Int32} {x4 : Int32} {x5 : Int32} {g : gz_S} {r : Int32 × gz_S}  (hf : fX12_gameOf La  x1 x2 x3 x4 x5 g = some r) : gz_K La 146 mX12_gameOf [.ref 39, .int x1, .int x2, .int x3, .int x4, .int x5] g (gz_Fi r) := by
  unfold fX12_gameOf at hf
  refine gz_K.of 5 (by decide +kernel) rfl ?_
  show gz_J La 146 mX12_gameOf 0 [some (.ref 39), some (.int x1), some (.int x2), some (.int x3), some (.int x4), some (.int x5), none, none, none, none, none] [] g (gz_Fi r)
  refine sz_aload_n dX12_gameOf_0 rfl ?_
  refine sz_getR dX12_gameOf_1 flX12_64 kd39 rfl rf39_32 ?_
  refine sz_aload_n dX12_gameOf_4 rfl ?_
  refine sz_getR dX12_gameOf_5 flX12_67 kd39 rfl rf39_33 ?_
  obtain ⟨q8, eq8, hf⟩ := gz_bd hf
  refine sz_callSv [.ref 53, .ref 54] [] dX12_gameOf_8 msX12_434 (Nat.le_of_ble_eq_true rfl) (Nat.le_of_ble_eq_true rfl) (kX12_copy   eq8) ?_
  refine sz_aload_n dX12_gameOf_11 rfl ?_
  refine sz_getR dX12_gameOf_12 flX12_67 kd39 rfl rf39_33 ?_
  refine sz_bipush dX12_gameOf_15 (cB30) ?_
  refine sz_iconst dX12_gameOf_17 (cI4) ?_
  refine sz_iload_n dX12_gameOf_18 rfl ?_
  refine sz_imul dX12_gameOf_19 ?_
  refine sz_iadd dX12_gameOf_20 ?_
  refine sz_iconst dX12_gameOf_21 (cI1) ?_
  refine sz_iadd dX12_gameOf_22 ?_
  refine sz_iload_n dX12_gameOf_23 rfl ?_
  obtain ⟨c24, hf⟩ := gz_gd hf
  obtain ⟨g24, eg24, hf⟩ := gz_lt hf
  refine sz_iastL dX12_gameOf_24 kd54 c24 rfl eg24 ?_
  refine sz_aload_n dX12_gameOf_25 rfl ?_
  refine sz_getR dX12_gameOf_26 flX12_67 kd39 rfl rf39_33 ?_
  refine sz_bipush dX12_gameOf_29 (cB30) ?_
  refine sz_iconst dX12_gameOf_31 (cI4) ?_
  refine sz_iload_n dX12_gameOf_32 rfl ?_
  refine sz_imul dX12_gameOf_33 ?_
  refine sz_iadd dX12_gameOf_34 ?_
  refine sz_iconst dX12_gameOf_35 (cI1) ?_
  refine sz_iadd dX12_gameOf_36 ?_
  refine sz_iload dX12_gameOf_37 rfl ?_
  obtain ⟨c39, hf⟩ := gz_gd hf
  obtain ⟨g39, eg39, hf⟩ := gz_lt hf
  refine sz_iastL dX12_gameOf_39 kd54 c39 rfl eg39 ?_
  refine sz_bipush dX12_gameOf_40 (cB30) ?_
  refine sz_iconst dX12_gameOf_42 (cI4) ?_
  refine sz_iload dX12_gameOf_43 rfl ?_
  refine sz_if_ne 52 dX12_gameOf_45 (by decide) (fun c45 => ?_) (fun c45 => ?_)
  · have hf := gz_in1 c45 hf
    refine sz_iload_n dX12_gameOf_52 rfl ?_
    refine sz_weak (l2 := [some (.ref 39), some (.int x1), some (.int x2), none, none, none, none, none, none, none, none]) (gz_subk (gz_subk (gz_subk (gz_subn (gz_subn (gz_subn (gz_subk (gz_subk (gz_subk (gz_subk (gz_subk gz_sub0))))))))))) ?_
    exact tX12_gameOf_53    _ _ _ _ _ _ _ hf
  · have hf := gz_ip c45 hf
    refine sz_iload_n dX12_gameOf_48 rfl ?_
    refine sz_goto 53 dX12_gameOf_49 (by decide) ?_
    refine sz_weak (l2 := [some (.ref 39), some (.int x1), some (.int x2), none, none, none, none, none, none, none, none]) (gz_subk (gz_subk (gz_subk (gz_subn (gz_subn (gz_subn (gz_subk (gz_subk (gz_subk (gz_subk (gz_subk gz_sub0))))))))))) ?_
    exact tX12_gameOf_53    _ _ _ _ _ _ _ hf
def fX12_canPlay (La : gz_L)  (x1 : Int32) (x2 : Int32) (g : gz_S) : Option (Int32 × gz_S) :=
  (fX12_areTwo La  x1 x2 g).bind (fun q3 => if q3.1 = 0 then some (0, q3.2) else (fX12_does La  53 x1 q3.2).bind (fun q14 => if q14.1 = 0 then some (0, q14.2) else (fX12_does La  53 x2 q14.2).bind (fun q25 => if q25.1 = 0 then some (0, q25.2) else some (1, q25.2))))
set_option maxRecDepth 100000 in
set_option maxHeartbeats 4000000 in
theorem kX12_canPlay {La : gz_L}  {x1 : Int32} {x2 : Int32} {g : gz_S} {r : Int32 × gz_S}  (hf : fX12_canPlay La  x1 x2 g = some r) : gz_K La 3 mX12_canPlay [.ref 39, .int x1, .int x2] g (gz_Fi r) := by
  unfold fX12_canPlay at hf
  refine gz_K.of 0 (by decide +kernel) rfl ?_
  show gz_J La 3 mX12_canPlay 0 [some (.ref 39), some (.int x1), some (.int x2)] [] g (gz_Fi r)
  refine sz_aload_n dX12_canPlay_0 rfl ?_
  refine sz_iload_n dX12_canPlay_1 rfl ?_
  refine sz_iload_n dX12_canPlay_2 rfl ?_
  obtain ⟨q3, eq3, hf⟩ := gz_bd hf
  refine sz_callVi [.int x1, .int x2] [] dX12_canPlay_3 mvX12_449 (Nat.le_of_ble_eq_true rfl) (by decide : 12 < 13) kd39 rfl (Nat.le_of_ble_eq_true rfl) (kX12_areTwo   eq3) ?_
  refine sz_if_eq 35 dX12_canPlay_6 (by decide) (fun c6 => ?_) (fun c6 => ?_)
  · have hf := gz_ip c6 hf
    refine sz_iconst dX12_canPlay_35 (cI0) ?_
    cases hf
    exact sz_iret dX12_canPlay_36 rfl rfl ⟨rfl, rfl⟩
  · have hf := gz_in1 c6 hf
    refine sz_aload_n dX12_canPlay_9 rfl ?_
    refine sz_getR dX12_canPlay_10 flX12_64 kd39 rfl rf39_32 ?_
    refine sz_iload_n dX12_canPlay_13 rfl ?_
    obtain ⟨q14, eq14, hf⟩ := gz_bd hf
    refine sz_callSi [.ref 53, .int x1] [] dX12_canPlay_14 msX12_346 (Nat.le_of_ble_eq_true rfl) (Nat.le_of_ble_eq_true rfl) (kX12_does  (Or.inl rfl) eq14) ?_
    refine sz_if_eq 35 dX12_canPlay_17 (by decide) (fun c17 => ?_) (fun c17 => ?_)
    · have hf := gz_ip c17 hf
      refine sz_iconst dX12_canPlay_35 (cI0) ?_
      cases hf
      exact sz_iret dX12_canPlay_36 rfl rfl ⟨rfl, rfl⟩
    · have hf := gz_in1 c17 hf
      refine sz_aload_n dX12_canPlay_20 rfl ?_
      refine sz_getR dX12_canPlay_21 flX12_64 kd39 rfl rf39_32 ?_
      refine sz_iload_n dX12_canPlay_24 rfl ?_
      obtain ⟨q25, eq25, hf⟩ := gz_bd hf
      refine sz_callSi [.ref 53, .int x2] [] dX12_canPlay_25 msX12_346 (Nat.le_of_ble_eq_true rfl) (Nat.le_of_ble_eq_true rfl) (kX12_does  (Or.inl rfl) eq25) ?_
      refine sz_if_eq 35 dX12_canPlay_28 (by decide) (fun c28 => ?_) (fun c28 => ?_)
      · have hf := gz_ip c28 hf
        refine sz_iconst dX12_canPlay_35 (cI0) ?_
        cases hf
        exact sz_iret dX12_canPlay_36 rfl rfl ⟨rfl, rfl⟩
      · have hf := gz_in1 c28 hf
        refine sz_iconst dX12_canPlay_31 (cI1) ?_
        refine sz_goto 36 dX12_canPlay_32 (by decide) ?_
        cases hf
        exact sz_iret dX12_canPlay_36 rfl rfl ⟨rfl, rfl⟩
def fX12_game (La : gz_L)  (x1 : Int32) (x2 : Int32) (x3 : Int32) (x4 : Int32) (x5 : Int32) (g : gz_S) : Option (Int32 × gz_S) :=
  gz_let (gz_wi g 39 0 0) (fun g2 => (fX12_canPlay La  x1 x2 g2).bind (fun q8 => if q8.1 = 0 then some ((-1000000), q8.2) else (fX12_isIn La  (Int32.toInt64 x3) 0 3 q8.2).bind (fun q20 => if q20.1 = 0 then some ((-1000000), q20.2) else (fX12_isIn La  (Int32.toInt64 x4) 0 3 q20.2).bind (fun q33 => if q33.1 = 0 then some ((-1000000), q33.2) else (fX12_isIn La  (Int32.toInt64 x5) 0 1 q33.2).bind (fun q44 => if q44.1 = 0 then some ((-1000000), q44.2) else (fX12_gameOf La  x1 x2 x3 x4 x5 q44.2).bind (fun q58 => some (q58.1, q58.2)))))))
set_option maxRecDepth 100000 in
set_option maxHeartbeats 4000000 in
theorem kX12_game {La : gz_L}  {x1 : Int32} {x2 : Int32} {x3 : Int32} {x4 : Int32} {x5 : Int32} {g : gz_S} {r : Int32 × gz_S}  (hf : fX12_game La  x1 x2 x3 x4 x5 g = some r) : gz_K La 147 mX12_game [.ref 39, .int x1, .int x2, .int x3, .int x4, .int x5] g (gz_Fi r) := by
  unfold fX12_game at hf
  refine gz_K.of 0 (by decide +kernel) rfl ?_
  show gz_J La 147 mX12_game 0 [some (.ref 39), some (.int x1), some (.int x2), some (.int x3), some (.int x4), some (.int x5)] [] g (gz_Fi r)
  refine sz_aload_n dX12_game_0 rfl ?_
  refine sz_iconst dX12_game_1 (cI0) ?_
  obtain ⟨g2, eg2, hf⟩ := gz_lt hf
  refine sz_putI2 dX12_game_2 flX12_104 kd39 fi12_0 eg2 ?_
  refine sz_aload_n dX12_game_5 rfl ?_
  refine sz_iload_n dX12_game_6 rfl ?_
  refine sz_iload_n dX12_game_7 rfl ?_
  obtain ⟨q8, eq8, hf⟩ := gz_bd hf
  refine sz_callVi [.int x1, .int x2] [] dX12_game_8 mvX12_482 (Nat.le_of_ble_eq_true rfl) (by decide : 12 < 13) kd39 rfl (Nat.le_of_ble_eq_true rfl) (kX12_canPlay   eq8) ?_
  refine sz_if_eq 64 dX12_game_11 (by decide) (fun c11 => ?_) (fun c11 => ?_)
  · have hf := gz_ip c11 hf
    refine sz_ldcw dX12_game_64 cstX12_433 ?_
    cases hf
    exact sz_iret dX12_game_67 rfl rfl ⟨rfl, rfl⟩
  · have hf := gz_in1 c11 hf
    refine sz_iload_n dX12_game_14 rfl ?_
    refine sz_i2l dX12_game_15 ?_
    refine sz_lconst (v := 0) dX12_game_16 rfl ?_
    refine sz_ldc2 dX12_game_17 cstlX12_406 ?_
    obtain ⟨q20, eq20, hf⟩ := gz_bd hf
    refine sz_callSi [.long (Int32.toInt64 x3), .long 0, .long 3] [] dX12_game_20 msX12_225 (Nat.le_of_ble_eq_true rfl) (Nat.le_of_ble_eq_true rfl) (kX12_isIn   eq20) ?_
    refine sz_if_eq 64 dX12_game_23 (by decide) (fun c23 => ?_) (fun c23 => ?_)
    · have hf := gz_ip c23 hf
      refine sz_ldcw dX12_game_64 cstX12_433 ?_
      cases hf
      exact sz_iret dX12_game_67 rfl rfl ⟨rfl, rfl⟩
    · have hf := gz_in1 c23 hf
      refine sz_iload dX12_game_26 rfl ?_
      refine sz_i2l dX12_game_28 ?_
      refine sz_lconst (v := 0) dX12_game_29 rfl ?_
      refine sz_ldc2 dX12_game_30 cstlX12_406 ?_
      obtain ⟨q33, eq33, hf⟩ := gz_bd hf
      refine sz_callSi [.long (Int32.toInt64 x4), .long 0, .long 3] [] dX12_game_33 msX12_225 (Nat.le_of_ble_eq_true rfl) (Nat.le_of_ble_eq_true rfl) (kX12_isIn   eq33) ?_
      refine sz_if_eq 64 dX12_game_36 (by decide) (fun c36 => ?_) (fun c36 => ?_)
      · have hf := gz_ip c36 hf
        refine sz_ldcw dX12_game_64 cstX12_433 ?_
        cases hf
        exact sz_iret dX12_game_67 rfl rfl ⟨rfl, rfl⟩
      · have hf := gz_in1 c36 hf
        refine sz_iload dX12_game_39 rfl ?_
        refine sz_i2l dX12_game_41 ?_
        refine sz_lconst (v := 0) dX12_game_42 rfl ?_
        refine sz_lconst (v := 1) dX12_game_43 rfl ?_
        obtain ⟨q44, eq44, hf⟩ := gz_bd hf
        refine sz_callSi [.long (Int32.toInt64 x5), .long 0, .long 1] [] dX12_game_44 msX12_225 (Nat.le_of_ble_eq_true rfl) (Nat.le_of_ble_eq_true rfl) (kX12_isIn   eq44) ?_
        refine sz_if_eq 64 dX12_game_47 (by decide) (fun c47 => ?_) (fun c47 => ?_)
        · have hf := gz_ip c47 hf
          refine sz_ldcw dX12_game_64 cstX12_433 ?_
          cases hf
          exact sz_iret dX12_game_67 rfl rfl ⟨rfl, rfl⟩
        · have hf := gz_in1 c47 hf
          refine sz_aload_n dX12_game_50 rfl ?_
          refine sz_iload_n dX12_game_51 rfl ?_
          refine sz_iload_n dX12_game_52 rfl ?_
          refine sz_iload_n dX12_game_53 rfl ?_
          refine sz_iload dX12_game_54 rfl ?_
          refine sz_iload dX12_game_56 rfl ?_
          obtain ⟨q58, eq58, hf⟩ := gz_bd hf
          refine sz_callVi [.int x1, .int x2, .int x3, .int x4, .int x5] [] dX12_game_58 mvX12_485 (Nat.le_of_ble_eq_true rfl) (by decide : 12 < 13) kd39 rfl (Nat.le_of_ble_eq_true rfl) (kX12_gameOf   eq58) ?_
          refine sz_goto 67 dX12_game_61 (by decide) ?_
          cases hf
          exact sz_iret dX12_game_67 rfl rfl ⟨rfl, rfl⟩
def fX12_rests_114 (La : gz_L)   (k48 : Int32 → Int32 → Int32 → Int32 → Int32 → Int32 → Int32 → Int32 → gz_S → Option (Int32 × gz_S)) (x1 : Int32) (x2 : Int32) (x3 : Int32) (x4 : Int32) (x5 : Int32) (x6 : Int32) (x8 : Int32) (s0 : Int32) (g : gz_S) : Option (Int32 × gz_S) := gz_let (x8 + 1) (fun y116 => k48 x1 x2 x3 x4 x5 x6 s0 y116 g)
set_option maxRecDepth 100000 in
set_option maxHeartbeats 4000000 in
theorem tX12_rests_114 {La : gz_L}   {k48 : Int32 → Int32 → Int32 → Int32 → Int32 → Int32 → Int32 → Int32 → gz_S → Option (Int32 × gz_S)}  (hk48 : ∀ (x1 : Int32) (x2 : Int32) (x3 : Int32) (x4 : Int32) (x5 : Int32) (x6 : Int32) (x7 : Int32) (x8 : Int32) (g : gz_S) (r : Int32 × gz_S), k48 x1 x2 x3 x4 x5 x6 x7 x8 g = some r → gz_J La 147 mX12_rests 48 [some (.ref 39), some (.int x1), some (.int x2), some (.int x3), some (.int x4), some (.int x5), some (.int x6), some (.int x7), some (.int x8)] [] g (gz_Fi r)) : ∀ (x1 : Int32) (x2 : Int32) (x3 : Int32) (x4 : Int32) (x5 : Int32) (x6 : Int32) (x8 : Int32) (s0 : Int32) (g : gz_S) (r : Int32 × gz_S), fX12_rests_114 La   k48 x1 x2 x3 x4 x5 x6 x8 s0 g = some r → gz_J La 147 mX12_rests 114 [some (.ref 39), some (.int x1), some (.int x2), some (.int x3), some (.int x4), some (.int x5), some (.int x6), none, some (.int x8)] [.int s0] g (gz_Fi r) := by
  intro x1 x2 x3 x4 x5 x6 x8 s0 g r hf
  unfold fX12_rests_114 at hf
  refine sz_istore dX12_rests_114 (Nat.le_of_ble_eq_true rfl) rfl ?_
  refine sz_ls (l2 := [some (.ref 39), some (.int x1), some (.int x2), some (.int x3), some (.int x4), some (.int x5), some (.int x6), some (.int s0), some (.int x8)]) rfl ?_
  obtain ⟨y116, ey116, hf⟩ := gz_lt hf
  refine sz_iinc (v := y116) dX12_rests_116 rfl (by rw [ey116, cI1]) (Nat.le_of_ble_eq_true rfl) rfl ?_
  refine sz_ls (l2 := [some (.ref 39), some (.int x1), some (.int x2), some (.int x3), some (.int x4), some (.int x5), some (.int x6), some (.int s0), some (.int y116)]) rfl ?_
  refine sz_goto 48 dX12_rests_119 (by decide) ?_
  exact hk48 _ _ _ _ _ _ _ _ _ _ hf
def fX12_rests_113 (La : gz_L)   (k48 : Int32 → Int32 → Int32 → Int32 → Int32 → Int32 → Int32 → Int32 → gz_S → Option (Int32 × gz_S)) (x1 : Int32) (x2 : Int32) (x3 : Int32) (x4 : Int32) (x5 : Int32) (x6 : Int32) (x8 : Int32) (g : gz_S) : Option (Int32 × gz_S) := fX12_rests_114 La   k48  x1 x2 x3 x4 x5 x6 x8 0 g
set_option maxRecDepth 100000 in
set_option maxHeartbeats 4000000 in
theorem tX12_rests_113 {La : gz_L}   {k48 : Int32 → Int32 → Int32 → Int32 → Int32 → Int32 → Int32 → Int32 → gz_S → Option (Int32 × gz_S)}  (hk48 : ∀ (x1 : Int32) (x2 : Int32) (x3 : Int32) (x4 : Int32) (x5 : Int32) (x6 : Int32) (x7 : Int32) (x8 : Int32) (g : gz_S) (r : Int32 × gz_S), k48 x1 x2 x3 x4 x5 x6 x7 x8 g = some r → gz_J La 147 mX12_rests 48 [some (.ref 39), some (.int x1), some (.int x2), some (.int x3), some (.int x4), some (.int x5), some (.int x6), some (.int x7), some (.int x8)] [] g (gz_Fi r)) : ∀ (x1 : Int32) (x2 : Int32) (x3 : Int32) (x4 : Int32) (x5 : Int32) (x6 : Int32) (x8 : Int32) (g : gz_S) (r : Int32 × gz_S), fX12_rests_113 La   k48 x1 x2 x3 x4 x5 x6 x8 g = some r → gz_J La 147 mX12_rests 113 [some (.ref 39), some (.int x1), some (.int x2), some (.int x3), some (.int x4), some (.int x5), some (.int x6), none, some (.int x8)] [] g (gz_Fi r) := by
  intro x1 x2 x3 x4 x5 x6 x8 g r hf
  unfold fX12_rests_113 at hf
  refine sz_iconst dX12_rests_113 (cI0) ?_
  exact tX12_rests_114   hk48 _ _ _ _ _ _ _ _ _ _ hf
def fX12_rests_48 (La : gz_L)   (k122 : Int32 → Int32 → Int32 → Int32 → Int32 → Int32 → Int32 → gz_S → Option (Int32 × gz_S)) : Nat → Int32 → Int32 → Int32 → Int32 → Int32 → Int32 → Int32 → Int32 → gz_S → Option (Int32 × gz_S)
  | 0, _, _, _, _, _, _, _, _, _ => none
  | n + 1, x1, x2, x3, x4, x5, x6, x7, x8, g => if 4 ≤ x8 then k122 x1 x2 x3 x4 x5 x6 x7 g else if x7 = 0 then k122 x1 x2 x3 x4 x5 x6 x7 g else (fX12_gameOf La  x1 x2 x8 x6 0 g).bind (fun q67 => (fX12_gameOf La  x1 x2 x5 x6 0 q67.2).bind (fun q78 => if q78.1 < q67.1 then fX12_rests_113 La   (fX12_rests_48 La   k122 n)  x1 x2 x3 x4 x5 x6 x8 q78.2 else (fX12_gameOf La  x1 x2 x5 x8 1 q78.2).bind (fun q92 => (fX12_gameOf La  x1 x2 x5 x6 1 q92.2).bind (fun q103 => if q103.1 < q92.1 then fX12_rests_113 La   (fX12_rests_48 La   k122 n)  x1 x2 x3 x4 x5 x6 x8 q103.2 else fX12_rests_114 La   (fX12_rests_48 La   k122 n)  x1 x2 x3 x4 x5 x6 x8 1 q103.2))))
set_option maxRecDepth 100000 in
set_option maxHeartbeats 4000000 in
theorem tX12_rests_48 {La : gz_L}   {k122 : Int32 → Int32 → Int32 → Int32 → Int32 → Int32 → Int32 → gz_S → Option (Int32 × gz_S)}  (hk122 : ∀ (x1 : Int32) (x2 : Int32) (x3 : Int32) (x4 : Int32) (x5 : Int32) (x6 : Int32) (x7 : Int32) (g : gz_S) (r : Int32 × gz_S), k122 x1 x2 x3 x4 x5 x6 x7 g = some r → gz_J La 147 mX12_rests 122 [some (.ref 39), some (.int x1), some (.int x2), some (.int x3), some (.int x4), some (.int x5), some (.int x6), some (.int x7), none] [] g (gz_Fi r)) : ∀ (n : Nat) (x1 : Int32) (x2 : Int32) (x3 : Int32) (x4 : Int32) (x5 : Int32) (x6 : Int32) (x7 : Int32) (x8 : Int32) (g : gz_S) (r : Int32 × gz_S), fX12_rests_48 La   k122 n x1 x2 x3 x4 x5 x6 x7 x8 g = some r → gz_J La 147 mX12_rests 48 [some (.ref 39), some (.int x1), some (.int x2), some (.int x3), some (.int x4), some (.int x5), some (.int x6), some (.int x7), some (.int x8)] [] g (gz_Fi r) := by
  intro n
  induction n with
  | zero => intro x1 x2 x3 x4 x5 x6 x7 x8 g r hf; exact nomatch (show (none : Option (Int32 × gz_S)) = some r from hf)
  | succ n ih =>
    intro x1 x2 x3 x4 x5 x6 x7 x8 g r hf
    unfold fX12_rests_48 at hf
    refine sz_iload dX12_rests_48 rfl ?_
    refine sz_iconst dX12_rests_50 (cI4) ?_
    refine sz_icmp_ge 122 dX12_rests_51 (by decide) (fun c51 => ?_) (fun c51 => ?_)
    · have hf := gz_ip c51 hf
      refine sz_weak (l2 := [some (.ref 39), some (.int x1), some (.int x2), some (.int x3), some (.int x4), some (.int x5), some (.int x6), some (.int x7), none]) (gz_subk (gz_subk (gz_subk (gz_subk (gz_subk (gz_subk (gz_subk (gz_subk (gz_subn gz_sub0))))))))) ?_
      exact hk122 _ _ _ _ _ _ _ _ _ hf
    · have hf := gz_in1 c51 hf
      refine sz_iload dX12_rests_54 rfl ?_
      refine sz_if_eq 122 dX12_rests_56 (by decide) (fun c56 => ?_) (fun c56 => ?_)
      · have hf := gz_ip c56 hf
        refine sz_weak (l2 := [some (.ref 39), some (.int x1), some (.int x2), some (.int x3), some (.int x4), some (.int x5), some (.int x6), some (.int x7), none]) (gz_subk (gz_subk (gz_subk (gz_subk (gz_subk (gz_subk (gz_subk (gz_subk (gz_subn gz_sub0))))))))) ?_
        exact hk122 _ _ _ _ _ _ _ _ _ hf
      · have hf := gz_in1 c56 hf
        refine sz_aload_n dX12_rests_59 rfl ?_
        refine sz_iload_n dX12_rests_60 rfl ?_
        refine sz_iload_n dX12_rests_61 rfl ?_
        refine sz_iload dX12_rests_62 rfl ?_
        refine sz_iload dX12_rests_64 rfl ?_
        refine sz_iconst dX12_rests_66 (cI0) ?_
        obtain ⟨q67, eq67, hf⟩ := gz_bd hf
        refine sz_callVi [.int x1, .int x2, .int x8, .int x6, .int 0] [] dX12_rests_67 mvX12_485 (Nat.le_of_ble_eq_true rfl) (by decide : 12 < 13) kd39 rfl (Nat.le_of_ble_eq_true rfl) (kX12_gameOf   eq67) ?_
        refine sz_aload_n dX12_rests_70 rfl ?_
        refine sz_iload_n dX12_rests_71 rfl ?_
        refine sz_iload_n dX12_rests_72 rfl ?_
        refine sz_iload dX12_rests_73 rfl ?_
        refine sz_iload dX12_rests_75 rfl ?_
        refine sz_iconst dX12_rests_77 (cI0) ?_
        obtain ⟨q78, eq78, hf⟩ := gz_bd hf
        refine sz_callVi [.int x1, .int x2, .int x5, .int x6, .int 0] [.int q67.1] dX12_rests_78 mvX12_485 (Nat.le_of_ble_eq_true rfl) (by decide : 12 < 13) kd39 rfl (Nat.le_of_ble_eq_true rfl) (kX12_gameOf   eq78) ?_
        refine sz_icmp_gt 113 dX12_rests_81 (by decide) (fun c81 => ?_) (fun c81 => ?_)
        · have hf := gz_ip c81 hf
          refine sz_weak (l2 := [some (.ref 39), some (.int x1), some (.int x2), some (.int x3), some (.int x4), some (.int x5), some (.int x6), none, some (.int x8)]) (gz_subk (gz_subk (gz_subk (gz_subk (gz_subk (gz_subk (gz_subk (gz_subn (gz_subk gz_sub0))))))))) ?_
          exact tX12_rests_113   ih _ _ _ _ _ _ _ _ _ hf
        · have hf := gz_in1 c81 hf
          refine sz_aload_n dX12_rests_84 rfl ?_
          refine sz_iload_n dX12_rests_85 rfl ?_
          refine sz_iload_n dX12_rests_86 rfl ?_
          refine sz_iload dX12_rests_87 rfl ?_
          refine sz_iload dX12_rests_89 rfl ?_
          refine sz_iconst dX12_rests_91 (cI1) ?_
          obtain ⟨q92, eq92, hf⟩ := gz_bd hf
          refine sz_callVi [.int x1, .int x2, .int x5, .int x8, .int 1] [] dX12_rests_92 mvX12_485 (Nat.le_of_ble_eq_true rfl) (by decide : 12 < 13) kd39 rfl (Nat.le_of_ble_eq_true rfl) (kX12_gameOf   eq92) ?_
          refine sz_aload_n dX12_rests_95 rfl ?_
          refine sz_iload_n dX12_rests_96 rfl ?_
          refine sz_iload_n dX12_rests_97 rfl ?_
          refine sz_iload dX12_rests_98 rfl ?_
          refine sz_iload dX12_rests_100 rfl ?_
          refine sz_iconst dX12_rests_102 (cI1) ?_
          obtain ⟨q103, eq103, hf⟩ := gz_bd hf
          refine sz_callVi [.int x1, .int x2, .int x5, .int x6, .int 1] [.int q92.1] dX12_rests_103 mvX12_485 (Nat.le_of_ble_eq_true rfl) (by decide : 12 < 13) kd39 rfl (Nat.le_of_ble_eq_true rfl) (kX12_gameOf   eq103) ?_
          refine sz_icmp_gt 113 dX12_rests_106 (by decide) (fun c106 => ?_) (fun c106 => ?_)
          · have hf := gz_ip c106 hf
            refine sz_weak (l2 := [some (.ref 39), some (.int x1), some (.int x2), some (.int x3), some (.int x4), some (.int x5), some (.int x6), none, some (.int x8)]) (gz_subk (gz_subk (gz_subk (gz_subk (gz_subk (gz_subk (gz_subk (gz_subn (gz_subk gz_sub0))))))))) ?_
            exact tX12_rests_113   ih _ _ _ _ _ _ _ _ _ hf
          · have hf := gz_in1 c106 hf
            refine sz_iconst dX12_rests_109 (cI1) ?_
            refine sz_goto 114 dX12_rests_110 (by decide) ?_
            refine sz_weak (l2 := [some (.ref 39), some (.int x1), some (.int x2), some (.int x3), some (.int x4), some (.int x5), some (.int x6), none, some (.int x8)]) (gz_subk (gz_subk (gz_subk (gz_subk (gz_subk (gz_subk (gz_subk (gz_subn (gz_subk gz_sub0))))))))) ?_
            exact tX12_rests_114   ih _ _ _ _ _ _ _ _ _ _ hf
def fX12_rests_148 (La : gz_L)   (k36 : Int32 → Int32 → Int32 → Int32 → Int32 → Int32 → gz_S → Option (Int32 × gz_S)) (x1 : Int32) (x2 : Int32) (x3 : Int32) (x4 : Int32) (x5 : Int32) (x6 : Int32) (g : gz_S) : Option (Int32 × gz_S) := gz_let (x6 + 1) (fun y148 => k36 x1 x2 x3 x4 x5 y148 g)
set_option maxRecDepth 100000 in
set_option maxHeartbeats 4000000 in
theorem tX12_rests_148 {La : gz_L}   {k36 : Int32 → Int32 → Int32 → Int32 → Int32 → Int32 → gz_S → Option (Int32 × gz_S)}  (hk36 : ∀ (x1 : Int32) (x2 : Int32) (x3 : Int32) (x4 : Int32) (x5 : Int32) (x6 : Int32) (g : gz_S) (r : Int32 × gz_S), k36 x1 x2 x3 x4 x5 x6 g = some r → gz_J La 147 mX12_rests 36 [some (.ref 39), some (.int x1), some (.int x2), some (.int x3), some (.int x4), some (.int x5), some (.int x6), none, none] [] g (gz_Fi r)) : ∀ (x1 : Int32) (x2 : Int32) (x3 : Int32) (x4 : Int32) (x5 : Int32) (x6 : Int32) (g : gz_S) (r : Int32 × gz_S), fX12_rests_148 La   k36 x1 x2 x3 x4 x5 x6 g = some r → gz_J La 147 mX12_rests 148 [some (.ref 39), some (.int x1), some (.int x2), some (.int x3), some (.int x4), some (.int x5), some (.int x6), none, none] [] g (gz_Fi r) := by
  intro x1 x2 x3 x4 x5 x6 g r hf
  unfold fX12_rests_148 at hf
  obtain ⟨y148, ey148, hf⟩ := gz_lt hf
  refine sz_iinc (v := y148) dX12_rests_148 rfl (by rw [ey148, cI1]) (Nat.le_of_ble_eq_true rfl) rfl ?_
  refine sz_ls (l2 := [some (.ref 39), some (.int x1), some (.int x2), some (.int x3), some (.int x4), some (.int x5), some (.int y148), none, none]) rfl ?_
  refine sz_goto 36 dX12_rests_151 (by decide) ?_
  exact hk36 _ _ _ _ _ _ _ _ hf
def fX12_rests_122 (La : gz_L)   (k36 : Int32 → Int32 → Int32 → Int32 → Int32 → Int32 → gz_S → Option (Int32 × gz_S)) (k136 : Int32 → Int32 → gz_S → Option (Int32 × gz_S)) (x1 : Int32) (x2 : Int32) (x3 : Int32) (x4 : Int32) (x5 : Int32) (x6 : Int32) (x7 : Int32) (g : gz_S) : Option (Int32 × gz_S) := if x7 = 0 then fX12_rests_148 La   k36  x1 x2 x3 x4 x5 x6 g else if x4 = x3 then k136 x5 x6 g else gz_let (x4 + 1) (fun y145 => fX12_rests_148 La   k36  x1 x2 x3 y145 x5 x6 g)
set_option maxRecDepth 100000 in
set_option maxHeartbeats 4000000 in
theorem tX12_rests_122 {La : gz_L}   {k36 : Int32 → Int32 → Int32 → Int32 → Int32 → Int32 → gz_S → Option (Int32 × gz_S)} {k136 : Int32 → Int32 → gz_S → Option (Int32 × gz_S)}  (hk36 : ∀ (x1 : Int32) (x2 : Int32) (x3 : Int32) (x4 : Int32) (x5 : Int32) (x6 : Int32) (g : gz_S) (r : Int32 × gz_S), k36 x1 x2 x3 x4 x5 x6 g = some r → gz_J La 147 mX12_rests 36 [some (.ref 39), some (.int x1), some (.int x2), some (.int x3), some (.int x4), some (.int x5), some (.int x6), none, none] [] g (gz_Fi r)) (hk136 : ∀ (x5 : Int32) (x6 : Int32) (g : gz_S) (r : Int32 × gz_S), k136 x5 x6 g = some r → gz_J La 147 mX12_rests 136 [none, none, none, none, none, some (.int x5), some (.int x6), none, none] [] g (gz_Fi r)) : ∀ (x1 : Int32) (x2 : Int32) (x3 : Int32) (x4 : Int32) (x5 : Int32) (x6 : Int32) (x7 : Int32) (g : gz_S) (r : Int32 × gz_S), fX12_rests_122 La   k36 k136 x1 x2 x3 x4 x5 x6 x7 g = some r → gz_J La 147 mX12_rests 122 [some (.ref 39), some (.int x1), some (.int x2), some (.int x3), some (.int x4), some (.int x5), some (.int x6), some (.int x7), none] [] g (gz_Fi r) := by
  intro x1 x2 x3 x4 x5 x6 x7 g r hf
  unfold fX12_rests_122 at hf
  refine sz_iload dX12_rests_122 rfl ?_
  refine sz_if_ne 130 dX12_rests_124 (by decide) (fun c124 => ?_) (fun c124 => ?_)
  · have hf := gz_in1 c124 hf
    refine sz_iload dX12_rests_130 rfl ?_
    refine sz_iload_n dX12_rests_132 rfl ?_
    refine sz_icmp_ne 145 dX12_rests_133 (by decide) (fun c133 => ?_) (fun c133 => ?_)
    · have hf := gz_in1 c133 hf
      obtain ⟨y145, ey145, hf⟩ := gz_lt hf
      refine sz_iinc (v := y145) dX12_rests_145 rfl (by rw [ey145, cI1]) (Nat.le_of_ble_eq_true rfl) rfl ?_
      refine sz_ls (l2 := [some (.ref 39), some (.int x1), some (.int x2), some (.int x3), some (.int y145), some (.int x5), some (.int x6), some (.int x7), none]) rfl ?_
      refine sz_weak (l2 := [some (.ref 39), some (.int x1), some (.int x2), some (.int x3), some (.int y145), some (.int x5), some (.int x6), none, none]) (gz_subk (gz_subk (gz_subk (gz_subk (gz_subk (gz_subk (gz_subk (gz_subn (gz_subk gz_sub0))))))))) ?_
      exact tX12_rests_148   hk36 _ _ _ _ _ _ _ _ hf
    · have hf := gz_ip c133 hf
      refine sz_weak (l2 := [none, none, none, none, none, some (.int x5), some (.int x6), none, none]) (gz_subn (gz_subn (gz_subn (gz_subn (gz_subn (gz_subk (gz_subk (gz_subn (gz_subk gz_sub0))))))))) ?_
      exact hk136 _ _ _ _ hf
  · have hf := gz_ip c124 hf
    refine sz_goto 148 dX12_rests_127 (by decide) ?_
    refine sz_weak (l2 := [some (.ref 39), some (.int x1), some (.int x2), some (.int x3), some (.int x4), some (.int x5), some (.int x6), none, none]) (gz_subk (gz_subk (gz_subk (gz_subk (gz_subk (gz_subk (gz_subk (gz_subn (gz_subk gz_sub0))))))))) ?_
    exact tX12_rests_148   hk36 _ _ _ _ _ _ _ _ hf
def fX12_rests_36 (La : gz_L)   (k154 : Int32 → Int32 → Int32 → Int32 → Int32 → gz_S → Option (Int32 × gz_S)) (k136 : Int32 → Int32 → gz_S → Option (Int32 × gz_S)) : Nat → Int32 → Int32 → Int32 → Int32 → Int32 → Int32 → gz_S → Option (Int32 × gz_S)
  | 0, _, _, _, _, _, _, _ => none
  | n + 1, x1, x2, x3, x4, x5, x6, g => if 4 ≤ x6 then k154 x1 x2 x3 x4 x5 g else fX12_rests_48 La   (fX12_rests_122 La   (fX12_rests_36 La   k154 k136 n) k136 ) gz_FU x1 x2 x3 x4 x5 x6 1 0 g
set_option maxRecDepth 100000 in
set_option maxHeartbeats 4000000 in
theorem tX12_rests_36 {La : gz_L}   {k154 : Int32 → Int32 → Int32 → Int32 → Int32 → gz_S → Option (Int32 × gz_S)} {k136 : Int32 → Int32 → gz_S → Option (Int32 × gz_S)}  (hk154 : ∀ (x1 : Int32) (x2 : Int32) (x3 : Int32) (x4 : Int32) (x5 : Int32) (g : gz_S) (r : Int32 × gz_S), k154 x1 x2 x3 x4 x5 g = some r → gz_J La 147 mX12_rests 154 [some (.ref 39), some (.int x1), some (.int x2), some (.int x3), some (.int x4), some (.int x5), none, none, none] [] g (gz_Fi r)) (hk136 : ∀ (x5 : Int32) (x6 : Int32) (g : gz_S) (r : Int32 × gz_S), k136 x5 x6 g = some r → gz_J La 147 mX12_rests 136 [none, none, none, none, none, some (.int x5), some (.int x6), none, none] [] g (gz_Fi r)) : ∀ (n : Nat) (x1 : Int32) (x2 : Int32) (x3 : Int32) (x4 : Int32) (x5 : Int32) (x6 : Int32) (g : gz_S) (r : Int32 × gz_S), fX12_rests_36 La   k154 k136 n x1 x2 x3 x4 x5 x6 g = some r → gz_J La 147 mX12_rests 36 [some (.ref 39), some (.int x1), some (.int x2), some (.int x3), some (.int x4), some (.int x5), some (.int x6), none, none] [] g (gz_Fi r) := by
  intro n
  induction n with
  | zero => intro x1 x2 x3 x4 x5 x6 g r hf; exact nomatch (show (none : Option (Int32 × gz_S)) = some r from hf)
  | succ n ih =>
    intro x1 x2 x3 x4 x5 x6 g r hf
    unfold fX12_rests_36 at hf
    refine sz_iload dX12_rests_36 rfl ?_
    refine sz_iconst dX12_rests_38 (cI4) ?_
    refine sz_icmp_ge 154 dX12_rests_39 (by decide) (fun c39 => ?_) (fun c39 => ?_)
    · have hf := gz_ip c39 hf
      refine sz_weak (l2 := [some (.ref 39), some (.int x1), some (.int x2), some (.int x3), some (.int x4), some (.int x5), none, none, none]) (gz_subk (gz_subk (gz_subk (gz_subk (gz_subk (gz_subk (gz_subn (gz_subk (gz_subk gz_sub0))))))))) ?_
      exact hk154 _ _ _ _ _ _ _ hf
    · have hf := gz_in1 c39 hf
      refine sz_iconst dX12_rests_42 (cI1) ?_
      refine sz_istore dX12_rests_43 (Nat.le_of_ble_eq_true rfl) rfl ?_
      refine sz_ls (l2 := [some (.ref 39), some (.int x1), some (.int x2), some (.int x3), some (.int x4), some (.int x5), some (.int x6), some (.int 1), none]) rfl ?_
      refine sz_iconst dX12_rests_45 (cI0) ?_
      refine sz_istore dX12_rests_46 (Nat.le_of_ble_eq_true rfl) rfl ?_
      refine sz_ls (l2 := [some (.ref 39), some (.int x1), some (.int x2), some (.int x3), some (.int x4), some (.int x5), some (.int x6), some (.int 1), some (.int 0)]) rfl ?_
      exact tX12_rests_48   (tX12_rests_122   ih hk136) _ _ _ _ _ _ _ _ _ _ _ hf
def fX12_rests_27 (La : gz_L)   (k160 : Int32 → Int32 → gz_S → Option (Int32 × gz_S)) (k136 : Int32 → Int32 → gz_S → Option (Int32 × gz_S)) : Nat → Int32 → Int32 → Int32 → Int32 → Int32 → gz_S → Option (Int32 × gz_S)
  | 0, _, _, _, _, _, _ => none
  | n + 1, x1, x2, x3, x4, x5, g => if 4 ≤ x5 then k160 x3 x4 g else fX12_rests_36 La   (fun (x1 : Int32) (x2 : Int32) (x3 : Int32) (x4 : Int32) (x5 : Int32) g => gz_let (x5 + 1) (fun y154 => fX12_rests_27 La   k160 k136 n x1 x2 x3 x4 y154 g)) k136 gz_FU x1 x2 x3 x4 x5 0 g
set_option maxRecDepth 100000 in
set_option maxHeartbeats 4000000 in
theorem tX12_rests_27 {La : gz_L}   {k160 : Int32 → Int32 → gz_S → Option (Int32 × gz_S)} {k136 : Int32 → Int32 → gz_S → Option (Int32 × gz_S)}  (hk160 : ∀ (x3 : Int32) (x4 : Int32) (g : gz_S) (r : Int32 × gz_S), k160 x3 x4 g = some r → gz_J La 147 mX12_rests 160 [none, none, none, some (.int x3), some (.int x4), none, none, none, none] [] g (gz_Fi r)) (hk136 : ∀ (x5 : Int32) (x6 : Int32) (g : gz_S) (r : Int32 × gz_S), k136 x5 x6 g = some r → gz_J La 147 mX12_rests 136 [none, none, none, none, none, some (.int x5), some (.int x6), none, none] [] g (gz_Fi r)) : ∀ (n : Nat) (x1 : Int32) (x2 : Int32) (x3 : Int32) (x4 : Int32) (x5 : Int32) (g : gz_S) (r : Int32 × gz_S), fX12_rests_27 La   k160 k136 n x1 x2 x3 x4 x5 g = some r → gz_J La 147 mX12_rests 27 [some (.ref 39), some (.int x1), some (.int x2), some (.int x3), some (.int x4), some (.int x5), none, none, none] [] g (gz_Fi r) := by
  intro n
  induction n with
  | zero => intro x1 x2 x3 x4 x5 g r hf; exact nomatch (show (none : Option (Int32 × gz_S)) = some r from hf)
  | succ n ih =>
    intro x1 x2 x3 x4 x5 g r hf
    unfold fX12_rests_27 at hf
    refine sz_iload dX12_rests_27 rfl ?_
    refine sz_iconst dX12_rests_29 (cI4) ?_
    refine sz_icmp_ge 160 dX12_rests_30 (by decide) (fun c30 => ?_) (fun c30 => ?_)
    · have hf := gz_ip c30 hf
      refine sz_weak (l2 := [none, none, none, some (.int x3), some (.int x4), none, none, none, none]) (gz_subn (gz_subn (gz_subn (gz_subk (gz_subk (gz_subn (gz_subk (gz_subk (gz_subk gz_sub0))))))))) ?_
      exact hk160 _ _ _ _ hf
    · have hf := gz_in1 c30 hf
      refine sz_iconst dX12_rests_33 (cI0) ?_
      refine sz_istore dX12_rests_34 (Nat.le_of_ble_eq_true rfl) rfl ?_
      refine sz_ls (l2 := [some (.ref 39), some (.int x1), some (.int x2), some (.int x3), some (.int x4), some (.int x5), some (.int 0), none, none]) rfl ?_
      have hk154 : ∀ (x1 : Int32) (x2 : Int32) (x3 : Int32) (x4 : Int32) (x5 : Int32) (g : gz_S) (r : Int32 × gz_S), (fun (x1 : Int32) (x2 : Int32) (x3 : Int32) (x4 : Int32) (x5 : Int32) g => gz_let (x5 + 1) (fun y154 => fX12_rests_27 La   k160 k136 n x1 x2 x3 x4 y154 g)) x1 x2 x3 x4 x5 g = some r → gz_J La 147 mX12_rests 154 [some (.ref 39), some (.int x1), some (.int x2), some (.int x3), some (.int x4), some (.int x5), none, none, none] [] g (gz_Fi r) := by
        intro x1 x2 x3 x4 x5 g r hf
        obtain ⟨y154, ey154, hf⟩ := gz_lt hf
        refine sz_iinc (v := y154) dX12_rests_154 rfl (by rw [ey154, cI1]) (Nat.le_of_ble_eq_true rfl) rfl ?_
        refine sz_ls (l2 := [some (.ref 39), some (.int x1), some (.int x2), some (.int x3), some (.int x4), some (.int y154), none, none, none]) rfl ?_
        refine sz_goto 27 dX12_rests_157 (by decide) ?_
        exact ih _ _ _ _ _ _ _ hf
      exact tX12_rests_36   hk154 hk136 _ _ _ _ _ _ _ _ _ hf
def fX12_rests (La : gz_L)  (x1 : Int32) (x2 : Int32) (x3 : Int32) (g : gz_S) : Option (Int32 × gz_S) :=
  gz_let (gz_wi g 39 0 0) (fun g2 => (fX12_canPlay La  x1 x2 g2).bind (fun q8 => if q8.1 = 0 then some ((-1), q8.2) else if (-1) ≤ x3 then fX12_rests_27 La   (fun (x3 : Int32) (x4 : Int32) g => if x3 = (-1) then some (x4, g) else some ((-1), g)) (fun (x5 : Int32) (x6 : Int32) g => some (((10 : Int32) * x5) + x6, g)) gz_FU x1 x2 x3 0 0 q8.2 else some ((-1), q8.2)))
set_option maxRecDepth 100000 in
set_option maxHeartbeats 4000000 in
theorem kX12_rests {La : gz_L}  {x1 : Int32} {x2 : Int32} {x3 : Int32} {g : gz_S} {r : Int32 × gz_S}  (hf : fX12_rests La  x1 x2 x3 g = some r) : gz_K La 147 mX12_rests [.ref 39, .int x1, .int x2, .int x3] g (gz_Fi r) := by
  unfold fX12_rests at hf
  refine gz_K.of 5 (by decide +kernel) rfl ?_
  show gz_J La 147 mX12_rests 0 [some (.ref 39), some (.int x1), some (.int x2), some (.int x3), none, none, none, none, none] [] g (gz_Fi r)
  refine sz_aload_n dX12_rests_0 rfl ?_
  refine sz_iconst dX12_rests_1 (cI0) ?_
  obtain ⟨g2, eg2, hf⟩ := gz_lt hf
  refine sz_putI2 dX12_rests_2 flX12_104 kd39 fi12_0 eg2 ?_
  refine sz_aload_n dX12_rests_5 rfl ?_
  refine sz_iload_n dX12_rests_6 rfl ?_
  refine sz_iload_n dX12_rests_7 rfl ?_
  obtain ⟨q8, eq8, hf⟩ := gz_bd hf
  refine sz_callVi [.int x1, .int x2] [] dX12_rests_8 mvX12_482 (Nat.le_of_ble_eq_true rfl) (by decide : 12 < 13) kd39 rfl (Nat.le_of_ble_eq_true rfl) (kX12_canPlay   eq8) ?_
  refine sz_if_eq 19 dX12_rests_11 (by decide) (fun c11 => ?_) (fun c11 => ?_)
  · have hf := gz_ip c11 hf
    refine sz_iconst dX12_rests_19 (cIm1) ?_
    cases hf
    exact sz_iret dX12_rests_20 rfl rfl ⟨rfl, rfl⟩
  · have hf := gz_in1 c11 hf
    refine sz_iload_n dX12_rests_14 rfl ?_
    refine sz_iconst dX12_rests_15 (cIm1) ?_
    refine sz_icmp_ge 21 dX12_rests_16 (by decide) (fun c16 => ?_) (fun c16 => ?_)
    · have hf := gz_ip c16 hf
      refine sz_iconst dX12_rests_21 (cI0) ?_
      refine sz_istore dX12_rests_22 (Nat.le_of_ble_eq_true rfl) rfl ?_
      refine sz_ls (l2 := [some (.ref 39), some (.int x1), some (.int x2), some (.int x3), some (.int 0), none, none, none, none]) rfl ?_
      refine sz_iconst dX12_rests_24 (cI0) ?_
      refine sz_istore dX12_rests_25 (Nat.le_of_ble_eq_true rfl) rfl ?_
      refine sz_ls (l2 := [some (.ref 39), some (.int x1), some (.int x2), some (.int x3), some (.int 0), some (.int 0), none, none, none]) rfl ?_
      have hk160 : ∀ (x3 : Int32) (x4 : Int32) (g : gz_S) (r : Int32 × gz_S), (fun (x3 : Int32) (x4 : Int32) g => if x3 = (-1) then some (x4, g) else some ((-1), g)) x3 x4 g = some r → gz_J La 147 mX12_rests 160 [none, none, none, some (.int x3), some (.int x4), none, none, none, none] [] g (gz_Fi r) := by
        intro x3 x4 g r hf
        refine sz_iload_n dX12_rests_160 rfl ?_
        refine sz_iconst dX12_rests_161 (cIm1) ?_
        refine sz_icmp_ne 170 dX12_rests_162 (by decide) (fun c162 => ?_) (fun c162 => ?_)
        · have hf := gz_in1 c162 hf
          refine sz_iconst dX12_rests_170 (cIm1) ?_
          cases hf
          exact sz_iret dX12_rests_171 rfl rfl ⟨rfl, rfl⟩
        · have hf := gz_ip c162 hf
          refine sz_iload dX12_rests_165 rfl ?_
          refine sz_goto 171 dX12_rests_167 (by decide) ?_
          cases hf
          exact sz_iret dX12_rests_171 rfl rfl ⟨rfl, rfl⟩
      have hk136 : ∀ (x5 : Int32) (x6 : Int32) (g : gz_S) (r : Int32 × gz_S), (fun (x5 : Int32) (x6 : Int32) g => some (((10 : Int32) * x5) + x6, g)) x5 x6 g = some r → gz_J La 147 mX12_rests 136 [none, none, none, none, none, some (.int x5), some (.int x6), none, none] [] g (gz_Fi r) := by
        intro x5 x6 g r hf
        refine sz_bipush dX12_rests_136 (cB10) ?_
        refine sz_iload dX12_rests_138 rfl ?_
        refine sz_imul dX12_rests_140 ?_
        refine sz_iload dX12_rests_141 rfl ?_
        refine sz_iadd dX12_rests_143 ?_
        cases hf
        exact sz_iret dX12_rests_144 rfl rfl ⟨rfl, rfl⟩
      exact tX12_rests_27   hk160 hk136 _ _ _ _ _ _ _ _ hf
    · have hf := gz_in1 c16 hf
      refine sz_iconst dX12_rests_19 (cIm1) ?_
      cases hf
      exact sz_iret dX12_rests_20 rfl rfl ⟨rfl, rfl⟩
def fX12_oddsFrom_29 (La : gz_L) (FX12_oddsFrom : Int32 → Int32 → Int32 → Int32 → Int32 → gz_S → Option (Int32 × gz_S))  (k61 : Int32 → Int32 → Int32 → Int32 → Int32 → gz_S → Option (Int32 × gz_S)) : Nat → Int32 → Int32 → Int32 → Int32 → Int32 → Int32 → gz_S → Option (Int32 × gz_S)
  | 0, _, _, _, _, _, _, _ => none
  | n + 1, x1, x2, x3, x4, x5, x6, g => if 50 < x6 then k61 x1 x2 x3 x4 x5 g else if gz_ok x6 231 then if gz_ok (((51 : Int32) * x3) + x6) 357 then gz_let (gz_wi g 62 (Int32.toNatClampNeg (((51 : Int32) * x3) + x6)) (g.1 54 (Int32.toNatClampNeg x6))) (fun g54 => gz_let (x6 + 1) (fun y55 => fX12_oddsFrom_29 La FX12_oddsFrom  k61 n x1 x2 x3 x4 x5 y55 g54)) else none else none
set_option maxRecDepth 100000 in
set_option maxHeartbeats 4000000 in
theorem tX12_oddsFrom_29 {La : gz_L} {hr : Nat} {FX12_oddsFrom : Int32 → Int32 → Int32 → Int32 → Int32 → gz_S → Option (Int32 × gz_S)} (HX12_oddsFrom : ∀ (x1 : Int32) (x2 : Int32) (x3 : Int32) (x4 : Int32) (x5 : Int32) (g : gz_S) (r : Int32 × gz_S), FX12_oddsFrom x1 x2 x3 x4 x5 g = some r → gz_K La hr mX12_oddsFrom [.ref 39, .int x1, .int x2, .int x3, .int x4, .int x5] g (gz_Fi r)) (hB : 400 ≤ hr)  {k61 : Int32 → Int32 → Int32 → Int32 → Int32 → gz_S → Option (Int32 × gz_S)}  (hk61 : ∀ (x1 : Int32) (x2 : Int32) (x3 : Int32) (x4 : Int32) (x5 : Int32) (g : gz_S) (r : Int32 × gz_S), k61 x1 x2 x3 x4 x5 g = some r → gz_J La (hr + 1) mX12_oddsFrom 61 [some (.ref 39), some (.int x1), some (.int x2), some (.int x3), some (.int x4), some (.int x5), none, none, none, none] [] g (gz_Fi r)) : ∀ (n : Nat) (x1 : Int32) (x2 : Int32) (x3 : Int32) (x4 : Int32) (x5 : Int32) (x6 : Int32) (g : gz_S) (r : Int32 × gz_S), fX12_oddsFrom_29 La FX12_oddsFrom  k61 n x1 x2 x3 x4 x5 x6 g = some r → gz_J La (hr + 1) mX12_oddsFrom 29 [some (.ref 39), some (.int x1), some (.int x2), some (.int x3), some (.int x4), some (.int x5), some (.int x6), none, none, none] [] g (gz_Fi r) := by
  intro n
  induction n with
  | zero => intro x1 x2 x3 x4 x5 x6 g r hf; exact nomatch (show (none : Option (Int32 × gz_S)) = some r from hf)
  | succ n ih =>
    intro x1 x2 x3 x4 x5 x6 g r hf
    unfold fX12_oddsFrom_29 at hf
    refine sz_iload dX12_oddsFrom_29 rfl ?_
    refine sz_bipush dX12_oddsFrom_31 (cB50) ?_
    refine sz_icmp_gt 61 dX12_oddsFrom_33 (by decide) (fun c33 => ?_) (fun c33 => ?_)
    · have hf := gz_ip c33 hf
      refine sz_weak (l2 := [some (.ref 39), some (.int x1), some (.int x2), some (.int x3), some (.int x4), some (.int x5), none, none, none, none]) (gz_subk (gz_subk (gz_subk (gz_subk (gz_subk (gz_subk (gz_subn (gz_subk (gz_subk (gz_subk gz_sub0)))))))))) ?_
      exact hk61 _ _ _ _ _ _ _ hf
    · have hf := gz_in1 c33 hf
      refine sz_aload_n dX12_oddsFrom_36 rfl ?_
      refine sz_getR dX12_oddsFrom_37 flX12_98 kd39 rfl rf39_48 ?_
      refine sz_bipush dX12_oddsFrom_40 (cB51) ?_
      refine sz_iload_n dX12_oddsFrom_42 rfl ?_
      refine sz_imul dX12_oddsFrom_43 ?_
      refine sz_iload dX12_oddsFrom_44 rfl ?_
      refine sz_iadd dX12_oddsFrom_46 ?_
      refine sz_aload_n dX12_oddsFrom_47 rfl ?_
      refine sz_getR dX12_oddsFrom_48 flX12_67 kd39 rfl rf39_33 ?_
      refine sz_iload dX12_oddsFrom_51 rfl ?_
      obtain ⟨c53, hf⟩ := gz_gd hf
      refine sz_ialdL dX12_oddsFrom_53 kd54 c53 rfl ?_
      obtain ⟨c54, hf⟩ := gz_gd hf
      obtain ⟨g54, eg54, hf⟩ := gz_lt hf
      refine sz_iastL dX12_oddsFrom_54 kd62 c54 rfl eg54 ?_
      obtain ⟨y55, ey55, hf⟩ := gz_lt hf
      refine sz_iinc (v := y55) dX12_oddsFrom_55 rfl (by rw [ey55, cI1]) (Nat.le_of_ble_eq_true rfl) rfl ?_
      refine sz_ls (l2 := [some (.ref 39), some (.int x1), some (.int x2), some (.int x3), some (.int x4), some (.int x5), some (.int y55), none, none, none]) rfl ?_
      refine sz_goto 29 dX12_oddsFrom_58 (by decide) ?_
      exact ih _ _ _ _ _ _ _ _ hf
def fX12_oddsFrom_90 (La : gz_L) (FX12_oddsFrom : Int32 → Int32 → Int32 → Int32 → Int32 → gz_S → Option (Int32 × gz_S))  (k122 : Int32 → Int32 → Int32 → Int32 → Int32 → Int32 → Int32 → Int32 → gz_S → Option (Int32 × gz_S)) : Nat → Int32 → Int32 → Int32 → Int32 → Int32 → Int32 → Int32 → Int32 → Int32 → gz_S → Option (Int32 × gz_S)
  | 0, _, _, _, _, _, _, _, _, _, _ => none
  | n + 1, x1, x2, x3, x4, x5, x6, x7, x8, x9, g => if 50 < x9 then k122 x1 x2 x3 x4 x5 x6 x7 x8 g else if gz_ok (((51 : Int32) * x3) + x9) 357 then if gz_ok x9 231 then gz_let (gz_wi g 54 (Int32.toNatClampNeg x9) (g.1 62 (Int32.toNatClampNeg (((51 : Int32) * x3) + x9)))) (fun g115 => gz_let (x9 + 1) (fun y116 => fX12_oddsFrom_90 La FX12_oddsFrom  k122 n x1 x2 x3 x4 x5 x6 x7 x8 y116 g115)) else none else none
set_option maxRecDepth 100000 in
set_option maxHeartbeats 4000000 in
theorem tX12_oddsFrom_90 {La : gz_L} {hr : Nat} {FX12_oddsFrom : Int32 → Int32 → Int32 → Int32 → Int32 → gz_S → Option (Int32 × gz_S)} (HX12_oddsFrom : ∀ (x1 : Int32) (x2 : Int32) (x3 : Int32) (x4 : Int32) (x5 : Int32) (g : gz_S) (r : Int32 × gz_S), FX12_oddsFrom x1 x2 x3 x4 x5 g = some r → gz_K La hr mX12_oddsFrom [.ref 39, .int x1, .int x2, .int x3, .int x4, .int x5] g (gz_Fi r)) (hB : 400 ≤ hr)  {k122 : Int32 → Int32 → Int32 → Int32 → Int32 → Int32 → Int32 → Int32 → gz_S → Option (Int32 × gz_S)}  (hk122 : ∀ (x1 : Int32) (x2 : Int32) (x3 : Int32) (x4 : Int32) (x5 : Int32) (x6 : Int32) (x7 : Int32) (x8 : Int32) (g : gz_S) (r : Int32 × gz_S), k122 x1 x2 x3 x4 x5 x6 x7 x8 g = some r → gz_J La (hr + 1) mX12_oddsFrom 122 [some (.ref 39), some (.int x1), some (.int x2), some (.int x3), some (.int x4), some (.int x5), some (.int x6), some (.int x7), some (.int x8), none] [] g (gz_Fi r)) : ∀ (n : Nat) (x1 : Int32) (x2 : Int32) (x3 : Int32) (x4 : Int32) (x5 : Int32) (x6 : Int32) (x7 : Int32) (x8 : Int32) (x9 : Int32) (g : gz_S) (r : Int32 × gz_S), fX12_oddsFrom_90 La FX12_oddsFrom  k122 n x1 x2 x3 x4 x5 x6 x7 x8 x9 g = some r → gz_J La (hr + 1) mX12_oddsFrom 90 [some (.ref 39), some (.int x1), some (.int x2), some (.int x3), some (.int x4), some (.int x5), some (.int x6), some (.int x7), some (.int x8), some (.int x9)] [] g (gz_Fi r) := by
  intro n
  induction n with
  | zero => intro x1 x2 x3 x4 x5 x6 x7 x8 x9 g r hf; exact nomatch (show (none : Option (Int32 × gz_S)) = some r from hf)
  | succ n ih =>
    intro x1 x2 x3 x4 x5 x6 x7 x8 x9 g r hf
    unfold fX12_oddsFrom_90 at hf
    refine sz_iload dX12_oddsFrom_90 rfl ?_
    refine sz_bipush dX12_oddsFrom_92 (cB50) ?_
    refine sz_icmp_gt 122 dX12_oddsFrom_94 (by decide) (fun c94 => ?_) (fun c94 => ?_)
    · have hf := gz_ip c94 hf
      refine sz_weak (l2 := [some (.ref 39), some (.int x1), some (.int x2), some (.int x3), some (.int x4), some (.int x5), some (.int x6), some (.int x7), some (.int x8), none]) (gz_subk (gz_subk (gz_subk (gz_subk (gz_subk (gz_subk (gz_subk (gz_subk (gz_subk (gz_subn gz_sub0)))))))))) ?_
      exact hk122 _ _ _ _ _ _ _ _ _ _ hf
    · have hf := gz_in1 c94 hf
      refine sz_aload_n dX12_oddsFrom_97 rfl ?_
      refine sz_getR dX12_oddsFrom_98 flX12_67 kd39 rfl rf39_33 ?_
      refine sz_iload dX12_oddsFrom_101 rfl ?_
      refine sz_aload_n dX12_oddsFrom_103 rfl ?_
      refine sz_getR dX12_oddsFrom_104 flX12_98 kd39 rfl rf39_48 ?_
      refine sz_bipush dX12_oddsFrom_107 (cB51) ?_
      refine sz_iload_n dX12_oddsFrom_109 rfl ?_
      refine sz_imul dX12_oddsFrom_110 ?_
      refine sz_iload dX12_oddsFrom_111 rfl ?_
      refine sz_iadd dX12_oddsFrom_113 ?_
      obtain ⟨c114, hf⟩ := gz_gd hf
      refine sz_ialdL dX12_oddsFrom_114 kd62 c114 rfl ?_
      obtain ⟨c115, hf⟩ := gz_gd hf
      obtain ⟨g115, eg115, hf⟩ := gz_lt hf
      refine sz_iastL dX12_oddsFrom_115 kd54 c115 rfl eg115 ?_
      obtain ⟨y116, ey116, hf⟩ := gz_lt hf
      refine sz_iinc (v := y116) dX12_oddsFrom_116 rfl (by rw [ey116, cI1]) (Nat.le_of_ble_eq_true rfl) rfl ?_
      refine sz_ls (l2 := [some (.ref 39), some (.int x1), some (.int x2), some (.int x3), some (.int x4), some (.int x5), some (.int x6), some (.int x7), some (.int x8), some (.int y116)]) rfl ?_
      refine sz_goto 90 dX12_oddsFrom_119 (by decide) ?_
      exact ih _ _ _ _ _ _ _ _ _ _ _ hf
def fX12_oddsFrom_205 (La : gz_L) (FX12_oddsFrom : Int32 → Int32 → Int32 → Int32 → Int32 → gz_S → Option (Int32 × gz_S))  (k81 : Int32 → Int32 → Int32 → Int32 → Int32 → Int32 → Int32 → Int32 → gz_S → Option (Int32 × gz_S)) (x1 : Int32) (x2 : Int32) (x3 : Int32) (x4 : Int32) (x5 : Int32) (x7 : Int32) (x8 : Int32) (s0 : Int32) (s1 : Int32) (s2 : Int32) (s3 : Int32) (s4 : Int32) (s6 : Int32) (g : gz_S) : Option (Int32 × gz_S) := (FX12_oddsFrom s4 s3 s2 s1 s0 g).bind (fun q205 => gz_let (s6 + q205.1) (fun y209 => gz_let (x8 + 1) (fun y211 => k81 x1 x2 x3 x4 x5 y209 x7 y211 q205.2)))
set_option maxRecDepth 100000 in
set_option maxHeartbeats 4000000 in
theorem tX12_oddsFrom_205 {La : gz_L} {hr : Nat} {FX12_oddsFrom : Int32 → Int32 → Int32 → Int32 → Int32 → gz_S → Option (Int32 × gz_S)} (HX12_oddsFrom : ∀ (x1 : Int32) (x2 : Int32) (x3 : Int32) (x4 : Int32) (x5 : Int32) (g : gz_S) (r : Int32 × gz_S), FX12_oddsFrom x1 x2 x3 x4 x5 g = some r → gz_K La hr mX12_oddsFrom [.ref 39, .int x1, .int x2, .int x3, .int x4, .int x5] g (gz_Fi r)) (hB : 400 ≤ hr)  {k81 : Int32 → Int32 → Int32 → Int32 → Int32 → Int32 → Int32 → Int32 → gz_S → Option (Int32 × gz_S)}  (hk81 : ∀ (x1 : Int32) (x2 : Int32) (x3 : Int32) (x4 : Int32) (x5 : Int32) (x6 : Int32) (x7 : Int32) (x8 : Int32) (g : gz_S) (r : Int32 × gz_S), k81 x1 x2 x3 x4 x5 x6 x7 x8 g = some r → gz_J La (hr + 1) mX12_oddsFrom 81 [some (.ref 39), some (.int x1), some (.int x2), some (.int x3), some (.int x4), some (.int x5), some (.int x6), some (.int x7), some (.int x8), none] [] g (gz_Fi r)) : ∀ (x1 : Int32) (x2 : Int32) (x3 : Int32) (x4 : Int32) (x5 : Int32) (x7 : Int32) (x8 : Int32) (s0 : Int32) (s1 : Int32) (s2 : Int32) (s3 : Int32) (s4 : Int32) (s6 : Int32) (g : gz_S) (r : Int32 × gz_S), fX12_oddsFrom_205 La FX12_oddsFrom  k81 x1 x2 x3 x4 x5 x7 x8 s0 s1 s2 s3 s4 s6 g = some r → gz_J La (hr + 1) mX12_oddsFrom 205 [some (.ref 39), some (.int x1), some (.int x2), some (.int x3), some (.int x4), some (.int x5), none, some (.int x7), some (.int x8), none] [.int s0, .int s1, .int s2, .int s3, .int s4, .ref 39, .int s6] g (gz_Fi r) := by
  intro x1 x2 x3 x4 x5 x7 x8 s0 s1 s2 s3 s4 s6 g r hf
  unfold fX12_oddsFrom_205 at hf
  obtain ⟨q205, eq205, hf⟩ := gz_bd hf
  refine sz_callVi [.int s4, .int s3, .int s2, .int s1, .int s0] [.int s6] dX12_oddsFrom_205 mvX12_491 (by omega) (by decide : 12 < 13) kd39 rfl (Nat.le_of_ble_eq_true rfl) (HX12_oddsFrom _ _ _ _ _ _ _ eq205) ?_
  refine sz_iadd dX12_oddsFrom_208 ?_
  obtain ⟨y209, ey209, hf⟩ := gz_lt hf
  refine sz_topi ey209 ?_
  refine sz_istore dX12_oddsFrom_209 (Nat.le_of_ble_eq_true rfl) rfl ?_
  refine sz_ls (l2 := [some (.ref 39), some (.int x1), some (.int x2), some (.int x3), some (.int x4), some (.int x5), some (.int y209), some (.int x7), some (.int x8), none]) rfl ?_
  obtain ⟨y211, ey211, hf⟩ := gz_lt hf
  refine sz_iinc (v := y211) dX12_oddsFrom_211 rfl (by rw [ey211, cI1]) (Nat.le_of_ble_eq_true rfl) rfl ?_
  refine sz_ls (l2 := [some (.ref 39), some (.int x1), some (.int x2), some (.int x3), some (.int x4), some (.int x5), some (.int y209), some (.int x7), some (.int y211), none]) rfl ?_
  refine sz_goto 81 dX12_oddsFrom_214 (by decide) ?_
  exact hk81 _ _ _ _ _ _ _ _ _ _ hf
def fX12_oddsFrom_169 (La : gz_L) (FX12_oddsFrom : Int32 → Int32 → Int32 → Int32 → Int32 → gz_S → Option (Int32 × gz_S))  (k81 : Int32 → Int32 → Int32 → Int32 → Int32 → Int32 → Int32 → Int32 → gz_S → Option (Int32 × gz_S)) (x1 : Int32) (x2 : Int32) (x3 : Int32) (x4 : Int32) (x5 : Int32) (x6 : Int32) (x7 : Int32) (x8 : Int32) (g : gz_S) : Option (Int32 × gz_S) := (fX12_passes La  54 g).bind (fun q174 => if x8 = 1 then fX12_oddsFrom_205 La FX12_oddsFrom  k81  x1 x2 x3 x4 x5 x7 x8 x7 x4 (x3 - 1) x2 x1 x6 q174.2 else fX12_oddsFrom_205 La FX12_oddsFrom  k81  x1 x2 x3 x4 x5 x7 x8 (x5 - x7) x4 (x3 - 1) x2 x1 x6 q174.2)
set_option maxRecDepth 100000 in
set_option maxHeartbeats 4000000 in
theorem tX12_oddsFrom_169 {La : gz_L} {hr : Nat} {FX12_oddsFrom : Int32 → Int32 → Int32 → Int32 → Int32 → gz_S → Option (Int32 × gz_S)} (HX12_oddsFrom : ∀ (x1 : Int32) (x2 : Int32) (x3 : Int32) (x4 : Int32) (x5 : Int32) (g : gz_S) (r : Int32 × gz_S), FX12_oddsFrom x1 x2 x3 x4 x5 g = some r → gz_K La hr mX12_oddsFrom [.ref 39, .int x1, .int x2, .int x3, .int x4, .int x5] g (gz_Fi r)) (hB : 400 ≤ hr)  {k81 : Int32 → Int32 → Int32 → Int32 → Int32 → Int32 → Int32 → Int32 → gz_S → Option (Int32 × gz_S)}  (hk81 : ∀ (x1 : Int32) (x2 : Int32) (x3 : Int32) (x4 : Int32) (x5 : Int32) (x6 : Int32) (x7 : Int32) (x8 : Int32) (g : gz_S) (r : Int32 × gz_S), k81 x1 x2 x3 x4 x5 x6 x7 x8 g = some r → gz_J La (hr + 1) mX12_oddsFrom 81 [some (.ref 39), some (.int x1), some (.int x2), some (.int x3), some (.int x4), some (.int x5), some (.int x6), some (.int x7), some (.int x8), none] [] g (gz_Fi r)) : ∀ (x1 : Int32) (x2 : Int32) (x3 : Int32) (x4 : Int32) (x5 : Int32) (x6 : Int32) (x7 : Int32) (x8 : Int32) (g : gz_S) (r : Int32 × gz_S), fX12_oddsFrom_169 La FX12_oddsFrom  k81 x1 x2 x3 x4 x5 x6 x7 x8 g = some r → gz_J La (hr + 1) mX12_oddsFrom 169 [some (.ref 39), some (.int x1), some (.int x2), some (.int x3), some (.int x4), some (.int x5), some (.int x6), some (.int x7), some (.int x8), none] [] g (gz_Fi r) := by
  intro x1 x2 x3 x4 x5 x6 x7 x8 g r hf
  unfold fX12_oddsFrom_169 at hf
  refine sz_aload_n dX12_oddsFrom_169 rfl ?_
  refine sz_aload_n dX12_oddsFrom_170 rfl ?_
  refine sz_getR dX12_oddsFrom_171 flX12_67 kd39 rfl rf39_33 ?_
  obtain ⟨q174, eq174, hf⟩ := gz_bd hf
  refine sz_callVi [.ref 54] [] dX12_oddsFrom_174 mvX12_367 (by omega) (by decide : 12 < 13) kd39 rfl (Nat.le_of_ble_eq_true rfl) (kX12_passes  (Or.inr rfl) eq174) ?_
  refine sz_istore dX12_oddsFrom_177 (Nat.le_of_ble_eq_true rfl) rfl ?_
  refine sz_ls (l2 := [some (.ref 39), some (.int x1), some (.int x2), some (.int x3), some (.int x4), some (.int x5), some (.int x6), some (.int x7), some (.int x8), some (.int q174.1)]) rfl ?_
  refine sz_iload dX12_oddsFrom_179 rfl ?_
  refine sz_aload_n dX12_oddsFrom_181 rfl ?_
  refine sz_iload_n dX12_oddsFrom_182 rfl ?_
  refine sz_iload_n dX12_oddsFrom_183 rfl ?_
  refine sz_iload_n dX12_oddsFrom_184 rfl ?_
  refine sz_iconst dX12_oddsFrom_185 (cI1) ?_
  refine sz_isub dX12_oddsFrom_186 ?_
  refine sz_iload dX12_oddsFrom_187 rfl ?_
  refine sz_iload dX12_oddsFrom_189 rfl ?_
  refine sz_iconst dX12_oddsFrom_191 (cI1) ?_
  refine sz_icmp_ne 200 dX12_oddsFrom_192 (by decide) (fun c192 => ?_) (fun c192 => ?_)
  · have hf := gz_in1 c192 hf
    refine sz_iload dX12_oddsFrom_200 rfl ?_
    refine sz_iload dX12_oddsFrom_202 rfl ?_
    refine sz_isub dX12_oddsFrom_204 ?_
    refine sz_weak (l2 := [some (.ref 39), some (.int x1), some (.int x2), some (.int x3), some (.int x4), some (.int x5), none, some (.int x7), some (.int x8), none]) (gz_subk (gz_subk (gz_subk (gz_subk (gz_subk (gz_subk (gz_subn (gz_subk (gz_subk (gz_subn gz_sub0)))))))))) ?_
    exact tX12_oddsFrom_205 HX12_oddsFrom hB  hk81 _ _ _ _ _ _ _ _ _ _ _ _ _ _ _ hf
  · have hf := gz_ip c192 hf
    refine sz_iload dX12_oddsFrom_195 rfl ?_
    refine sz_goto 205 dX12_oddsFrom_197 (by decide) ?_
    refine sz_weak (l2 := [some (.ref 39), some (.int x1), some (.int x2), some (.int x3), some (.int x4), some (.int x5), none, some (.int x7), some (.int x8), none]) (gz_subk (gz_subk (gz_subk (gz_subk (gz_subk (gz_subk (gz_subn (gz_subk (gz_subk (gz_subn gz_sub0)))))))))) ?_
    exact tX12_oddsFrom_205 HX12_oddsFrom hB  hk81 _ _ _ _ _ _ _ _ _ _ _ _ _ _ _ hf
def fX12_oddsFrom_81 (La : gz_L) (FX12_oddsFrom : Int32 → Int32 → Int32 → Int32 → Int32 → gz_S → Option (Int32 × gz_S))   : Nat → Int32 → Int32 → Int32 → Int32 → Int32 → Int32 → Int32 → Int32 → gz_S → Option (Int32 × gz_S)
  | 0, _, _, _, _, _, _, _, _, _ => none
  | n + 1, x1, x2, x3, x4, x5, x6, x7, x8, g => if 2 ≤ x8 then some (x6, g) else fX12_oddsFrom_90 La FX12_oddsFrom  (fun (x1 : Int32) (x2 : Int32) (x3 : Int32) (x4 : Int32) (x5 : Int32) (x6 : Int32) (x7 : Int32) (x8 : Int32) g => if x8 = 1 then (fX12_does La  54 x1 g).bind (fun q133 => if q133.1 = 0 then fX12_oddsFrom_169 La FX12_oddsFrom  (fX12_oddsFrom_81 La FX12_oddsFrom   n)  x1 x2 x3 x4 x5 x6 x7 x8 q133.2 else if gz_ok (((30 : Int32) + ((4 : Int32) * x1)) + 1) 231 then if gz_ok (((30 : Int32) + ((4 : Int32) * x1)) + 1) 231 then gz_let (gz_wi q133.2 54 (Int32.toNatClampNeg (((30 : Int32) + ((4 : Int32) * x1)) + 1)) (((q133.2.1 54 (Int32.toNatClampNeg (((30 : Int32) + ((4 : Int32) * x1)) + 1))) + 1) - ((q133.2.1 54 (Int32.toNatClampNeg (((30 : Int32) + ((4 : Int32) * x1)) + 1))) + 1) / 4 * 4)) (fun g168 => fX12_oddsFrom_169 La FX12_oddsFrom  (fX12_oddsFrom_81 La FX12_oddsFrom   n)  x1 x2 x3 x4 x5 x6 x7 x8 g168) else none else none) else fX12_oddsFrom_169 La FX12_oddsFrom  (fX12_oddsFrom_81 La FX12_oddsFrom   n)  x1 x2 x3 x4 x5 x6 x7 x8 g) gz_FU x1 x2 x3 x4 x5 x6 x7 x8 0 g
set_option maxRecDepth 100000 in
set_option maxHeartbeats 4000000 in
theorem tX12_oddsFrom_81 {La : gz_L} {hr : Nat} {FX12_oddsFrom : Int32 → Int32 → Int32 → Int32 → Int32 → gz_S → Option (Int32 × gz_S)} (HX12_oddsFrom : ∀ (x1 : Int32) (x2 : Int32) (x3 : Int32) (x4 : Int32) (x5 : Int32) (g : gz_S) (r : Int32 × gz_S), FX12_oddsFrom x1 x2 x3 x4 x5 g = some r → gz_K La hr mX12_oddsFrom [.ref 39, .int x1, .int x2, .int x3, .int x4, .int x5] g (gz_Fi r)) (hB : 400 ≤ hr)     : ∀ (n : Nat) (x1 : Int32) (x2 : Int32) (x3 : Int32) (x4 : Int32) (x5 : Int32) (x6 : Int32) (x7 : Int32) (x8 : Int32) (g : gz_S) (r : Int32 × gz_S), fX12_oddsFrom_81 La FX12_oddsFrom   n x1 x2 x3 x4 x5 x6 x7 x8 g = some r → gz_J La (hr + 1) mX12_oddsFrom 81 [some (.ref 39), some (.int x1), some (.int x2), some (.int x3), some (.int x4), some (.int x5), some (.int x6), some (.int x7), some (.int x8), none] [] g (gz_Fi r) := by
  intro n
  induction n with
  | zero => intro x1 x2 x3 x4 x5 x6 x7 x8 g r hf; exact nomatch (show (none : Option (Int32 × gz_S)) = some r from hf)
  | succ n ih =>
    intro x1 x2 x3 x4 x5 x6 x7 x8 g r hf
    unfold fX12_oddsFrom_81 at hf
    refine sz_iload dX12_oddsFrom_81 rfl ?_
    refine sz_iconst dX12_oddsFrom_83 (cI2) ?_
    refine sz_icmp_ge 217 dX12_oddsFrom_84 (by decide) (fun c84 => ?_) (fun c84 => ?_)
    · have hf := gz_ip c84 hf
      refine sz_iload dX12_oddsFrom_217 rfl ?_
      cases hf
      exact sz_iret dX12_oddsFrom_219 rfl rfl ⟨rfl, rfl⟩
    · have hf := gz_in1 c84 hf
      refine sz_iconst dX12_oddsFrom_87 (cI0) ?_
      refine sz_istore dX12_oddsFrom_88 (Nat.le_of_ble_eq_true rfl) rfl ?_
      refine sz_ls (l2 := [some (.ref 39), some (.int x1), some (.int x2), some (.int x3), some (.int x4), some (.int x5), some (.int x6), some (.int x7), some (.int x8), some (.int 0)]) rfl ?_
      have hk122 : ∀ (x1 : Int32) (x2 : Int32) (x3 : Int32) (x4 : Int32) (x5 : Int32) (x6 : Int32) (x7 : Int32) (x8 : Int32) (g : gz_S) (r : Int32 × gz_S), (fun (x1 : Int32) (x2 : Int32) (x3 : Int32) (x4 : Int32) (x5 : Int32) (x6 : Int32) (x7 : Int32) (x8 : Int32) g => if x8 = 1 then (fX12_does La  54 x1 g).bind (fun q133 => if q133.1 = 0 then fX12_oddsFrom_169 La FX12_oddsFrom  (fX12_oddsFrom_81 La FX12_oddsFrom   n)  x1 x2 x3 x4 x5 x6 x7 x8 q133.2 else if gz_ok (((30 : Int32) + ((4 : Int32) * x1)) + 1) 231 then if gz_ok (((30 : Int32) + ((4 : Int32) * x1)) + 1) 231 then gz_let (gz_wi q133.2 54 (Int32.toNatClampNeg (((30 : Int32) + ((4 : Int32) * x1)) + 1)) (((q133.2.1 54 (Int32.toNatClampNeg (((30 : Int32) + ((4 : Int32) * x1)) + 1))) + 1) - ((q133.2.1 54 (Int32.toNatClampNeg (((30 : Int32) + ((4 : Int32) * x1)) + 1))) + 1) / 4 * 4)) (fun g168 => fX12_oddsFrom_169 La FX12_oddsFrom  (fX12_oddsFrom_81 La FX12_oddsFrom   n)  x1 x2 x3 x4 x5 x6 x7 x8 g168) else none else none) else fX12_oddsFrom_169 La FX12_oddsFrom  (fX12_oddsFrom_81 La FX12_oddsFrom   n)  x1 x2 x3 x4 x5 x6 x7 x8 g) x1 x2 x3 x4 x5 x6 x7 x8 g = some r → gz_J La (hr + 1) mX12_oddsFrom 122 [some (.ref 39), some (.int x1), some (.int x2), some (.int x3), some (.int x4), some (.int x5), some (.int x6), some (.int x7), some (.int x8), none] [] g (gz_Fi r) := by
        intro x1 x2 x3 x4 x5 x6 x7 x8 g r hf
        refine sz_iload dX12_oddsFrom_122 rfl ?_
        refine sz_iconst dX12_oddsFrom_124 (cI1) ?_
        refine sz_icmp_ne 169 dX12_oddsFrom_125 (by decide) (fun c125 => ?_) (fun c125 => ?_)
        · have hf := gz_in1 c125 hf
          exact tX12_oddsFrom_169 HX12_oddsFrom hB  ih _ _ _ _ _ _ _ _ _ _ hf
        · have hf := gz_ip c125 hf
          refine sz_aload_n dX12_oddsFrom_128 rfl ?_
          refine sz_getR dX12_oddsFrom_129 flX12_67 kd39 rfl rf39_33 ?_
          refine sz_iload_n dX12_oddsFrom_132 rfl ?_
          obtain ⟨q133, eq133, hf⟩ := gz_bd hf
          refine sz_callSi [.ref 54, .int x1] [] dX12_oddsFrom_133 msX12_346 (by omega) (Nat.le_of_ble_eq_true rfl) (kX12_does  (Or.inr rfl) eq133) ?_
          refine sz_if_eq 169 dX12_oddsFrom_136 (by decide) (fun c136 => ?_) (fun c136 => ?_)
          · have hf := gz_ip c136 hf
            exact tX12_oddsFrom_169 HX12_oddsFrom hB  ih _ _ _ _ _ _ _ _ _ _ hf
          · have hf := gz_in1 c136 hf
            refine sz_aload_n dX12_oddsFrom_139 rfl ?_
            refine sz_getR dX12_oddsFrom_140 flX12_67 kd39 rfl rf39_33 ?_
            refine sz_bipush dX12_oddsFrom_143 (cB30) ?_
            refine sz_iconst dX12_oddsFrom_145 (cI4) ?_
            refine sz_iload_n dX12_oddsFrom_146 rfl ?_
            refine sz_imul dX12_oddsFrom_147 ?_
            refine sz_iadd dX12_oddsFrom_148 ?_
            refine sz_iconst dX12_oddsFrom_149 (cI1) ?_
            refine sz_iadd dX12_oddsFrom_150 ?_
            refine sz_aload_n dX12_oddsFrom_151 rfl ?_
            refine sz_getR dX12_oddsFrom_152 flX12_67 kd39 rfl rf39_33 ?_
            refine sz_bipush dX12_oddsFrom_155 (cB30) ?_
            refine sz_iconst dX12_oddsFrom_157 (cI4) ?_
            refine sz_iload_n dX12_oddsFrom_158 rfl ?_
            refine sz_imul dX12_oddsFrom_159 ?_
            refine sz_iadd dX12_oddsFrom_160 ?_
            refine sz_iconst dX12_oddsFrom_161 (cI1) ?_
            refine sz_iadd dX12_oddsFrom_162 ?_
            obtain ⟨c163, hf⟩ := gz_gd hf
            refine sz_ialdL dX12_oddsFrom_163 kd54 c163 rfl ?_
            refine sz_iconst dX12_oddsFrom_164 (cI1) ?_
            refine sz_iadd dX12_oddsFrom_165 ?_
            refine sz_iconst dX12_oddsFrom_166 (cI4) ?_
            refine sz_irem dX12_oddsFrom_167 (by decide) ?_
            obtain ⟨c168, hf⟩ := gz_gd hf
            obtain ⟨g168, eg168, hf⟩ := gz_lt hf
            refine sz_iastL dX12_oddsFrom_168 kd54 c168 rfl eg168 ?_
            exact tX12_oddsFrom_169 HX12_oddsFrom hB  ih _ _ _ _ _ _ _ _ _ _ hf
      exact tX12_oddsFrom_90 HX12_oddsFrom hB  hk122 _ _ _ _ _ _ _ _ _ _ _ _ hf
def fX12_oddsFrom (La : gz_L) (FX12_oddsFrom : Int32 → Int32 → Int32 → Int32 → Int32 → gz_S → Option (Int32 × gz_S)) (x1 : Int32) (x2 : Int32) (x3 : Int32) (x4 : Int32) (x5 : Int32) (g : gz_S) : Option (Int32 × gz_S) :=
  if x3 = 0 then if gz_ok ((30 : Int32) + ((4 : Int32) * x1)) 231 then if (g.1 54 (Int32.toNatClampNeg ((30 : Int32) + ((4 : Int32) * x1)))) = x2 then some (x5, g) else some (0, g) else none else fX12_oddsFrom_29 La FX12_oddsFrom  (fun (x1 : Int32) (x2 : Int32) (x3 : Int32) (x4 : Int32) (x5 : Int32) g => gz_let (Int64.toInt32 (((Int32.toInt64 x5) * (Int32.toInt64 x4)) / 100)) (fun y76 => fX12_oddsFrom_81 La FX12_oddsFrom   gz_FU x1 x2 x3 x4 x5 0 y76 0 g)) gz_FU x1 x2 x3 x4 x5 0 g
set_option maxRecDepth 100000 in
set_option maxHeartbeats 4000000 in
theorem kX12_oddsFrom {La : gz_L} {hr : Nat} {FX12_oddsFrom : Int32 → Int32 → Int32 → Int32 → Int32 → gz_S → Option (Int32 × gz_S)} (HX12_oddsFrom : ∀ (x1 : Int32) (x2 : Int32) (x3 : Int32) (x4 : Int32) (x5 : Int32) (g : gz_S) (r : Int32 × gz_S), FX12_oddsFrom x1 x2 x3 x4 x5 g = some r → gz_K La hr mX12_oddsFrom [.ref 39, .int x1, .int x2, .int x3, .int x4, .int x5] g (gz_Fi r)) (hB : 400 ≤ hr) {x1 : Int32} {x2 : Int32} {x3 : Int32} {x4 : Int32} {x5 : Int32} {g : gz_S} {r : Int32 × gz_S}  (hf : fX12_oddsFrom La FX12_oddsFrom x1 x2 x3 x4 x5 g = some r) : gz_K La (hr + 1) mX12_oddsFrom [.ref 39, .int x1, .int x2, .int x3, .int x4, .int x5] g (gz_Fi r) := by
  unfold fX12_oddsFrom at hf
  refine gz_K.of 4 (by decide +kernel) rfl ?_
  show gz_J La (hr + 1) mX12_oddsFrom 0 [some (.ref 39), some (.int x1), some (.int x2), some (.int x3), some (.int x4), some (.int x5), none, none, none, none] [] g (gz_Fi r)
  refine sz_iload_n dX12_oddsFrom_0 rfl ?_
  refine sz_if_ne 26 dX12_oddsFrom_1 (by decide) (fun c1 => ?_) (fun c1 => ?_)
  · have hf := gz_in1 c1 hf
    refine sz_iconst dX12_oddsFrom_26 (cI0) ?_
    refine sz_istore dX12_oddsFrom_27 (Nat.le_of_ble_eq_true rfl) rfl ?_
    refine sz_ls (l2 := [some (.ref 39), some (.int x1), some (.int x2), some (.int x3), some (.int x4), some (.int x5), some (.int 0), none, none, none]) rfl ?_
    have hk61 : ∀ (x1 : Int32) (x2 : Int32) (x3 : Int32) (x4 : Int32) (x5 : Int32) (g : gz_S) (r : Int32 × gz_S), (fun (x1 : Int32) (x2 : Int32) (x3 : Int32) (x4 : Int32) (x5 : Int32) g => gz_let (Int64.toInt32 (((Int32.toInt64 x5) * (Int32.toInt64 x4)) / 100)) (fun y76 => fX12_oddsFrom_81 La FX12_oddsFrom   gz_FU x1 x2 x3 x4 x5 0 y76 0 g)) x1 x2 x3 x4 x5 g = some r → gz_J La (hr + 1) mX12_oddsFrom 61 [some (.ref 39), some (.int x1), some (.int x2), some (.int x3), some (.int x4), some (.int x5), none, none, none, none] [] g (gz_Fi r) := by
      intro x1 x2 x3 x4 x5 g r hf
      refine sz_iconst dX12_oddsFrom_61 (cI0) ?_
      refine sz_istore dX12_oddsFrom_62 (Nat.le_of_ble_eq_true rfl) rfl ?_
      refine sz_ls (l2 := [some (.ref 39), some (.int x1), some (.int x2), some (.int x3), some (.int x4), some (.int x5), some (.int 0), none, none, none]) rfl ?_
      refine sz_iload dX12_oddsFrom_64 rfl ?_
      refine sz_i2l dX12_oddsFrom_66 ?_
      refine sz_iload dX12_oddsFrom_67 rfl ?_
      refine sz_i2l dX12_oddsFrom_69 ?_
      refine sz_lmul dX12_oddsFrom_70 ?_
      refine sz_ldc2 dX12_oddsFrom_71 cstlX12_489 ?_
      refine sz_ldiv dX12_oddsFrom_74 (by decide) ?_
      refine sz_l2i dX12_oddsFrom_75 ?_
      obtain ⟨y76, ey76, hf⟩ := gz_lt hf
      refine sz_topi ey76 ?_
      refine sz_istore dX12_oddsFrom_76 (Nat.le_of_ble_eq_true rfl) rfl ?_
      refine sz_ls (l2 := [some (.ref 39), some (.int x1), some (.int x2), some (.int x3), some (.int x4), some (.int x5), some (.int 0), some (.int y76), none, none]) rfl ?_
      refine sz_iconst dX12_oddsFrom_78 (cI0) ?_
      refine sz_istore dX12_oddsFrom_79 (Nat.le_of_ble_eq_true rfl) rfl ?_
      refine sz_ls (l2 := [some (.ref 39), some (.int x1), some (.int x2), some (.int x3), some (.int x4), some (.int x5), some (.int 0), some (.int y76), some (.int 0), none]) rfl ?_
      exact tX12_oddsFrom_81 HX12_oddsFrom hB   _ _ _ _ _ _ _ _ _ _ _ hf
    exact tX12_oddsFrom_29 HX12_oddsFrom hB  hk61 _ _ _ _ _ _ _ _ _ hf
  · have hf := gz_ip c1 hf
    refine sz_aload_n dX12_oddsFrom_4 rfl ?_
    refine sz_getR dX12_oddsFrom_5 flX12_67 kd39 rfl rf39_33 ?_
    refine sz_bipush dX12_oddsFrom_8 (cB30) ?_
    refine sz_iconst dX12_oddsFrom_10 (cI4) ?_
    refine sz_iload_n dX12_oddsFrom_11 rfl ?_
    refine sz_imul dX12_oddsFrom_12 ?_
    refine sz_iadd dX12_oddsFrom_13 ?_
    obtain ⟨c14, hf⟩ := gz_gd hf
    refine sz_ialdL dX12_oddsFrom_14 kd54 c14 rfl ?_
    refine sz_iload_n dX12_oddsFrom_15 rfl ?_
    refine sz_icmp_ne 24 dX12_oddsFrom_16 (by decide) (fun c16 => ?_) (fun c16 => ?_)
    · have hf := gz_in1 c16 hf
      refine sz_iconst dX12_oddsFrom_24 (cI0) ?_
      cases hf
      exact sz_iret dX12_oddsFrom_25 rfl rfl ⟨rfl, rfl⟩
    · have hf := gz_ip c16 hf
      refine sz_iload dX12_oddsFrom_19 rfl ?_
      refine sz_goto 25 dX12_oddsFrom_21 (by decide) ?_
      cases hf
      exact sz_iret dX12_oddsFrom_25 rfl rfl ⟨rfl, rfl⟩
def fX12_oddsFromD (La : gz_L) : Nat → Int32 → Int32 → Int32 → Int32 → Int32 → gz_S → Option (Int32 × gz_S)
  | 0, _, _, _, _, _, _ => none
  | d + 1, x1, x2, x3, x4, x5, g => fX12_oddsFrom La (fX12_oddsFromD La d) x1 x2 x3 x4 x5 g
theorem kX12_oddsFromD {La : gz_L} : ∀ (d : Nat) (x1 : Int32) (x2 : Int32) (x3 : Int32) (x4 : Int32) (x5 : Int32) (g : gz_S) (r : Int32 × gz_S), fX12_oddsFromD La d x1 x2 x3 x4 x5 g = some r → gz_K La (400 + 1 * d) mX12_oddsFrom [.ref 39, .int x1, .int x2, .int x3, .int x4, .int x5] g (gz_Fi r) := by
  intro d
  induction d with
  | zero => intro x1 x2 x3 x4 x5 g r hf; exact nomatch (show (none : Option (Int32 × gz_S)) = some r from hf)
  | succ d ih =>
    intro x1 x2 x3 x4 x5 g r hf
    have e : 400 + 1 * (d + 1) = (400 + 1 * d) + 1 := by omega
    rw [e]
    exact kX12_oddsFrom (hr := 400 + 1 * d) ih (Nat.le_add_right _ _) hf
def fX12_oddsFromT (La : gz_L) (x1 : Int32) (x2 : Int32) (x3 : Int32) (x4 : Int32) (x5 : Int32) (g : gz_S) : Option (Int32 × gz_S) := fX12_oddsFromD La 10 x1 x2 x3 x4 x5 g
theorem kX12_oddsFromT {La : gz_L} {x1 : Int32} {x2 : Int32} {x3 : Int32} {x4 : Int32} {x5 : Int32} {g : gz_S} {r : Int32 × gz_S} (hf : fX12_oddsFromT La x1 x2 x3 x4 x5 g = some r) : gz_K La 410 mX12_oddsFrom [.ref 39, .int x1, .int x2, .int x3, .int x4, .int x5] g (gz_Fi r) := kX12_oddsFromD 10 x1 x2 x3 x4 x5 g r hf

def fX12_odds (La : gz_L)  (x1 : Int32) (x2 : Int32) (x3 : Int32) (x4 : Int32) (g : gz_S) : Option (Int32 × gz_S) :=
  gz_let (gz_wi g 39 0 0) (fun g2 => (fX12_isGoer La  x1 g2).bind (fun q7 => if q7.1 = 0 then some ((-1), q7.2) else (fX12_isCell La  x2 q7.2).bind (fun q15 => if q15.1 = 0 then some ((-1), q15.2) else (fX12_isIn La  (Int32.toInt64 x3) 0 6 q15.2).bind (fun q27 => if q27.1 = 0 then some ((-1), q27.2) else (fX12_isIn La  (Int32.toInt64 x4) 0 100 q27.2).bind (fun q40 => if q40.1 = 0 then some ((-1), q40.2) else (fX12_copy La   q40.2).bind (fun q56 => (fX12_oddsFromT La x1 x2 x3 x4 1000000000 q56).bind (fun q68 => some (q68.1, q68.2))))))))
set_option maxRecDepth 100000 in
set_option maxHeartbeats 4000000 in
theorem kX12_odds {La : gz_L}  {x1 : Int32} {x2 : Int32} {x3 : Int32} {x4 : Int32} {g : gz_S} {r : Int32 × gz_S}  (hf : fX12_odds La  x1 x2 x3 x4 g = some r) : gz_K La 411 mX12_odds [.ref 39, .int x1, .int x2, .int x3, .int x4] g (gz_Fi r) := by
  unfold fX12_odds at hf
  refine gz_K.of 0 (by decide +kernel) rfl ?_
  show gz_J La 411 mX12_odds 0 [some (.ref 39), some (.int x1), some (.int x2), some (.int x3), some (.int x4)] [] g (gz_Fi r)
  refine sz_aload_n dX12_odds_0 rfl ?_
  refine sz_iconst dX12_odds_1 (cI0) ?_
  obtain ⟨g2, eg2, hf⟩ := gz_lt hf
  refine sz_putI2 dX12_odds_2 flX12_104 kd39 fi12_0 eg2 ?_
  refine sz_aload_n dX12_odds_5 rfl ?_
  refine sz_iload_n dX12_odds_6 rfl ?_
  obtain ⟨q7, eq7, hf⟩ := gz_bd hf
  refine sz_callVi [.int x1] [] dX12_odds_7 mvX12_325 (Nat.le_of_ble_eq_true rfl) (by decide : 12 < 13) kd39 rfl (Nat.le_of_ble_eq_true rfl) (kX12_isGoer   eq7) ?_
  refine sz_if_eq 46 dX12_odds_10 (by decide) (fun c10 => ?_) (fun c10 => ?_)
  · have hf := gz_ip c10 hf
    refine sz_iconst dX12_odds_46 (cIm1) ?_
    cases hf
    exact sz_iret dX12_odds_47 rfl rfl ⟨rfl, rfl⟩
  · have hf := gz_in1 c10 hf
    refine sz_aload_n dX12_odds_13 rfl ?_
    refine sz_iload_n dX12_odds_14 rfl ?_
    obtain ⟨q15, eq15, hf⟩ := gz_bd hf
    refine sz_callVi [.int x2] [] dX12_odds_15 mvX12_373 (Nat.le_of_ble_eq_true rfl) (by decide : 12 < 13) kd39 rfl (Nat.le_of_ble_eq_true rfl) (kX12_isCell   eq15) ?_
    refine sz_if_eq 46 dX12_odds_18 (by decide) (fun c18 => ?_) (fun c18 => ?_)
    · have hf := gz_ip c18 hf
      refine sz_iconst dX12_odds_46 (cIm1) ?_
      cases hf
      exact sz_iret dX12_odds_47 rfl rfl ⟨rfl, rfl⟩
    · have hf := gz_in1 c18 hf
      refine sz_iload_n dX12_odds_21 rfl ?_
      refine sz_i2l dX12_odds_22 ?_
      refine sz_lconst (v := 0) dX12_odds_23 rfl ?_
      refine sz_ldc2 dX12_odds_24 cstlX12_494 ?_
      obtain ⟨q27, eq27, hf⟩ := gz_bd hf
      refine sz_callSi [.long (Int32.toInt64 x3), .long 0, .long 6] [] dX12_odds_27 msX12_225 (Nat.le_of_ble_eq_true rfl) (Nat.le_of_ble_eq_true rfl) (kX12_isIn   eq27) ?_
      refine sz_if_eq 46 dX12_odds_30 (by decide) (fun c30 => ?_) (fun c30 => ?_)
      · have hf := gz_ip c30 hf
        refine sz_iconst dX12_odds_46 (cIm1) ?_
        cases hf
        exact sz_iret dX12_odds_47 rfl rfl ⟨rfl, rfl⟩
      · have hf := gz_in1 c30 hf
        refine sz_iload dX12_odds_33 rfl ?_
        refine sz_i2l dX12_odds_35 ?_
        refine sz_lconst (v := 0) dX12_odds_36 rfl ?_
        refine sz_ldc2 dX12_odds_37 cstlX12_489 ?_
        obtain ⟨q40, eq40, hf⟩ := gz_bd hf
        refine sz_callSi [.long (Int32.toInt64 x4), .long 0, .long 100] [] dX12_odds_40 msX12_225 (Nat.le_of_ble_eq_true rfl) (Nat.le_of_ble_eq_true rfl) (kX12_isIn   eq40) ?_
        refine sz_if_ne 48 dX12_odds_43 (by decide) (fun c43 => ?_) (fun c43 => ?_)
        · have hf := gz_in1 c43 hf
          refine sz_aload_n dX12_odds_48 rfl ?_
          refine sz_getR dX12_odds_49 flX12_64 kd39 rfl rf39_32 ?_
          refine sz_aload_n dX12_odds_52 rfl ?_
          refine sz_getR dX12_odds_53 flX12_67 kd39 rfl rf39_33 ?_
          obtain ⟨q56, eq56, hf⟩ := gz_bd hf
          refine sz_callSv [.ref 53, .ref 54] [] dX12_odds_56 msX12_434 (Nat.le_of_ble_eq_true rfl) (Nat.le_of_ble_eq_true rfl) (kX12_copy   eq56) ?_
          refine sz_aload_n dX12_odds_59 rfl ?_
          refine sz_iload_n dX12_odds_60 rfl ?_
          refine sz_iload_n dX12_odds_61 rfl ?_
          refine sz_iload_n dX12_odds_62 rfl ?_
          refine sz_iload dX12_odds_63 rfl ?_
          refine sz_ldcw dX12_odds_65 cstX12_496 ?_
          obtain ⟨q68, eq68, hf⟩ := gz_bd hf
          refine sz_callVi [.int x1, .int x2, .int x3, .int x4, .int 1000000000] [] dX12_odds_68 mvX12_491 (Nat.le_of_ble_eq_true rfl) (by decide : 12 < 13) kd39 rfl (Nat.le_of_ble_eq_true rfl) (kX12_oddsFromT eq68) ?_
          cases hf
          exact sz_iret dX12_odds_71 rfl rfl ⟨rfl, rfl⟩
        · have hf := gz_ip c43 hf
          refine sz_iconst dX12_odds_46 (cIm1) ?_
          cases hf
          exact sz_iret dX12_odds_47 rfl rfl ⟨rfl, rfl⟩
def fX12_shares_32 (La : gz_L)   (k65 : Int32 → Int32 → Int64 → gz_S → Option (Int32 × gz_S)) : Nat → Int32 → Int32 → Int64 → Int32 → gz_S → Option (Int32 × gz_S)
  | 0, _, _, _, _, _ => none
  | n + 1, x1, x2, x3, x5, g => if (g.1 39 27) ≤ x5 then k65 x1 x2 x3 g else if gz_ok (((30 : Int32) + ((4 : Int32) * x5)) + 2) 231 then gz_let (x3 + (Int32.toInt64 (g.1 53 (Int32.toNatClampNeg (((30 : Int32) + ((4 : Int32) * x5)) + 2))))) (fun y58 => gz_let (x5 + 1) (fun y59 => fX12_shares_32 La   k65 n x1 x2 y58 y59 g)) else none
set_option maxRecDepth 100000 in
set_option maxHeartbeats 4000000 in
theorem tX12_shares_32 {La : gz_L}   {k65 : Int32 → Int32 → Int64 → gz_S → Option (Int32 × gz_S)}  (hk65 : ∀ (x1 : Int32) (x2 : Int32) (x3 : Int64) (g : gz_S) (r : Int32 × gz_S), k65 x1 x2 x3 g = some r → gz_J La 2 mX12_shares 65 [some (.ref 39), some (.int x1), some (.int x2), some (.long x3), none, none] [] g (gz_Fi r)) : ∀ (n : Nat) (x1 : Int32) (x2 : Int32) (x3 : Int64) (x5 : Int32) (g : gz_S) (r : Int32 × gz_S), fX12_shares_32 La   k65 n x1 x2 x3 x5 g = some r → gz_J La 2 mX12_shares 32 [some (.ref 39), some (.int x1), some (.int x2), some (.long x3), none, some (.int x5)] [] g (gz_Fi r) := by
  intro n
  induction n with
  | zero => intro x1 x2 x3 x5 g r hf; exact nomatch (show (none : Option (Int32 × gz_S)) = some r from hf)
  | succ n ih =>
    intro x1 x2 x3 x5 g r hf
    unfold fX12_shares_32 at hf
    refine sz_iload dX12_shares_32 rfl ?_
    refine sz_aload_n dX12_shares_34 rfl ?_
    refine sz_getI dX12_shares_35 flX12_303 kd39 rfl ?_
    refine sz_icmp_ge 65 dX12_shares_38 (by decide) (fun c38 => ?_) (fun c38 => ?_)
    · have hf := gz_ip c38 hf
      refine sz_weak (l2 := [some (.ref 39), some (.int x1), some (.int x2), some (.long x3), none, none]) (gz_subk (gz_subk (gz_subk (gz_subk (gz_subk (gz_subn gz_sub0)))))) ?_
      exact hk65 _ _ _ _ _ hf
    · have hf := gz_in1 c38 hf
      refine sz_lload_n dX12_shares_41 rfl ?_
      refine sz_aload_n dX12_shares_42 rfl ?_
      refine sz_getR dX12_shares_43 flX12_64 kd39 rfl rf39_32 ?_
      refine sz_bipush dX12_shares_46 (cB30) ?_
      refine sz_iconst dX12_shares_48 (cI4) ?_
      refine sz_iload dX12_shares_49 rfl ?_
      refine sz_imul dX12_shares_51 ?_
      refine sz_iadd dX12_shares_52 ?_
      refine sz_iconst dX12_shares_53 (cI2) ?_
      refine sz_iadd dX12_shares_54 ?_
      obtain ⟨c55, hf⟩ := gz_gd hf
      refine sz_ialdL dX12_shares_55 kd53 c55 rfl ?_
      refine sz_i2l dX12_shares_56 ?_
      refine sz_ladd dX12_shares_57 ?_
      obtain ⟨y58, ey58, hf⟩ := gz_lt hf
      refine sz_topl ey58 ?_
      refine sz_lstore_n dX12_shares_58 rfl (Nat.le_of_ble_eq_true rfl) rfl ?_
      refine sz_ls (l2 := [some (.ref 39), some (.int x1), some (.int x2), some (.long y58), none, some (.int x5)]) rfl ?_
      obtain ⟨y59, ey59, hf⟩ := gz_lt hf
      refine sz_iinc (v := y59) dX12_shares_59 rfl (by rw [ey59, cI1]) (Nat.le_of_ble_eq_true rfl) rfl ?_
      refine sz_ls (l2 := [some (.ref 39), some (.int x1), some (.int x2), some (.long y58), none, some (.int y59)]) rfl ?_
      refine sz_goto 32 dX12_shares_62 (by decide) ?_
      exact ih _ _ _ _ _ _ hf
def fX12_shares (La : gz_L)  (x1 : Int32) (x2 : Int32) (g : gz_S) : Option (Int32 × gz_S) :=
  gz_let (gz_wi g 39 0 0) (fun g2 => (fX12_isGoer La  x1 g2).bind (fun q7 => if q7.1 = 0 then some ((-1), q7.2) else (fX12_isIn La  (Int32.toInt64 x2) 0 999 q7.2).bind (fun q19 => if q19.1 = 0 then some ((-1), q19.2) else fX12_shares_32 La   (fun (x1 : Int32) (x2 : Int32) (x3 : Int64) g => if (lg_cmp x3 0) = 0 then some (0, g) else if gz_ok (((30 : Int32) + ((4 : Int32) * x1)) + 2) 231 then if ¬ x3 = 0 then some (Int64.toInt32 (((Int32.toInt64 x2) * (Int32.toInt64 (g.1 53 (Int32.toNatClampNeg (((30 : Int32) + ((4 : Int32) * x1)) + 2))))) / x3), g) else none else none) gz_FU x1 x2 0 0 q19.2)))
set_option maxRecDepth 100000 in
set_option maxHeartbeats 4000000 in
theorem kX12_shares {La : gz_L}  {x1 : Int32} {x2 : Int32} {g : gz_S} {r : Int32 × gz_S}  (hf : fX12_shares La  x1 x2 g = some r) : gz_K La 2 mX12_shares [.ref 39, .int x1, .int x2] g (gz_Fi r) := by
  unfold fX12_shares at hf
  refine gz_K.of 3 (by decide +kernel) rfl ?_
  show gz_J La 2 mX12_shares 0 [some (.ref 39), some (.int x1), some (.int x2), none, none, none] [] g (gz_Fi r)
  refine sz_aload_n dX12_shares_0 rfl ?_
  refine sz_iconst dX12_shares_1 (cI0) ?_
  obtain ⟨g2, eg2, hf⟩ := gz_lt hf
  refine sz_putI2 dX12_shares_2 flX12_104 kd39 fi12_0 eg2 ?_
  refine sz_aload_n dX12_shares_5 rfl ?_
  refine sz_iload_n dX12_shares_6 rfl ?_
  obtain ⟨q7, eq7, hf⟩ := gz_bd hf
  refine sz_callVi [.int x1] [] dX12_shares_7 mvX12_325 (Nat.le_of_ble_eq_true rfl) (by decide : 12 < 13) kd39 rfl (Nat.le_of_ble_eq_true rfl) (kX12_isGoer   eq7) ?_
  refine sz_if_eq 25 dX12_shares_10 (by decide) (fun c10 => ?_) (fun c10 => ?_)
  · have hf := gz_ip c10 hf
    refine sz_iconst dX12_shares_25 (cIm1) ?_
    cases hf
    exact sz_iret dX12_shares_26 rfl rfl ⟨rfl, rfl⟩
  · have hf := gz_in1 c10 hf
    refine sz_iload_n dX12_shares_13 rfl ?_
    refine sz_i2l dX12_shares_14 ?_
    refine sz_lconst (v := 0) dX12_shares_15 rfl ?_
    refine sz_ldc2 dX12_shares_16 cstlX12_497 ?_
    obtain ⟨q19, eq19, hf⟩ := gz_bd hf
    refine sz_callSi [.long (Int32.toInt64 x2), .long 0, .long 999] [] dX12_shares_19 msX12_225 (Nat.le_of_ble_eq_true rfl) (Nat.le_of_ble_eq_true rfl) (kX12_isIn   eq19) ?_
    refine sz_if_ne 27 dX12_shares_22 (by decide) (fun c22 => ?_) (fun c22 => ?_)
    · have hf := gz_in1 c22 hf
      refine sz_lconst (v := 0) dX12_shares_27 rfl ?_
      refine sz_lstore_n dX12_shares_28 rfl (Nat.le_of_ble_eq_true rfl) rfl ?_
      refine sz_ls (l2 := [some (.ref 39), some (.int x1), some (.int x2), some (.long 0), none, none]) rfl ?_
      refine sz_iconst dX12_shares_29 (cI0) ?_
      refine sz_istore dX12_shares_30 (Nat.le_of_ble_eq_true rfl) rfl ?_
      refine sz_ls (l2 := [some (.ref 39), some (.int x1), some (.int x2), some (.long 0), none, some (.int 0)]) rfl ?_
      have hk65 : ∀ (x1 : Int32) (x2 : Int32) (x3 : Int64) (g : gz_S) (r : Int32 × gz_S), (fun (x1 : Int32) (x2 : Int32) (x3 : Int64) g => if (lg_cmp x3 0) = 0 then some (0, g) else if gz_ok (((30 : Int32) + ((4 : Int32) * x1)) + 2) 231 then if ¬ x3 = 0 then some (Int64.toInt32 (((Int32.toInt64 x2) * (Int32.toInt64 (g.1 53 (Int32.toNatClampNeg (((30 : Int32) + ((4 : Int32) * x1)) + 2))))) / x3), g) else none else none) x1 x2 x3 g = some r → gz_J La 2 mX12_shares 65 [some (.ref 39), some (.int x1), some (.int x2), some (.long x3), none, none] [] g (gz_Fi r) := by
        intro x1 x2 x3 g r hf
        refine sz_lload_n dX12_shares_65 rfl ?_
        refine sz_lconst (v := 0) dX12_shares_66 rfl ?_
        refine sz_lcmp dX12_shares_67 ?_
        refine sz_if_ne 75 dX12_shares_68 (by decide) (fun c68 => ?_) (fun c68 => ?_)
        · have hf := gz_in1 c68 hf
          refine sz_iload_n dX12_shares_75 rfl ?_
          refine sz_i2l dX12_shares_76 ?_
          refine sz_aload_n dX12_shares_77 rfl ?_
          refine sz_getR dX12_shares_78 flX12_64 kd39 rfl rf39_32 ?_
          refine sz_bipush dX12_shares_81 (cB30) ?_
          refine sz_iconst dX12_shares_83 (cI4) ?_
          refine sz_iload_n dX12_shares_84 rfl ?_
          refine sz_imul dX12_shares_85 ?_
          refine sz_iadd dX12_shares_86 ?_
          refine sz_iconst dX12_shares_87 (cI2) ?_
          refine sz_iadd dX12_shares_88 ?_
          obtain ⟨c89, hf⟩ := gz_gd hf
          refine sz_ialdL dX12_shares_89 kd53 c89 rfl ?_
          refine sz_i2l dX12_shares_90 ?_
          refine sz_lmul dX12_shares_91 ?_
          refine sz_lload_n dX12_shares_92 rfl ?_
          obtain ⟨c93, hf⟩ := gz_gd hf
          refine sz_ldiv dX12_shares_93 c93 ?_
          refine sz_l2i dX12_shares_94 ?_
          cases hf
          exact sz_iret dX12_shares_95 rfl rfl ⟨rfl, rfl⟩
        · have hf := gz_ip c68 hf
          refine sz_iconst dX12_shares_71 (cI0) ?_
          refine sz_goto 95 dX12_shares_72 (by decide) ?_
          cases hf
          exact sz_iret dX12_shares_95 rfl rfl ⟨rfl, rfl⟩
      exact tX12_shares_32   hk65 _ _ _ _ _ _ _ hf
    · have hf := gz_ip c22 hf
      refine sz_iconst dX12_shares_25 (cIm1) ?_
      cases hf
      exact sz_iret dX12_shares_26 rfl rfl ⟨rfl, rfl⟩
def fX12_ahead (La : gz_L)  (x1 : Int32) (g : gz_S) : Option (Int32 × gz_S) :=
  gz_let (gz_wi g 39 0 0) (fun g2 => (fX12_isGoer La  x1 g2).bind (fun q7 => if q7.1 = 0 then some ((-1), q7.2) else (fX12_does La  53 x1 q7.2).bind (fun q18 => if q18.1 = 0 then some ((-1), q18.2) else if gz_ok ((30 : Int32) + ((4 : Int32) * x1)) 231 then (fX12_isUnder La  53 (q18.2.1 53 (Int32.toNatClampNeg ((30 : Int32) + ((4 : Int32) * x1)))) q18.2).bind (fun q40 => if q40.1 = 0 then (fX12_copy La   q40.2).bind (fun q56 => (fX12_paceOf La  x1 q56).bind (fun q67 => (fX12_goStep La  54 x1 q67.1 q67.2).bind (fun q70 => if gz_ok ((30 : Int32) + ((4 : Int32) * x1)) 231 then some (q70.1 54 (Int32.toNatClampNeg ((30 : Int32) + ((4 : Int32) * x1))), q70) else none))) else some ((-1), q40.2)) else none)))
set_option maxRecDepth 100000 in
set_option maxHeartbeats 4000000 in
theorem kX12_ahead {La : gz_L}  {x1 : Int32} {g : gz_S} {r : Int32 × gz_S}  (hf : fX12_ahead La  x1 g = some r) : gz_K La 144 mX12_ahead [.ref 39, .int x1] g (gz_Fi r) := by
  unfold fX12_ahead at hf
  refine gz_K.of 0 (by decide +kernel) rfl ?_
  show gz_J La 144 mX12_ahead 0 [some (.ref 39), some (.int x1)] [] g (gz_Fi r)
  refine sz_aload_n dX12_ahead_0 rfl ?_
  refine sz_iconst dX12_ahead_1 (cI0) ?_
  obtain ⟨g2, eg2, hf⟩ := gz_lt hf
  refine sz_putI2 dX12_ahead_2 flX12_104 kd39 fi12_0 eg2 ?_
  refine sz_aload_n dX12_ahead_5 rfl ?_
  refine sz_iload_n dX12_ahead_6 rfl ?_
  obtain ⟨q7, eq7, hf⟩ := gz_bd hf
  refine sz_callVi [.int x1] [] dX12_ahead_7 mvX12_325 (Nat.le_of_ble_eq_true rfl) (by decide : 12 < 13) kd39 rfl (Nat.le_of_ble_eq_true rfl) (kX12_isGoer   eq7) ?_
  refine sz_if_eq 46 dX12_ahead_10 (by decide) (fun c10 => ?_) (fun c10 => ?_)
  · have hf := gz_ip c10 hf
    refine sz_iconst dX12_ahead_46 (cIm1) ?_
    cases hf
    exact sz_iret dX12_ahead_47 rfl rfl ⟨rfl, rfl⟩
  · have hf := gz_in1 c10 hf
    refine sz_aload_n dX12_ahead_13 rfl ?_
    refine sz_getR dX12_ahead_14 flX12_64 kd39 rfl rf39_32 ?_
    refine sz_iload_n dX12_ahead_17 rfl ?_
    obtain ⟨q18, eq18, hf⟩ := gz_bd hf
    refine sz_callSi [.ref 53, .int x1] [] dX12_ahead_18 msX12_346 (Nat.le_of_ble_eq_true rfl) (Nat.le_of_ble_eq_true rfl) (kX12_does  (Or.inl rfl) eq18) ?_
    refine sz_if_eq 46 dX12_ahead_21 (by decide) (fun c21 => ?_) (fun c21 => ?_)
    · have hf := gz_ip c21 hf
      refine sz_iconst dX12_ahead_46 (cIm1) ?_
      cases hf
      exact sz_iret dX12_ahead_47 rfl rfl ⟨rfl, rfl⟩
    · have hf := gz_in1 c21 hf
      refine sz_aload_n dX12_ahead_24 rfl ?_
      refine sz_aload_n dX12_ahead_25 rfl ?_
      refine sz_getR dX12_ahead_26 flX12_64 kd39 rfl rf39_32 ?_
      refine sz_aload_n dX12_ahead_29 rfl ?_
      refine sz_getR dX12_ahead_30 flX12_64 kd39 rfl rf39_32 ?_
      refine sz_bipush dX12_ahead_33 (cB30) ?_
      refine sz_iconst dX12_ahead_35 (cI4) ?_
      refine sz_iload_n dX12_ahead_36 rfl ?_
      refine sz_imul dX12_ahead_37 ?_
      refine sz_iadd dX12_ahead_38 ?_
      obtain ⟨c39, hf⟩ := gz_gd hf
      refine sz_ialdL dX12_ahead_39 kd53 c39 rfl ?_
      obtain ⟨q40, eq40, hf⟩ := gz_bd hf
      refine sz_callVi [.ref 53, .int (q18.2.1 53 (Int32.toNatClampNeg ((30 : Int32) + ((4 : Int32) * x1))))] [] dX12_ahead_40 mvX12_331 (Nat.le_of_ble_eq_true rfl) (by decide : 12 < 13) kd39 rfl (Nat.le_of_ble_eq_true rfl) (kX12_isUnder  (Or.inl rfl) eq40) ?_
      refine sz_if_eq 48 dX12_ahead_43 (by decide) (fun c43 => ?_) (fun c43 => ?_)
      · have hf := gz_ip c43 hf
        refine sz_aload_n dX12_ahead_48 rfl ?_
        refine sz_getR dX12_ahead_49 flX12_64 kd39 rfl rf39_32 ?_
        refine sz_aload_n dX12_ahead_52 rfl ?_
        refine sz_getR dX12_ahead_53 flX12_67 kd39 rfl rf39_33 ?_
        obtain ⟨q56, eq56, hf⟩ := gz_bd hf
        refine sz_callSv [.ref 53, .ref 54] [] dX12_ahead_56 msX12_434 (Nat.le_of_ble_eq_true rfl) (Nat.le_of_ble_eq_true rfl) (kX12_copy   eq56) ?_
        refine sz_aload_n dX12_ahead_59 rfl ?_
        refine sz_aload_n dX12_ahead_60 rfl ?_
        refine sz_getR dX12_ahead_61 flX12_67 kd39 rfl rf39_33 ?_
        refine sz_iload_n dX12_ahead_64 rfl ?_
        refine sz_aload_n dX12_ahead_65 rfl ?_
        refine sz_iload_n dX12_ahead_66 rfl ?_
        obtain ⟨q67, eq67, hf⟩ := gz_bd hf
        refine sz_callVi [.int x1] [.int x1, .ref 54, .ref 39] dX12_ahead_67 mvX12_359 (Nat.le_of_ble_eq_true rfl) (by decide : 12 < 13) kd39 rfl (Nat.le_of_ble_eq_true rfl) (kX12_paceOf   eq67) ?_
        obtain ⟨q70, eq70, hf⟩ := gz_bd hf
        refine sz_callVv [.ref 54, .int x1, .int q67.1] [] dX12_ahead_70 mvX12_349 (Nat.le_of_ble_eq_true rfl) (by decide : 12 < 13) kd39 rfl (Nat.le_of_ble_eq_true rfl) (kX12_goStep  (Or.inr rfl) eq70) ?_
        refine sz_aload_n dX12_ahead_73 rfl ?_
        refine sz_getR dX12_ahead_74 flX12_67 kd39 rfl rf39_33 ?_
        refine sz_bipush dX12_ahead_77 (cB30) ?_
        refine sz_iconst dX12_ahead_79 (cI4) ?_
        refine sz_iload_n dX12_ahead_80 rfl ?_
        refine sz_imul dX12_ahead_81 ?_
        refine sz_iadd dX12_ahead_82 ?_
        obtain ⟨c83, hf⟩ := gz_gd hf
        refine sz_ialdL dX12_ahead_83 kd54 c83 rfl ?_
        cases hf
        exact sz_iret dX12_ahead_84 rfl rfl ⟨rfl, rfl⟩
      · have hf := gz_in1 c43 hf
        refine sz_iconst dX12_ahead_46 (cIm1) ?_
        cases hf
        exact sz_iret dX12_ahead_47 rfl rfl ⟨rfl, rfl⟩
def fX12_greatest_83 (La : gz_L)   (k4 : Int32 → Int32 → Int32 → gz_S → Option (Int32 × gz_S)) (x1 : Int32) (x3 : Int32) (s0 : Int32) (g : gz_S) : Option (Int32 × gz_S) := gz_let (x3 + 1) (fun y84 => k4 x1 s0 y84 g)
set_option maxRecDepth 100000 in
set_option maxHeartbeats 4000000 in
theorem tX12_greatest_83 {La : gz_L}   {k4 : Int32 → Int32 → Int32 → gz_S → Option (Int32 × gz_S)}  (hk4 : ∀ (x1 : Int32) (x2 : Int32) (x3 : Int32) (g : gz_S) (r : Int32 × gz_S), k4 x1 x2 x3 g = some r → gz_J La 2 mX12_greatest 4 [some (.ref 39), some (.int x1), some (.int x2), some (.int x3), none] [] g (gz_Fi r)) : ∀ (x1 : Int32) (x3 : Int32) (s0 : Int32) (g : gz_S) (r : Int32 × gz_S), fX12_greatest_83 La   k4 x1 x3 s0 g = some r → gz_J La 2 mX12_greatest 83 [some (.ref 39), some (.int x1), none, some (.int x3), none] [.int s0] g (gz_Fi r) := by
  intro x1 x3 s0 g r hf
  unfold fX12_greatest_83 at hf
  refine sz_istore_n dX12_greatest_83 rfl (Nat.le_of_ble_eq_true rfl) rfl ?_
  refine sz_ls (l2 := [some (.ref 39), some (.int x1), some (.int s0), some (.int x3), none]) rfl ?_
  obtain ⟨y84, ey84, hf⟩ := gz_lt hf
  refine sz_iinc (v := y84) dX12_greatest_84 rfl (by rw [ey84, cI1]) (Nat.le_of_ble_eq_true rfl) rfl ?_
  refine sz_ls (l2 := [some (.ref 39), some (.int x1), some (.int s0), some (.int y84), none]) rfl ?_
  refine sz_goto 4 dX12_greatest_87 (by decide) ?_
  exact hk4 _ _ _ _ _ hf
def fX12_greatest_71 (La : gz_L)   (k4 : Int32 → Int32 → Int32 → gz_S → Option (Int32 × gz_S)) (x1 : Int32) (x2 : Int32) (x3 : Int32) (s0 : Int32) (g : gz_S) : Option (Int32 × gz_S) := if s0 = 0 then fX12_greatest_83 La   k4  x1 x3 x2 g else fX12_greatest_83 La   k4  x1 x3 x3 g
set_option maxRecDepth 100000 in
set_option maxHeartbeats 4000000 in
theorem tX12_greatest_71 {La : gz_L}   {k4 : Int32 → Int32 → Int32 → gz_S → Option (Int32 × gz_S)}  (hk4 : ∀ (x1 : Int32) (x2 : Int32) (x3 : Int32) (g : gz_S) (r : Int32 × gz_S), k4 x1 x2 x3 g = some r → gz_J La 2 mX12_greatest 4 [some (.ref 39), some (.int x1), some (.int x2), some (.int x3), none] [] g (gz_Fi r)) : ∀ (x1 : Int32) (x2 : Int32) (x3 : Int32) (s0 : Int32) (g : gz_S) (r : Int32 × gz_S), fX12_greatest_71 La   k4 x1 x2 x3 s0 g = some r → gz_J La 2 mX12_greatest 71 [some (.ref 39), some (.int x1), some (.int x2), some (.int x3), none] [.int s0] g (gz_Fi r) := by
  intro x1 x2 x3 s0 g r hf
  unfold fX12_greatest_71 at hf
  refine sz_istore dX12_greatest_71 (Nat.le_of_ble_eq_true rfl) rfl ?_
  refine sz_ls (l2 := [some (.ref 39), some (.int x1), some (.int x2), some (.int x3), some (.int s0)]) rfl ?_
  refine sz_iload dX12_greatest_73 rfl ?_
  refine sz_if_eq 82 dX12_greatest_75 (by decide) (fun c75 => ?_) (fun c75 => ?_)
  · have hf := gz_ip c75 hf
    refine sz_iload_n dX12_greatest_82 rfl ?_
    refine sz_weak (l2 := [some (.ref 39), some (.int x1), none, some (.int x3), none]) (gz_subk (gz_subk (gz_subn (gz_subk (gz_subn gz_sub0))))) ?_
    exact tX12_greatest_83   hk4 _ _ _ _ _ hf
  · have hf := gz_in1 c75 hf
    refine sz_iload_n dX12_greatest_78 rfl ?_
    refine sz_goto 83 dX12_greatest_79 (by decide) ?_
    refine sz_weak (l2 := [some (.ref 39), some (.int x1), none, some (.int x3), none]) (gz_subk (gz_subk (gz_subn (gz_subk (gz_subn gz_sub0))))) ?_
    exact tX12_greatest_83   hk4 _ _ _ _ _ hf
def fX12_greatest_4 (La : gz_L)    : Nat → Int32 → Int32 → Int32 → gz_S → Option (Int32 × gz_S)
  | 0, _, _, _, _ => none
  | n + 1, x1, x2, x3, g => if (g.1 39 27) ≤ x3 then some (x2, g) else if x1 = 0 then if gz_ok (((30 : Int32) + ((4 : Int32) * x3)) + 2) 231 then if gz_ok (((30 : Int32) + ((4 : Int32) * x2)) + 2) 231 then if (g.1 53 (Int32.toNatClampNeg (((30 : Int32) + ((4 : Int32) * x3)) + 2))) ≤ (g.1 53 (Int32.toNatClampNeg (((30 : Int32) + ((4 : Int32) * x2)) + 2))) then fX12_greatest_71 La   (fX12_greatest_4 La    n)  x1 x2 x3 0 g else fX12_greatest_71 La   (fX12_greatest_4 La    n)  x1 x2 x3 1 g else none else none else (fX12_paceOf La  x3 g).bind (fun q55 => (fX12_paceOf La  x2 q55.2).bind (fun q60 => if q55.1 ≤ q60.1 then fX12_greatest_71 La   (fX12_greatest_4 La    n)  x1 x2 x3 0 q60.2 else fX12_greatest_71 La   (fX12_greatest_4 La    n)  x1 x2 x3 1 q60.2))
set_option maxRecDepth 100000 in
set_option maxHeartbeats 4000000 in
theorem tX12_greatest_4 {La : gz_L}      : ∀ (n : Nat) (x1 : Int32) (x2 : Int32) (x3 : Int32) (g : gz_S) (r : Int32 × gz_S), fX12_greatest_4 La    n x1 x2 x3 g = some r → gz_J La 2 mX12_greatest 4 [some (.ref 39), some (.int x1), some (.int x2), some (.int x3), none] [] g (gz_Fi r) := by
  intro n
  induction n with
  | zero => intro x1 x2 x3 g r hf; exact nomatch (show (none : Option (Int32 × gz_S)) = some r from hf)
  | succ n ih =>
    intro x1 x2 x3 g r hf
    unfold fX12_greatest_4 at hf
    refine sz_iload_n dX12_greatest_4 rfl ?_
    refine sz_aload_n dX12_greatest_5 rfl ?_
    refine sz_getI dX12_greatest_6 flX12_303 kd39 rfl ?_
    refine sz_icmp_ge 90 dX12_greatest_9 (by decide) (fun c9 => ?_) (fun c9 => ?_)
    · have hf := gz_ip c9 hf
      refine sz_iload_n dX12_greatest_90 rfl ?_
      cases hf
      exact sz_iret dX12_greatest_91 rfl rfl ⟨rfl, rfl⟩
    · have hf := gz_in1 c9 hf
      refine sz_iload_n dX12_greatest_12 rfl ?_
      refine sz_if_ne 53 dX12_greatest_13 (by decide) (fun c13 => ?_) (fun c13 => ?_)
      · have hf := gz_in1 c13 hf
        refine sz_aload_n dX12_greatest_53 rfl ?_
        refine sz_iload_n dX12_greatest_54 rfl ?_
        obtain ⟨q55, eq55, hf⟩ := gz_bd hf
        refine sz_callVi [.int x3] [] dX12_greatest_55 mvX12_359 (Nat.le_of_ble_eq_true rfl) (by decide : 12 < 13) kd39 rfl (Nat.le_of_ble_eq_true rfl) (kX12_paceOf   eq55) ?_
        refine sz_aload_n dX12_greatest_58 rfl ?_
        refine sz_iload_n dX12_greatest_59 rfl ?_
        obtain ⟨q60, eq60, hf⟩ := gz_bd hf
        refine sz_callVi [.int x2] [.int q55.1] dX12_greatest_60 mvX12_359 (Nat.le_of_ble_eq_true rfl) (by decide : 12 < 13) kd39 rfl (Nat.le_of_ble_eq_true rfl) (kX12_paceOf   eq60) ?_
        refine sz_icmp_le 70 dX12_greatest_63 (by decide) (fun c63 => ?_) (fun c63 => ?_)
        · have hf := gz_ip c63 hf
          refine sz_iconst dX12_greatest_70 (cI0) ?_
          exact tX12_greatest_71   ih _ _ _ _ _ _ hf
        · have hf := gz_in1 c63 hf
          refine sz_iconst dX12_greatest_66 (cI1) ?_
          refine sz_goto 71 dX12_greatest_67 (by decide) ?_
          exact tX12_greatest_71   ih _ _ _ _ _ _ hf
      · have hf := gz_ip c13 hf
        refine sz_aload_n dX12_greatest_16 rfl ?_
        refine sz_getR dX12_greatest_17 flX12_64 kd39 rfl rf39_32 ?_
        refine sz_bipush dX12_greatest_20 (cB30) ?_
        refine sz_iconst dX12_greatest_22 (cI4) ?_
        refine sz_iload_n dX12_greatest_23 rfl ?_
        refine sz_imul dX12_greatest_24 ?_
        refine sz_iadd dX12_greatest_25 ?_
        refine sz_iconst dX12_greatest_26 (cI2) ?_
        refine sz_iadd dX12_greatest_27 ?_
        obtain ⟨c28, hf⟩ := gz_gd hf
        refine sz_ialdL dX12_greatest_28 kd53 c28 rfl ?_
        refine sz_aload_n dX12_greatest_29 rfl ?_
        refine sz_getR dX12_greatest_30 flX12_64 kd39 rfl rf39_32 ?_
        refine sz_bipush dX12_greatest_33 (cB30) ?_
        refine sz_iconst dX12_greatest_35 (cI4) ?_
        refine sz_iload_n dX12_greatest_36 rfl ?_
        refine sz_imul dX12_greatest_37 ?_
        refine sz_iadd dX12_greatest_38 ?_
        refine sz_iconst dX12_greatest_39 (cI2) ?_
        refine sz_iadd dX12_greatest_40 ?_
        obtain ⟨c41, hf⟩ := gz_gd hf
        refine sz_ialdL dX12_greatest_41 kd53 c41 rfl ?_
        refine sz_icmp_le 49 dX12_greatest_42 (by decide) (fun c42 => ?_) (fun c42 => ?_)
        · have hf := gz_ip c42 hf
          refine sz_iconst dX12_greatest_49 (cI0) ?_
          refine sz_goto 71 dX12_greatest_50 (by decide) ?_
          exact tX12_greatest_71   ih _ _ _ _ _ _ hf
        · have hf := gz_in1 c42 hf
          refine sz_iconst dX12_greatest_45 (cI1) ?_
          refine sz_goto 71 dX12_greatest_46 (by decide) ?_
          exact tX12_greatest_71   ih _ _ _ _ _ _ hf
def fX12_greatest (La : gz_L)  (x1 : Int32) (g : gz_S) : Option (Int32 × gz_S) :=
  fX12_greatest_4 La    gz_FU x1 0 1 g
set_option maxRecDepth 100000 in
set_option maxHeartbeats 4000000 in
theorem kX12_greatest {La : gz_L}  {x1 : Int32} {g : gz_S} {r : Int32 × gz_S}  (hf : fX12_greatest La  x1 g = some r) : gz_K La 2 mX12_greatest [.ref 39, .int x1] g (gz_Fi r) := by
  unfold fX12_greatest at hf
  refine gz_K.of 3 (by decide +kernel) rfl ?_
  show gz_J La 2 mX12_greatest 0 [some (.ref 39), some (.int x1), none, none, none] [] g (gz_Fi r)
  refine sz_iconst dX12_greatest_0 (cI0) ?_
  refine sz_istore_n dX12_greatest_1 rfl (Nat.le_of_ble_eq_true rfl) rfl ?_
  refine sz_ls (l2 := [some (.ref 39), some (.int x1), some (.int 0), none, none]) rfl ?_
  refine sz_iconst dX12_greatest_2 (cI1) ?_
  refine sz_istore_n dX12_greatest_3 rfl (Nat.le_of_ble_eq_true rfl) rfl ?_
  refine sz_ls (l2 := [some (.ref 39), some (.int x1), some (.int 0), some (.int 1), none]) rfl ?_
  exact tX12_greatest_4    _ _ _ _ _ _ hf
def fX12_thoseWho_37 (La : gz_L)   (k4 : Int32 → Int32 → Int32 → gz_S → Option (Int32 × gz_S)) (x1 : Int32) (x3 : Int32) (s0 : Int32) (s1 : Int32) (g : gz_S) : Option (Int32 × gz_S) := gz_let (s1 ||| s0) (fun y38 => gz_let (x3 + 1) (fun y39 => k4 x1 y38 y39 g))
set_option maxRecDepth 100000 in
set_option maxHeartbeats 4000000 in
theorem tX12_thoseWho_37 {La : gz_L}   {k4 : Int32 → Int32 → Int32 → gz_S → Option (Int32 × gz_S)}  (hk4 : ∀ (x1 : Int32) (x2 : Int32) (x3 : Int32) (g : gz_S) (r : Int32 × gz_S), k4 x1 x2 x3 g = some r → gz_J La 1 mX12_thoseWho 4 [some (.ref 39), some (.int x1), some (.int x2), some (.int x3)] [] g (gz_Fi r)) : ∀ (x1 : Int32) (x3 : Int32) (s0 : Int32) (s1 : Int32) (g : gz_S) (r : Int32 × gz_S), fX12_thoseWho_37 La   k4 x1 x3 s0 s1 g = some r → gz_J La 1 mX12_thoseWho 37 [some (.ref 39), some (.int x1), none, some (.int x3)] [.int s0, .int s1] g (gz_Fi r) := by
  intro x1 x3 s0 s1 g r hf
  unfold fX12_thoseWho_37 at hf
  refine sz_ior dX12_thoseWho_37 ?_
  obtain ⟨y38, ey38, hf⟩ := gz_lt hf
  refine sz_topi ey38 ?_
  refine sz_istore_n dX12_thoseWho_38 rfl (Nat.le_of_ble_eq_true rfl) rfl ?_
  refine sz_ls (l2 := [some (.ref 39), some (.int x1), some (.int y38), some (.int x3)]) rfl ?_
  obtain ⟨y39, ey39, hf⟩ := gz_lt hf
  refine sz_iinc (v := y39) dX12_thoseWho_39 rfl (by rw [ey39, cI1]) (Nat.le_of_ble_eq_true rfl) rfl ?_
  refine sz_ls (l2 := [some (.ref 39), some (.int x1), some (.int y38), some (.int y39)]) rfl ?_
  refine sz_goto 4 dX12_thoseWho_42 (by decide) ?_
  exact hk4 _ _ _ _ _ hf
def fX12_thoseWho_4 (La : gz_L)    : Nat → Int32 → Int32 → Int32 → gz_S → Option (Int32 × gz_S)
  | 0, _, _, _, _ => none
  | n + 1, x1, x2, x3, g => if (g.1 39 27) ≤ x3 then some (x2, g) else if gz_ok (((30 : Int32) + ((4 : Int32) * x3)) + 3) 231 then if (g.1 53 (Int32.toNatClampNeg (((30 : Int32) + ((4 : Int32) * x3)) + 3))) = x1 then fX12_thoseWho_37 La   (fX12_thoseWho_4 La    n)  x1 x3 ((1 : Int32) <<< (x3 &&& 31)) x2 g else fX12_thoseWho_37 La   (fX12_thoseWho_4 La    n)  x1 x3 0 x2 g else none
set_option maxRecDepth 100000 in
set_option maxHeartbeats 4000000 in
theorem tX12_thoseWho_4 {La : gz_L}      : ∀ (n : Nat) (x1 : Int32) (x2 : Int32) (x3 : Int32) (g : gz_S) (r : Int32 × gz_S), fX12_thoseWho_4 La    n x1 x2 x3 g = some r → gz_J La 1 mX12_thoseWho 4 [some (.ref 39), some (.int x1), some (.int x2), some (.int x3)] [] g (gz_Fi r) := by
  intro n
  induction n with
  | zero => intro x1 x2 x3 g r hf; exact nomatch (show (none : Option (Int32 × gz_S)) = some r from hf)
  | succ n ih =>
    intro x1 x2 x3 g r hf
    unfold fX12_thoseWho_4 at hf
    refine sz_iload_n dX12_thoseWho_4 rfl ?_
    refine sz_aload_n dX12_thoseWho_5 rfl ?_
    refine sz_getI dX12_thoseWho_6 flX12_303 kd39 rfl ?_
    refine sz_icmp_ge 45 dX12_thoseWho_9 (by decide) (fun c9 => ?_) (fun c9 => ?_)
    · have hf := gz_ip c9 hf
      refine sz_iload_n dX12_thoseWho_45 rfl ?_
      cases hf
      exact sz_iret dX12_thoseWho_46 rfl rfl ⟨rfl, rfl⟩
    · have hf := gz_in1 c9 hf
      refine sz_iload_n dX12_thoseWho_12 rfl ?_
      refine sz_aload_n dX12_thoseWho_13 rfl ?_
      refine sz_getR dX12_thoseWho_14 flX12_64 kd39 rfl rf39_32 ?_
      refine sz_bipush dX12_thoseWho_17 (cB30) ?_
      refine sz_iconst dX12_thoseWho_19 (cI4) ?_
      refine sz_iload_n dX12_thoseWho_20 rfl ?_
      refine sz_imul dX12_thoseWho_21 ?_
      refine sz_iadd dX12_thoseWho_22 ?_
      refine sz_iconst dX12_thoseWho_23 (cI3) ?_
      refine sz_iadd dX12_thoseWho_24 ?_
      obtain ⟨c25, hf⟩ := gz_gd hf
      refine sz_ialdL dX12_thoseWho_25 kd53 c25 rfl ?_
      refine sz_iload_n dX12_thoseWho_26 rfl ?_
      refine sz_icmp_ne 36 dX12_thoseWho_27 (by decide) (fun c27 => ?_) (fun c27 => ?_)
      · have hf := gz_in1 c27 hf
        refine sz_iconst dX12_thoseWho_36 (cI0) ?_
        refine sz_weak (l2 := [some (.ref 39), some (.int x1), none, some (.int x3)]) (gz_subk (gz_subk (gz_subn (gz_subk gz_sub0)))) ?_
        exact tX12_thoseWho_37   ih _ _ _ _ _ _ hf
      · have hf := gz_ip c27 hf
        refine sz_iconst dX12_thoseWho_30 (cI1) ?_
        refine sz_iload_n dX12_thoseWho_31 rfl ?_
        refine sz_ishl dX12_thoseWho_32 ?_
        refine sz_goto 37 dX12_thoseWho_33 (by decide) ?_
        refine sz_weak (l2 := [some (.ref 39), some (.int x1), none, some (.int x3)]) (gz_subk (gz_subk (gz_subn (gz_subk gz_sub0)))) ?_
        exact tX12_thoseWho_37   ih _ _ _ _ _ _ hf
def fX12_thoseWho (La : gz_L)  (x1 : Int32) (g : gz_S) : Option (Int32 × gz_S) :=
  fX12_thoseWho_4 La    gz_FU x1 0 0 g
set_option maxRecDepth 100000 in
set_option maxHeartbeats 4000000 in
theorem kX12_thoseWho {La : gz_L}  {x1 : Int32} {g : gz_S} {r : Int32 × gz_S}  (hf : fX12_thoseWho La  x1 g = some r) : gz_K La 1 mX12_thoseWho [.ref 39, .int x1] g (gz_Fi r) := by
  unfold fX12_thoseWho at hf
  refine gz_K.of 2 (by decide +kernel) rfl ?_
  show gz_J La 1 mX12_thoseWho 0 [some (.ref 39), some (.int x1), none, none] [] g (gz_Fi r)
  refine sz_iconst dX12_thoseWho_0 (cI0) ?_
  refine sz_istore_n dX12_thoseWho_1 rfl (Nat.le_of_ble_eq_true rfl) rfl ?_
  refine sz_ls (l2 := [some (.ref 39), some (.int x1), some (.int 0), none]) rfl ?_
  refine sz_iconst dX12_thoseWho_2 (cI0) ?_
  refine sz_istore_n dX12_thoseWho_3 rfl (Nat.le_of_ble_eq_true rfl) rfl ?_
  refine sz_ls (l2 := [some (.ref 39), some (.int x1), some (.int 0), some (.int 0)]) rfl ?_
  exact tX12_thoseWho_4    _ _ _ _ _ _ hf
def fX12_dry_90 (La : gz_L)   (k7 : Int32 → Int32 → Int32 → Int32 → gz_S → Option (Int32 × gz_S)) (x1 : Int32) (x2 : Int32) (x3 : Int32) (x4 : Int32) (g : gz_S) : Option (Int32 × gz_S) := gz_let (x4 + 1) (fun y90 => k7 x1 x2 x3 y90 g)
set_option maxRecDepth 100000 in
set_option maxHeartbeats 4000000 in
theorem tX12_dry_90 {La : gz_L}   {k7 : Int32 → Int32 → Int32 → Int32 → gz_S → Option (Int32 × gz_S)}  (hk7 : ∀ (x1 : Int32) (x2 : Int32) (x3 : Int32) (x4 : Int32) (g : gz_S) (r : Int32 × gz_S), k7 x1 x2 x3 x4 g = some r → gz_J La 4 mX12_dry 7 [some (.ref 39), some (.int x1), some (.int x2), some (.int x3), some (.int x4), none] [] g (gz_Fi r)) : ∀ (x1 : Int32) (x2 : Int32) (x3 : Int32) (x4 : Int32) (g : gz_S) (r : Int32 × gz_S), fX12_dry_90 La   k7 x1 x2 x3 x4 g = some r → gz_J La 4 mX12_dry 90 [some (.ref 39), some (.int x1), some (.int x2), some (.int x3), some (.int x4), none] [] g (gz_Fi r) := by
  intro x1 x2 x3 x4 g r hf
  unfold fX12_dry_90 at hf
  obtain ⟨y90, ey90, hf⟩ := gz_lt hf
  refine sz_iinc (v := y90) dX12_dry_90 rfl (by rw [ey90, cI1]) (Nat.le_of_ble_eq_true rfl) rfl ?_
  refine sz_ls (l2 := [some (.ref 39), some (.int x1), some (.int x2), some (.int x3), some (.int y90), none]) rfl ?_
  refine sz_goto 7 dX12_dry_93 (by decide) ?_
  exact hk7 _ _ _ _ _ _ hf
def fX12_dry_82 (La : gz_L)   (k53 : Int32 → Int32 → Int32 → Int32 → Int32 → gz_S → Option (Int32 × gz_S)) (x1 : Int32) (x2 : Int32) (x4 : Int32) (x5 : Int32) (s0 : Int32) (s1 : Int32) (g : gz_S) : Option (Int32 × gz_S) := gz_let (s1 ||| s0) (fun y83 => gz_let (x5 + 1) (fun y84 => k53 x1 x2 y83 x4 y84 g))
set_option maxRecDepth 100000 in
set_option maxHeartbeats 4000000 in
theorem tX12_dry_82 {La : gz_L}   {k53 : Int32 → Int32 → Int32 → Int32 → Int32 → gz_S → Option (Int32 × gz_S)}  (hk53 : ∀ (x1 : Int32) (x2 : Int32) (x3 : Int32) (x4 : Int32) (x5 : Int32) (g : gz_S) (r : Int32 × gz_S), k53 x1 x2 x3 x4 x5 g = some r → gz_J La 4 mX12_dry 53 [some (.ref 39), some (.int x1), some (.int x2), some (.int x3), some (.int x4), some (.int x5)] [] g (gz_Fi r)) : ∀ (x1 : Int32) (x2 : Int32) (x4 : Int32) (x5 : Int32) (s0 : Int32) (s1 : Int32) (g : gz_S) (r : Int32 × gz_S), fX12_dry_82 La   k53 x1 x2 x4 x5 s0 s1 g = some r → gz_J La 4 mX12_dry 82 [some (.ref 39), some (.int x1), some (.int x2), none, some (.int x4), some (.int x5)] [.int s0, .int s1] g (gz_Fi r) := by
  intro x1 x2 x4 x5 s0 s1 g r hf
  unfold fX12_dry_82 at hf
  refine sz_ior dX12_dry_82 ?_
  obtain ⟨y83, ey83, hf⟩ := gz_lt hf
  refine sz_topi ey83 ?_
  refine sz_istore_n dX12_dry_83 rfl (Nat.le_of_ble_eq_true rfl) rfl ?_
  refine sz_ls (l2 := [some (.ref 39), some (.int x1), some (.int x2), some (.int y83), some (.int x4), some (.int x5)]) rfl ?_
  obtain ⟨y84, ey84, hf⟩ := gz_lt hf
  refine sz_iinc (v := y84) dX12_dry_84 rfl (by rw [ey84, cI1]) (Nat.le_of_ble_eq_true rfl) rfl ?_
  refine sz_ls (l2 := [some (.ref 39), some (.int x1), some (.int x2), some (.int y83), some (.int x4), some (.int y84)]) rfl ?_
  refine sz_goto 53 dX12_dry_87 (by decide) ?_
  exact hk53 _ _ _ _ _ _ _ hf
def fX12_dry_53 (La : gz_L)   (k90 : Int32 → Int32 → Int32 → Int32 → gz_S → Option (Int32 × gz_S)) : Nat → Int32 → Int32 → Int32 → Int32 → Int32 → gz_S → Option (Int32 × gz_S)
  | 0, _, _, _, _, _, _ => none
  | n + 1, x1, x2, x3, x4, x5, g => (fX12_cells La   g).bind (fun q56 => if q56.1 ≤ x5 then k90 x1 x2 x3 x4 q56.2 else if gz_ok x5 30 then if (q56.2.1 58 (Int32.toNatClampNeg x5)) = (-1) then fX12_dry_82 La   (fX12_dry_53 La   k90 n)  x1 x2 x4 x5 0 x3 q56.2 else fX12_dry_82 La   (fX12_dry_53 La   k90 n)  x1 x2 x4 x5 ((1 : Int32) <<< (x5 &&& 31)) x3 q56.2 else none)
set_option maxRecDepth 100000 in
set_option maxHeartbeats 4000000 in
theorem tX12_dry_53 {La : gz_L}   {k90 : Int32 → Int32 → Int32 → Int32 → gz_S → Option (Int32 × gz_S)}  (hk90 : ∀ (x1 : Int32) (x2 : Int32) (x3 : Int32) (x4 : Int32) (g : gz_S) (r : Int32 × gz_S), k90 x1 x2 x3 x4 g = some r → gz_J La 4 mX12_dry 90 [some (.ref 39), some (.int x1), some (.int x2), some (.int x3), some (.int x4), none] [] g (gz_Fi r)) : ∀ (n : Nat) (x1 : Int32) (x2 : Int32) (x3 : Int32) (x4 : Int32) (x5 : Int32) (g : gz_S) (r : Int32 × gz_S), fX12_dry_53 La   k90 n x1 x2 x3 x4 x5 g = some r → gz_J La 4 mX12_dry 53 [some (.ref 39), some (.int x1), some (.int x2), some (.int x3), some (.int x4), some (.int x5)] [] g (gz_Fi r) := by
  intro n
  induction n with
  | zero => intro x1 x2 x3 x4 x5 g r hf; exact nomatch (show (none : Option (Int32 × gz_S)) = some r from hf)
  | succ n ih =>
    intro x1 x2 x3 x4 x5 g r hf
    unfold fX12_dry_53 at hf
    refine sz_iload dX12_dry_53 rfl ?_
    refine sz_aload_n dX12_dry_55 rfl ?_
    obtain ⟨q56, eq56, hf⟩ := gz_bd hf
    refine sz_callVi [] [.int x5] dX12_dry_56 mvX12_319 (Nat.le_of_ble_eq_true rfl) (by decide : 12 < 13) kd39 rfl (Nat.le_of_ble_eq_true rfl) (kX12_cells   eq56) ?_
    refine sz_icmp_ge 90 dX12_dry_59 (by decide) (fun c59 => ?_) (fun c59 => ?_)
    · have hf := gz_ip c59 hf
      refine sz_weak (l2 := [some (.ref 39), some (.int x1), some (.int x2), some (.int x3), some (.int x4), none]) (gz_subk (gz_subk (gz_subk (gz_subk (gz_subk (gz_subn gz_sub0)))))) ?_
      exact hk90 _ _ _ _ _ _ hf
    · have hf := gz_in1 c59 hf
      refine sz_iload_n dX12_dry_62 rfl ?_
      refine sz_aload_n dX12_dry_63 rfl ?_
      refine sz_getR dX12_dry_64 flX12_86 kd39 rfl rf39_43 ?_
      refine sz_iload dX12_dry_67 rfl ?_
      obtain ⟨c69, hf⟩ := gz_gd hf
      refine sz_ialdL dX12_dry_69 kd58 c69 rfl ?_
      refine sz_iconst dX12_dry_70 (cIm1) ?_
      refine sz_icmp_eq 81 dX12_dry_71 (by decide) (fun c71 => ?_) (fun c71 => ?_)
      · have hf := gz_ip c71 hf
        refine sz_iconst dX12_dry_81 (cI0) ?_
        refine sz_weak (l2 := [some (.ref 39), some (.int x1), some (.int x2), none, some (.int x4), some (.int x5)]) (gz_subk (gz_subk (gz_subk (gz_subn (gz_subk (gz_subk gz_sub0)))))) ?_
        exact tX12_dry_82   ih _ _ _ _ _ _ _ _ hf
      · have hf := gz_in1 c71 hf
        refine sz_iconst dX12_dry_74 (cI1) ?_
        refine sz_iload dX12_dry_75 rfl ?_
        refine sz_ishl dX12_dry_77 ?_
        refine sz_goto 82 dX12_dry_78 (by decide) ?_
        refine sz_weak (l2 := [some (.ref 39), some (.int x1), some (.int x2), none, some (.int x4), some (.int x5)]) (gz_subk (gz_subk (gz_subk (gz_subn (gz_subk (gz_subk gz_sub0)))))) ?_
        exact tX12_dry_82   ih _ _ _ _ _ _ _ _ hf
def fX12_dry_41 (La : gz_L)   (k7 : Int32 → Int32 → Int32 → Int32 → gz_S → Option (Int32 × gz_S)) (x1 : Int32) (x2 : Int32) (x3 : Int32) (x4 : Int32) (g : gz_S) : Option (Int32 × gz_S) := gz_let (x2 + 1) (fun y41 => (fX12_goSteps La  x4 g).bind (fun q47 => fX12_dry_53 La   (fX12_dry_90 La   k7 ) gz_FU x1 y41 x3 x4 0 q47))
set_option maxRecDepth 100000 in
set_option maxHeartbeats 4000000 in
theorem tX12_dry_41 {La : gz_L}   {k7 : Int32 → Int32 → Int32 → Int32 → gz_S → Option (Int32 × gz_S)}  (hk7 : ∀ (x1 : Int32) (x2 : Int32) (x3 : Int32) (x4 : Int32) (g : gz_S) (r : Int32 × gz_S), k7 x1 x2 x3 x4 g = some r → gz_J La 4 mX12_dry 7 [some (.ref 39), some (.int x1), some (.int x2), some (.int x3), some (.int x4), none] [] g (gz_Fi r)) : ∀ (x1 : Int32) (x2 : Int32) (x3 : Int32) (x4 : Int32) (g : gz_S) (r : Int32 × gz_S), fX12_dry_41 La   k7 x1 x2 x3 x4 g = some r → gz_J La 4 mX12_dry 41 [some (.ref 39), some (.int x1), some (.int x2), some (.int x3), some (.int x4), none] [] g (gz_Fi r) := by
  intro x1 x2 x3 x4 g r hf
  unfold fX12_dry_41 at hf
  obtain ⟨y41, ey41, hf⟩ := gz_lt hf
  refine sz_iinc (v := y41) dX12_dry_41 rfl (by rw [ey41, cI1]) (Nat.le_of_ble_eq_true rfl) rfl ?_
  refine sz_ls (l2 := [some (.ref 39), some (.int x1), some (.int y41), some (.int x3), some (.int x4), none]) rfl ?_
  refine sz_aload_n dX12_dry_44 rfl ?_
  refine sz_iload dX12_dry_45 rfl ?_
  obtain ⟨q47, eq47, hf⟩ := gz_bd hf
  refine sz_callVv [.int x4] [] dX12_dry_47 mvX12_459 (Nat.le_of_ble_eq_true rfl) (by decide : 12 < 13) kd39 rfl (Nat.le_of_ble_eq_true rfl) (kX12_goSteps   eq47) ?_
  refine sz_iconst dX12_dry_50 (cI0) ?_
  refine sz_istore dX12_dry_51 (Nat.le_of_ble_eq_true rfl) rfl ?_
  refine sz_ls (l2 := [some (.ref 39), some (.int x1), some (.int y41), some (.int x3), some (.int x4), some (.int 0)]) rfl ?_
  exact tX12_dry_53   (tX12_dry_90   hk7) _ _ _ _ _ _ _ _ hf
def fX12_dry_7 (La : gz_L)    : Nat → Int32 → Int32 → Int32 → Int32 → gz_S → Option (Int32 × gz_S)
  | 0, _, _, _, _, _ => none
  | n + 1, x1, x2, x3, x4, g => (fX12_cells La   g).bind (fun q10 => if q10.1 ≤ x4 then some (x2, q10.2) else (fX12_isDry La  x4 q10.2).bind (fun q19 => if q19.1 = 0 then fX12_dry_90 La   (fX12_dry_7 La    n)  x1 x2 x3 x4 q19.2 else if x1 = 0 then fX12_dry_41 La   (fX12_dry_7 La    n)  x1 x2 x3 x4 q19.2 else (fX12_has La  x3 x4 q19.2).bind (fun q32 => if q32.1 = 0 then fX12_dry_41 La   (fX12_dry_7 La    n)  x1 x2 x3 x4 q32.2 else fX12_dry_90 La   (fX12_dry_7 La    n)  x1 x2 x3 x4 q32.2)))
set_option maxRecDepth 100000 in
set_option maxHeartbeats 4000000 in
theorem tX12_dry_7 {La : gz_L}      : ∀ (n : Nat) (x1 : Int32) (x2 : Int32) (x3 : Int32) (x4 : Int32) (g : gz_S) (r : Int32 × gz_S), fX12_dry_7 La    n x1 x2 x3 x4 g = some r → gz_J La 4 mX12_dry 7 [some (.ref 39), some (.int x1), some (.int x2), some (.int x3), some (.int x4), none] [] g (gz_Fi r) := by
  intro n
  induction n with
  | zero => intro x1 x2 x3 x4 g r hf; exact nomatch (show (none : Option (Int32 × gz_S)) = some r from hf)
  | succ n ih =>
    intro x1 x2 x3 x4 g r hf
    unfold fX12_dry_7 at hf
    refine sz_iload dX12_dry_7 rfl ?_
    refine sz_aload_n dX12_dry_9 rfl ?_
    obtain ⟨q10, eq10, hf⟩ := gz_bd hf
    refine sz_callVi [] [.int x4] dX12_dry_10 mvX12_319 (Nat.le_of_ble_eq_true rfl) (by decide : 12 < 13) kd39 rfl (Nat.le_of_ble_eq_true rfl) (kX12_cells   eq10) ?_
    refine sz_icmp_ge 96 dX12_dry_13 (by decide) (fun c13 => ?_) (fun c13 => ?_)
    · have hf := gz_ip c13 hf
      refine sz_iload_n dX12_dry_96 rfl ?_
      cases hf
      exact sz_iret dX12_dry_97 rfl rfl ⟨rfl, rfl⟩
    · have hf := gz_in1 c13 hf
      refine sz_aload_n dX12_dry_16 rfl ?_
      refine sz_iload dX12_dry_17 rfl ?_
      obtain ⟨q19, eq19, hf⟩ := gz_bd hf
      refine sz_callVi [.int x4] [] dX12_dry_19 mvX12_456 (Nat.le_of_ble_eq_true rfl) (by decide : 12 < 13) kd39 rfl (Nat.le_of_ble_eq_true rfl) (kX12_isDry   eq19) ?_
      refine sz_if_eq 90 dX12_dry_22 (by decide) (fun c22 => ?_) (fun c22 => ?_)
      · have hf := gz_ip c22 hf
        exact tX12_dry_90   ih _ _ _ _ _ _ hf
      · have hf := gz_in1 c22 hf
        refine sz_iload_n dX12_dry_25 rfl ?_
        refine sz_if_eq 41 dX12_dry_26 (by decide) (fun c26 => ?_) (fun c26 => ?_)
        · have hf := gz_ip c26 hf
          exact tX12_dry_41   ih _ _ _ _ _ _ hf
        · have hf := gz_in1 c26 hf
          refine sz_iload_n dX12_dry_29 rfl ?_
          refine sz_iload dX12_dry_30 rfl ?_
          obtain ⟨q32, eq32, hf⟩ := gz_bd hf
          refine sz_callSi [.int x3, .int x4] [] dX12_dry_32 msX12_237 (Nat.le_of_ble_eq_true rfl) (Nat.le_of_ble_eq_true rfl) (kX12_has   eq32) ?_
          refine sz_if_eq 41 dX12_dry_35 (by decide) (fun c35 => ?_) (fun c35 => ?_)
          · have hf := gz_ip c35 hf
            exact tX12_dry_41   ih _ _ _ _ _ _ hf
          · have hf := gz_in1 c35 hf
            refine sz_goto 90 dX12_dry_38 (by decide) ?_
            exact tX12_dry_90   ih _ _ _ _ _ _ hf
def fX12_dry (La : gz_L)  (x1 : Int32) (g : gz_S) : Option (Int32 × gz_S) :=
  fX12_dry_7 La    gz_FU x1 0 0 0 g
set_option maxRecDepth 100000 in
set_option maxHeartbeats 4000000 in
theorem kX12_dry {La : gz_L}  {x1 : Int32} {g : gz_S} {r : Int32 × gz_S}  (hf : fX12_dry La  x1 g = some r) : gz_K La 4 mX12_dry [.ref 39, .int x1] g (gz_Fi r) := by
  unfold fX12_dry at hf
  refine gz_K.of 4 (by decide +kernel) rfl ?_
  show gz_J La 4 mX12_dry 0 [some (.ref 39), some (.int x1), none, none, none, none] [] g (gz_Fi r)
  refine sz_iconst dX12_dry_0 (cI0) ?_
  refine sz_istore_n dX12_dry_1 rfl (Nat.le_of_ble_eq_true rfl) rfl ?_
  refine sz_ls (l2 := [some (.ref 39), some (.int x1), some (.int 0), none, none, none]) rfl ?_
  refine sz_iconst dX12_dry_2 (cI0) ?_
  refine sz_istore_n dX12_dry_3 rfl (Nat.le_of_ble_eq_true rfl) rfl ?_
  refine sz_ls (l2 := [some (.ref 39), some (.int x1), some (.int 0), some (.int 0), none, none]) rfl ?_
  refine sz_iconst dX12_dry_4 (cI0) ?_
  refine sz_istore dX12_dry_5 (Nat.le_of_ble_eq_true rfl) rfl ?_
  refine sz_ls (l2 := [some (.ref 39), some (.int x1), some (.int 0), some (.int 0), some (.int 0), none]) rfl ?_
  exact tX12_dry_7    _ _ _ _ _ _ _ hf
def fX12_crowd_4 (La : gz_L)    : Nat → Int32 → Int32 → gz_S → Option (Int32 × gz_S)
  | 0, _, _, _ => none
  | n + 1, x1, x2, g => (fX12_cells La   g).bind (fun q6 => if q6.1 ≤ x2 then some (x1, q6.2) else (fX12_goingOn La  53 x2 q6.2).bind (fun q19 => (fJ6_bitCount_0f7a4 La  q19.1 q19.2).bind (fun q22 => (fJ9_max_7cf53 La  x1 q22.1 q22.2).bind (fun q25 => gz_let (x2 + 1) (fun y29 => fX12_crowd_4 La    n q25.1 y29 q25.2)))))
set_option maxRecDepth 100000 in
set_option maxHeartbeats 4000000 in
theorem tX12_crowd_4 {La : gz_L}      : ∀ (n : Nat) (x1 : Int32) (x2 : Int32) (g : gz_S) (r : Int32 × gz_S), fX12_crowd_4 La    n x1 x2 g = some r → gz_J La 3 mX12_crowd 4 [some (.ref 39), some (.int x1), some (.int x2)] [] g (gz_Fi r) := by
  intro n
  induction n with
  | zero => intro x1 x2 g r hf; exact nomatch (show (none : Option (Int32 × gz_S)) = some r from hf)
  | succ n ih =>
    intro x1 x2 g r hf
    unfold fX12_crowd_4 at hf
    refine sz_iload_n dX12_crowd_4 rfl ?_
    refine sz_aload_n dX12_crowd_5 rfl ?_
    obtain ⟨q6, eq6, hf⟩ := gz_bd hf
    refine sz_callVi [] [.int x2] dX12_crowd_6 mvX12_319 (Nat.le_of_ble_eq_true rfl) (by decide : 12 < 13) kd39 rfl (Nat.le_of_ble_eq_true rfl) (kX12_cells   eq6) ?_
    refine sz_icmp_ge 35 dX12_crowd_9 (by decide) (fun c9 => ?_) (fun c9 => ?_)
    · have hf := gz_ip c9 hf
      refine sz_iload_n dX12_crowd_35 rfl ?_
      cases hf
      exact sz_iret dX12_crowd_36 rfl rfl ⟨rfl, rfl⟩
    · have hf := gz_in1 c9 hf
      refine sz_iload_n dX12_crowd_12 rfl ?_
      refine sz_aload_n dX12_crowd_13 rfl ?_
      refine sz_aload_n dX12_crowd_14 rfl ?_
      refine sz_getR dX12_crowd_15 flX12_64 kd39 rfl rf39_32 ?_
      refine sz_iload_n dX12_crowd_18 rfl ?_
      obtain ⟨q19, eq19, hf⟩ := gz_bd hf
      refine sz_callVi [.ref 53, .int x2] [.int x1] dX12_crowd_19 mvX12_391 (Nat.le_of_ble_eq_true rfl) (by decide : 12 < 13) kd39 rfl (Nat.le_of_ble_eq_true rfl) (kX12_goingOn  (Or.inl rfl) eq19) ?_
      obtain ⟨q22, eq22, hf⟩ := gz_bd hf
      refine sz_callSi [.int q19.1] [.int x1] dX12_crowd_22 msX12_395 (Nat.le_of_ble_eq_true rfl) (Nat.le_of_ble_eq_true rfl) (kJ6_bitCount_0f7a4   eq22) ?_
      obtain ⟨q25, eq25, hf⟩ := gz_bd hf
      refine sz_callSi [.int x1, .int q22.1] [] dX12_crowd_25 msX12_371 (Nat.le_of_ble_eq_true rfl) (Nat.le_of_ble_eq_true rfl) (kJ9_max_7cf53   eq25) ?_
      refine sz_istore_n dX12_crowd_28 rfl (Nat.le_of_ble_eq_true rfl) rfl ?_
      refine sz_ls (l2 := [some (.ref 39), some (.int q25.1), some (.int x2)]) rfl ?_
      obtain ⟨y29, ey29, hf⟩ := gz_lt hf
      refine sz_iinc (v := y29) dX12_crowd_29 rfl (by rw [ey29, cI1]) (Nat.le_of_ble_eq_true rfl) rfl ?_
      refine sz_ls (l2 := [some (.ref 39), some (.int q25.1), some (.int y29)]) rfl ?_
      refine sz_goto 4 dX12_crowd_32 (by decide) ?_
      exact ih _ _ _ _ hf
def fX12_crowd (La : gz_L)   (g : gz_S) : Option (Int32 × gz_S) :=
  fX12_crowd_4 La    gz_FU 0 0 g
set_option maxRecDepth 100000 in
set_option maxHeartbeats 4000000 in
theorem kX12_crowd {La : gz_L}   {g : gz_S} {r : Int32 × gz_S}  (hf : fX12_crowd La   g = some r) : gz_K La 3 mX12_crowd [.ref 39] g (gz_Fi r) := by
  unfold fX12_crowd at hf
  refine gz_K.of 2 (by decide +kernel) rfl ?_
  show gz_J La 3 mX12_crowd 0 [some (.ref 39), none, none] [] g (gz_Fi r)
  refine sz_iconst dX12_crowd_0 (cI0) ?_
  refine sz_istore_n dX12_crowd_1 rfl (Nat.le_of_ble_eq_true rfl) rfl ?_
  refine sz_ls (l2 := [some (.ref 39), some (.int 0), none]) rfl ?_
  refine sz_iconst dX12_crowd_2 (cI0) ?_
  refine sz_istore_n dX12_crowd_3 rfl (Nat.le_of_ble_eq_true rfl) rfl ?_
  refine sz_ls (l2 := [some (.ref 39), some (.int 0), some (.int 0)]) rfl ?_
  exact tX12_crowd_4    _ _ _ _ _ hf
def fX12_busy_32 (La : gz_L)   (k4 : Int32 → Int32 → gz_S → Option (Int32 × gz_S)) (x2 : Int32) (s0 : Int32) (s1 : Int32) (g : gz_S) : Option (Int32 × gz_S) := gz_let (s1 ||| s0) (fun y33 => gz_let (x2 + 1) (fun y34 => k4 y33 y34 g))
set_option maxRecDepth 100000 in
set_option maxHeartbeats 4000000 in
theorem tX12_busy_32 {La : gz_L}   {k4 : Int32 → Int32 → gz_S → Option (Int32 × gz_S)}  (hk4 : ∀ (x1 : Int32) (x2 : Int32) (g : gz_S) (r : Int32 × gz_S), k4 x1 x2 g = some r → gz_J La 3 mX12_busy 4 [some (.ref 39), some (.int x1), some (.int x2)] [] g (gz_Fi r)) : ∀ (x2 : Int32) (s0 : Int32) (s1 : Int32) (g : gz_S) (r : Int32 × gz_S), fX12_busy_32 La   k4 x2 s0 s1 g = some r → gz_J La 3 mX12_busy 32 [some (.ref 39), none, some (.int x2)] [.int s0, .int s1] g (gz_Fi r) := by
  intro x2 s0 s1 g r hf
  unfold fX12_busy_32 at hf
  refine sz_ior dX12_busy_32 ?_
  obtain ⟨y33, ey33, hf⟩ := gz_lt hf
  refine sz_topi ey33 ?_
  refine sz_istore_n dX12_busy_33 rfl (Nat.le_of_ble_eq_true rfl) rfl ?_
  refine sz_ls (l2 := [some (.ref 39), some (.int y33), some (.int x2)]) rfl ?_
  obtain ⟨y34, ey34, hf⟩ := gz_lt hf
  refine sz_iinc (v := y34) dX12_busy_34 rfl (by rw [ey34, cI1]) (Nat.le_of_ble_eq_true rfl) rfl ?_
  refine sz_ls (l2 := [some (.ref 39), some (.int y33), some (.int y34)]) rfl ?_
  refine sz_goto 4 dX12_busy_37 (by decide) ?_
  exact hk4 _ _ _ _ hf
def fX12_busy_4 (La : gz_L)    : Nat → Int32 → Int32 → gz_S → Option (Int32 × gz_S)
  | 0, _, _, _ => none
  | n + 1, x1, x2, g => (fX12_cells La   g).bind (fun q6 => if q6.1 ≤ x2 then some (x1, q6.2) else (fX12_goingOn La  53 x2 q6.2).bind (fun q19 => if q19.1 = 0 then fX12_busy_32 La   (fX12_busy_4 La    n)  x2 0 x1 q19.2 else fX12_busy_32 La   (fX12_busy_4 La    n)  x2 ((1 : Int32) <<< (x2 &&& 31)) x1 q19.2))
set_option maxRecDepth 100000 in
set_option maxHeartbeats 4000000 in
theorem tX12_busy_4 {La : gz_L}      : ∀ (n : Nat) (x1 : Int32) (x2 : Int32) (g : gz_S) (r : Int32 × gz_S), fX12_busy_4 La    n x1 x2 g = some r → gz_J La 3 mX12_busy 4 [some (.ref 39), some (.int x1), some (.int x2)] [] g (gz_Fi r) := by
  intro n
  induction n with
  | zero => intro x1 x2 g r hf; exact nomatch (show (none : Option (Int32 × gz_S)) = some r from hf)
  | succ n ih =>
    intro x1 x2 g r hf
    unfold fX12_busy_4 at hf
    refine sz_iload_n dX12_busy_4 rfl ?_
    refine sz_aload_n dX12_busy_5 rfl ?_
    obtain ⟨q6, eq6, hf⟩ := gz_bd hf
    refine sz_callVi [] [.int x2] dX12_busy_6 mvX12_319 (Nat.le_of_ble_eq_true rfl) (by decide : 12 < 13) kd39 rfl (Nat.le_of_ble_eq_true rfl) (kX12_cells   eq6) ?_
    refine sz_icmp_ge 40 dX12_busy_9 (by decide) (fun c9 => ?_) (fun c9 => ?_)
    · have hf := gz_ip c9 hf
      refine sz_iload_n dX12_busy_40 rfl ?_
      cases hf
      exact sz_iret dX12_busy_41 rfl rfl ⟨rfl, rfl⟩
    · have hf := gz_in1 c9 hf
      refine sz_iload_n dX12_busy_12 rfl ?_
      refine sz_aload_n dX12_busy_13 rfl ?_
      refine sz_aload_n dX12_busy_14 rfl ?_
      refine sz_getR dX12_busy_15 flX12_64 kd39 rfl rf39_32 ?_
      refine sz_iload_n dX12_busy_18 rfl ?_
      obtain ⟨q19, eq19, hf⟩ := gz_bd hf
      refine sz_callVi [.ref 53, .int x2] [.int x1] dX12_busy_19 mvX12_391 (Nat.le_of_ble_eq_true rfl) (by decide : 12 < 13) kd39 rfl (Nat.le_of_ble_eq_true rfl) (kX12_goingOn  (Or.inl rfl) eq19) ?_
      refine sz_if_eq 31 dX12_busy_22 (by decide) (fun c22 => ?_) (fun c22 => ?_)
      · have hf := gz_ip c22 hf
        refine sz_iconst dX12_busy_31 (cI0) ?_
        refine sz_weak (l2 := [some (.ref 39), none, some (.int x2)]) (gz_subk (gz_subn (gz_subk gz_sub0))) ?_
        exact tX12_busy_32   ih _ _ _ _ _ hf
      · have hf := gz_in1 c22 hf
        refine sz_iconst dX12_busy_25 (cI1) ?_
        refine sz_iload_n dX12_busy_26 rfl ?_
        refine sz_ishl dX12_busy_27 ?_
        refine sz_goto 32 dX12_busy_28 (by decide) ?_
        refine sz_weak (l2 := [some (.ref 39), none, some (.int x2)]) (gz_subk (gz_subn (gz_subk gz_sub0))) ?_
        exact tX12_busy_32   ih _ _ _ _ _ hf
def fX12_busy (La : gz_L)   (g : gz_S) : Option (Int32 × gz_S) :=
  fX12_busy_4 La    gz_FU 0 0 g
set_option maxRecDepth 100000 in
set_option maxHeartbeats 4000000 in
theorem kX12_busy {La : gz_L}   {g : gz_S} {r : Int32 × gz_S}  (hf : fX12_busy La   g = some r) : gz_K La 3 mX12_busy [.ref 39] g (gz_Fi r) := by
  unfold fX12_busy at hf
  refine gz_K.of 2 (by decide +kernel) rfl ?_
  show gz_J La 3 mX12_busy 0 [some (.ref 39), none, none] [] g (gz_Fi r)
  refine sz_iconst dX12_busy_0 (cI0) ?_
  refine sz_istore_n dX12_busy_1 rfl (Nat.le_of_ble_eq_true rfl) rfl ?_
  refine sz_ls (l2 := [some (.ref 39), some (.int 0), none]) rfl ?_
  refine sz_iconst dX12_busy_2 (cI0) ?_
  refine sz_istore_n dX12_busy_3 rfl (Nat.le_of_ble_eq_true rfl) rfl ?_
  refine sz_ls (l2 := [some (.ref 39), some (.int 0), some (.int 0)]) rfl ?_
  exact tX12_busy_4    _ _ _ _ _ hf
def fX12_doesFace (La : gz_L)  (x1 : Int32) (x2 : Int32) (g : gz_S) : Option (Int32 × gz_S) :=
  if gz_ok ((30 : Int32) + ((4 : Int32) * x1)) 231 then if gz_ok (((30 : Int32) + ((4 : Int32) * x1)) + 1) 231 then (fX12_nextCell La  (g.1 53 (Int32.toNatClampNeg ((30 : Int32) + ((4 : Int32) * x1)))) (g.1 53 (Int32.toNatClampNeg (((30 : Int32) + ((4 : Int32) * x1)) + 1))) g).bind (fun q25 => if gz_ok ((30 : Int32) + ((4 : Int32) * x2)) 231 then if q25.1 = (q25.2.1 53 (Int32.toNatClampNeg ((30 : Int32) + ((4 : Int32) * x2)))) then some (1, q25.2) else some (0, q25.2) else none) else none else none
set_option maxRecDepth 100000 in
set_option maxHeartbeats 4000000 in
theorem kX12_doesFace {La : gz_L}  {x1 : Int32} {x2 : Int32} {g : gz_S} {r : Int32 × gz_S}  (hf : fX12_doesFace La  x1 x2 g = some r) : gz_K La 2 mX12_doesFace [.ref 39, .int x1, .int x2] g (gz_Fi r) := by
  unfold fX12_doesFace at hf
  refine gz_K.of 0 (by decide +kernel) rfl ?_
  show gz_J La 2 mX12_doesFace 0 [some (.ref 39), some (.int x1), some (.int x2)] [] g (gz_Fi r)
  refine sz_aload_n dX12_doesFace_0 rfl ?_
  refine sz_aload_n dX12_doesFace_1 rfl ?_
  refine sz_getR dX12_doesFace_2 flX12_64 kd39 rfl rf39_32 ?_
  refine sz_bipush dX12_doesFace_5 (cB30) ?_
  refine sz_iconst dX12_doesFace_7 (cI4) ?_
  refine sz_iload_n dX12_doesFace_8 rfl ?_
  refine sz_imul dX12_doesFace_9 ?_
  refine sz_iadd dX12_doesFace_10 ?_
  obtain ⟨c11, hf⟩ := gz_gd hf
  refine sz_ialdL dX12_doesFace_11 kd53 c11 rfl ?_
  refine sz_aload_n dX12_doesFace_12 rfl ?_
  refine sz_getR dX12_doesFace_13 flX12_64 kd39 rfl rf39_32 ?_
  refine sz_bipush dX12_doesFace_16 (cB30) ?_
  refine sz_iconst dX12_doesFace_18 (cI4) ?_
  refine sz_iload_n dX12_doesFace_19 rfl ?_
  refine sz_imul dX12_doesFace_20 ?_
  refine sz_iadd dX12_doesFace_21 ?_
  refine sz_iconst dX12_doesFace_22 (cI1) ?_
  refine sz_iadd dX12_doesFace_23 ?_
  obtain ⟨c24, hf⟩ := gz_gd hf
  refine sz_ialdL dX12_doesFace_24 kd53 c24 rfl ?_
  obtain ⟨q25, eq25, hf⟩ := gz_bd hf
  refine sz_callVi [.int (g.1 53 (Int32.toNatClampNeg ((30 : Int32) + ((4 : Int32) * x1)))), .int (g.1 53 (Int32.toNatClampNeg (((30 : Int32) + ((4 : Int32) * x1)) + 1)))] [] dX12_doesFace_25 mvX12_328 (Nat.le_of_ble_eq_true rfl) (by decide : 12 < 13) kd39 rfl (Nat.le_of_ble_eq_true rfl) (kX12_nextCell   eq25) ?_
  refine sz_aload_n dX12_doesFace_28 rfl ?_
  refine sz_getR dX12_doesFace_29 flX12_64 kd39 rfl rf39_32 ?_
  refine sz_bipush dX12_doesFace_32 (cB30) ?_
  refine sz_iconst dX12_doesFace_34 (cI4) ?_
  refine sz_iload_n dX12_doesFace_35 rfl ?_
  refine sz_imul dX12_doesFace_36 ?_
  refine sz_iadd dX12_doesFace_37 ?_
  obtain ⟨c38, hf⟩ := gz_gd hf
  refine sz_ialdL dX12_doesFace_38 kd53 c38 rfl ?_
  refine sz_icmp_ne 46 dX12_doesFace_39 (by decide) (fun c39 => ?_) (fun c39 => ?_)
  · have hf := gz_in1 c39 hf
    refine sz_iconst dX12_doesFace_46 (cI0) ?_
    cases hf
    exact sz_iret dX12_doesFace_47 rfl rfl ⟨rfl, rfl⟩
  · have hf := gz_ip c39 hf
    refine sz_iconst dX12_doesFace_42 (cI1) ?_
    refine sz_goto 47 dX12_doesFace_43 (by decide) ?_
    cases hf
    exact sz_iret dX12_doesFace_47 rfl rfl ⟨rfl, rfl⟩
def fX12_faced_70 (La : gz_L)   (k16 : Int32 → Int32 → Int32 → gz_S → Option (Int32 × gz_S)) (x2 : Int32) (x3 : Int32) (s0 : Int32) (s1 : Int32) (g : gz_S) : Option (Int32 × gz_S) := gz_let (s1 + s0) (fun y71 => gz_let (x3 + 1) (fun y72 => k16 y71 x2 y72 g))
set_option maxRecDepth 100000 in
set_option maxHeartbeats 4000000 in
theorem tX12_faced_70 {La : gz_L}   {k16 : Int32 → Int32 → Int32 → gz_S → Option (Int32 × gz_S)}  (hk16 : ∀ (x1 : Int32) (x2 : Int32) (x3 : Int32) (g : gz_S) (r : Int32 × gz_S), k16 x1 x2 x3 g = some r → gz_J La 3 mX12_faced 16 [some (.ref 39), some (.int x1), some (.int x2), some (.int x3)] [] g (gz_Fi r)) : ∀ (x2 : Int32) (x3 : Int32) (s0 : Int32) (s1 : Int32) (g : gz_S) (r : Int32 × gz_S), fX12_faced_70 La   k16 x2 x3 s0 s1 g = some r → gz_J La 3 mX12_faced 70 [some (.ref 39), none, some (.int x2), some (.int x3)] [.int s0, .int s1] g (gz_Fi r) := by
  intro x2 x3 s0 s1 g r hf
  unfold fX12_faced_70 at hf
  refine sz_iadd dX12_faced_70 ?_
  obtain ⟨y71, ey71, hf⟩ := gz_lt hf
  refine sz_topi ey71 ?_
  refine sz_istore_n dX12_faced_71 rfl (Nat.le_of_ble_eq_true rfl) rfl ?_
  refine sz_ls (l2 := [some (.ref 39), some (.int y71), some (.int x2), some (.int x3)]) rfl ?_
  obtain ⟨y72, ey72, hf⟩ := gz_lt hf
  refine sz_iinc (v := y72) dX12_faced_72 rfl (by rw [ey72, cI1]) (Nat.le_of_ble_eq_true rfl) rfl ?_
  refine sz_ls (l2 := [some (.ref 39), some (.int y71), some (.int x2), some (.int y72)]) rfl ?_
  refine sz_goto 16 dX12_faced_75 (by decide) ?_
  exact hk16 _ _ _ _ _ hf
def fX12_faced_69 (La : gz_L)   (k16 : Int32 → Int32 → Int32 → gz_S → Option (Int32 × gz_S)) (x2 : Int32) (x3 : Int32) (s0 : Int32) (g : gz_S) : Option (Int32 × gz_S) := fX12_faced_70 La   k16  x2 x3 0 s0 g
set_option maxRecDepth 100000 in
set_option maxHeartbeats 4000000 in
theorem tX12_faced_69 {La : gz_L}   {k16 : Int32 → Int32 → Int32 → gz_S → Option (Int32 × gz_S)}  (hk16 : ∀ (x1 : Int32) (x2 : Int32) (x3 : Int32) (g : gz_S) (r : Int32 × gz_S), k16 x1 x2 x3 g = some r → gz_J La 3 mX12_faced 16 [some (.ref 39), some (.int x1), some (.int x2), some (.int x3)] [] g (gz_Fi r)) : ∀ (x2 : Int32) (x3 : Int32) (s0 : Int32) (g : gz_S) (r : Int32 × gz_S), fX12_faced_69 La   k16 x2 x3 s0 g = some r → gz_J La 3 mX12_faced 69 [some (.ref 39), none, some (.int x2), some (.int x3)] [.int s0] g (gz_Fi r) := by
  intro x2 x3 s0 g r hf
  unfold fX12_faced_69 at hf
  refine sz_iconst dX12_faced_69 (cI0) ?_
  exact tX12_faced_70   hk16 _ _ _ _ _ _ hf
def fX12_faced_16 (La : gz_L)   (k78 : Int32 → Int32 → gz_S → Option (Int32 × gz_S)) : Nat → Int32 → Int32 → Int32 → gz_S → Option (Int32 × gz_S)
  | 0, _, _, _, _ => none
  | n + 1, x1, x2, x3, g => if (g.1 39 27) ≤ x3 then k78 x1 x2 g else (fX12_does La  53 x2 g).bind (fun q30 => if q30.1 = 0 then fX12_faced_69 La   (fX12_faced_16 La   k78 n)  x2 x3 x1 q30.2 else (fX12_does La  53 x3 q30.2).bind (fun q41 => if q41.1 = 0 then fX12_faced_69 La   (fX12_faced_16 La   k78 n)  x2 x3 x1 q41.2 else (fX12_doesFace La  x2 x3 q41.2).bind (fun q50 => if q50.1 = 0 then fX12_faced_69 La   (fX12_faced_16 La   k78 n)  x2 x3 x1 q50.2 else (fX12_doesFace La  x3 x2 q50.2).bind (fun q59 => if q59.1 = 0 then fX12_faced_69 La   (fX12_faced_16 La   k78 n)  x2 x3 x1 q59.2 else fX12_faced_70 La   (fX12_faced_16 La   k78 n)  x2 x3 1 x1 q59.2))))
set_option maxRecDepth 100000 in
set_option maxHeartbeats 4000000 in
theorem tX12_faced_16 {La : gz_L}   {k78 : Int32 → Int32 → gz_S → Option (Int32 × gz_S)}  (hk78 : ∀ (x1 : Int32) (x2 : Int32) (g : gz_S) (r : Int32 × gz_S), k78 x1 x2 g = some r → gz_J La 3 mX12_faced 78 [some (.ref 39), some (.int x1), some (.int x2), none] [] g (gz_Fi r)) : ∀ (n : Nat) (x1 : Int32) (x2 : Int32) (x3 : Int32) (g : gz_S) (r : Int32 × gz_S), fX12_faced_16 La   k78 n x1 x2 x3 g = some r → gz_J La 3 mX12_faced 16 [some (.ref 39), some (.int x1), some (.int x2), some (.int x3)] [] g (gz_Fi r) := by
  intro n
  induction n with
  | zero => intro x1 x2 x3 g r hf; exact nomatch (show (none : Option (Int32 × gz_S)) = some r from hf)
  | succ n ih =>
    intro x1 x2 x3 g r hf
    unfold fX12_faced_16 at hf
    refine sz_iload_n dX12_faced_16 rfl ?_
    refine sz_aload_n dX12_faced_17 rfl ?_
    refine sz_getI dX12_faced_18 flX12_303 kd39 rfl ?_
    refine sz_icmp_ge 78 dX12_faced_21 (by decide) (fun c21 => ?_) (fun c21 => ?_)
    · have hf := gz_ip c21 hf
      refine sz_weak (l2 := [some (.ref 39), some (.int x1), some (.int x2), none]) (gz_subk (gz_subk (gz_subk (gz_subn gz_sub0)))) ?_
      exact hk78 _ _ _ _ hf
    · have hf := gz_in1 c21 hf
      refine sz_iload_n dX12_faced_24 rfl ?_
      refine sz_aload_n dX12_faced_25 rfl ?_
      refine sz_getR dX12_faced_26 flX12_64 kd39 rfl rf39_32 ?_
      refine sz_iload_n dX12_faced_29 rfl ?_
      obtain ⟨q30, eq30, hf⟩ := gz_bd hf
      refine sz_callSi [.ref 53, .int x2] [.int x1] dX12_faced_30 msX12_346 (Nat.le_of_ble_eq_true rfl) (Nat.le_of_ble_eq_true rfl) (kX12_does  (Or.inl rfl) eq30) ?_
      refine sz_if_eq 69 dX12_faced_33 (by decide) (fun c33 => ?_) (fun c33 => ?_)
      · have hf := gz_ip c33 hf
        refine sz_weak (l2 := [some (.ref 39), none, some (.int x2), some (.int x3)]) (gz_subk (gz_subn (gz_subk (gz_subk gz_sub0)))) ?_
        exact tX12_faced_69   ih _ _ _ _ _ hf
      · have hf := gz_in1 c33 hf
        refine sz_aload_n dX12_faced_36 rfl ?_
        refine sz_getR dX12_faced_37 flX12_64 kd39 rfl rf39_32 ?_
        refine sz_iload_n dX12_faced_40 rfl ?_
        obtain ⟨q41, eq41, hf⟩ := gz_bd hf
        refine sz_callSi [.ref 53, .int x3] [.int x1] dX12_faced_41 msX12_346 (Nat.le_of_ble_eq_true rfl) (Nat.le_of_ble_eq_true rfl) (kX12_does  (Or.inl rfl) eq41) ?_
        refine sz_if_eq 69 dX12_faced_44 (by decide) (fun c44 => ?_) (fun c44 => ?_)
        · have hf := gz_ip c44 hf
          refine sz_weak (l2 := [some (.ref 39), none, some (.int x2), some (.int x3)]) (gz_subk (gz_subn (gz_subk (gz_subk gz_sub0)))) ?_
          exact tX12_faced_69   ih _ _ _ _ _ hf
        · have hf := gz_in1 c44 hf
          refine sz_aload_n dX12_faced_47 rfl ?_
          refine sz_iload_n dX12_faced_48 rfl ?_
          refine sz_iload_n dX12_faced_49 rfl ?_
          obtain ⟨q50, eq50, hf⟩ := gz_bd hf
          refine sz_callVi [.int x2, .int x3] [.int x1] dX12_faced_50 mvX12_499 (Nat.le_of_ble_eq_true rfl) (by decide : 12 < 13) kd39 rfl (Nat.le_of_ble_eq_true rfl) (kX12_doesFace   eq50) ?_
          refine sz_if_eq 69 dX12_faced_53 (by decide) (fun c53 => ?_) (fun c53 => ?_)
          · have hf := gz_ip c53 hf
            refine sz_weak (l2 := [some (.ref 39), none, some (.int x2), some (.int x3)]) (gz_subk (gz_subn (gz_subk (gz_subk gz_sub0)))) ?_
            exact tX12_faced_69   ih _ _ _ _ _ hf
          · have hf := gz_in1 c53 hf
            refine sz_aload_n dX12_faced_56 rfl ?_
            refine sz_iload_n dX12_faced_57 rfl ?_
            refine sz_iload_n dX12_faced_58 rfl ?_
            obtain ⟨q59, eq59, hf⟩ := gz_bd hf
            refine sz_callVi [.int x3, .int x2] [.int x1] dX12_faced_59 mvX12_499 (Nat.le_of_ble_eq_true rfl) (by decide : 12 < 13) kd39 rfl (Nat.le_of_ble_eq_true rfl) (kX12_doesFace   eq59) ?_
            refine sz_if_eq 69 dX12_faced_62 (by decide) (fun c62 => ?_) (fun c62 => ?_)
            · have hf := gz_ip c62 hf
              refine sz_weak (l2 := [some (.ref 39), none, some (.int x2), some (.int x3)]) (gz_subk (gz_subn (gz_subk (gz_subk gz_sub0)))) ?_
              exact tX12_faced_69   ih _ _ _ _ _ hf
            · have hf := gz_in1 c62 hf
              refine sz_iconst dX12_faced_65 (cI1) ?_
              refine sz_goto 70 dX12_faced_66 (by decide) ?_
              refine sz_weak (l2 := [some (.ref 39), none, some (.int x2), some (.int x3)]) (gz_subk (gz_subn (gz_subk (gz_subk gz_sub0)))) ?_
              exact tX12_faced_70   ih _ _ _ _ _ _ hf
def fX12_faced_4 (La : gz_L)    : Nat → Int32 → Int32 → gz_S → Option (Int32 × gz_S)
  | 0, _, _, _ => none
  | n + 1, x1, x2, g => if (g.1 39 27) ≤ x2 then some (x1, g) else gz_let (x2 + 1) (fun y15 => fX12_faced_16 La   (fun (x1 : Int32) (x2 : Int32) g => gz_let (x2 + 1) (fun y78 => fX12_faced_4 La    n x1 y78 g)) gz_FU x1 x2 y15 g)
set_option maxRecDepth 100000 in
set_option maxHeartbeats 4000000 in
theorem tX12_faced_4 {La : gz_L}      : ∀ (n : Nat) (x1 : Int32) (x2 : Int32) (g : gz_S) (r : Int32 × gz_S), fX12_faced_4 La    n x1 x2 g = some r → gz_J La 3 mX12_faced 4 [some (.ref 39), some (.int x1), some (.int x2), none] [] g (gz_Fi r) := by
  intro n
  induction n with
  | zero => intro x1 x2 g r hf; exact nomatch (show (none : Option (Int32 × gz_S)) = some r from hf)
  | succ n ih =>
    intro x1 x2 g r hf
    unfold fX12_faced_4 at hf
    refine sz_iload_n dX12_faced_4 rfl ?_
    refine sz_aload_n dX12_faced_5 rfl ?_
    refine sz_getI dX12_faced_6 flX12_303 kd39 rfl ?_
    refine sz_icmp_ge 84 dX12_faced_9 (by decide) (fun c9 => ?_) (fun c9 => ?_)
    · have hf := gz_ip c9 hf
      refine sz_iload_n dX12_faced_84 rfl ?_
      cases hf
      exact sz_iret dX12_faced_85 rfl rfl ⟨rfl, rfl⟩
    · have hf := gz_in1 c9 hf
      refine sz_iload_n dX12_faced_12 rfl ?_
      refine sz_iconst dX12_faced_13 (cI1) ?_
      refine sz_iadd dX12_faced_14 ?_
      obtain ⟨y15, ey15, hf⟩ := gz_lt hf
      refine sz_topi ey15 ?_
      refine sz_istore_n dX12_faced_15 rfl (Nat.le_of_ble_eq_true rfl) rfl ?_
      refine sz_ls (l2 := [some (.ref 39), some (.int x1), some (.int x2), some (.int y15)]) rfl ?_
      have hk78 : ∀ (x1 : Int32) (x2 : Int32) (g : gz_S) (r : Int32 × gz_S), (fun (x1 : Int32) (x2 : Int32) g => gz_let (x2 + 1) (fun y78 => fX12_faced_4 La    n x1 y78 g)) x1 x2 g = some r → gz_J La 3 mX12_faced 78 [some (.ref 39), some (.int x1), some (.int x2), none] [] g (gz_Fi r) := by
        intro x1 x2 g r hf
        obtain ⟨y78, ey78, hf⟩ := gz_lt hf
        refine sz_iinc (v := y78) dX12_faced_78 rfl (by rw [ey78, cI1]) (Nat.le_of_ble_eq_true rfl) rfl ?_
        refine sz_ls (l2 := [some (.ref 39), some (.int x1), some (.int y78), none]) rfl ?_
        refine sz_goto 4 dX12_faced_81 (by decide) ?_
        exact ih _ _ _ _ hf
      exact tX12_faced_16   hk78 _ _ _ _ _ _ hf
def fX12_faced (La : gz_L)   (g : gz_S) : Option (Int32 × gz_S) :=
  fX12_faced_4 La    gz_FU 0 0 g
set_option maxRecDepth 100000 in
set_option maxHeartbeats 4000000 in
theorem kX12_faced {La : gz_L}   {g : gz_S} {r : Int32 × gz_S}  (hf : fX12_faced La   g = some r) : gz_K La 3 mX12_faced [.ref 39] g (gz_Fi r) := by
  unfold fX12_faced at hf
  refine gz_K.of 3 (by decide +kernel) rfl ?_
  show gz_J La 3 mX12_faced 0 [some (.ref 39), none, none, none] [] g (gz_Fi r)
  refine sz_iconst dX12_faced_0 (cI0) ?_
  refine sz_istore_n dX12_faced_1 rfl (Nat.le_of_ble_eq_true rfl) rfl ?_
  refine sz_ls (l2 := [some (.ref 39), some (.int 0), none, none]) rfl ?_
  refine sz_iconst dX12_faced_2 (cI0) ?_
  refine sz_istore_n dX12_faced_3 rfl (Nat.le_of_ble_eq_true rfl) rfl ?_
  refine sz_ls (l2 := [some (.ref 39), some (.int 0), some (.int 0), none]) rfl ?_
  exact tX12_faced_4    _ _ _ _ _ hf
def fX12_all (La : gz_L)  (x1 : Int32) (g : gz_S) : Option (Int32 × gz_S) :=
  gz_let (gz_wi g 39 0 0) (fun g2 => if (g2.1 39 27) = 0 then some ((-1), g2) else if x1 = 0 then (fX12_greatest La  x1 g2).bind (fun q70 => some (q70.1, q70.2)) else if x1 = 1 then (fX12_greatest La  x1 g2).bind (fun q70 => some (q70.1, q70.2)) else if x1 = 2 then (fX12_thoseWho La  (x1 - 2) g2).bind (fun q78 => some (q78.1, q78.2)) else if x1 = 3 then (fX12_thoseWho La  (x1 - 2) g2).bind (fun q78 => some (q78.1, q78.2)) else if x1 = 4 then (fX12_thoseWho La  (x1 - 2) g2).bind (fun q78 => some (q78.1, q78.2)) else if x1 = 5 then (fX12_dry La  0 g2).bind (fun q84 => some (q84.1, q84.2)) else if x1 = 6 then (fX12_dry La  1 g2).bind (fun q90 => some (q90.1, q90.2)) else if x1 = 7 then (fX12_crowd La   g2).bind (fun q95 => some (q95.1, q95.2)) else if x1 = 8 then (fX12_busy La   g2).bind (fun q100 => some (q100.1, q100.2)) else if x1 = 9 then (fX12_faced La   g2).bind (fun q105 => some (q105.1, q105.2)) else some ((-1), g2))
set_option maxRecDepth 100000 in
set_option maxHeartbeats 4000000 in
theorem kX12_all {La : gz_L}  {x1 : Int32} {g : gz_S} {r : Int32 × gz_S}  (hf : fX12_all La  x1 g = some r) : gz_K La 5 mX12_all [.ref 39, .int x1] g (gz_Fi r) := by
  unfold fX12_all at hf
  refine gz_K.of 0 (by decide +kernel) rfl ?_
  show gz_J La 5 mX12_all 0 [some (.ref 39), some (.int x1)] [] g (gz_Fi r)
  refine sz_aload_n dX12_all_0 rfl ?_
  refine sz_iconst dX12_all_1 (cI0) ?_
  obtain ⟨g2, eg2, hf⟩ := gz_lt hf
  refine sz_putI2 dX12_all_2 flX12_104 kd39 fi12_0 eg2 ?_
  refine sz_aload_n dX12_all_5 rfl ?_
  refine sz_getI dX12_all_6 flX12_303 kd39 rfl ?_
  refine sz_if_ne 14 dX12_all_9 (by decide) (fun c9 => ?_) (fun c9 => ?_)
  · have hf := gz_in1 c9 hf
    refine sz_iload_n dX12_all_14 rfl ?_
    by_cases c15_0 : x1 = 0
    · have hf := gz_ip c15_0 hf
      refine sz_tableIn 68 dX12_all_15 (by rw [c15_0]; decide) (by rw [c15_0]; decide) (by rw [c15_0]; rfl) (by decide) ?_
      refine sz_aload_n dX12_all_68 rfl ?_
      refine sz_iload_n dX12_all_69 rfl ?_
      obtain ⟨q70, eq70, hf⟩ := gz_bd hf
      refine sz_callVi [.int x1] [] dX12_all_70 mvX12_502 (Nat.le_of_ble_eq_true rfl) (by decide : 12 < 13) kd39 rfl (Nat.le_of_ble_eq_true rfl) (kX12_greatest   eq70) ?_
      cases hf
      exact sz_iret dX12_all_73 rfl rfl ⟨rfl, rfl⟩
    have hf := gz_in1 c15_0 hf
    by_cases c15_1 : x1 = 1
    · have hf := gz_ip c15_1 hf
      refine sz_tableIn 68 dX12_all_15 (by rw [c15_1]; decide) (by rw [c15_1]; decide) (by rw [c15_1]; rfl) (by decide) ?_
      refine sz_aload_n dX12_all_68 rfl ?_
      refine sz_iload_n dX12_all_69 rfl ?_
      obtain ⟨q70, eq70, hf⟩ := gz_bd hf
      refine sz_callVi [.int x1] [] dX12_all_70 mvX12_502 (Nat.le_of_ble_eq_true rfl) (by decide : 12 < 13) kd39 rfl (Nat.le_of_ble_eq_true rfl) (kX12_greatest   eq70) ?_
      cases hf
      exact sz_iret dX12_all_73 rfl rfl ⟨rfl, rfl⟩
    have hf := gz_in1 c15_1 hf
    by_cases c15_2 : x1 = 2
    · have hf := gz_ip c15_2 hf
      refine sz_tableIn 74 dX12_all_15 (by rw [c15_2]; decide) (by rw [c15_2]; decide) (by rw [c15_2]; rfl) (by decide) ?_
      refine sz_aload_n dX12_all_74 rfl ?_
      refine sz_iload_n dX12_all_75 rfl ?_
      refine sz_iconst dX12_all_76 (cI2) ?_
      refine sz_isub dX12_all_77 ?_
      obtain ⟨q78, eq78, hf⟩ := gz_bd hf
      refine sz_callVi [.int (x1 - 2)] [] dX12_all_78 mvX12_505 (Nat.le_of_ble_eq_true rfl) (by decide : 12 < 13) kd39 rfl (Nat.le_of_ble_eq_true rfl) (kX12_thoseWho   eq78) ?_
      cases hf
      exact sz_iret dX12_all_81 rfl rfl ⟨rfl, rfl⟩
    have hf := gz_in1 c15_2 hf
    by_cases c15_3 : x1 = 3
    · have hf := gz_ip c15_3 hf
      refine sz_tableIn 74 dX12_all_15 (by rw [c15_3]; decide) (by rw [c15_3]; decide) (by rw [c15_3]; rfl) (by decide) ?_
      refine sz_aload_n dX12_all_74 rfl ?_
      refine sz_iload_n dX12_all_75 rfl ?_
      refine sz_iconst dX12_all_76 (cI2) ?_
      refine sz_isub dX12_all_77 ?_
      obtain ⟨q78, eq78, hf⟩ := gz_bd hf
      refine sz_callVi [.int (x1 - 2)] [] dX12_all_78 mvX12_505 (Nat.le_of_ble_eq_true rfl) (by decide : 12 < 13) kd39 rfl (Nat.le_of_ble_eq_true rfl) (kX12_thoseWho   eq78) ?_
      cases hf
      exact sz_iret dX12_all_81 rfl rfl ⟨rfl, rfl⟩
    have hf := gz_in1 c15_3 hf
    by_cases c15_4 : x1 = 4
    · have hf := gz_ip c15_4 hf
      refine sz_tableIn 74 dX12_all_15 (by rw [c15_4]; decide) (by rw [c15_4]; decide) (by rw [c15_4]; rfl) (by decide) ?_
      refine sz_aload_n dX12_all_74 rfl ?_
      refine sz_iload_n dX12_all_75 rfl ?_
      refine sz_iconst dX12_all_76 (cI2) ?_
      refine sz_isub dX12_all_77 ?_
      obtain ⟨q78, eq78, hf⟩ := gz_bd hf
      refine sz_callVi [.int (x1 - 2)] [] dX12_all_78 mvX12_505 (Nat.le_of_ble_eq_true rfl) (by decide : 12 < 13) kd39 rfl (Nat.le_of_ble_eq_true rfl) (kX12_thoseWho   eq78) ?_
      cases hf
      exact sz_iret dX12_all_81 rfl rfl ⟨rfl, rfl⟩
    have hf := gz_in1 c15_4 hf
    by_cases c15_5 : x1 = 5
    · have hf := gz_ip c15_5 hf
      refine sz_tableIn 82 dX12_all_15 (by rw [c15_5]; decide) (by rw [c15_5]; decide) (by rw [c15_5]; rfl) (by decide) ?_
      refine sz_aload_n dX12_all_82 rfl ?_
      refine sz_iconst dX12_all_83 (cI0) ?_
      obtain ⟨q84, eq84, hf⟩ := gz_bd hf
      refine sz_callVi [.int 0] [] dX12_all_84 mvX12_508 (Nat.le_of_ble_eq_true rfl) (by decide : 12 < 13) kd39 rfl (Nat.le_of_ble_eq_true rfl) (kX12_dry   eq84) ?_
      cases hf
      exact sz_iret dX12_all_87 rfl rfl ⟨rfl, rfl⟩
    have hf := gz_in1 c15_5 hf
    by_cases c15_6 : x1 = 6
    · have hf := gz_ip c15_6 hf
      refine sz_tableIn 88 dX12_all_15 (by rw [c15_6]; decide) (by rw [c15_6]; decide) (by rw [c15_6]; rfl) (by decide) ?_
      refine sz_aload_n dX12_all_88 rfl ?_
      refine sz_iconst dX12_all_89 (cI1) ?_
      obtain ⟨q90, eq90, hf⟩ := gz_bd hf
      refine sz_callVi [.int 1] [] dX12_all_90 mvX12_508 (Nat.le_of_ble_eq_true rfl) (by decide : 12 < 13) kd39 rfl (Nat.le_of_ble_eq_true rfl) (kX12_dry   eq90) ?_
      cases hf
      exact sz_iret dX12_all_93 rfl rfl ⟨rfl, rfl⟩
    have hf := gz_in1 c15_6 hf
    by_cases c15_7 : x1 = 7
    · have hf := gz_ip c15_7 hf
      refine sz_tableIn 94 dX12_all_15 (by rw [c15_7]; decide) (by rw [c15_7]; decide) (by rw [c15_7]; rfl) (by decide) ?_
      refine sz_aload_n dX12_all_94 rfl ?_
      obtain ⟨q95, eq95, hf⟩ := gz_bd hf
      refine sz_callVi [] [] dX12_all_95 mvX12_512 (Nat.le_of_ble_eq_true rfl) (by decide : 12 < 13) kd39 rfl (Nat.le_of_ble_eq_true rfl) (kX12_crowd   eq95) ?_
      cases hf
      exact sz_iret dX12_all_98 rfl rfl ⟨rfl, rfl⟩
    have hf := gz_in1 c15_7 hf
    by_cases c15_8 : x1 = 8
    · have hf := gz_ip c15_8 hf
      refine sz_tableIn 99 dX12_all_15 (by rw [c15_8]; decide) (by rw [c15_8]; decide) (by rw [c15_8]; rfl) (by decide) ?_
      refine sz_aload_n dX12_all_99 rfl ?_
      obtain ⟨q100, eq100, hf⟩ := gz_bd hf
      refine sz_callVi [] [] dX12_all_100 mvX12_515 (Nat.le_of_ble_eq_true rfl) (by decide : 12 < 13) kd39 rfl (Nat.le_of_ble_eq_true rfl) (kX12_busy   eq100) ?_
      cases hf
      exact sz_iret dX12_all_103 rfl rfl ⟨rfl, rfl⟩
    have hf := gz_in1 c15_8 hf
    by_cases c15_9 : x1 = 9
    · have hf := gz_ip c15_9 hf
      refine sz_tableIn 104 dX12_all_15 (by rw [c15_9]; decide) (by rw [c15_9]; decide) (by rw [c15_9]; rfl) (by decide) ?_
      refine sz_aload_n dX12_all_104 rfl ?_
      obtain ⟨q105, eq105, hf⟩ := gz_bd hf
      refine sz_callVi [] [] dX12_all_105 mvX12_518 (Nat.le_of_ble_eq_true rfl) (by decide : 12 < 13) kd39 rfl (Nat.le_of_ble_eq_true rfl) (kX12_faced   eq105) ?_
      cases hf
      exact sz_iret dX12_all_108 rfl rfl ⟨rfl, rfl⟩
    have hf := gz_in1 c15_9 hf
    refine sz_tableOut 109 dX12_all_15 (by have z0 := lv_neT c15_0 (a := 0) (by decide); have z1 := lv_neT c15_1 (a := 1) (by decide); have z2 := lv_neT c15_2 (a := 2) (by decide); have z3 := lv_neT c15_3 (a := 3) (by decide); have z4 := lv_neT c15_4 (a := 4) (by decide); have z5 := lv_neT c15_5 (a := 5) (by decide); have z6 := lv_neT c15_6 (a := 6) (by decide); have z7 := lv_neT c15_7 (a := 7) (by decide); have z8 := lv_neT c15_8 (a := 8) (by decide); have z9 := lv_neT c15_9 (a := 9) (by decide); omega) (by decide) ?_
    refine sz_iconst dX12_all_109 (cIm1) ?_
    cases hf
    exact sz_iret dX12_all_110 rfl rfl ⟨rfl, rfl⟩
  · have hf := gz_ip c9 hf
    refine sz_iconst dX12_all_12 (cIm1) ?_
    cases hf
    exact sz_iret dX12_all_13 rfl rfl ⟨rfl, rfl⟩
def fX12_image_16 (La : gz_L)   (k41 : gz_S → Option (Int32 × gz_S)) : Nat → Int32 → gz_S → Option (Int32 × gz_S)
  | 0, _, _ => none
  | n + 1, x1, g => if 231 ≤ x1 then k41  g else if gz_ok x1 231 then if gz_ok x1 231 then gz_let (gz_wi g 63 (Int32.toNatClampNeg x1) (g.1 53 (Int32.toNatClampNeg x1))) (fun g34 => gz_let (x1 + 1) (fun y35 => fX12_image_16 La   k41 n y35 g34)) else none else none
set_option maxRecDepth 100000 in
set_option maxHeartbeats 4000000 in
theorem tX12_image_16 {La : gz_L}   {k41 : gz_S → Option (Int32 × gz_S)}  (hk41 : ∀  (g : gz_S) (r : Int32 × gz_S), k41  g = some r → gz_J La 1 mX12_image 41 [some (.ref 39), none] [] g (gz_Fi r)) : ∀ (n : Nat) (x1 : Int32) (g : gz_S) (r : Int32 × gz_S), fX12_image_16 La   k41 n x1 g = some r → gz_J La 1 mX12_image 16 [some (.ref 39), some (.int x1)] [] g (gz_Fi r) := by
  intro n
  induction n with
  | zero => intro x1 g r hf; exact nomatch (show (none : Option (Int32 × gz_S)) = some r from hf)
  | succ n ih =>
    intro x1 g r hf
    unfold fX12_image_16 at hf
    refine sz_iload_n dX12_image_16 rfl ?_
    refine sz_sipush dX12_image_17 (cH231) ?_
    refine sz_icmp_ge 41 dX12_image_20 (by decide) (fun c20 => ?_) (fun c20 => ?_)
    · have hf := gz_ip c20 hf
      refine sz_weak (l2 := [some (.ref 39), none]) (gz_subk (gz_subn gz_sub0)) ?_
      exact hk41  _ _ hf
    · have hf := gz_in1 c20 hf
      refine sz_aload_n dX12_image_23 rfl ?_
      refine sz_getR dX12_image_24 flX12_101 kd39 rfl rf39_49 ?_
      refine sz_iload_n dX12_image_27 rfl ?_
      refine sz_aload_n dX12_image_28 rfl ?_
      refine sz_getR dX12_image_29 flX12_64 kd39 rfl rf39_32 ?_
      refine sz_iload_n dX12_image_32 rfl ?_
      obtain ⟨c33, hf⟩ := gz_gd hf
      refine sz_ialdL dX12_image_33 kd53 c33 rfl ?_
      obtain ⟨c34, hf⟩ := gz_gd hf
      obtain ⟨g34, eg34, hf⟩ := gz_lt hf
      refine sz_iastL dX12_image_34 kd63 c34 rfl eg34 ?_
      obtain ⟨y35, ey35, hf⟩ := gz_lt hf
      refine sz_iinc (v := y35) dX12_image_35 rfl (by rw [ey35, cI1]) (Nat.le_of_ble_eq_true rfl) rfl ?_
      refine sz_ls (l2 := [some (.ref 39), some (.int y35)]) rfl ?_
      refine sz_goto 16 dX12_image_38 (by decide) ?_
      exact ih _ _ _ hf
def fX12_image (La : gz_L)   (g : gz_S) : Option (Int32 × gz_S) :=
  gz_let (gz_wi g 39 0 0) (fun g2 => if (g2.1 39 27) = 0 then some ((-1), g2) else fX12_image_16 La   (fun  g => gz_let (gz_wi g 39 50 1) (fun g43 => some (g43.1 53 49, g43))) gz_FU 0 g2)
set_option maxRecDepth 100000 in
set_option maxHeartbeats 4000000 in
theorem kX12_image {La : gz_L}   {g : gz_S} {r : Int32 × gz_S}  (hf : fX12_image La   g = some r) : gz_K La 1 mX12_image [.ref 39] g (gz_Fi r) := by
  unfold fX12_image at hf
  refine gz_K.of 1 (by decide +kernel) rfl ?_
  show gz_J La 1 mX12_image 0 [some (.ref 39), none] [] g (gz_Fi r)
  refine sz_aload_n dX12_image_0 rfl ?_
  refine sz_iconst dX12_image_1 (cI0) ?_
  obtain ⟨g2, eg2, hf⟩ := gz_lt hf
  refine sz_putI2 dX12_image_2 flX12_104 kd39 fi12_0 eg2 ?_
  refine sz_aload_n dX12_image_5 rfl ?_
  refine sz_getI dX12_image_6 flX12_303 kd39 rfl ?_
  refine sz_if_ne 14 dX12_image_9 (by decide) (fun c9 => ?_) (fun c9 => ?_)
  · have hf := gz_in1 c9 hf
    refine sz_iconst dX12_image_14 (cI0) ?_
    refine sz_istore_n dX12_image_15 rfl (Nat.le_of_ble_eq_true rfl) rfl ?_
    refine sz_ls (l2 := [some (.ref 39), some (.int 0)]) rfl ?_
    have hk41 : ∀  (g : gz_S) (r : Int32 × gz_S), (fun  g => gz_let (gz_wi g 39 50 1) (fun g43 => some (g43.1 53 49, g43)))  g = some r → gz_J La 1 mX12_image 41 [some (.ref 39), none] [] g (gz_Fi r) := by
      intro  g r hf
      refine sz_aload_n dX12_image_41 rfl ?_
      refine sz_iconst dX12_image_42 (cI1) ?_
      obtain ⟨g43, eg43, hf⟩ := gz_lt hf
      refine sz_putZ2 dX12_image_43 flX12_316 kd39 fi12_50 (Or.inr rfl) eg43 ?_
      refine sz_aload_n dX12_image_46 rfl ?_
      refine sz_getR dX12_image_47 flX12_64 kd39 rfl rf39_32 ?_
      refine sz_bipush dX12_image_50 (cB49) ?_
      refine sz_ialdL dX12_image_52 kd53 vi49_231 tn49 ?_
      cases hf
      exact sz_iret dX12_image_53 rfl rfl ⟨rfl, rfl⟩
    exact tX12_image_16   hk41 _ _ _ _ hf
  · have hf := gz_ip c9 hf
    refine sz_iconst dX12_image_12 (cIm1) ?_
    cases hf
    exact sz_iret dX12_image_13 rfl rfl ⟨rfl, rfl⟩
def fX12_back_16 (La : gz_L)   (k41 : gz_S → Option (Int32 × gz_S)) : Nat → Int32 → gz_S → Option (Int32 × gz_S)
  | 0, _, _ => none
  | n + 1, x1, g => if 231 ≤ x1 then k41  g else if gz_ok x1 231 then if gz_ok x1 231 then gz_let (gz_wi g 53 (Int32.toNatClampNeg x1) (g.1 63 (Int32.toNatClampNeg x1))) (fun g34 => gz_let (x1 + 1) (fun y35 => fX12_back_16 La   k41 n y35 g34)) else none else none
set_option maxRecDepth 100000 in
set_option maxHeartbeats 4000000 in
theorem tX12_back_16 {La : gz_L}   {k41 : gz_S → Option (Int32 × gz_S)}  (hk41 : ∀  (g : gz_S) (r : Int32 × gz_S), k41  g = some r → gz_J La 1 mX12_back 41 [some (.ref 39), none] [] g (gz_Fi r)) : ∀ (n : Nat) (x1 : Int32) (g : gz_S) (r : Int32 × gz_S), fX12_back_16 La   k41 n x1 g = some r → gz_J La 1 mX12_back 16 [some (.ref 39), some (.int x1)] [] g (gz_Fi r) := by
  intro n
  induction n with
  | zero => intro x1 g r hf; exact nomatch (show (none : Option (Int32 × gz_S)) = some r from hf)
  | succ n ih =>
    intro x1 g r hf
    unfold fX12_back_16 at hf
    refine sz_iload_n dX12_back_16 rfl ?_
    refine sz_sipush dX12_back_17 (cH231) ?_
    refine sz_icmp_ge 41 dX12_back_20 (by decide) (fun c20 => ?_) (fun c20 => ?_)
    · have hf := gz_ip c20 hf
      refine sz_weak (l2 := [some (.ref 39), none]) (gz_subk (gz_subn gz_sub0)) ?_
      exact hk41  _ _ hf
    · have hf := gz_in1 c20 hf
      refine sz_aload_n dX12_back_23 rfl ?_
      refine sz_getR dX12_back_24 flX12_64 kd39 rfl rf39_32 ?_
      refine sz_iload_n dX12_back_27 rfl ?_
      refine sz_aload_n dX12_back_28 rfl ?_
      refine sz_getR dX12_back_29 flX12_101 kd39 rfl rf39_49 ?_
      refine sz_iload_n dX12_back_32 rfl ?_
      obtain ⟨c33, hf⟩ := gz_gd hf
      refine sz_ialdL dX12_back_33 kd63 c33 rfl ?_
      obtain ⟨c34, hf⟩ := gz_gd hf
      obtain ⟨g34, eg34, hf⟩ := gz_lt hf
      refine sz_iastL dX12_back_34 kd53 c34 rfl eg34 ?_
      obtain ⟨y35, ey35, hf⟩ := gz_lt hf
      refine sz_iinc (v := y35) dX12_back_35 rfl (by rw [ey35, cI1]) (Nat.le_of_ble_eq_true rfl) rfl ?_
      refine sz_ls (l2 := [some (.ref 39), some (.int y35)]) rfl ?_
      refine sz_goto 16 dX12_back_38 (by decide) ?_
      exact ih _ _ _ hf
def fX12_back (La : gz_L)   (g : gz_S) : Option (Int32 × gz_S) :=
  gz_let (gz_wi g 39 0 0) (fun g2 => if (g2.1 39 50) = 0 then some ((-1), g2) else fX12_back_16 La   (fun  g => gz_let (gz_wi g 39 41 0) (fun g43 => some (g43.1 53 49, g43))) gz_FU 0 g2)
set_option maxRecDepth 100000 in
set_option maxHeartbeats 4000000 in
theorem kX12_back {La : gz_L}   {g : gz_S} {r : Int32 × gz_S}  (hf : fX12_back La   g = some r) : gz_K La 1 mX12_back [.ref 39] g (gz_Fi r) := by
  unfold fX12_back at hf
  refine gz_K.of 1 (by decide +kernel) rfl ?_
  show gz_J La 1 mX12_back 0 [some (.ref 39), none] [] g (gz_Fi r)
  refine sz_aload_n dX12_back_0 rfl ?_
  refine sz_iconst dX12_back_1 (cI0) ?_
  obtain ⟨g2, eg2, hf⟩ := gz_lt hf
  refine sz_putI2 dX12_back_2 flX12_104 kd39 fi12_0 eg2 ?_
  refine sz_aload_n dX12_back_5 rfl ?_
  refine sz_getI dX12_back_6 flX12_316 kd39 rfl ?_
  refine sz_if_ne 14 dX12_back_9 (by decide) (fun c9 => ?_) (fun c9 => ?_)
  · have hf := gz_in1 c9 hf
    refine sz_iconst dX12_back_14 (cI0) ?_
    refine sz_istore_n dX12_back_15 rfl (Nat.le_of_ble_eq_true rfl) rfl ?_
    refine sz_ls (l2 := [some (.ref 39), some (.int 0)]) rfl ?_
    have hk41 : ∀  (g : gz_S) (r : Int32 × gz_S), (fun  g => gz_let (gz_wi g 39 41 0) (fun g43 => some (g43.1 53 49, g43)))  g = some r → gz_J La 1 mX12_back 41 [some (.ref 39), none] [] g (gz_Fi r) := by
      intro  g r hf
      refine sz_aload_n dX12_back_41 rfl ?_
      refine sz_iconst dX12_back_42 (cI0) ?_
      obtain ⟨g43, eg43, hf⟩ := gz_lt hf
      refine sz_putI2 dX12_back_43 flX12_313 kd39 fi12_41 eg43 ?_
      refine sz_aload_n dX12_back_46 rfl ?_
      refine sz_getR dX12_back_47 flX12_64 kd39 rfl rf39_32 ?_
      refine sz_bipush dX12_back_50 (cB49) ?_
      refine sz_ialdL dX12_back_52 kd53 vi49_231 tn49 ?_
      cases hf
      exact sz_iret dX12_back_53 rfl rfl ⟨rfl, rfl⟩
    exact tX12_back_16   hk41 _ _ _ _ hf
  · have hf := gz_ip c9 hf
    refine sz_iconst dX12_back_12 (cIm1) ?_
    cases hf
    exact sz_iret dX12_back_13 rfl rfl ⟨rfl, rfl⟩
def fX12_count (La : gz_L)  (x1 : Int32) (g : gz_S) : Option (Int32 × gz_S) :=
  gz_let (gz_wi g 39 0 0) (fun g2 => if x1 = 0 then (fX12_cells La   g2).bind (fun q77 => some (q77.1, q77.2)) else if x1 = 1 then some (g2.1 39 27, g2) else if x1 = 2 then some (g2.1 39 7, g2) else if x1 = 3 then some (g2.1 39 30, g2) else if x1 = 4 then some (g2.1 39 6, g2) else if x1 = 5 then some (g2.1 39 34, g2) else if x1 = 6 then some (g2.1 53 49, g2) else if x1 = 7 then some (g2.1 53 48, g2) else if x1 = 8 then some (g2.1 53 46, g2) else if x1 = 9 then some (g2.1 53 47, g2) else if x1 = 10 then some (g2.1 39 35, g2) else if x1 = 11 then some (g2.1 39 47, g2) else if x1 = 12 then some (g2.1 53 50, g2) else if x1 = 13 then some (g2.1 39 41, g2) else some ((-1000000), g2))
set_option maxRecDepth 100000 in
set_option maxHeartbeats 4000000 in
theorem kX12_count {La : gz_L}  {x1 : Int32} {g : gz_S} {r : Int32 × gz_S}  (hf : fX12_count La  x1 g = some r) : gz_K La 2 mX12_count [.ref 39, .int x1] g (gz_Fi r) := by
  unfold fX12_count at hf
  refine gz_K.of 0 (by decide +kernel) rfl ?_
  show gz_J La 2 mX12_count 0 [some (.ref 39), some (.int x1)] [] g (gz_Fi r)
  refine sz_aload_n dX12_count_0 rfl ?_
  refine sz_iconst dX12_count_1 (cI0) ?_
  obtain ⟨g2, eg2, hf⟩ := gz_lt hf
  refine sz_putI2 dX12_count_2 flX12_104 kd39 fi12_0 eg2 ?_
  refine sz_iload_n dX12_count_5 rfl ?_
  by_cases c6_0 : x1 = 0
  · have hf := gz_ip c6_0 hf
    refine sz_tableIn 76 dX12_count_6 (by rw [c6_0]; decide) (by rw [c6_0]; decide) (by rw [c6_0]; rfl) (by decide) ?_
    refine sz_aload_n dX12_count_76 rfl ?_
    obtain ⟨q77, eq77, hf⟩ := gz_bd hf
    refine sz_callVi [] [] dX12_count_77 mvX12_319 (Nat.le_of_ble_eq_true rfl) (by decide : 12 < 13) kd39 rfl (Nat.le_of_ble_eq_true rfl) (kX12_cells   eq77) ?_
    cases hf
    exact sz_iret dX12_count_80 rfl rfl ⟨rfl, rfl⟩
  have hf := gz_in1 c6_0 hf
  by_cases c6_1 : x1 = 1
  · have hf := gz_ip c6_1 hf
    refine sz_tableIn 81 dX12_count_6 (by rw [c6_1]; decide) (by rw [c6_1]; decide) (by rw [c6_1]; rfl) (by decide) ?_
    refine sz_aload_n dX12_count_81 rfl ?_
    refine sz_getI dX12_count_82 flX12_303 kd39 rfl ?_
    cases hf
    exact sz_iret dX12_count_85 rfl rfl ⟨rfl, rfl⟩
  have hf := gz_in1 c6_1 hf
  by_cases c6_2 : x1 = 2
  · have hf := gz_ip c6_2 hf
    refine sz_tableIn 86 dX12_count_6 (by rw [c6_2]; decide) (by rw [c6_2]; decide) (by rw [c6_2]; rfl) (by decide) ?_
    refine sz_aload_n dX12_count_86 rfl ?_
    refine sz_getI dX12_count_87 flX12_295 kd39 rfl ?_
    cases hf
    exact sz_iret dX12_count_90 rfl rfl ⟨rfl, rfl⟩
  have hf := gz_in1 c6_2 hf
  by_cases c6_3 : x1 = 3
  · have hf := gz_ip c6_3 hf
    refine sz_tableIn 91 dX12_count_6 (by rw [c6_3]; decide) (by rw [c6_3]; decide) (by rw [c6_3]; rfl) (by decide) ?_
    refine sz_aload_n dX12_count_91 rfl ?_
    refine sz_getI dX12_count_92 flX12_298 kd39 rfl ?_
    cases hf
    exact sz_iret dX12_count_95 rfl rfl ⟨rfl, rfl⟩
  have hf := gz_in1 c6_3 hf
  by_cases c6_4 : x1 = 4
  · have hf := gz_ip c6_4 hf
    refine sz_tableIn 96 dX12_count_6 (by rw [c6_4]; decide) (by rw [c6_4]; decide) (by rw [c6_4]; rfl) (by decide) ?_
    refine sz_aload_n dX12_count_96 rfl ?_
    refine sz_getI dX12_count_97 flX12_117 kd39 rfl ?_
    cases hf
    exact sz_iret dX12_count_100 rfl rfl ⟨rfl, rfl⟩
  have hf := gz_in1 c6_4 hf
  by_cases c6_5 : x1 = 5
  · have hf := gz_ip c6_5 hf
    refine sz_tableIn 101 dX12_count_6 (by rw [c6_5]; decide) (by rw [c6_5]; decide) (by rw [c6_5]; rfl) (by decide) ?_
    refine sz_aload_n dX12_count_101 rfl ?_
    refine sz_getI dX12_count_102 flX12_70 kd39 rfl ?_
    cases hf
    exact sz_iret dX12_count_105 rfl rfl ⟨rfl, rfl⟩
  have hf := gz_in1 c6_5 hf
  by_cases c6_6 : x1 = 6
  · have hf := gz_ip c6_6 hf
    refine sz_tableIn 106 dX12_count_6 (by rw [c6_6]; decide) (by rw [c6_6]; decide) (by rw [c6_6]; rfl) (by decide) ?_
    refine sz_aload_n dX12_count_106 rfl ?_
    refine sz_getR dX12_count_107 flX12_64 kd39 rfl rf39_32 ?_
    refine sz_bipush dX12_count_110 (cB49) ?_
    refine sz_ialdL dX12_count_112 kd53 vi49_231 tn49 ?_
    cases hf
    exact sz_iret dX12_count_113 rfl rfl ⟨rfl, rfl⟩
  have hf := gz_in1 c6_6 hf
  by_cases c6_7 : x1 = 7
  · have hf := gz_ip c6_7 hf
    refine sz_tableIn 114 dX12_count_6 (by rw [c6_7]; decide) (by rw [c6_7]; decide) (by rw [c6_7]; rfl) (by decide) ?_
    refine sz_aload_n dX12_count_114 rfl ?_
    refine sz_getR dX12_count_115 flX12_64 kd39 rfl rf39_32 ?_
    refine sz_bipush dX12_count_118 (cB48) ?_
    refine sz_ialdL dX12_count_120 kd53 vi48_231 tn48 ?_
    cases hf
    exact sz_iret dX12_count_121 rfl rfl ⟨rfl, rfl⟩
  have hf := gz_in1 c6_7 hf
  by_cases c6_8 : x1 = 8
  · have hf := gz_ip c6_8 hf
    refine sz_tableIn 122 dX12_count_6 (by rw [c6_8]; decide) (by rw [c6_8]; decide) (by rw [c6_8]; rfl) (by decide) ?_
    refine sz_aload_n dX12_count_122 rfl ?_
    refine sz_getR dX12_count_123 flX12_64 kd39 rfl rf39_32 ?_
    refine sz_bipush dX12_count_126 (cB46) ?_
    refine sz_ialdL dX12_count_128 kd53 vi46_231 tn46 ?_
    cases hf
    exact sz_iret dX12_count_129 rfl rfl ⟨rfl, rfl⟩
  have hf := gz_in1 c6_8 hf
  by_cases c6_9 : x1 = 9
  · have hf := gz_ip c6_9 hf
    refine sz_tableIn 130 dX12_count_6 (by rw [c6_9]; decide) (by rw [c6_9]; decide) (by rw [c6_9]; rfl) (by decide) ?_
    refine sz_aload_n dX12_count_130 rfl ?_
    refine sz_getR dX12_count_131 flX12_64 kd39 rfl rf39_32 ?_
    refine sz_bipush dX12_count_134 (cB47) ?_
    refine sz_ialdL dX12_count_136 kd53 vi47_231 tn47 ?_
    cases hf
    exact sz_iret dX12_count_137 rfl rfl ⟨rfl, rfl⟩
  have hf := gz_in1 c6_9 hf
  by_cases c6_10 : x1 = 10
  · have hf := gz_ip c6_10 hf
    refine sz_tableIn 138 dX12_count_6 (by rw [c6_10]; decide) (by rw [c6_10]; decide) (by rw [c6_10]; rfl) (by decide) ?_
    refine sz_aload_n dX12_count_138 rfl ?_
    refine sz_getI dX12_count_139 flX12_74 kd39 rfl ?_
    cases hf
    exact sz_iret dX12_count_142 rfl rfl ⟨rfl, rfl⟩
  have hf := gz_in1 c6_10 hf
  by_cases c6_11 : x1 = 11
  · have hf := gz_ip c6_11 hf
    refine sz_tableIn 143 dX12_count_6 (by rw [c6_11]; decide) (by rw [c6_11]; decide) (by rw [c6_11]; rfl) (by decide) ?_
    refine sz_aload_n dX12_count_143 rfl ?_
    refine sz_getI dX12_count_144 flX12_310 kd39 rfl ?_
    cases hf
    exact sz_iret dX12_count_147 rfl rfl ⟨rfl, rfl⟩
  have hf := gz_in1 c6_11 hf
  by_cases c6_12 : x1 = 12
  · have hf := gz_ip c6_12 hf
    refine sz_tableIn 148 dX12_count_6 (by rw [c6_12]; decide) (by rw [c6_12]; decide) (by rw [c6_12]; rfl) (by decide) ?_
    refine sz_aload_n dX12_count_148 rfl ?_
    refine sz_getR dX12_count_149 flX12_64 kd39 rfl rf39_32 ?_
    refine sz_bipush dX12_count_152 (cB50) ?_
    refine sz_ialdL dX12_count_154 kd53 vi50_231 tn50 ?_
    cases hf
    exact sz_iret dX12_count_155 rfl rfl ⟨rfl, rfl⟩
  have hf := gz_in1 c6_12 hf
  by_cases c6_13 : x1 = 13
  · have hf := gz_ip c6_13 hf
    refine sz_tableIn 156 dX12_count_6 (by rw [c6_13]; decide) (by rw [c6_13]; decide) (by rw [c6_13]; rfl) (by decide) ?_
    refine sz_aload_n dX12_count_156 rfl ?_
    refine sz_getI dX12_count_157 flX12_313 kd39 rfl ?_
    cases hf
    exact sz_iret dX12_count_160 rfl rfl ⟨rfl, rfl⟩
  have hf := gz_in1 c6_13 hf
  refine sz_tableOut 161 dX12_count_6 (by have z0 := lv_neT c6_0 (a := 0) (by decide); have z1 := lv_neT c6_1 (a := 1) (by decide); have z2 := lv_neT c6_2 (a := 2) (by decide); have z3 := lv_neT c6_3 (a := 3) (by decide); have z4 := lv_neT c6_4 (a := 4) (by decide); have z5 := lv_neT c6_5 (a := 5) (by decide); have z6 := lv_neT c6_6 (a := 6) (by decide); have z7 := lv_neT c6_7 (a := 7) (by decide); have z8 := lv_neT c6_8 (a := 8) (by decide); have z9 := lv_neT c6_9 (a := 9) (by decide); have z10 := lv_neT c6_10 (a := 10) (by decide); have z11 := lv_neT c6_11 (a := 11) (by decide); have z12 := lv_neT c6_12 (a := 12) (by decide); have z13 := lv_neT c6_13 (a := 13) (by decide); omega) (by decide) ?_
  refine sz_ldcw dX12_count_161 cstX12_433 ?_
  cases hf
  exact sz_iret dX12_count_164 rfl rfl ⟨rfl, rfl⟩
