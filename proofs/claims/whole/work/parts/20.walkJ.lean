def fJ9_floorMod_7cf53 (La : gz_L)  (x0 : Int32) (x1 : Int32) (g : gz_S) : Option (Int32 × gz_S) :=
  if ¬ x1 = 0 then gz_let (x0 - x0 / x1 * x1) (fun y3 => if 0 ≤ (x0 ^^^ x1) then some (y3, g) else if y3 = 0 then some (y3, g) else some (y3 + x1, g)) else none
set_option maxRecDepth 100000 in
set_option maxHeartbeats 4000000 in
theorem kJ9_floorMod_7cf53 {La : gz_L}  {x0 : Int32} {x1 : Int32} {g : gz_S} {r : Int32 × gz_S}  (hf : fJ9_floorMod_7cf53 La  x0 x1 g = some r) : gz_K La 1 mJ9_floorMod_7cf53 [.int x0, .int x1] g (gz_Fi r) := by
  unfold fJ9_floorMod_7cf53 at hf
  refine gz_K.of 1 (by decide +kernel) rfl ?_
  show gz_J La 1 mJ9_floorMod_7cf53 0 [some (.int x0), some (.int x1), none] [] g (gz_Fi r)
  refine sz_iload_n dJ9_floorMod_7cf53_0 rfl ?_
  refine sz_iload_n dJ9_floorMod_7cf53_1 rfl ?_
  obtain ⟨c2, hf⟩ := gz_gd hf
  refine sz_irem dJ9_floorMod_7cf53_2 c2 ?_
  obtain ⟨y3, ey3, hf⟩ := gz_lt hf
  refine sz_topi ey3 ?_
  refine sz_istore_n dJ9_floorMod_7cf53_3 rfl (Nat.le_of_ble_eq_true rfl) rfl ?_
  refine sz_ls (l2 := [some (.int x0), some (.int x1), some (.int y3)]) rfl ?_
  refine sz_iload_n dJ9_floorMod_7cf53_4 rfl ?_
  refine sz_iload_n dJ9_floorMod_7cf53_5 rfl ?_
  refine sz_ixor dJ9_floorMod_7cf53_6 ?_
  refine sz_if_ge 18 dJ9_floorMod_7cf53_7 (by decide) (fun c7 => ?_) (fun c7 => ?_)
  · have hf := gz_ip c7 hf
    refine sz_iload_n dJ9_floorMod_7cf53_18 rfl ?_
    cases hf
    exact sz_iret dJ9_floorMod_7cf53_19 rfl rfl ⟨rfl, rfl⟩
  · have hf := gz_in1 c7 hf
    refine sz_iload_n dJ9_floorMod_7cf53_10 rfl ?_
    refine sz_if_eq 18 dJ9_floorMod_7cf53_11 (by decide) (fun c11 => ?_) (fun c11 => ?_)
    · have hf := gz_ip c11 hf
      refine sz_iload_n dJ9_floorMod_7cf53_18 rfl ?_
      cases hf
      exact sz_iret dJ9_floorMod_7cf53_19 rfl rfl ⟨rfl, rfl⟩
    · have hf := gz_in1 c11 hf
      refine sz_iload_n dJ9_floorMod_7cf53_14 rfl ?_
      refine sz_iload_n dJ9_floorMod_7cf53_15 rfl ?_
      refine sz_iadd dJ9_floorMod_7cf53_16 ?_
      cases hf
      exact sz_iret dJ9_floorMod_7cf53_17 rfl rfl ⟨rfl, rfl⟩
def fJ9_min_7cf53 (La : gz_L)  (x0 : Int32) (x1 : Int32) (g : gz_S) : Option (Int32 × gz_S) :=
  if x1 < x0 then some (x1, g) else some (x0, g)
set_option maxRecDepth 100000 in
set_option maxHeartbeats 4000000 in
theorem kJ9_min_7cf53 {La : gz_L}  {x0 : Int32} {x1 : Int32} {g : gz_S} {r : Int32 × gz_S}  (hf : fJ9_min_7cf53 La  x0 x1 g = some r) : gz_K La 1 mJ9_min_7cf53 [.int x0, .int x1] g (gz_Fi r) := by
  unfold fJ9_min_7cf53 at hf
  refine gz_K.of 0 (by decide +kernel) rfl ?_
  show gz_J La 1 mJ9_min_7cf53 0 [some (.int x0), some (.int x1)] [] g (gz_Fi r)
  refine sz_iload_n dJ9_min_7cf53_0 rfl ?_
  refine sz_iload_n dJ9_min_7cf53_1 rfl ?_
  refine sz_icmp_gt 9 dJ9_min_7cf53_2 (by decide) (fun c2 => ?_) (fun c2 => ?_)
  · have hf := gz_ip c2 hf
    refine sz_iload_n dJ9_min_7cf53_9 rfl ?_
    cases hf
    exact sz_iret dJ9_min_7cf53_10 rfl rfl ⟨rfl, rfl⟩
  · have hf := gz_in1 c2 hf
    refine sz_iload_n dJ9_min_7cf53_5 rfl ?_
    refine sz_goto 10 dJ9_min_7cf53_6 (by decide) ?_
    cases hf
    exact sz_iret dJ9_min_7cf53_10 rfl rfl ⟨rfl, rfl⟩
def fJ6_bitCount_0f7a4 (La : gz_L)  (x0 : Int32) (g : gz_S) : Option (Int32 × gz_S) :=
  gz_let (x0 - ((gz_ushr x0 (1 : Int32)) &&& (1431655765 : Int32))) (fun y9 => gz_let ((y9 &&& (858993459 : Int32)) + ((gz_ushr y9 (2 : Int32)) &&& (858993459 : Int32))) (fun y23 => gz_let ((y23 + (gz_ushr y23 (4 : Int32))) &&& (252645135 : Int32)) (fun y33 => gz_let (y33 + (gz_ushr y33 (8 : Int32))) (fun y40 => gz_let (y40 + (gz_ushr y40 (16 : Int32))) (fun y47 => some (y47 &&& (63 : Int32), g))))))
set_option maxRecDepth 100000 in
set_option maxHeartbeats 4000000 in
theorem kJ6_bitCount_0f7a4 {La : gz_L}  {x0 : Int32} {g : gz_S} {r : Int32 × gz_S}  (hf : fJ6_bitCount_0f7a4 La  x0 g = some r) : gz_K La 1 mJ6_bitCount_0f7a4 [.int x0] g (gz_Fi r) := by
  unfold fJ6_bitCount_0f7a4 at hf
  refine gz_K.of 0 (by decide +kernel) rfl ?_
  show gz_J La 1 mJ6_bitCount_0f7a4 0 [some (.int x0)] [] g (gz_Fi r)
  refine sz_iload_n dJ6_bitCount_0f7a4_0 rfl ?_
  refine sz_iload_n dJ6_bitCount_0f7a4_1 rfl ?_
  refine sz_iconst dJ6_bitCount_0f7a4_2 (cI1) ?_
  refine sz_iushr dJ6_bitCount_0f7a4_3 ?_
  refine sz_ldcw dJ6_bitCount_0f7a4_4 cstJ6_265 ?_
  refine sz_iand dJ6_bitCount_0f7a4_7 ?_
  refine sz_isub dJ6_bitCount_0f7a4_8 ?_
  obtain ⟨y9, ey9, hf⟩ := gz_lt hf
  refine sz_topi ey9 ?_
  refine sz_istore_n dJ6_bitCount_0f7a4_9 rfl (Nat.le_of_ble_eq_true rfl) rfl ?_
  refine sz_ls (l2 := [some (.int y9)]) rfl ?_
  refine sz_iload_n dJ6_bitCount_0f7a4_10 rfl ?_
  refine sz_ldcw dJ6_bitCount_0f7a4_11 cstJ6_266 ?_
  refine sz_iand dJ6_bitCount_0f7a4_14 ?_
  refine sz_iload_n dJ6_bitCount_0f7a4_15 rfl ?_
  refine sz_iconst dJ6_bitCount_0f7a4_16 (cI2) ?_
  refine sz_iushr dJ6_bitCount_0f7a4_17 ?_
  refine sz_ldcw dJ6_bitCount_0f7a4_18 cstJ6_266 ?_
  refine sz_iand dJ6_bitCount_0f7a4_21 ?_
  refine sz_iadd dJ6_bitCount_0f7a4_22 ?_
  obtain ⟨y23, ey23, hf⟩ := gz_lt hf
  refine sz_topi ey23 ?_
  refine sz_istore_n dJ6_bitCount_0f7a4_23 rfl (Nat.le_of_ble_eq_true rfl) rfl ?_
  refine sz_ls (l2 := [some (.int y23)]) rfl ?_
  refine sz_iload_n dJ6_bitCount_0f7a4_24 rfl ?_
  refine sz_iload_n dJ6_bitCount_0f7a4_25 rfl ?_
  refine sz_iconst dJ6_bitCount_0f7a4_26 (cI4) ?_
  refine sz_iushr dJ6_bitCount_0f7a4_27 ?_
  refine sz_iadd dJ6_bitCount_0f7a4_28 ?_
  refine sz_ldcw dJ6_bitCount_0f7a4_29 cstJ6_267 ?_
  refine sz_iand dJ6_bitCount_0f7a4_32 ?_
  obtain ⟨y33, ey33, hf⟩ := gz_lt hf
  refine sz_topi ey33 ?_
  refine sz_istore_n dJ6_bitCount_0f7a4_33 rfl (Nat.le_of_ble_eq_true rfl) rfl ?_
  refine sz_ls (l2 := [some (.int y33)]) rfl ?_
  refine sz_iload_n dJ6_bitCount_0f7a4_34 rfl ?_
  refine sz_iload_n dJ6_bitCount_0f7a4_35 rfl ?_
  refine sz_bipush dJ6_bitCount_0f7a4_36 (cB8) ?_
  refine sz_iushr dJ6_bitCount_0f7a4_38 ?_
  refine sz_iadd dJ6_bitCount_0f7a4_39 ?_
  obtain ⟨y40, ey40, hf⟩ := gz_lt hf
  refine sz_topi ey40 ?_
  refine sz_istore_n dJ6_bitCount_0f7a4_40 rfl (Nat.le_of_ble_eq_true rfl) rfl ?_
  refine sz_ls (l2 := [some (.int y40)]) rfl ?_
  refine sz_iload_n dJ6_bitCount_0f7a4_41 rfl ?_
  refine sz_iload_n dJ6_bitCount_0f7a4_42 rfl ?_
  refine sz_bipush dJ6_bitCount_0f7a4_43 (cB16) ?_
  refine sz_iushr dJ6_bitCount_0f7a4_45 ?_
  refine sz_iadd dJ6_bitCount_0f7a4_46 ?_
  obtain ⟨y47, ey47, hf⟩ := gz_lt hf
  refine sz_topi ey47 ?_
  refine sz_istore_n dJ6_bitCount_0f7a4_47 rfl (Nat.le_of_ble_eq_true rfl) rfl ?_
  refine sz_ls (l2 := [some (.int y47)]) rfl ?_
  refine sz_iload_n dJ6_bitCount_0f7a4_48 rfl ?_
  refine sz_bipush dJ6_bitCount_0f7a4_49 (cB63) ?_
  refine sz_iand dJ6_bitCount_0f7a4_51 ?_
  cases hf
  exact sz_iret dJ6_bitCount_0f7a4_52 rfl rfl ⟨rfl, rfl⟩
def fJ9_max_7cf53 (La : gz_L)  (x0 : Int32) (x1 : Int32) (g : gz_S) : Option (Int32 × gz_S) :=
  if x0 < x1 then some (x1, g) else some (x0, g)
set_option maxRecDepth 100000 in
set_option maxHeartbeats 4000000 in
theorem kJ9_max_7cf53 {La : gz_L}  {x0 : Int32} {x1 : Int32} {g : gz_S} {r : Int32 × gz_S}  (hf : fJ9_max_7cf53 La  x0 x1 g = some r) : gz_K La 1 mJ9_max_7cf53 [.int x0, .int x1] g (gz_Fi r) := by
  unfold fJ9_max_7cf53 at hf
  refine gz_K.of 0 (by decide +kernel) rfl ?_
  show gz_J La 1 mJ9_max_7cf53 0 [some (.int x0), some (.int x1)] [] g (gz_Fi r)
  refine sz_iload_n dJ9_max_7cf53_0 rfl ?_
  refine sz_iload_n dJ9_max_7cf53_1 rfl ?_
  refine sz_icmp_lt 9 dJ9_max_7cf53_2 (by decide) (fun c2 => ?_) (fun c2 => ?_)
  · have hf := gz_ip c2 hf
    refine sz_iload_n dJ9_max_7cf53_9 rfl ?_
    cases hf
    exact sz_iret dJ9_max_7cf53_10 rfl rfl ⟨rfl, rfl⟩
  · have hf := gz_in1 c2 hf
    refine sz_iload_n dJ9_max_7cf53_5 rfl ?_
    refine sz_goto 10 dJ9_max_7cf53_6 (by decide) ?_
    cases hf
    exact sz_iret dJ9_max_7cf53_10 rfl rfl ⟨rfl, rfl⟩
def fJ7_fill_53178_5 (La : gz_L)  (w0 : Nat)  : Nat → Int32 → Int32 → Int32 → gz_S → Option (gz_S)
  | 0, _, _, _, _ => none
  | n + 1, x1, x2, x3, g => if x3 ≤ x2 then some g else if gz_ok x2 (gz_ln w0) then gz_let (gz_wi g w0 (Int32.toNatClampNeg x2) x1) (fun g13 => gz_let (x2 + 1) (fun y14 => fJ7_fill_53178_5 La  w0  n x1 y14 x3 g13)) else none
set_option maxRecDepth 100000 in
set_option maxHeartbeats 4000000 in
theorem tJ7_fill_53178_5 {La : gz_L}  {w0 : Nat}  (hw0 : w0 = 17 ∨ w0 = 18 ∨ w0 = 21 ∨ w0 = 37)  : ∀ (n : Nat) (x1 : Int32) (x2 : Int32) (x3 : Int32) (g : gz_S) (r : gz_S), fJ7_fill_53178_5 La  w0  n x1 x2 x3 g = some r → gz_J La 1 mJ7_fill_53178 5 [some (.ref w0), some (.int x1), some (.int x2), some (.int x3)] [] g (gz_Fv r) := by
  intro n
  induction n with
  | zero => intro x1 x2 x3 g r hf; exact nomatch (show (none : Option (gz_S)) = some r from hf)
  | succ n ih =>
    intro x1 x2 x3 g r hf
    unfold fJ7_fill_53178_5 at hf
    refine sz_iload_n dJ7_fill_53178_5 rfl ?_
    refine sz_iload_n dJ7_fill_53178_6 rfl ?_
    refine sz_icmp_ge 20 dJ7_fill_53178_7 (by decide) (fun c7 => ?_) (fun c7 => ?_)
    · have hf := gz_ip c7 hf
      cases hf
      exact sz_ret dJ7_fill_53178_20 rfl ⟨rfl, rfl⟩
    · have hf := gz_in1 c7 hf
      refine sz_aload_n dJ7_fill_53178_10 rfl ?_
      refine sz_iload_n dJ7_fill_53178_11 rfl ?_
      refine sz_iload_n dJ7_fill_53178_12 rfl ?_
      obtain ⟨c13, hf⟩ := gz_gd hf
      obtain ⟨g13, eg13, hf⟩ := gz_lt hf
      refine sz_iastL dJ7_fill_53178_13 (kds_fill hw0) c13 rfl eg13 ?_
      obtain ⟨y14, ey14, hf⟩ := gz_lt hf
      refine sz_iinc (v := y14) dJ7_fill_53178_14 rfl (by rw [ey14, cI1]) (Nat.le_of_ble_eq_true rfl) rfl ?_
      refine sz_ls (l2 := [some (.ref w0), some (.int x1), some (.int y14), some (.int x3)]) rfl ?_
      refine sz_goto 5 dJ7_fill_53178_17 (by decide) ?_
      exact ih _ _ _ _ _ hf
def fJ7_fill_53178 (La : gz_L)  (w0 : Nat) (x1 : Int32) (g : gz_S) : Option (gz_S) :=
  gz_let (Int32.ofNat (gz_ln w0)) (fun y4 => fJ7_fill_53178_5 La  w0  gz_FU x1 0 y4 g)
set_option maxRecDepth 100000 in
set_option maxHeartbeats 4000000 in
theorem kJ7_fill_53178 {La : gz_L}  {w0 : Nat} {x1 : Int32} {g : gz_S} {r : gz_S} (hw0 : w0 = 17 ∨ w0 = 18 ∨ w0 = 21 ∨ w0 = 37) (hf : fJ7_fill_53178 La  w0 x1 g = some r) : gz_K La 1 mJ7_fill_53178 [.ref w0, .int x1] g (gz_Fv r) := by
  unfold fJ7_fill_53178 at hf
  refine gz_K.of 2 (by decide +kernel) rfl ?_
  show gz_J La 1 mJ7_fill_53178 0 [some (.ref w0), some (.int x1), none, none] [] g (gz_Fv r)
  refine sz_iconst dJ7_fill_53178_0 (cI0) ?_
  refine sz_istore_n dJ7_fill_53178_1 rfl (Nat.le_of_ble_eq_true rfl) rfl ?_
  refine sz_ls (l2 := [some (.ref w0), some (.int x1), some (.int 0), none]) rfl ?_
  refine sz_aload_n dJ7_fill_53178_2 rfl ?_
  refine sz_alen (v := Int32.ofNat (gz_ln w0)) (kn := 0) dJ7_fill_53178_3 (kds_fill hw0) rfl ?_
  obtain ⟨y4, ey4, hf⟩ := gz_lt hf
  refine sz_topi ey4 ?_
  refine sz_istore_n dJ7_fill_53178_4 rfl (Nat.le_of_ble_eq_true rfl) rfl ?_
  refine sz_ls (l2 := [some (.ref w0), some (.int x1), some (.int 0), some (.int y4)]) rfl ?_
  exact tJ7_fill_53178_5  hw0  _ _ _ _ _ _ hf
def fJ0_coder_7d493 (La : gz_L)  (w0 : Nat) (g : gz_S) : Option (Int32 × gz_S) :=
  if (1 : Int32) = 0 then some (1, g) else some (0, g)
set_option maxRecDepth 100000 in
set_option maxHeartbeats 4000000 in
theorem kJ0_coder_7d493 {La : gz_L}  {w0 : Nat} {g : gz_S} {r : Int32 × gz_S} (hw0 : gz_str w0) (hf : fJ0_coder_7d493 La  w0 g = some r) : gz_K La 1 mJ0_coder_7d493 [.ref w0] g (gz_Fi r) := by
  unfold fJ0_coder_7d493 at hf
  refine gz_K.of 0 (by decide +kernel) rfl ?_
  show gz_J La 1 mJ0_coder_7d493 0 [some (.ref w0)] [] g (gz_Fi r)
  refine sz_gsC dJ0_coder_7d493_0 gsJ0_38 ?_
  refine sz_if_eq 13 dJ0_coder_7d493_3 (by decide) (fun c3 => ?_) (fun c3 => ?_)
  · have hf := gz_ip c3 hf
    refine sz_iconst dJ0_coder_7d493_13 (cI1) ?_
    cases hf
    exact sz_iret dJ0_coder_7d493_14 rfl rfl ⟨rfl, rfl⟩
  · have hf := gz_in1 c3 hf
    refine sz_aload_n dJ0_coder_7d493_6 rfl ?_
    refine sz_strc hw0 dJ0_coder_7d493_7 gsJ0_15 ?_
    refine sz_goto 14 dJ0_coder_7d493_10 (by decide) ?_
    cases hf
    exact sz_iret dJ0_coder_7d493_14 rfl rfl ⟨rfl, rfl⟩
def fJ0_length_8abf5 (La : gz_L)  (w0 : Nat) (g : gz_S) : Option (Int32 × gz_S) :=
  (fJ0_coder_7d493 La  w0 g).bind (fun q6 => some ((Int32.ofNat (gz_stn (w0 + 10))) >>> (q6.1 &&& 31), q6.2))
set_option maxRecDepth 100000 in
set_option maxHeartbeats 4000000 in
theorem kJ0_length_8abf5 {La : gz_L}  {w0 : Nat} {g : gz_S} {r : Int32 × gz_S} (hw0 : gz_str w0) (hf : fJ0_length_8abf5 La  w0 g = some r) : gz_K La 2 mJ0_length_8abf5 [.ref w0] g (gz_Fi r) := by
  unfold fJ0_length_8abf5 at hf
  refine gz_K.of 0 (by decide +kernel) rfl ?_
  show gz_J La 2 mJ0_length_8abf5 0 [some (.ref w0)] [] g (gz_Fi r)
  refine sz_aload_n dJ0_length_8abf5_0 rfl ?_
  refine sz_strv hw0 dJ0_length_8abf5_1 gsJ0_9 ?_
  refine sz_strl (v := Int32.ofNat (gz_stn (w0 + 10))) (gz_sb_of hw0) dJ0_length_8abf5_4 rfl ?_
  refine sz_aload_n dJ0_length_8abf5_5 rfl ?_
  obtain ⟨q6, eq6, hf⟩ := gz_bd hf
  refine sz_callStr [] [.int (Int32.ofNat (gz_stn (w0 + 10)))] hw0 dJ0_length_8abf5_6 mvJ0_335 (Nat.le_of_ble_eq_true rfl) rfl (Nat.le_of_ble_eq_true rfl) (kJ0_coder_7d493  hw0 eq6) ?_
  refine sz_ishr dJ0_length_8abf5_9 ?_
  cases hf
  exact sz_iret dJ0_length_8abf5_10 rfl rfl ⟨rfl, rfl⟩
def fJ0_isLatin1_aae02 (La : gz_L)  (w0 : Nat) (g : gz_S) : Option (Int32 × gz_S) :=
  if (1 : Int32) = 0 then some (0, g) else if (0 : Int32) = 0 then some (1, g) else some (0, g)
set_option maxRecDepth 100000 in
set_option maxHeartbeats 4000000 in
theorem kJ0_isLatin1_aae02 {La : gz_L}  {w0 : Nat} {g : gz_S} {r : Int32 × gz_S} (hw0 : gz_str w0) (hf : fJ0_isLatin1_aae02 La  w0 g = some r) : gz_K La 1 mJ0_isLatin1_aae02 [.ref w0] g (gz_Fi r) := by
  unfold fJ0_isLatin1_aae02 at hf
  refine gz_K.of 0 (by decide +kernel) rfl ?_
  show gz_J La 1 mJ0_isLatin1_aae02 0 [some (.ref w0)] [] g (gz_Fi r)
  refine sz_gsC dJ0_isLatin1_aae02_0 gsJ0_38 ?_
  refine sz_if_eq 17 dJ0_isLatin1_aae02_3 (by decide) (fun c3 => ?_) (fun c3 => ?_)
  · have hf := gz_ip c3 hf
    refine sz_iconst dJ0_isLatin1_aae02_17 (cI0) ?_
    cases hf
    exact sz_iret dJ0_isLatin1_aae02_18 rfl rfl ⟨rfl, rfl⟩
  · have hf := gz_in1 c3 hf
    refine sz_aload_n dJ0_isLatin1_aae02_6 rfl ?_
    refine sz_strc hw0 dJ0_isLatin1_aae02_7 gsJ0_15 ?_
    refine sz_if_ne 17 dJ0_isLatin1_aae02_10 (by decide) (fun c10 => ?_) (fun c10 => ?_)
    · have hf := gz_in1 c10 hf
      refine sz_iconst dJ0_isLatin1_aae02_17 (cI0) ?_
      cases hf
      exact sz_iret dJ0_isLatin1_aae02_18 rfl rfl ⟨rfl, rfl⟩
    · have hf := gz_ip c10 hf
      refine sz_iconst dJ0_isLatin1_aae02_13 (cI1) ?_
      refine sz_goto 18 dJ0_isLatin1_aae02_14 (by decide) ?_
      cases hf
      exact sz_iret dJ0_isLatin1_aae02_18 rfl rfl ⟨rfl, rfl⟩

/-! Preconditions.checkIndex with any third argument that is a cell or null; String.checkIndex -/
def fJ3_checkIndex (La : gz_L) (x0 : Int32) (x1 : Int32) (g : gz_S) : Option (Int32 × gz_S) := if x0 < 0 then none else if x0 < x1 then some (x0, g) else none
theorem tJ3 {La : gz_L} {x0 x1 : Int32} {v : Value} {g : gz_S} {r : Int32 × gz_S} (hf : fJ3_checkIndex La x0 x1 g = some r) : gz_J La 1 mJ3_checkIndex_8e157 0 [some (.int x0), some (.int x1), some v] [] g (gz_Fi r) := by
  unfold fJ3_checkIndex at hf
  refine sz_iload_n dJ3_checkIndex_8e157_0 rfl ?_
  refine sz_if_lt 9 dJ3_checkIndex_8e157_1 (by decide) (fun c1 => ?_) (fun c1 => ?_)
  · exact nomatch gz_ip c1 hf
  · have hf := gz_in1 c1 hf
    refine sz_iload_n dJ3_checkIndex_8e157_4 rfl ?_
    refine sz_iload_n dJ3_checkIndex_8e157_5 rfl ?_
    refine sz_icmp_lt 16 dJ3_checkIndex_8e157_6 (by decide) (fun c6 => ?_) (fun c6 => ?_)
    · have hf := gz_ip c6 hf
      refine sz_iload_n dJ3_checkIndex_8e157_16 rfl ?_
      cases hf
      exact sz_iret dJ3_checkIndex_8e157_17 rfl rfl ⟨rfl, rfl⟩
    · exact nomatch gz_in1 c6 hf
theorem kJ3N {La : gz_L} {x0 x1 : Int32} {g : gz_S} {r : Int32 × gz_S} (hf : fJ3_checkIndex La x0 x1 g = some r) : gz_K La 1 mJ3_checkIndex_8e157 [.int x0, .int x1, .null] g (gz_Fi r) := by
  refine gz_K.of 0 (by decide +kernel) rfl ?_
  exact tJ3 hf
theorem kJ3R {La : gz_L} {x0 x1 : Int32} {w : Nat} {g : gz_S} {r : Int32 × gz_S} (hf : fJ3_checkIndex La x0 x1 g = some r) : gz_K La 1 mJ3_checkIndex_8e157 [.int x0, .int x1, .ref w] g (gz_Fi r) := by
  refine gz_K.of 0 (by decide +kernel) rfl ?_
  exact tJ3 hf
def fJ0_checkIndex_df160 (La : gz_L) (x0 : Int32) (x1 : Int32) (g : gz_S) : Option gz_S := (fJ3_checkIndex La x0 x1 g).bind (fun q => some q.2)
theorem kJ0_checkIndex_df160 {La : gz_L} {x0 x1 : Int32} {g : gz_S} {r : gz_S} (hf : fJ0_checkIndex_df160 La x0 x1 g = some r) : gz_K La 2 mJ0_checkIndex_df160 [.int x0, .int x1] g (gz_Fv r) := by
  unfold fJ0_checkIndex_df160 at hf
  refine gz_K.of 0 (by decide +kernel) rfl ?_
  show gz_J La 2 mJ0_checkIndex_df160 0 [some (.int x0), some (.int x1)] [] g (gz_Fv r)
  obtain ⟨q5, eq5, hf⟩ := gz_bd hf
  cases hf
  refine sz_iload_n dJ0_checkIndex_df160_0 rfl ?_
  refine sz_iload_n dJ0_checkIndex_df160_1 rfl ?_
  refine sz_gsF dJ0_checkIndex_df160_2 gsJ0_1053 ?_ ?_
  · refine sz_callSi [.int x0, .int x1, .null] [] dJ0_checkIndex_df160_5 msJ0_1059 (Nat.le_of_ble_eq_true rfl) (Nat.le_of_ble_eq_true rfl) (kJ3N eq5) ?_
    refine sz_pop dJ0_checkIndex_df160_8 rfl ?_
    exact sz_ret dJ0_checkIndex_df160_9 rfl ⟨rfl, rfl⟩
  · refine sz_callSi [.int x0, .int x1, .ref 230] [] dJ0_checkIndex_df160_5 msJ0_1059 (Nat.le_of_ble_eq_true rfl) (Nat.le_of_ble_eq_true rfl) (kJ3R eq5) ?_
    refine sz_pop dJ0_checkIndex_df160_8 rfl ?_
    exact sz_ret dJ0_checkIndex_df160_9 rfl ⟨rfl, rfl⟩

def fJ1_charAt_3b067 (La : gz_L)  (w0 : Nat) (x1 : Int32) (g : gz_S) : Option (Int32 × gz_S) :=
  (fJ0_checkIndex_df160 La  x1 (Int32.ofNat (gz_stn w0)) g).bind (fun q3 => if gz_ok x1 (gz_stn w0) then if narrow .char (.int (((Int32.toUInt32 ((gz_stc w0 (Int32.toNatClampNeg x1)) &&& (255 : Int32))) % 65536).toInt32)) = .int (((Int32.toUInt32 ((gz_stc w0 (Int32.toNatClampNeg x1)) &&& (255 : Int32))) % 65536).toInt32) then some (((Int32.toUInt32 ((gz_stc w0 (Int32.toNatClampNeg x1)) &&& (255 : Int32))) % 65536).toInt32, q3) else none else none)
set_option maxRecDepth 100000 in
set_option maxHeartbeats 4000000 in
theorem kJ1_charAt_3b067 {La : gz_L}  {w0 : Nat} {x1 : Int32} {g : gz_S} {r : Int32 × gz_S} (hw0 : gz_stb w0) (hf : fJ1_charAt_3b067 La  w0 x1 g = some r) : gz_K La 3 mJ1_charAt_3b067 [.ref w0, .int x1] g (gz_Fi r) := by
  unfold fJ1_charAt_3b067 at hf
  refine gz_K.of 0 (by decide +kernel) rfl ?_
  show gz_J La 3 mJ1_charAt_3b067 0 [some (.ref w0), some (.int x1)] [] g (gz_Fi r)
  refine sz_iload_n dJ1_charAt_3b067_0 rfl ?_
  refine sz_aload_n dJ1_charAt_3b067_1 rfl ?_
  refine sz_strl (v := Int32.ofNat (gz_stn w0)) hw0 dJ1_charAt_3b067_2 rfl ?_
  obtain ⟨q3, eq3, hf⟩ := gz_bd hf
  refine sz_callSv [.int x1, .int (Int32.ofNat (gz_stn w0))] [] dJ1_charAt_3b067_3 msJ1_9 (Nat.le_of_ble_eq_true rfl) (Nat.le_of_ble_eq_true rfl) (kJ0_checkIndex_df160   eq3) ?_
  refine sz_aload_n dJ1_charAt_3b067_6 rfl ?_
  refine sz_iload_n dJ1_charAt_3b067_7 rfl ?_
  obtain ⟨c8, hf⟩ := gz_gd hf
  refine sz_strb hw0 dJ1_charAt_3b067_8 c8 ?_
  refine sz_sipush dJ1_charAt_3b067_9 (cH255) ?_
  refine sz_iand dJ1_charAt_3b067_12 ?_
  refine sz_i2c dJ1_charAt_3b067_13 ?_
  obtain ⟨c14, hf⟩ := gz_gd hf
  cases hf
  exact sz_iret dJ1_charAt_3b067_14 rfl c14 ⟨rfl, rfl⟩
def fJ0_charAt_5068e (La : gz_L)  (w0 : Nat) (x1 : Int32) (g : gz_S) : Option (Int32 × gz_S) :=
  (fJ0_isLatin1_aae02 La  w0 g).bind (fun q1 => if q1.1 = 0 then none else (fJ1_charAt_3b067 La  (w0 + 10) x1 q1.2).bind (fun q12 => if narrow .char (.int q12.1) = .int q12.1 then some (q12.1, q12.2) else none))
set_option maxRecDepth 100000 in
set_option maxHeartbeats 4000000 in
theorem kJ0_charAt_5068e {La : gz_L}  {w0 : Nat} {x1 : Int32} {g : gz_S} {r : Int32 × gz_S} (hw0 : gz_str w0) (hf : fJ0_charAt_5068e La  w0 x1 g = some r) : gz_K La 4 mJ0_charAt_5068e [.ref w0, .int x1] g (gz_Fi r) := by
  unfold fJ0_charAt_5068e at hf
  refine gz_K.of 0 (by decide +kernel) rfl ?_
  show gz_J La 4 mJ0_charAt_5068e 0 [some (.ref w0), some (.int x1)] [] g (gz_Fi r)
  refine sz_aload_n dJ0_charAt_5068e_0 rfl ?_
  obtain ⟨q1, eq1, hf⟩ := gz_bd hf
  refine sz_callStr [] [] hw0 dJ0_charAt_5068e_1 mvJ0_492 (Nat.le_of_ble_eq_true rfl) rfl (Nat.le_of_ble_eq_true rfl) (kJ0_isLatin1_aae02  hw0 eq1) ?_
  refine sz_if_eq 16 dJ0_charAt_5068e_4 (by decide) (fun c4 => ?_) (fun c4 => ?_)
  · have hf := gz_ip c4 hf
    refine sz_aload_n dJ0_charAt_5068e_16 rfl ?_
    refine sz_strv hw0 dJ0_charAt_5068e_17 gsJ0_9 ?_
    refine sz_iload_n dJ0_charAt_5068e_20 rfl ?_
    exact nomatch hf
  · have hf := gz_in1 c4 hf
    refine sz_aload_n dJ0_charAt_5068e_7 rfl ?_
    refine sz_strv hw0 dJ0_charAt_5068e_8 gsJ0_9 ?_
    refine sz_iload_n dJ0_charAt_5068e_11 rfl ?_
    obtain ⟨q12, eq12, hf⟩ := gz_bd hf
    refine sz_callSi [.ref (w0 + 10), .int x1] [] dJ0_charAt_5068e_12 msJ0_495 (Nat.le_of_ble_eq_true rfl) (Nat.le_of_ble_eq_true rfl) (kJ1_charAt_3b067  (gz_sb_of hw0) eq12) ?_
    obtain ⟨c15, hf⟩ := gz_gd hf
    cases hf
    exact sz_iret dJ0_charAt_5068e_15 rfl c15 ⟨rfl, rfl⟩
def fJ9_min_f86c9 (La : gz_L)  (x0 : Int64) (x2 : Int64) (g : gz_S) : Option (Int64 × gz_S) :=
  if 0 < (lg_cmp x0 x2) then some (x2, g) else some (x0, g)
set_option maxRecDepth 100000 in
set_option maxHeartbeats 4000000 in
theorem kJ9_min_f86c9 {La : gz_L}  {x0 : Int64} {x2 : Int64} {g : gz_S} {r : Int64 × gz_S}  (hf : fJ9_min_f86c9 La  x0 x2 g = some r) : gz_K La 1 mJ9_min_f86c9 [.long x0, .long x2] g (gz_Fl r) := by
  unfold fJ9_min_f86c9 at hf
  refine gz_K.of 0 (by decide +kernel) rfl ?_
  show gz_J La 1 mJ9_min_f86c9 0 [some (.long x0), none, some (.long x2), none] [] g (gz_Fl r)
  refine sz_lload_n dJ9_min_f86c9_0 rfl ?_
  refine sz_lload_n dJ9_min_f86c9_1 rfl ?_
  refine sz_lcmp dJ9_min_f86c9_2 ?_
  refine sz_if_gt 10 dJ9_min_f86c9_3 (by decide) (fun c3 => ?_) (fun c3 => ?_)
  · have hf := gz_ip c3 hf
    refine sz_lload_n dJ9_min_f86c9_10 rfl ?_
    cases hf
    exact sz_lret dJ9_min_f86c9_11 rfl  ⟨rfl, rfl⟩
  · have hf := gz_in1 c3 hf
    refine sz_lload_n dJ9_min_f86c9_6 rfl ?_
    refine sz_goto 11 dJ9_min_f86c9_7 (by decide) ?_
    cases hf
    exact sz_lret dJ9_min_f86c9_11 rfl  ⟨rfl, rfl⟩
def fJ9_max_f86c9 (La : gz_L)  (x0 : Int64) (x2 : Int64) (g : gz_S) : Option (Int64 × gz_S) :=
  if (lg_cmp x0 x2) < 0 then some (x2, g) else some (x0, g)
set_option maxRecDepth 100000 in
set_option maxHeartbeats 4000000 in
theorem kJ9_max_f86c9 {La : gz_L}  {x0 : Int64} {x2 : Int64} {g : gz_S} {r : Int64 × gz_S}  (hf : fJ9_max_f86c9 La  x0 x2 g = some r) : gz_K La 1 mJ9_max_f86c9 [.long x0, .long x2] g (gz_Fl r) := by
  unfold fJ9_max_f86c9 at hf
  refine gz_K.of 0 (by decide +kernel) rfl ?_
  show gz_J La 1 mJ9_max_f86c9 0 [some (.long x0), none, some (.long x2), none] [] g (gz_Fl r)
  refine sz_lload_n dJ9_max_f86c9_0 rfl ?_
  refine sz_lload_n dJ9_max_f86c9_1 rfl ?_
  refine sz_lcmp dJ9_max_f86c9_2 ?_
  refine sz_if_lt 10 dJ9_max_f86c9_3 (by decide) (fun c3 => ?_) (fun c3 => ?_)
  · have hf := gz_ip c3 hf
    refine sz_lload_n dJ9_max_f86c9_10 rfl ?_
    cases hf
    exact sz_lret dJ9_max_f86c9_11 rfl  ⟨rfl, rfl⟩
  · have hf := gz_in1 c3 hf
    refine sz_lload_n dJ9_max_f86c9_6 rfl ?_
    refine sz_goto 11 dJ9_max_f86c9_7 (by decide) ?_
    cases hf
    exact sz_lret dJ9_max_f86c9_11 rfl  ⟨rfl, rfl⟩
