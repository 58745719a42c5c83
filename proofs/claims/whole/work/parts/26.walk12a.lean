def fX12_thrown (La : gz_L)   (g : gz_S) : Option (Int32 × gz_S) :=
  some (g.1 39 0, g)
set_option maxRecDepth 100000 in
set_option maxHeartbeats 4000000 in
theorem kX12_thrown {La : gz_L}   {g : gz_S} {r : Int32 × gz_S}  (hf : fX12_thrown La   g = some r) : gz_K La 1 mX12_thrown [.ref 39] g (gz_Fi r) := by
  unfold fX12_thrown at hf
  refine gz_K.of 0 (by decide +kernel) rfl ?_
  show gz_J La 1 mX12_thrown 0 [some (.ref 39)] [] g (gz_Fi r)
  refine sz_aload_n dX12_thrown_0 rfl ?_
  refine sz_getI dX12_thrown_1 flX12_104 kd39 rfl ?_
  cases hf
  exact sz_iret dX12_thrown_4 rfl rfl ⟨rfl, rfl⟩
def fX12_isIn (La : gz_L)  (x0 : Int64) (x2 : Int64) (x4 : Int64) (g : gz_S) : Option (Int32 × gz_S) :=
  if (lg_cmp x0 x2) < 0 then some (0, g) else if 0 < (lg_cmp x0 x4) then some (0, g) else some (1, g)
set_option maxRecDepth 100000 in
set_option maxHeartbeats 4000000 in
theorem kX12_isIn {La : gz_L}  {x0 : Int64} {x2 : Int64} {x4 : Int64} {g : gz_S} {r : Int32 × gz_S}  (hf : fX12_isIn La  x0 x2 x4 g = some r) : gz_K La 1 mX12_isIn [.long x0, .long x2, .long x4] g (gz_Fi r) := by
  unfold fX12_isIn at hf
  refine gz_K.of 0 (by decide +kernel) rfl ?_
  show gz_J La 1 mX12_isIn 0 [some (.long x0), none, some (.long x2), none, some (.long x4), none] [] g (gz_Fi r)
  refine sz_lload_n dX12_isIn_0 rfl ?_
  refine sz_lload_n dX12_isIn_1 rfl ?_
  refine sz_lcmp dX12_isIn_2 ?_
  refine sz_if_lt 17 dX12_isIn_3 (by decide) (fun c3 => ?_) (fun c3 => ?_)
  · have hf := gz_ip c3 hf
    refine sz_iconst dX12_isIn_17 (cI0) ?_
    cases hf
    exact sz_iret dX12_isIn_18 rfl rfl ⟨rfl, rfl⟩
  · have hf := gz_in1 c3 hf
    refine sz_lload_n dX12_isIn_6 rfl ?_
    refine sz_lload dX12_isIn_7 rfl ?_
    refine sz_lcmp dX12_isIn_9 ?_
    refine sz_if_gt 17 dX12_isIn_10 (by decide) (fun c10 => ?_) (fun c10 => ?_)
    · have hf := gz_ip c10 hf
      refine sz_iconst dX12_isIn_17 (cI0) ?_
      cases hf
      exact sz_iret dX12_isIn_18 rfl rfl ⟨rfl, rfl⟩
    · have hf := gz_in1 c10 hf
      refine sz_iconst dX12_isIn_13 (cI1) ?_
      refine sz_goto 18 dX12_isIn_14 (by decide) ?_
      cases hf
      exact sz_iret dX12_isIn_18 rfl rfl ⟨rfl, rfl⟩
def fX12_has (La : gz_L)  (x0 : Int32) (x1 : Int32) (g : gz_S) : Option (Int32 × gz_S) :=
  if ((x0 >>> (x1 &&& 31)) &&& (1 : Int32)) = 1 then some (1, g) else some (0, g)
set_option maxRecDepth 100000 in
set_option maxHeartbeats 4000000 in
theorem kX12_has {La : gz_L}  {x0 : Int32} {x1 : Int32} {g : gz_S} {r : Int32 × gz_S}  (hf : fX12_has La  x0 x1 g = some r) : gz_K La 1 mX12_has [.int x0, .int x1] g (gz_Fi r) := by
  unfold fX12_has at hf
  refine gz_K.of 0 (by decide +kernel) rfl ?_
  show gz_J La 1 mX12_has 0 [some (.int x0), some (.int x1)] [] g (gz_Fi r)
  refine sz_iload_n dX12_has_0 rfl ?_
  refine sz_iload_n dX12_has_1 rfl ?_
  refine sz_ishr dX12_has_2 ?_
  refine sz_iconst dX12_has_3 (cI1) ?_
  refine sz_iand dX12_has_4 ?_
  refine sz_iconst dX12_has_5 (cI1) ?_
  refine sz_icmp_ne 13 dX12_has_6 (by decide) (fun c6 => ?_) (fun c6 => ?_)
  · have hf := gz_in1 c6 hf
    refine sz_iconst dX12_has_13 (cI0) ?_
    cases hf
    exact sz_iret dX12_has_14 rfl rfl ⟨rfl, rfl⟩
  · have hf := gz_ip c6 hf
    refine sz_iconst dX12_has_9 (cI1) ?_
    refine sz_goto 14 dX12_has_10 (by decide) ?_
    cases hf
    exact sz_iret dX12_has_14 rfl rfl ⟨rfl, rfl⟩
def fX12_isAmong_2 (La : gz_L)  (w0 : Nat)  : Nat → Int32 → Int32 → gz_S → Option (Int32 × gz_S)
  | 0, _, _, _ => none
  | n + 1, x1, x2, g => (fJ0_length_8abf5 La  w0 g).bind (fun q4 => if q4.1 ≤ x2 then some (0, q4.2) else (fJ0_charAt_5068e La  w0 x2 q4.2).bind (fun q12 => if q12.1 = x1 then some (1, q12.2) else gz_let (x2 + 1) (fun y21 => fX12_isAmong_2 La  w0  n x1 y21 q12.2)))
set_option maxRecDepth 100000 in
set_option maxHeartbeats 4000000 in
theorem tX12_isAmong_2 {La : gz_L}  {w0 : Nat}  (hw0 : gz_str w0)  : ∀ (n : Nat) (x1 : Int32) (x2 : Int32) (g : gz_S) (r : Int32 × gz_S), fX12_isAmong_2 La  w0  n x1 x2 g = some r → gz_J La 5 mX12_isAmong 2 [some (.ref w0), some (.int x1), some (.int x2)] [] g (gz_Fi r) := by
  intro n
  induction n with
  | zero => intro x1 x2 g r hf; exact nomatch (show (none : Option (Int32 × gz_S)) = some r from hf)
  | succ n ih =>
    intro x1 x2 g r hf
    unfold fX12_isAmong_2 at hf
    refine sz_iload_n dX12_isAmong_2 rfl ?_
    refine sz_aload_n dX12_isAmong_3 rfl ?_
    obtain ⟨q4, eq4, hf⟩ := gz_bd hf
    refine sz_callStr [] [.int x2] hw0 dX12_isAmong_4 mvX12_107 (Nat.le_of_ble_eq_true rfl) rfl (Nat.le_of_ble_eq_true rfl) (kJ0_length_8abf5  hw0 eq4) ?_
    refine sz_icmp_ge 27 dX12_isAmong_7 (by decide) (fun c7 => ?_) (fun c7 => ?_)
    · have hf := gz_ip c7 hf
      refine sz_iconst dX12_isAmong_27 (cI0) ?_
      cases hf
      exact sz_iret dX12_isAmong_28 rfl rfl ⟨rfl, rfl⟩
    · have hf := gz_in1 c7 hf
      refine sz_aload_n dX12_isAmong_10 rfl ?_
      refine sz_iload_n dX12_isAmong_11 rfl ?_
      obtain ⟨q12, eq12, hf⟩ := gz_bd hf
      refine sz_callStr [.int x2] [] hw0 dX12_isAmong_12 mvX12_113 (Nat.le_of_ble_eq_true rfl) rfl (Nat.le_of_ble_eq_true rfl) (kJ0_charAt_5068e  hw0 eq12) ?_
      refine sz_iload_n dX12_isAmong_15 rfl ?_
      refine sz_icmp_ne 21 dX12_isAmong_16 (by decide) (fun c16 => ?_) (fun c16 => ?_)
      · have hf := gz_in1 c16 hf
        obtain ⟨y21, ey21, hf⟩ := gz_lt hf
        refine sz_iinc (v := y21) dX12_isAmong_21 rfl (by rw [ey21, cI1]) (Nat.le_of_ble_eq_true rfl) rfl ?_
        refine sz_ls (l2 := [some (.ref w0), some (.int x1), some (.int y21)]) rfl ?_
        refine sz_goto 2 dX12_isAmong_24 (by decide) ?_
        exact ih _ _ _ _ hf
      · have hf := gz_ip c16 hf
        refine sz_iconst dX12_isAmong_19 (cI1) ?_
        cases hf
        exact sz_iret dX12_isAmong_20 rfl rfl ⟨rfl, rfl⟩
def fX12_isAmong (La : gz_L)  (w0 : Nat) (x1 : Int32) (g : gz_S) : Option (Int32 × gz_S) :=
  fX12_isAmong_2 La  w0  gz_FU x1 0 g
set_option maxRecDepth 100000 in
set_option maxHeartbeats 4000000 in
theorem kX12_isAmong {La : gz_L}  {w0 : Nat} {x1 : Int32} {g : gz_S} {r : Int32 × gz_S} (hw0 : gz_str w0) (hf : fX12_isAmong La  w0 x1 g = some r) : gz_K La 5 mX12_isAmong [.ref w0, .int x1] g (gz_Fi r) := by
  unfold fX12_isAmong at hf
  refine gz_K.of 1 (by decide +kernel) rfl ?_
  show gz_J La 5 mX12_isAmong 0 [some (.ref w0), some (.int x1), none] [] g (gz_Fi r)
  refine sz_iconst dX12_isAmong_0 (cI0) ?_
  refine sz_istore_n dX12_isAmong_1 rfl (Nat.le_of_ble_eq_true rfl) rfl ?_
  refine sz_ls (l2 := [some (.ref w0), some (.int x1), some (.int 0)]) rfl ?_
  exact tX12_isAmong_2  hw0  _ _ _ _ _ hf
def fX12_bytesIn_25 (La : gz_L)   (k5 : Int32 → Int32 → Int32 → gz_S → Option (Int32 × gz_S)) (x0 : Int32) (x2 : Int32) (s0 : Int32) (s1 : Int32) (g : gz_S) : Option (Int32 × gz_S) := gz_let (s1 + s0) (fun y26 => gz_let (x2 + (-8)) (fun y27 => k5 x0 y26 y27 g))
set_option maxRecDepth 100000 in
set_option maxHeartbeats 4000000 in
theorem tX12_bytesIn_25 {La : gz_L}   {k5 : Int32 → Int32 → Int32 → gz_S → Option (Int32 × gz_S)}  (hk5 : ∀ (x0 : Int32) (x1 : Int32) (x2 : Int32) (g : gz_S) (r : Int32 × gz_S), k5 x0 x1 x2 g = some r → gz_J La 1 mX12_bytesIn 5 [some (.int x0), some (.int x1), some (.int x2)] [] g (gz_Fi r)) : ∀ (x0 : Int32) (x2 : Int32) (s0 : Int32) (s1 : Int32) (g : gz_S) (r : Int32 × gz_S), fX12_bytesIn_25 La   k5 x0 x2 s0 s1 g = some r → gz_J La 1 mX12_bytesIn 25 [some (.int x0), none, some (.int x2)] [.int s0, .int s1] g (gz_Fi r) := by
  intro x0 x2 s0 s1 g r hf
  unfold fX12_bytesIn_25 at hf
  refine sz_iadd dX12_bytesIn_25 ?_
  obtain ⟨y26, ey26, hf⟩ := gz_lt hf
  refine sz_topi ey26 ?_
  refine sz_istore_n dX12_bytesIn_26 rfl (Nat.le_of_ble_eq_true rfl) rfl ?_
  refine sz_ls (l2 := [some (.int x0), some (.int y26), some (.int x2)]) rfl ?_
  obtain ⟨y27, ey27, hf⟩ := gz_lt hf
  refine sz_iinc (v := y27) dX12_bytesIn_27 rfl (by rw [ey27, cIm8]) (Nat.le_of_ble_eq_true rfl) rfl ?_
  refine sz_ls (l2 := [some (.int x0), some (.int y26), some (.int y27)]) rfl ?_
  refine sz_goto 5 dX12_bytesIn_30 (by decide) ?_
  exact hk5 _ _ _ _ _ hf
def fX12_bytesIn_5 (La : gz_L)    : Nat → Int32 → Int32 → Int32 → gz_S → Option (Int32 × gz_S)
  | 0, _, _, _, _ => none
  | n + 1, x0, x1, x2, g => if x2 < 0 then some (x1, g) else if ((x0 >>> (x2 &&& 31)) &&& (255 : Int32)) = 0 then fX12_bytesIn_25 La   (fX12_bytesIn_5 La    n)  x0 x2 0 x1 g else fX12_bytesIn_25 La   (fX12_bytesIn_5 La    n)  x0 x2 1 x1 g
set_option maxRecDepth 100000 in
set_option maxHeartbeats 4000000 in
theorem tX12_bytesIn_5 {La : gz_L}      : ∀ (n : Nat) (x0 : Int32) (x1 : Int32) (x2 : Int32) (g : gz_S) (r : Int32 × gz_S), fX12_bytesIn_5 La    n x0 x1 x2 g = some r → gz_J La 1 mX12_bytesIn 5 [some (.int x0), some (.int x1), some (.int x2)] [] g (gz_Fi r) := by
  intro n
  induction n with
  | zero => intro x0 x1 x2 g r hf; exact nomatch (show (none : Option (Int32 × gz_S)) = some r from hf)
  | succ n ih =>
    intro x0 x1 x2 g r hf
    unfold fX12_bytesIn_5 at hf
    refine sz_iload_n dX12_bytesIn_5 rfl ?_
    refine sz_if_lt 33 dX12_bytesIn_6 (by decide) (fun c6 => ?_) (fun c6 => ?_)
    · have hf := gz_ip c6 hf
      refine sz_iload_n dX12_bytesIn_33 rfl ?_
      cases hf
      exact sz_iret dX12_bytesIn_34 rfl rfl ⟨rfl, rfl⟩
    · have hf := gz_in1 c6 hf
      refine sz_iload_n dX12_bytesIn_9 rfl ?_
      refine sz_iload_n dX12_bytesIn_10 rfl ?_
      refine sz_iload_n dX12_bytesIn_11 rfl ?_
      refine sz_ishr dX12_bytesIn_12 ?_
      refine sz_sipush dX12_bytesIn_13 (cH255) ?_
      refine sz_iand dX12_bytesIn_16 ?_
      refine sz_if_eq 24 dX12_bytesIn_17 (by decide) (fun c17 => ?_) (fun c17 => ?_)
      · have hf := gz_ip c17 hf
        refine sz_iconst dX12_bytesIn_24 (cI0) ?_
        refine sz_weak (l2 := [some (.int x0), none, some (.int x2)]) (gz_subk (gz_subn (gz_subk gz_sub0))) ?_
        exact tX12_bytesIn_25   ih _ _ _ _ _ _ hf
      · have hf := gz_in1 c17 hf
        refine sz_iconst dX12_bytesIn_20 (cI1) ?_
        refine sz_goto 25 dX12_bytesIn_21 (by decide) ?_
        refine sz_weak (l2 := [some (.int x0), none, some (.int x2)]) (gz_subk (gz_subn (gz_subk gz_sub0))) ?_
        exact tX12_bytesIn_25   ih _ _ _ _ _ _ hf
def fX12_bytesIn (La : gz_L)  (x0 : Int32) (g : gz_S) : Option (Int32 × gz_S) :=
  fX12_bytesIn_5 La    gz_FU x0 0 24 g
set_option maxRecDepth 100000 in
set_option maxHeartbeats 4000000 in
theorem kX12_bytesIn {La : gz_L}  {x0 : Int32} {g : gz_S} {r : Int32 × gz_S}  (hf : fX12_bytesIn La  x0 g = some r) : gz_K La 1 mX12_bytesIn [.int x0] g (gz_Fi r) := by
  unfold fX12_bytesIn at hf
  refine gz_K.of 2 (by decide +kernel) rfl ?_
  show gz_J La 1 mX12_bytesIn 0 [some (.int x0), none, none] [] g (gz_Fi r)
  refine sz_iconst dX12_bytesIn_0 (cI0) ?_
  refine sz_istore_n dX12_bytesIn_1 rfl (Nat.le_of_ble_eq_true rfl) rfl ?_
  refine sz_ls (l2 := [some (.int x0), some (.int 0), none]) rfl ?_
  refine sz_bipush dX12_bytesIn_2 (cB24) ?_
  refine sz_istore_n dX12_bytesIn_4 rfl (Nat.le_of_ble_eq_true rfl) rfl ?_
  refine sz_ls (l2 := [some (.int x0), some (.int 0), some (.int 24)]) rfl ?_
  exact tX12_bytesIn_5    _ _ _ _ _ _ hf
def fX12_put_43 (La : gz_L)   (k3 : Int32 → Int32 → gz_S → Option (gz_S)) (x1 : Int32) (x2 : Int32) (g : gz_S) : Option (gz_S) := gz_let (x2 + (-8)) (fun y43 => k3 x1 y43 g)
set_option maxRecDepth 100000 in
set_option maxHeartbeats 4000000 in
theorem tX12_put_43 {La : gz_L}   {k3 : Int32 → Int32 → gz_S → Option (gz_S)}  (hk3 : ∀ (x1 : Int32) (x2 : Int32) (g : gz_S) (r : gz_S), k3 x1 x2 g = some r → gz_J La 1 mX12_put 3 [some (.ref 39), some (.int x1), some (.int x2)] [] g (gz_Fv r)) : ∀ (x1 : Int32) (x2 : Int32) (g : gz_S) (r : gz_S), fX12_put_43 La   k3 x1 x2 g = some r → gz_J La 1 mX12_put 43 [some (.ref 39), some (.int x1), some (.int x2)] [] g (gz_Fv r) := by
  intro x1 x2 g r hf
  unfold fX12_put_43 at hf
  obtain ⟨y43, ey43, hf⟩ := gz_lt hf
  refine sz_iinc (v := y43) dX12_put_43 rfl (by rw [ey43, cIm8]) (Nat.le_of_ble_eq_true rfl) rfl ?_
  refine sz_ls (l2 := [some (.ref 39), some (.int x1), some (.int y43)]) rfl ?_
  refine sz_goto 3 dX12_put_46 (by decide) ?_
  exact hk3 _ _ _ _ hf
def fX12_put_3 (La : gz_L)    : Nat → Int32 → Int32 → gz_S → Option (gz_S)
  | 0, _, _, _ => none
  | n + 1, x1, x2, g => if x2 < 0 then some g else if ((x1 >>> (x2 &&& 31)) &&& (255 : Int32)) = 0 then fX12_put_43 La   (fX12_put_3 La    n)  x1 x2 g else if gz_ok (g.1 39 6) 240 then gz_let (gz_wi g 40 (Int32.toNatClampNeg (g.1 39 6)) (vp_nar .byte ((Int32.toInt8 (x1 >>> (x2 &&& 31))).toInt32))) (fun g32 => gz_let (gz_wi g32 39 6 ((g32.1 39 6) + 1)) (fun g40 => fX12_put_43 La   (fX12_put_3 La    n)  x1 x2 g40)) else none
set_option maxRecDepth 100000 in
set_option maxHeartbeats 4000000 in
theorem tX12_put_3 {La : gz_L}      : ∀ (n : Nat) (x1 : Int32) (x2 : Int32) (g : gz_S) (r : gz_S), fX12_put_3 La    n x1 x2 g = some r → gz_J La 1 mX12_put 3 [some (.ref 39), some (.int x1), some (.int x2)] [] g (gz_Fv r) := by
  intro n
  induction n with
  | zero => intro x1 x2 g r hf; exact nomatch (show (none : Option (gz_S)) = some r from hf)
  | succ n ih =>
    intro x1 x2 g r hf
    unfold fX12_put_3 at hf
    refine sz_iload_n dX12_put_3 rfl ?_
    refine sz_if_lt 49 dX12_put_4 (by decide) (fun c4 => ?_) (fun c4 => ?_)
    · have hf := gz_ip c4 hf
      cases hf
      exact sz_ret dX12_put_49 rfl ⟨rfl, rfl⟩
    · have hf := gz_in1 c4 hf
      refine sz_iload_n dX12_put_7 rfl ?_
      refine sz_iload_n dX12_put_8 rfl ?_
      refine sz_ishr dX12_put_9 ?_
      refine sz_sipush dX12_put_10 (cH255) ?_
      refine sz_iand dX12_put_13 ?_
      refine sz_if_ne 20 dX12_put_14 (by decide) (fun c14 => ?_) (fun c14 => ?_)
      · have hf := gz_in1 c14 hf
        refine sz_aload_n dX12_put_20 rfl ?_
        refine sz_getR dX12_put_21 flX12_9 kd39 rfl rf39_1 ?_
        refine sz_aload_n dX12_put_24 rfl ?_
        refine sz_getI dX12_put_25 flX12_117 kd39 rfl ?_
        refine sz_iload_n dX12_put_28 rfl ?_
        refine sz_iload_n dX12_put_29 rfl ?_
        refine sz_ishr dX12_put_30 ?_
        refine sz_i2b dX12_put_31 ?_
        obtain ⟨c32, hf⟩ := gz_gd hf
        obtain ⟨g32, eg32, hf⟩ := gz_lt hf
        refine sz_bastL dX12_put_32 kd40 c32 rfl eg32 ?_
        refine sz_aload_n dX12_put_33 rfl ?_
        refine sz_dup dX12_put_34 rfl ?_
        refine sz_getI dX12_put_35 flX12_117 kd39 rfl ?_
        refine sz_iconst dX12_put_38 (cI1) ?_
        refine sz_iadd dX12_put_39 ?_
        obtain ⟨g40, eg40, hf⟩ := gz_lt hf
        refine sz_putI2 dX12_put_40 flX12_117 kd39 fi12_6 eg40 ?_
        exact tX12_put_43   ih _ _ _ _ hf
      · have hf := gz_ip c14 hf
        refine sz_goto 43 dX12_put_17 (by decide) ?_
        exact tX12_put_43   ih _ _ _ _ hf
def fX12_put (La : gz_L)  (x1 : Int32) (g : gz_S) : Option (gz_S) :=
  fX12_put_3 La    gz_FU x1 24 g
set_option maxRecDepth 100000 in
set_option maxHeartbeats 4000000 in
theorem kX12_put {La : gz_L}  {x1 : Int32} {g : gz_S} {r : gz_S}  (hf : fX12_put La  x1 g = some r) : gz_K La 1 mX12_put [.ref 39, .int x1] g (gz_Fv r) := by
  unfold fX12_put at hf
  refine gz_K.of 1 (by decide +kernel) rfl ?_
  show gz_J La 1 mX12_put 0 [some (.ref 39), some (.int x1), none] [] g (gz_Fv r)
  refine sz_bipush dX12_put_0 (cB24) ?_
  refine sz_istore_n dX12_put_2 rfl (Nat.le_of_ble_eq_true rfl) rfl ?_
  refine sz_ls (l2 := [some (.ref 39), some (.int x1), some (.int 24)]) rfl ?_
  exact tX12_put_3    _ _ _ _ _ hf
def fX12_feed (La : gz_L)  (x1 : Int32) (x2 : Int32) (x3 : Int32) (x4 : Int32) (x5 : Int32) (g : gz_S) : Option (Int32 × gz_S) :=
  gz_let (gz_wi g 39 0 0) (fun g2 => (fX12_bytesIn La  x1 g2).bind (fun q10 => (fX12_bytesIn La  x2 q10.2).bind (fun q15 => (fX12_bytesIn La  x3 q15.2).bind (fun q20 => (fX12_bytesIn La  x4 q20.2).bind (fun q26 => (fX12_bytesIn La  x5 q26.2).bind (fun q32 => if ((((((g2.1 39 6) + q10.1) + q15.1) + q20.1) + q26.1) + q32.1) ≤ 240 then (fX12_put La  x1 q32.2).bind (fun q46 => (fX12_put La  x2 q46).bind (fun q51 => (fX12_put La  x3 q51).bind (fun q56 => (fX12_put La  x4 q56).bind (fun q62 => (fX12_put La  x5 q62).bind (fun q68 => some (q68.1 39 6, q68)))))) else some ((-1), q32.2)))))))
set_option maxRecDepth 100000 in
set_option maxHeartbeats 4000000 in
theorem kX12_feed {La : gz_L}  {x1 : Int32} {x2 : Int32} {x3 : Int32} {x4 : Int32} {x5 : Int32} {g : gz_S} {r : Int32 × gz_S}  (hf : fX12_feed La  x1 x2 x3 x4 x5 g = some r) : gz_K La 2 mX12_feed [.ref 39, .int x1, .int x2, .int x3, .int x4, .int x5] g (gz_Fi r) := by
  unfold fX12_feed at hf
  refine gz_K.of 0 (by decide +kernel) rfl ?_
  show gz_J La 2 mX12_feed 0 [some (.ref 39), some (.int x1), some (.int x2), some (.int x3), some (.int x4), some (.int x5)] [] g (gz_Fi r)
  refine sz_aload_n dX12_feed_0 rfl ?_
  refine sz_iconst dX12_feed_1 (cI0) ?_
  obtain ⟨g2, eg2, hf⟩ := gz_lt hf
  refine sz_putI2 dX12_feed_2 flX12_104 kd39 fi12_0 eg2 ?_
  refine sz_aload_n dX12_feed_5 rfl ?_
  refine sz_getI dX12_feed_6 flX12_117 kd39 rfl ?_
  refine sz_iload_n dX12_feed_9 rfl ?_
  obtain ⟨q10, eq10, hf⟩ := gz_bd hf
  refine sz_callSi [.int x1] [.int (g2.1 39 6)] dX12_feed_10 msX12_119 (Nat.le_of_ble_eq_true rfl) (Nat.le_of_ble_eq_true rfl) (kX12_bytesIn   eq10) ?_
  refine sz_iadd dX12_feed_13 ?_
  refine sz_iload_n dX12_feed_14 rfl ?_
  obtain ⟨q15, eq15, hf⟩ := gz_bd hf
  refine sz_callSi [.int x2] [.int ((g2.1 39 6) + q10.1)] dX12_feed_15 msX12_119 (Nat.le_of_ble_eq_true rfl) (Nat.le_of_ble_eq_true rfl) (kX12_bytesIn   eq15) ?_
  refine sz_iadd dX12_feed_18 ?_
  refine sz_iload_n dX12_feed_19 rfl ?_
  obtain ⟨q20, eq20, hf⟩ := gz_bd hf
  refine sz_callSi [.int x3] [.int (((g2.1 39 6) + q10.1) + q15.1)] dX12_feed_20 msX12_119 (Nat.le_of_ble_eq_true rfl) (Nat.le_of_ble_eq_true rfl) (kX12_bytesIn   eq20) ?_
  refine sz_iadd dX12_feed_23 ?_
  refine sz_iload dX12_feed_24 rfl ?_
  obtain ⟨q26, eq26, hf⟩ := gz_bd hf
  refine sz_callSi [.int x4] [.int ((((g2.1 39 6) + q10.1) + q15.1) + q20.1)] dX12_feed_26 msX12_119 (Nat.le_of_ble_eq_true rfl) (Nat.le_of_ble_eq_true rfl) (kX12_bytesIn   eq26) ?_
  refine sz_iadd dX12_feed_29 ?_
  refine sz_iload dX12_feed_30 rfl ?_
  obtain ⟨q32, eq32, hf⟩ := gz_bd hf
  refine sz_callSi [.int x5] [.int (((((g2.1 39 6) + q10.1) + q15.1) + q20.1) + q26.1)] dX12_feed_32 msX12_119 (Nat.le_of_ble_eq_true rfl) (Nat.le_of_ble_eq_true rfl) (kX12_bytesIn   eq32) ?_
  refine sz_iadd dX12_feed_35 ?_
  refine sz_sipush dX12_feed_36 (cH240) ?_
  refine sz_icmp_le 44 dX12_feed_39 (by decide) (fun c39 => ?_) (fun c39 => ?_)
  · have hf := gz_ip c39 hf
    refine sz_aload_n dX12_feed_44 rfl ?_
    refine sz_iload_n dX12_feed_45 rfl ?_
    obtain ⟨q46, eq46, hf⟩ := gz_bd hf
    refine sz_callVv [.int x1] [] dX12_feed_46 mvX12_123 (Nat.le_of_ble_eq_true rfl) (by decide : 12 < 13) kd39 rfl (Nat.le_of_ble_eq_true rfl) (kX12_put   eq46) ?_
    refine sz_aload_n dX12_feed_49 rfl ?_
    refine sz_iload_n dX12_feed_50 rfl ?_
    obtain ⟨q51, eq51, hf⟩ := gz_bd hf
    refine sz_callVv [.int x2] [] dX12_feed_51 mvX12_123 (Nat.le_of_ble_eq_true rfl) (by decide : 12 < 13) kd39 rfl (Nat.le_of_ble_eq_true rfl) (kX12_put   eq51) ?_
    refine sz_aload_n dX12_feed_54 rfl ?_
    refine sz_iload_n dX12_feed_55 rfl ?_
    obtain ⟨q56, eq56, hf⟩ := gz_bd hf
    refine sz_callVv [.int x3] [] dX12_feed_56 mvX12_123 (Nat.le_of_ble_eq_true rfl) (by decide : 12 < 13) kd39 rfl (Nat.le_of_ble_eq_true rfl) (kX12_put   eq56) ?_
    refine sz_aload_n dX12_feed_59 rfl ?_
    refine sz_iload dX12_feed_60 rfl ?_
    obtain ⟨q62, eq62, hf⟩ := gz_bd hf
    refine sz_callVv [.int x4] [] dX12_feed_62 mvX12_123 (Nat.le_of_ble_eq_true rfl) (by decide : 12 < 13) kd39 rfl (Nat.le_of_ble_eq_true rfl) (kX12_put   eq62) ?_
    refine sz_aload_n dX12_feed_65 rfl ?_
    refine sz_iload dX12_feed_66 rfl ?_
    obtain ⟨q68, eq68, hf⟩ := gz_bd hf
    refine sz_callVv [.int x5] [] dX12_feed_68 mvX12_123 (Nat.le_of_ble_eq_true rfl) (by decide : 12 < 13) kd39 rfl (Nat.le_of_ble_eq_true rfl) (kX12_put   eq68) ?_
    refine sz_aload_n dX12_feed_71 rfl ?_
    refine sz_getI dX12_feed_72 flX12_117 kd39 rfl ?_
    cases hf
    exact sz_iret dX12_feed_75 rfl rfl ⟨rfl, rfl⟩
  · have hf := gz_in1 c39 hf
    refine sz_iconst dX12_feed_42 (cIm1) ?_
    cases hf
    exact sz_iret dX12_feed_43 rfl rfl ⟨rfl, rfl⟩
def fX12_end (La : gz_L)  (x1 : Int32) (g : gz_S) : Option (Int32 × gz_S) :=
  gz_let (gz_wi g 39 0 0) (fun g2 => if x1 < 0 then some (0, g2) else if x1 ≤ (g2.1 39 6) then gz_let (gz_wi g2 39 6 x1) (fun g21 => some (1, g21)) else some (0, g2))
set_option maxRecDepth 100000 in
set_option maxHeartbeats 4000000 in
theorem kX12_end {La : gz_L}  {x1 : Int32} {g : gz_S} {r : Int32 × gz_S}  (hf : fX12_end La  x1 g = some r) : gz_K La 1 mX12_end [.ref 39, .int x1] g (gz_Fi r) := by
  unfold fX12_end at hf
  refine gz_K.of 0 (by decide +kernel) rfl ?_
  show gz_J La 1 mX12_end 0 [some (.ref 39), some (.int x1)] [] g (gz_Fi r)
  refine sz_aload_n dX12_end_0 rfl ?_
  refine sz_iconst dX12_end_1 (cI0) ?_
  obtain ⟨g2, eg2, hf⟩ := gz_lt hf
  refine sz_putI2 dX12_end_2 flX12_104 kd39 fi12_0 eg2 ?_
  refine sz_iload_n dX12_end_5 rfl ?_
  refine sz_if_lt 17 dX12_end_6 (by decide) (fun c6 => ?_) (fun c6 => ?_)
  · have hf := gz_ip c6 hf
    refine sz_iconst dX12_end_17 (cI0) ?_
    cases hf
    exact sz_iret dX12_end_18 rfl rfl ⟨rfl, rfl⟩
  · have hf := gz_in1 c6 hf
    refine sz_iload_n dX12_end_9 rfl ?_
    refine sz_aload_n dX12_end_10 rfl ?_
    refine sz_getI dX12_end_11 flX12_117 kd39 rfl ?_
    refine sz_icmp_le 19 dX12_end_14 (by decide) (fun c14 => ?_) (fun c14 => ?_)
    · have hf := gz_ip c14 hf
      refine sz_aload_n dX12_end_19 rfl ?_
      refine sz_iload_n dX12_end_20 rfl ?_
      obtain ⟨g21, eg21, hf⟩ := gz_lt hf
      refine sz_putI2 dX12_end_21 flX12_117 kd39 fi12_6 eg21 ?_
      refine sz_iconst dX12_end_24 (cI1) ?_
      cases hf
      exact sz_iret dX12_end_25 rfl rfl ⟨rfl, rfl⟩
    · have hf := gz_in1 c14 hf
      refine sz_iconst dX12_end_17 (cI0) ?_
      cases hf
      exact sz_iret dX12_end_18 rfl rfl ⟨rfl, rfl⟩
def fX12_look_0 (La : gz_L)   (k43 : gz_S → Option (Int32 × gz_S)) : Nat → gz_S → Option (Int32 × gz_S)
  | 0, _ => none
  | n + 1, g => if (g.1 39 9) ≤ (g.1 39 10) then k43  g else gz_on (g.2.2 1) none (fun e12 => if e12 = 40 ∨ e12 = 41 then if gz_ok ((g.1 39 8) + (g.1 39 10)) (gz_ln e12) then if (g.1 e12 (Int32.toNatClampNeg ((g.1 39 8) + (g.1 39 10)))) = 32 then gz_let (gz_wi g 39 10 ((g.1 39 10) + 1)) (fun g37 => fX12_look_0 La   k43 n  g37) else k43  g else none else none)
set_option maxRecDepth 100000 in
set_option maxHeartbeats 4000000 in
theorem tX12_look_0 {La : gz_L}   {k43 : gz_S → Option (Int32 × gz_S)}  (hk43 : ∀  (g : gz_S) (r : Int32 × gz_S), k43  g = some r → gz_J La 1 mX12_look 43 [some (.ref 39)] [] g (gz_Fi r)) : ∀ (n : Nat)  (g : gz_S) (r : Int32 × gz_S), fX12_look_0 La   k43 n  g = some r → gz_J La 1 mX12_look 0 [some (.ref 39)] [] g (gz_Fi r) := by
  intro n
  induction n with
  | zero => intro  g r hf; exact nomatch (show (none : Option (Int32 × gz_S)) = some r from hf)
  | succ n ih =>
    intro  g r hf
    unfold fX12_look_0 at hf
    refine sz_aload_n dX12_look_0 rfl ?_
    refine sz_getI dX12_look_1 flX12_127 kd39 rfl ?_
    refine sz_aload_n dX12_look_4 rfl ?_
    refine sz_getI dX12_look_5 flX12_130 kd39 rfl ?_
    refine sz_icmp_ge 43 dX12_look_8 (by decide) (fun c8 => ?_) (fun c8 => ?_)
    · have hf := gz_ip c8 hf
      exact hk43  _ _ hf
    · have hf := gz_in1 c8 hf
      refine sz_aload_n dX12_look_11 rfl ?_
      rcases ho12 : g.2.2 1 with _ | e12
      · cases gz_on0 ho12 hf
      · have hf := gz_on1 ho12 hf
        obtain ⟨he12, hf⟩ := gz_gd hf
        refine sz_getR dX12_look_12 flX12_23 kd39 rfl (rfd1.trans ho12) ?_
        refine sz_aload_n dX12_look_15 rfl ?_
        refine sz_getI dX12_look_16 flX12_133 kd39 rfl ?_
        refine sz_aload_n dX12_look_19 rfl ?_
        refine sz_getI dX12_look_20 flX12_127 kd39 rfl ?_
        refine sz_iadd dX12_look_23 ?_
        obtain ⟨c24, hf⟩ := gz_gd hf
        refine sz_baldL dX12_look_24 (kds_tx he12) c24 rfl ?_
        refine sz_bipush dX12_look_25 (cB32) ?_
        refine sz_icmp_ne 43 dX12_look_27 (by decide) (fun c27 => ?_) (fun c27 => ?_)
        · have hf := gz_in1 c27 hf
          exact hk43  _ _ hf
        · have hf := gz_ip c27 hf
          refine sz_aload_n dX12_look_30 rfl ?_
          refine sz_dup dX12_look_31 rfl ?_
          refine sz_getI dX12_look_32 flX12_127 kd39 rfl ?_
          refine sz_iconst dX12_look_35 (cI1) ?_
          refine sz_iadd dX12_look_36 ?_
          obtain ⟨g37, eg37, hf⟩ := gz_lt hf
          refine sz_putI2 dX12_look_37 flX12_127 kd39 fi12_10 eg37 ?_
          refine sz_goto 0 dX12_look_40 (by decide) ?_
          exact ih  _ _ hf
def fX12_look_43 (La : gz_L)     (g : gz_S) : Option (Int32 × gz_S) := if (g.1 39 9) ≤ (g.1 39 10) then some ((-1), g) else gz_on (g.2.2 1) none (fun e55 => if e55 = 40 ∨ e55 = 41 then if gz_ok ((g.1 39 8) + (g.1 39 10)) (gz_ln e55) then some ((g.1 e55 (Int32.toNatClampNeg ((g.1 39 8) + (g.1 39 10)))) &&& (255 : Int32), g) else none else none)
set_option maxRecDepth 100000 in
set_option maxHeartbeats 4000000 in
theorem tX12_look_43 {La : gz_L}      : ∀  (g : gz_S) (r : Int32 × gz_S), fX12_look_43 La     g = some r → gz_J La 1 mX12_look 43 [some (.ref 39)] [] g (gz_Fi r) := by
  intro  g r hf
  unfold fX12_look_43 at hf
  refine sz_aload_n dX12_look_43 rfl ?_
  refine sz_getI dX12_look_44 flX12_127 kd39 rfl ?_
  refine sz_aload_n dX12_look_47 rfl ?_
  refine sz_getI dX12_look_48 flX12_130 kd39 rfl ?_
  refine sz_icmp_ge 75 dX12_look_51 (by decide) (fun c51 => ?_) (fun c51 => ?_)
  · have hf := gz_ip c51 hf
    refine sz_iconst dX12_look_75 (cIm1) ?_
    cases hf
    exact sz_iret dX12_look_76 rfl rfl ⟨rfl, rfl⟩
  · have hf := gz_in1 c51 hf
    refine sz_aload_n dX12_look_54 rfl ?_
    rcases ho55 : g.2.2 1 with _ | e55
    · cases gz_on0 ho55 hf
    · have hf := gz_on1 ho55 hf
      obtain ⟨he55, hf⟩ := gz_gd hf
      refine sz_getR dX12_look_55 flX12_23 kd39 rfl (rfd1.trans ho55) ?_
      refine sz_aload_n dX12_look_58 rfl ?_
      refine sz_getI dX12_look_59 flX12_133 kd39 rfl ?_
      refine sz_aload_n dX12_look_62 rfl ?_
      refine sz_getI dX12_look_63 flX12_127 kd39 rfl ?_
      refine sz_iadd dX12_look_66 ?_
      obtain ⟨c67, hf⟩ := gz_gd hf
      refine sz_baldL dX12_look_67 (kds_tx he55) c67 rfl ?_
      refine sz_sipush dX12_look_68 (cH255) ?_
      refine sz_iand dX12_look_71 ?_
      refine sz_goto 76 dX12_look_72 (by decide) ?_
      cases hf
      exact sz_iret dX12_look_76 rfl rfl ⟨rfl, rfl⟩
def fX12_look (La : gz_L)   (g : gz_S) : Option (Int32 × gz_S) :=
  fX12_look_0 La   (fX12_look_43 La    ) gz_FU  g
set_option maxRecDepth 100000 in
set_option maxHeartbeats 4000000 in
theorem kX12_look {La : gz_L}   {g : gz_S} {r : Int32 × gz_S}  (hf : fX12_look La   g = some r) : gz_K La 1 mX12_look [.ref 39] g (gz_Fi r) := by
  unfold fX12_look at hf
  refine gz_K.of 0 (by decide +kernel) rfl ?_
  show gz_J La 1 mX12_look 0 [some (.ref 39)] [] g (gz_Fi r)
  exact tX12_look_0   (tX12_look_43   ) _  _ _ hf
def fX12_fails (La : gz_L)   (g : gz_S) : Option (Int32 × gz_S) :=
  if (g.1 39 11) = (-1) then gz_let (gz_wi g 39 11 (g.1 39 10)) (fun g13 => some (0, g13)) else some (0, g)
set_option maxRecDepth 100000 in
set_option maxHeartbeats 4000000 in
theorem kX12_fails {La : gz_L}   {g : gz_S} {r : Int32 × gz_S}  (hf : fX12_fails La   g = some r) : gz_K La 1 mX12_fails [.ref 39] g (gz_Fi r) := by
  unfold fX12_fails at hf
  refine gz_K.of 0 (by decide +kernel) rfl ?_
  show gz_J La 1 mX12_fails 0 [some (.ref 39)] [] g (gz_Fi r)
  refine sz_aload_n dX12_fails_0 rfl ?_
  refine sz_getI dX12_fails_1 flX12_136 kd39 rfl ?_
  refine sz_iconst dX12_fails_4 (cIm1) ?_
  refine sz_icmp_ne 16 dX12_fails_5 (by decide) (fun c5 => ?_) (fun c5 => ?_)
  · have hf := gz_in1 c5 hf
    refine sz_iconst dX12_fails_16 (cI0) ?_
    cases hf
    exact sz_iret dX12_fails_17 rfl rfl ⟨rfl, rfl⟩
  · have hf := gz_ip c5 hf
    refine sz_aload_n dX12_fails_8 rfl ?_
    refine sz_aload_n dX12_fails_9 rfl ?_
    refine sz_getI dX12_fails_10 flX12_127 kd39 rfl ?_
    obtain ⟨g13, eg13, hf⟩ := gz_lt hf
    refine sz_putI2 dX12_fails_13 flX12_136 kd39 fi12_11 eg13 ?_
    refine sz_iconst dX12_fails_16 (cI0) ?_
    cases hf
    exact sz_iret dX12_fails_17 rfl rfl ⟨rfl, rfl⟩
def fX12_goesIn (La : gz_L)   (g : gz_S) : Option (Int32 × gz_S) :=
  if (g.1 39 12) = 6 then (fX12_fails La   g).bind (fun q10 => if q10.1 = 0 ∨ q10.1 = 1 then some (q10.1, q10.2) else none) else gz_let (gz_wi g 39 12 ((g.1 39 12) + 1)) (fun g21 => gz_let (gz_wi g21 39 10 ((g21.1 39 10) + 1)) (fun g31 => some (1, g31)))
set_option maxRecDepth 100000 in
set_option maxHeartbeats 4000000 in
theorem kX12_goesIn {La : gz_L}   {g : gz_S} {r : Int32 × gz_S}  (hf : fX12_goesIn La   g = some r) : gz_K La 2 mX12_goesIn [.ref 39] g (gz_Fi r) := by
  unfold fX12_goesIn at hf
  refine gz_K.of 0 (by decide +kernel) rfl ?_
  show gz_J La 2 mX12_goesIn 0 [some (.ref 39)] [] g (gz_Fi r)
  refine sz_aload_n dX12_goesIn_0 rfl ?_
  refine sz_getI dX12_goesIn_1 flX12_139 kd39 rfl ?_
  refine sz_bipush dX12_goesIn_4 (cB6) ?_
  refine sz_icmp_ne 14 dX12_goesIn_6 (by decide) (fun c6 => ?_) (fun c6 => ?_)
  · have hf := gz_in1 c6 hf
    refine sz_aload_n dX12_goesIn_14 rfl ?_
    refine sz_dup dX12_goesIn_15 rfl ?_
    refine sz_getI dX12_goesIn_16 flX12_139 kd39 rfl ?_
    refine sz_iconst dX12_goesIn_19 (cI1) ?_
    refine sz_iadd dX12_goesIn_20 ?_
    obtain ⟨g21, eg21, hf⟩ := gz_lt hf
    refine sz_putI2 dX12_goesIn_21 flX12_139 kd39 fi12_12 eg21 ?_
    refine sz_aload_n dX12_goesIn_24 rfl ?_
    refine sz_dup dX12_goesIn_25 rfl ?_
    refine sz_getI dX12_goesIn_26 flX12_127 kd39 rfl ?_
    refine sz_iconst dX12_goesIn_29 (cI1) ?_
    refine sz_iadd dX12_goesIn_30 ?_
    obtain ⟨g31, eg31, hf⟩ := gz_lt hf
    refine sz_putI2 dX12_goesIn_31 flX12_127 kd39 fi12_10 eg31 ?_
    refine sz_iconst dX12_goesIn_34 (cI1) ?_
    cases hf
    exact sz_iret dX12_goesIn_35 rfl rfl ⟨rfl, rfl⟩
  · have hf := gz_ip c6 hf
    refine sz_aload_n dX12_goesIn_9 rfl ?_
    obtain ⟨q10, eq10, hf⟩ := gz_bd hf
    refine sz_callVi [] [] dX12_goesIn_10 mvX12_142 (Nat.le_of_ble_eq_true rfl) (by decide : 12 < 13) kd39 rfl (Nat.le_of_ble_eq_true rfl) (kX12_fails   eq10) ?_
    obtain ⟨c13, hf⟩ := gz_gd hf
    cases hf
    exact sz_iret dX12_goesIn_13 rfl (gz_nbx c13) ⟨rfl, rfl⟩
def fX12_takes_16 (La : gz_L)     (g : gz_S) : Option (Int32 × gz_S) := (fX12_fails La   g).bind (fun q17 => if q17.1 = 0 ∨ q17.1 = 1 then some (q17.1, q17.2) else none)
set_option maxRecDepth 100000 in
set_option maxHeartbeats 4000000 in
theorem tX12_takes_16 {La : gz_L}      : ∀  (g : gz_S) (r : Int32 × gz_S), fX12_takes_16 La     g = some r → gz_J La 2 mX12_takes 16 [some (.ref 39), none] [] g (gz_Fi r) := by
  intro  g r hf
  unfold fX12_takes_16 at hf
  refine sz_aload_n dX12_takes_16 rfl ?_
  obtain ⟨q17, eq17, hf⟩ := gz_bd hf
  refine sz_callVi [] [] dX12_takes_17 mvX12_142 (Nat.le_of_ble_eq_true rfl) (by decide : 12 < 13) kd39 rfl (Nat.le_of_ble_eq_true rfl) (kX12_fails   eq17) ?_
  obtain ⟨c20, hf⟩ := gz_gd hf
  cases hf
  exact sz_iret dX12_takes_20 rfl (gz_nbx c20) ⟨rfl, rfl⟩
def fX12_takes (La : gz_L)  (x1 : Int32) (g : gz_S) : Option (Int32 × gz_S) :=
  if (g.1 39 11) = (-1) then (fX12_look La   g).bind (fun q9 => if q9.1 = x1 then gz_let (gz_wi q9.2 39 10 ((q9.2.1 39 10) + 1)) (fun g28 => some (1, g28)) else fX12_takes_16 La      q9.2) else fX12_takes_16 La      g
set_option maxRecDepth 100000 in
set_option maxHeartbeats 4000000 in
theorem kX12_takes {La : gz_L}  {x1 : Int32} {g : gz_S} {r : Int32 × gz_S}  (hf : fX12_takes La  x1 g = some r) : gz_K La 2 mX12_takes [.ref 39, .int x1] g (gz_Fi r) := by
  unfold fX12_takes at hf
  refine gz_K.of 0 (by decide +kernel) rfl ?_
  show gz_J La 2 mX12_takes 0 [some (.ref 39), some (.int x1)] [] g (gz_Fi r)
  refine sz_aload_n dX12_takes_0 rfl ?_
  refine sz_getI dX12_takes_1 flX12_136 kd39 rfl ?_
  refine sz_iconst dX12_takes_4 (cIm1) ?_
  refine sz_icmp_ne 16 dX12_takes_5 (by decide) (fun c5 => ?_) (fun c5 => ?_)
  · have hf := gz_in1 c5 hf
    refine sz_weak (l2 := [some (.ref 39), none]) (gz_subk (gz_subn gz_sub0)) ?_
    exact tX12_takes_16     _ _ hf
  · have hf := gz_ip c5 hf
    refine sz_aload_n dX12_takes_8 rfl ?_
    obtain ⟨q9, eq9, hf⟩ := gz_bd hf
    refine sz_callVi [] [] dX12_takes_9 mvX12_146 (Nat.le_of_ble_eq_true rfl) (by decide : 12 < 13) kd39 rfl (Nat.le_of_ble_eq_true rfl) (kX12_look   eq9) ?_
    refine sz_iload_n dX12_takes_12 rfl ?_
    refine sz_icmp_eq 21 dX12_takes_13 (by decide) (fun c13 => ?_) (fun c13 => ?_)
    · have hf := gz_ip c13 hf
      refine sz_aload_n dX12_takes_21 rfl ?_
      refine sz_dup dX12_takes_22 rfl ?_
      refine sz_getI dX12_takes_23 flX12_127 kd39 rfl ?_
      refine sz_iconst dX12_takes_26 (cI1) ?_
      refine sz_iadd dX12_takes_27 ?_
      obtain ⟨g28, eg28, hf⟩ := gz_lt hf
      refine sz_putI2 dX12_takes_28 flX12_127 kd39 fi12_10 eg28 ?_
      refine sz_iconst dX12_takes_31 (cI1) ?_
      cases hf
      exact sz_iret dX12_takes_32 rfl rfl ⟨rfl, rfl⟩
    · have hf := gz_in1 c13 hf
      refine sz_weak (l2 := [some (.ref 39), none]) (gz_subk (gz_subn gz_sub0)) ?_
      exact tX12_takes_16     _ _ hf
def fX12_isDigit (La : gz_L)   (g : gz_S) : Option (Int32 × gz_S) :=
  if (g.1 39 9) ≤ (g.1 39 10) then some (0, g) else gz_on (g.2.2 1) none (fun e12 => if e12 = 40 ∨ e12 = 41 then if gz_ok ((g.1 39 8) + (g.1 39 10)) (gz_ln e12) then if (g.1 e12 (Int32.toNatClampNeg ((g.1 39 8) + (g.1 39 10)))) < 48 then some (0, g) else gz_on (g.2.2 1) none (fun e31 => if e31 = 40 ∨ e31 = 41 then if gz_ok ((g.1 39 8) + (g.1 39 10)) (gz_ln e31) then if 57 < (g.1 e31 (Int32.toNatClampNeg ((g.1 39 8) + (g.1 39 10)))) then some (0, g) else some (1, g) else none else none) else none else none)
set_option maxRecDepth 100000 in
set_option maxHeartbeats 4000000 in
theorem kX12_isDigit {La : gz_L}   {g : gz_S} {r : Int32 × gz_S}  (hf : fX12_isDigit La   g = some r) : gz_K La 1 mX12_isDigit [.ref 39] g (gz_Fi r) := by
  unfold fX12_isDigit at hf
  refine gz_K.of 0 (by decide +kernel) rfl ?_
  show gz_J La 1 mX12_isDigit 0 [some (.ref 39)] [] g (gz_Fi r)
  refine sz_aload_n dX12_isDigit_0 rfl ?_
  refine sz_getI dX12_isDigit_1 flX12_127 kd39 rfl ?_
  refine sz_aload_n dX12_isDigit_4 rfl ?_
  refine sz_getI dX12_isDigit_5 flX12_130 kd39 rfl ?_
  refine sz_icmp_ge 53 dX12_isDigit_8 (by decide) (fun c8 => ?_) (fun c8 => ?_)
  · have hf := gz_ip c8 hf
    refine sz_iconst dX12_isDigit_53 (cI0) ?_
    cases hf
    exact sz_iret dX12_isDigit_54 rfl rfl ⟨rfl, rfl⟩
  · have hf := gz_in1 c8 hf
    refine sz_aload_n dX12_isDigit_11 rfl ?_
    rcases ho12 : g.2.2 1 with _ | e12
    · cases gz_on0 ho12 hf
    · have hf := gz_on1 ho12 hf
      obtain ⟨he12, hf⟩ := gz_gd hf
      refine sz_getR dX12_isDigit_12 flX12_23 kd39 rfl (rfd1.trans ho12) ?_
      refine sz_aload_n dX12_isDigit_15 rfl ?_
      refine sz_getI dX12_isDigit_16 flX12_133 kd39 rfl ?_
      refine sz_aload_n dX12_isDigit_19 rfl ?_
      refine sz_getI dX12_isDigit_20 flX12_127 kd39 rfl ?_
      refine sz_iadd dX12_isDigit_23 ?_
      obtain ⟨c24, hf⟩ := gz_gd hf
      refine sz_baldL dX12_isDigit_24 (kds_tx he12) c24 rfl ?_
      refine sz_bipush dX12_isDigit_25 (cB48) ?_
      refine sz_icmp_lt 53 dX12_isDigit_27 (by decide) (fun c27 => ?_) (fun c27 => ?_)
      · have hf := gz_ip c27 hf
        refine sz_iconst dX12_isDigit_53 (cI0) ?_
        cases hf
        exact sz_iret dX12_isDigit_54 rfl rfl ⟨rfl, rfl⟩
      · have hf := gz_in1 c27 hf
        refine sz_aload_n dX12_isDigit_30 rfl ?_
        rcases ho31 : g.2.2 1 with _ | e31
        · cases gz_on0 ho31 hf
        · have hf := gz_on1 ho31 hf
          obtain ⟨he31, hf⟩ := gz_gd hf
          refine sz_getR dX12_isDigit_31 flX12_23 kd39 rfl (rfd1.trans ho31) ?_
          refine sz_aload_n dX12_isDigit_34 rfl ?_
          refine sz_getI dX12_isDigit_35 flX12_133 kd39 rfl ?_
          refine sz_aload_n dX12_isDigit_38 rfl ?_
          refine sz_getI dX12_isDigit_39 flX12_127 kd39 rfl ?_
          refine sz_iadd dX12_isDigit_42 ?_
          obtain ⟨c43, hf⟩ := gz_gd hf
          refine sz_baldL dX12_isDigit_43 (kds_tx he31) c43 rfl ?_
          refine sz_bipush dX12_isDigit_44 (cB57) ?_
          refine sz_icmp_gt 53 dX12_isDigit_46 (by decide) (fun c46 => ?_) (fun c46 => ?_)
          · have hf := gz_ip c46 hf
            refine sz_iconst dX12_isDigit_53 (cI0) ?_
            cases hf
            exact sz_iret dX12_isDigit_54 rfl rfl ⟨rfl, rfl⟩
          · have hf := gz_in1 c46 hf
            refine sz_iconst dX12_isDigit_49 (cI1) ?_
            refine sz_goto 54 dX12_isDigit_50 (by decide) ?_
            cases hf
            exact sz_iret dX12_isDigit_54 rfl rfl ⟨rfl, rfl⟩
def fX12_within (La : gz_L)  (x0 : Int64) (g : gz_S) : Option (Int32 × gz_S) :=
  (fJ9_min_f86c9 La  1000000 x0 g).bind (fun q7 => (fJ9_max_f86c9 La  (-1000000) q7.1 q7.2).bind (fun q10 => some (Int64.toInt32 q10.1, q10.2)))
set_option maxRecDepth 100000 in
set_option maxHeartbeats 4000000 in
theorem kX12_within {La : gz_L}  {x0 : Int64} {g : gz_S} {r : Int32 × gz_S}  (hf : fX12_within La  x0 g = some r) : gz_K La 2 mX12_within [.long x0] g (gz_Fi r) := by
  unfold fX12_within at hf
  refine gz_K.of 0 (by decide +kernel) rfl ?_
  show gz_J La 2 mX12_within 0 [some (.long x0), none] [] g (gz_Fi r)
  refine sz_ldc2 dX12_within_0 cstlX12_149 ?_
  refine sz_ldc2 dX12_within_3 cstlX12_151 ?_
  refine sz_lload_n dX12_within_6 rfl ?_
  obtain ⟨q7, eq7, hf⟩ := gz_bd hf
  refine sz_callSl [.long 1000000, .long x0] [.long (-1000000)] dX12_within_7 msX12_153 (Nat.le_of_ble_eq_true rfl) (Nat.le_of_ble_eq_true rfl) (kJ9_min_f86c9   eq7) ?_
  obtain ⟨q10, eq10, hf⟩ := gz_bd hf
  refine sz_callSl [.long (-1000000), .long q7.1] [] dX12_within_10 msX12_159 (Nat.le_of_ble_eq_true rfl) (Nat.le_of_ble_eq_true rfl) (kJ9_max_f86c9   eq10) ?_
  refine sz_l2i dX12_within_13 ?_
  cases hf
  exact sz_iret dX12_within_14 rfl rfl ⟨rfl, rfl⟩
def fX12_atom_90 (La : gz_L) (FX12_sum : gz_S → Option (Int32 × gz_S))  (k110 : gz_S → Option (Int32 × gz_S)) : Nat → Int32 → Int32 → gz_S → Option (Int32 × gz_S)
  | 0, _, _, _ => none
  | n + 1, x2, x3, g => (fX12_isDigit La   g).bind (fun q91 => if q91.1 = 0 then some (x2, q91.2) else if (q91.2.1 39 11) = (-1) then if x3 = 4 then k110  q91.2 else gz_on (q91.2.2.2 1) none (fun e122 => if e122 = 40 ∨ e122 = 41 then if gz_ok ((q91.2.1 39 8) + (q91.2.1 39 10)) (gz_ln e122) then gz_let ((((10 : Int32) * x2) + (q91.2.1 e122 (Int32.toNatClampNeg ((q91.2.1 39 8) + (q91.2.1 39 10))))) - 48) (fun y139 => gz_let (gz_wi q91.2 39 10 ((q91.2.1 39 10) + 1)) (fun g147 => gz_let (x3 + 1) (fun y150 => fX12_atom_90 La FX12_sum  k110 n y139 y150 g147))) else none else none) else some (x2, q91.2))
set_option maxRecDepth 100000 in
set_option maxHeartbeats 4000000 in
theorem tX12_atom_90 {La : gz_L} {hr : Nat} {FX12_sum : gz_S → Option (Int32 × gz_S)} (HX12_sum : ∀  (g : gz_S) (r : Int32 × gz_S), FX12_sum  g = some r → gz_K La hr mX12_sum [.ref 39] g (gz_Fi r)) (hB : 20 ≤ hr)  {k110 : gz_S → Option (Int32 × gz_S)}  (hk110 : ∀  (g : gz_S) (r : Int32 × gz_S), k110  g = some r → gz_J La (hr + 1) mX12_atom 110 [some (.ref 39), none, none, none] [] g (gz_Fi r)) : ∀ (n : Nat) (x2 : Int32) (x3 : Int32) (g : gz_S) (r : Int32 × gz_S), fX12_atom_90 La FX12_sum  k110 n x2 x3 g = some r → gz_J La (hr + 1) mX12_atom 90 [some (.ref 39), none, some (.int x2), some (.int x3)] [] g (gz_Fi r) := by
  intro n
  induction n with
  | zero => intro x2 x3 g r hf; exact nomatch (show (none : Option (Int32 × gz_S)) = some r from hf)
  | succ n ih =>
    intro x2 x3 g r hf
    unfold fX12_atom_90 at hf
    refine sz_aload_n dX12_atom_90 rfl ?_
    obtain ⟨q91, eq91, hf⟩ := gz_bd hf
    refine sz_callVi [] [] dX12_atom_91 mvX12_176 (by omega) (by decide : 12 < 13) kd39 rfl (Nat.le_of_ble_eq_true rfl) (kX12_isDigit   eq91) ?_
    refine sz_if_eq 156 dX12_atom_94 (by decide) (fun c94 => ?_) (fun c94 => ?_)
    · have hf := gz_ip c94 hf
      refine sz_iload_n dX12_atom_156 rfl ?_
      cases hf
      exact sz_iret dX12_atom_157 rfl rfl ⟨rfl, rfl⟩
    · have hf := gz_in1 c94 hf
      refine sz_aload_n dX12_atom_97 rfl ?_
      refine sz_getI dX12_atom_98 flX12_136 kd39 rfl ?_
      refine sz_iconst dX12_atom_101 (cIm1) ?_
      refine sz_icmp_ne 156 dX12_atom_102 (by decide) (fun c102 => ?_) (fun c102 => ?_)
      · have hf := gz_in1 c102 hf
        refine sz_iload_n dX12_atom_156 rfl ?_
        cases hf
        exact sz_iret dX12_atom_157 rfl rfl ⟨rfl, rfl⟩
      · have hf := gz_ip c102 hf
        refine sz_iload_n dX12_atom_105 rfl ?_
        refine sz_iconst dX12_atom_106 (cI4) ?_
        refine sz_icmp_ne 117 dX12_atom_107 (by decide) (fun c107 => ?_) (fun c107 => ?_)
        · have hf := gz_in1 c107 hf
          refine sz_bipush dX12_atom_117 (cB10) ?_
          refine sz_iload_n dX12_atom_119 rfl ?_
          refine sz_imul dX12_atom_120 ?_
          refine sz_aload_n dX12_atom_121 rfl ?_
          rcases ho122 : q91.2.2.2 1 with _ | e122
          · cases gz_on0 ho122 hf
          · have hf := gz_on1 ho122 hf
            obtain ⟨he122, hf⟩ := gz_gd hf
            refine sz_getR dX12_atom_122 flX12_23 kd39 rfl (rfd1.trans ho122) ?_
            refine sz_aload_n dX12_atom_125 rfl ?_
            refine sz_getI dX12_atom_126 flX12_133 kd39 rfl ?_
            refine sz_aload_n dX12_atom_129 rfl ?_
            refine sz_getI dX12_atom_130 flX12_127 kd39 rfl ?_
            refine sz_iadd dX12_atom_133 ?_
            obtain ⟨c134, hf⟩ := gz_gd hf
            refine sz_baldL dX12_atom_134 (kds_tx he122) c134 rfl ?_
            refine sz_iadd dX12_atom_135 ?_
            refine sz_bipush dX12_atom_136 (cB48) ?_
            refine sz_isub dX12_atom_138 ?_
            obtain ⟨y139, ey139, hf⟩ := gz_lt hf
            refine sz_topi ey139 ?_
            refine sz_istore_n dX12_atom_139 rfl (Nat.le_of_ble_eq_true rfl) rfl ?_
            refine sz_ls (l2 := [some (.ref 39), none, some (.int y139), some (.int x3)]) rfl ?_
            refine sz_aload_n dX12_atom_140 rfl ?_
            refine sz_dup dX12_atom_141 rfl ?_
            refine sz_getI dX12_atom_142 flX12_127 kd39 rfl ?_
            refine sz_iconst dX12_atom_145 (cI1) ?_
            refine sz_iadd dX12_atom_146 ?_
            obtain ⟨g147, eg147, hf⟩ := gz_lt hf
            refine sz_putI2 dX12_atom_147 flX12_127 kd39 fi12_10 eg147 ?_
            obtain ⟨y150, ey150, hf⟩ := gz_lt hf
            refine sz_iinc (v := y150) dX12_atom_150 rfl (by rw [ey150, cI1]) (Nat.le_of_ble_eq_true rfl) rfl ?_
            refine sz_ls (l2 := [some (.ref 39), none, some (.int y139), some (.int y150)]) rfl ?_
            refine sz_goto 90 dX12_atom_153 (by decide) ?_
            exact ih _ _ _ _ hf
        · have hf := gz_ip c107 hf
          refine sz_weak (l2 := [some (.ref 39), none, none, none]) (gz_subk (gz_subk (gz_subn (gz_subn gz_sub0)))) ?_
          exact hk110  _ _ hf
def fX12_atom_86 (La : gz_L) (FX12_sum : gz_S → Option (Int32 × gz_S))    (g : gz_S) : Option (Int32 × gz_S) := fX12_atom_90 La FX12_sum  (fun  g => (fX12_fails La   g).bind (fun q111 => some (0, q111.2))) gz_FU 0 0 g
set_option maxRecDepth 100000 in
set_option maxHeartbeats 4000000 in
theorem tX12_atom_86 {La : gz_L} {hr : Nat} {FX12_sum : gz_S → Option (Int32 × gz_S)} (HX12_sum : ∀  (g : gz_S) (r : Int32 × gz_S), FX12_sum  g = some r → gz_K La hr mX12_sum [.ref 39] g (gz_Fi r)) (hB : 20 ≤ hr)     : ∀  (g : gz_S) (r : Int32 × gz_S), fX12_atom_86 La FX12_sum    g = some r → gz_J La (hr + 1) mX12_atom 86 [some (.ref 39), none, none, none] [] g (gz_Fi r) := by
  intro  g r hf
  unfold fX12_atom_86 at hf
  refine sz_iconst dX12_atom_86 (cI0) ?_
  refine sz_istore_n dX12_atom_87 rfl (Nat.le_of_ble_eq_true rfl) rfl ?_
  refine sz_ls (l2 := [some (.ref 39), none, some (.int 0), none]) rfl ?_
  refine sz_iconst dX12_atom_88 (cI0) ?_
  refine sz_istore_n dX12_atom_89 rfl (Nat.le_of_ble_eq_true rfl) rfl ?_
  refine sz_ls (l2 := [some (.ref 39), none, some (.int 0), some (.int 0)]) rfl ?_
  have hk110 : ∀  (g : gz_S) (r : Int32 × gz_S), (fun  g => (fX12_fails La   g).bind (fun q111 => some (0, q111.2)))  g = some r → gz_J La (hr + 1) mX12_atom 110 [some (.ref 39), none, none, none] [] g (gz_Fi r) := by
    intro  g r hf
    refine sz_aload_n dX12_atom_110 rfl ?_
    obtain ⟨q111, eq111, hf⟩ := gz_bd hf
    refine sz_callVi [] [] dX12_atom_111 mvX12_142 (by omega) (by decide : 12 < 13) kd39 rfl (Nat.le_of_ble_eq_true rfl) (kX12_fails   eq111) ?_
    refine sz_pop dX12_atom_114 rfl ?_
    refine sz_iconst dX12_atom_115 (cI0) ?_
    cases hf
    exact sz_iret dX12_atom_116 rfl rfl ⟨rfl, rfl⟩
  exact tX12_atom_90 HX12_sum hB  hk110 _ _ _ _ _ hf
def fX12_atom (La : gz_L) (FX12_sum : gz_S → Option (Int32 × gz_S))  (g : gz_S) : Option (Int32 × gz_S) :=
  (fX12_look La   g).bind (fun q1 => (fX12_isAmong La  211 q1.1 q1.2).bind (fun q8 => if q8.1 = 0 then if q1.1 = 91 then (fX12_goesIn La   q8.2).bind (fun q38 => if q38.1 = 0 then some (0, q38.2) else (FX12_sum  q38.2).bind (fun q47 => (fX12_takes La  93 q47.2).bind (fun q54 => if q54.1 = 0 then some (0, q54.2) else gz_let (gz_wi q54.2 39 12 ((q54.2.1 39 12) - 1)) (fun g69 => some (q47.1, g69))))) else (fX12_isDigit La   q8.2).bind (fun q75 => if q75.1 = 0 then (fX12_fails La   q75.2).bind (fun q82 => fX12_atom_86 La FX12_sum     q82.2) else fX12_atom_86 La FX12_sum     q75.2) else gz_let (gz_wi q8.2 39 10 ((q8.2.1 39 10) + 1)) (fun g21 => if gz_ok q1.1 128 then some (g21.1 43 (Int32.toNatClampNeg q1.1), g21) else none)))
set_option maxRecDepth 100000 in
set_option maxHeartbeats 4000000 in
theorem kX12_atom {La : gz_L} {hr : Nat} {FX12_sum : gz_S → Option (Int32 × gz_S)} (HX12_sum : ∀  (g : gz_S) (r : Int32 × gz_S), FX12_sum  g = some r → gz_K La hr mX12_sum [.ref 39] g (gz_Fi r)) (hB : 20 ≤ hr)  {g : gz_S} {r : Int32 × gz_S}  (hf : fX12_atom La FX12_sum  g = some r) : gz_K La (hr + 1) mX12_atom [.ref 39] g (gz_Fi r) := by
  unfold fX12_atom at hf
  refine gz_K.of 3 (by decide +kernel) rfl ?_
  show gz_J La (hr + 1) mX12_atom 0 [some (.ref 39), none, none, none] [] g (gz_Fi r)
  refine sz_aload_n dX12_atom_0 rfl ?_
  obtain ⟨q1, eq1, hf⟩ := gz_bd hf
  refine sz_callVi [] [] dX12_atom_1 mvX12_146 (by omega) (by decide : 12 < 13) kd39 rfl (Nat.le_of_ble_eq_true rfl) (kX12_look   eq1) ?_
  refine sz_istore_n dX12_atom_4 rfl (Nat.le_of_ble_eq_true rfl) rfl ?_
  refine sz_ls (l2 := [some (.ref 39), some (.int q1.1), none, none]) rfl ?_
  refine sz_ldcS2 (w := 211) ⟨rfl, by decide⟩ dX12_atom_5 ?_
  refine sz_iload_n dX12_atom_7 rfl ?_
  obtain ⟨q8, eq8, hf⟩ := gz_bd hf
  refine sz_callSi [.ref 211, .int q1.1] [] dX12_atom_8 msX12_162 (by omega) (Nat.le_of_ble_eq_true rfl) (kX12_isAmong  (by decide) eq8) ?_
  refine sz_if_eq 31 dX12_atom_11 (by decide) (fun c11 => ?_) (fun c11 => ?_)
  · have hf := gz_ip c11 hf
    refine sz_iload_n dX12_atom_31 rfl ?_
    refine sz_bipush dX12_atom_32 (cB91) ?_
    refine sz_icmp_ne 74 dX12_atom_34 (by decide) (fun c34 => ?_) (fun c34 => ?_)
    · have hf := gz_in1 c34 hf
      refine sz_aload_n dX12_atom_74 rfl ?_
      obtain ⟨q75, eq75, hf⟩ := gz_bd hf
      refine sz_callVi [] [] dX12_atom_75 mvX12_176 (by omega) (by decide : 12 < 13) kd39 rfl (Nat.le_of_ble_eq_true rfl) (kX12_isDigit   eq75) ?_
      refine sz_if_ne 86 dX12_atom_78 (by decide) (fun c78 => ?_) (fun c78 => ?_)
      · have hf := gz_in1 c78 hf
        refine sz_weak (l2 := [some (.ref 39), none, none, none]) (gz_subk (gz_subn (gz_subk (gz_subk gz_sub0)))) ?_
        exact tX12_atom_86 HX12_sum hB    _ _ hf
      · have hf := gz_ip c78 hf
        refine sz_aload_n dX12_atom_81 rfl ?_
        obtain ⟨q82, eq82, hf⟩ := gz_bd hf
        refine sz_callVi [] [] dX12_atom_82 mvX12_142 (by omega) (by decide : 12 < 13) kd39 rfl (Nat.le_of_ble_eq_true rfl) (kX12_fails   eq82) ?_
        refine sz_pop dX12_atom_85 rfl ?_
        refine sz_weak (l2 := [some (.ref 39), none, none, none]) (gz_subk (gz_subn (gz_subk (gz_subk gz_sub0)))) ?_
        exact tX12_atom_86 HX12_sum hB    _ _ hf
    · have hf := gz_ip c34 hf
      refine sz_aload_n dX12_atom_37 rfl ?_
      obtain ⟨q38, eq38, hf⟩ := gz_bd hf
      refine sz_callVi [] [] dX12_atom_38 mvX12_166 (by omega) (by decide : 12 < 13) kd39 rfl (Nat.le_of_ble_eq_true rfl) (kX12_goesIn   eq38) ?_
      refine sz_if_ne 46 dX12_atom_41 (by decide) (fun c41 => ?_) (fun c41 => ?_)
      · have hf := gz_in1 c41 hf
        refine sz_aload_n dX12_atom_46 rfl ?_
        obtain ⟨q47, eq47, hf⟩ := gz_bd hf
        refine sz_callVi [] [] dX12_atom_47 mvX12_169 (by omega) (by decide : 12 < 13) kd39 rfl (Nat.le_of_ble_eq_true rfl) (HX12_sum  _ _ eq47) ?_
        refine sz_istore_n dX12_atom_50 rfl (Nat.le_of_ble_eq_true rfl) rfl ?_
        refine sz_ls (l2 := [some (.ref 39), some (.int q1.1), some (.int q47.1), none]) rfl ?_
        refine sz_aload_n dX12_atom_51 rfl ?_
        refine sz_bipush dX12_atom_52 (cB93) ?_
        obtain ⟨q54, eq54, hf⟩ := gz_bd hf
        refine sz_callVi [.int 93] [] dX12_atom_54 mvX12_172 (by omega) (by decide : 12 < 13) kd39 rfl (Nat.le_of_ble_eq_true rfl) (kX12_takes   eq54) ?_
        refine sz_if_ne 62 dX12_atom_57 (by decide) (fun c57 => ?_) (fun c57 => ?_)
        · have hf := gz_in1 c57 hf
          refine sz_aload_n dX12_atom_62 rfl ?_
          refine sz_dup dX12_atom_63 rfl ?_
          refine sz_getI dX12_atom_64 flX12_139 kd39 rfl ?_
          refine sz_iconst dX12_atom_67 (cI1) ?_
          refine sz_isub dX12_atom_68 ?_
          obtain ⟨g69, eg69, hf⟩ := gz_lt hf
          refine sz_putI2 dX12_atom_69 flX12_139 kd39 fi12_12 eg69 ?_
          refine sz_iload_n dX12_atom_72 rfl ?_
          cases hf
          exact sz_iret dX12_atom_73 rfl rfl ⟨rfl, rfl⟩
        · have hf := gz_ip c57 hf
          refine sz_iconst dX12_atom_60 (cI0) ?_
          cases hf
          exact sz_iret dX12_atom_61 rfl rfl ⟨rfl, rfl⟩
      · have hf := gz_ip c41 hf
        refine sz_iconst dX12_atom_44 (cI0) ?_
        cases hf
        exact sz_iret dX12_atom_45 rfl rfl ⟨rfl, rfl⟩
  · have hf := gz_in1 c11 hf
    refine sz_aload_n dX12_atom_14 rfl ?_
    refine sz_dup dX12_atom_15 rfl ?_
    refine sz_getI dX12_atom_16 flX12_127 kd39 rfl ?_
    refine sz_iconst dX12_atom_19 (cI1) ?_
    refine sz_iadd dX12_atom_20 ?_
    obtain ⟨g21, eg21, hf⟩ := gz_lt hf
    refine sz_putI2 dX12_atom_21 flX12_127 kd39 fi12_10 eg21 ?_
    refine sz_aload_n dX12_atom_24 rfl ?_
    refine sz_getR dX12_atom_25 flX12_20 kd39 rfl rf39_4 ?_
    refine sz_iload_n dX12_atom_28 rfl ?_
    obtain ⟨c29, hf⟩ := gz_gd hf
    refine sz_ialdL dX12_atom_29 kd43 c29 rfl ?_
    cases hf
    exact sz_iret dX12_atom_30 rfl rfl ⟨rfl, rfl⟩
def fX12_term_87 (La : gz_L) (FX12_sum : gz_S → Option (Int32 × gz_S))  (k5 : Int32 → gz_S → Option (Int32 × gz_S)) (s0 : Int64) (g : gz_S) : Option (Int32 × gz_S) := (fX12_within La  s0 g).bind (fun q87 => k5 q87.1 q87.2)
set_option maxRecDepth 100000 in
set_option maxHeartbeats 4000000 in
theorem tX12_term_87 {La : gz_L} {hr : Nat} {FX12_sum : gz_S → Option (Int32 × gz_S)} (HX12_sum : ∀  (g : gz_S) (r : Int32 × gz_S), FX12_sum  g = some r → gz_K La hr mX12_sum [.ref 39] g (gz_Fi r)) (hB : 20 ≤ hr)  {k5 : Int32 → gz_S → Option (Int32 × gz_S)}  (hk5 : ∀ (x1 : Int32) (g : gz_S) (r : Int32 × gz_S), k5 x1 g = some r → gz_J La (hr + 2) mX12_term 5 [some (.ref 39), some (.int x1), none, none, none] [] g (gz_Fi r)) : ∀ (s0 : Int64) (g : gz_S) (r : Int32 × gz_S), fX12_term_87 La FX12_sum  k5 s0 g = some r → gz_J La (hr + 2) mX12_term 87 [some (.ref 39), none, none, none, none] [.long s0] g (gz_Fi r) := by
  intro s0 g r hf
  unfold fX12_term_87 at hf
  obtain ⟨q87, eq87, hf⟩ := gz_bd hf
  refine sz_callSi [.long s0] [] dX12_term_87 msX12_182 (by omega) (Nat.le_of_ble_eq_true rfl) (kX12_within   eq87) ?_
  refine sz_istore_n dX12_term_90 rfl (Nat.le_of_ble_eq_true rfl) rfl ?_
  refine sz_ls (l2 := [some (.ref 39), some (.int q87.1), none, none, none]) rfl ?_
  refine sz_goto 5 dX12_term_91 (by decide) ?_
  exact hk5 _ _ _ hf
def fX12_term_45 (La : gz_L) (FX12_sum : gz_S → Option (Int32 × gz_S))  (k5 : Int32 → gz_S → Option (Int32 × gz_S)) (x1 : Int32) (s0 : Int32) (g : gz_S) : Option (Int32 × gz_S) := gz_let (gz_wi g 39 10 ((g.1 39 10) + 1)) (fun g53 => (fX12_atom La FX12_sum  g53).bind (fun q57 => gz_let (Int32.toInt64 q57.1) (fun y61 => if s0 = 0 then if (lg_cmp y61 0) = 0 then fX12_term_87 La FX12_sum  k5  0 q57.2 else if ¬ y61 = 0 then fX12_term_87 La FX12_sum  k5  ((Int32.toInt64 x1) / y61) q57.2 else none else fX12_term_87 La FX12_sum  k5  ((Int32.toInt64 x1) * y61) q57.2)))
set_option maxRecDepth 100000 in
set_option maxHeartbeats 4000000 in
theorem tX12_term_45 {La : gz_L} {hr : Nat} {FX12_sum : gz_S → Option (Int32 × gz_S)} (HX12_sum : ∀  (g : gz_S) (r : Int32 × gz_S), FX12_sum  g = some r → gz_K La hr mX12_sum [.ref 39] g (gz_Fi r)) (hB : 20 ≤ hr)  {k5 : Int32 → gz_S → Option (Int32 × gz_S)}  (hk5 : ∀ (x1 : Int32) (g : gz_S) (r : Int32 × gz_S), k5 x1 g = some r → gz_J La (hr + 2) mX12_term 5 [some (.ref 39), some (.int x1), none, none, none] [] g (gz_Fi r)) : ∀ (x1 : Int32) (s0 : Int32) (g : gz_S) (r : Int32 × gz_S), fX12_term_45 La FX12_sum  k5 x1 s0 g = some r → gz_J La (hr + 2) mX12_term 45 [some (.ref 39), some (.int x1), none, none, none] [.int s0] g (gz_Fi r) := by
  intro x1 s0 g r hf
  unfold fX12_term_45 at hf
  refine sz_istore_n dX12_term_45 rfl (Nat.le_of_ble_eq_true rfl) rfl ?_
  refine sz_ls (l2 := [some (.ref 39), some (.int x1), some (.int s0), none, none]) rfl ?_
  refine sz_aload_n dX12_term_46 rfl ?_
  refine sz_dup dX12_term_47 rfl ?_
  refine sz_getI dX12_term_48 flX12_127 kd39 rfl ?_
  refine sz_iconst dX12_term_51 (cI1) ?_
  refine sz_iadd dX12_term_52 ?_
  obtain ⟨g53, eg53, hf⟩ := gz_lt hf
  refine sz_putI2 dX12_term_53 flX12_127 kd39 fi12_10 eg53 ?_
  refine sz_aload_n dX12_term_56 rfl ?_
  obtain ⟨q57, eq57, hf⟩ := gz_bd hf
  refine sz_callVi [] [] dX12_term_57 mvX12_179 (by omega) (by decide : 12 < 13) kd39 rfl (Nat.le_of_ble_eq_true rfl) (kX12_atom HX12_sum hB  eq57) ?_
  refine sz_i2l dX12_term_60 ?_
  obtain ⟨y61, ey61, hf⟩ := gz_lt hf
  refine sz_topl ey61 ?_
  refine sz_lstore_n dX12_term_61 rfl (Nat.le_of_ble_eq_true rfl) rfl ?_
  refine sz_ls (l2 := [some (.ref 39), some (.int x1), some (.int s0), some (.long y61), none]) rfl ?_
  refine sz_iload_n dX12_term_62 rfl ?_
  refine sz_if_eq 73 dX12_term_63 (by decide) (fun c63 => ?_) (fun c63 => ?_)
  · have hf := gz_ip c63 hf
    refine sz_lload_n dX12_term_73 rfl ?_
    refine sz_lconst (v := 0) dX12_term_74 rfl ?_
    refine sz_lcmp dX12_term_75 ?_
    refine sz_if_ne 83 dX12_term_76 (by decide) (fun c76 => ?_) (fun c76 => ?_)
    · have hf := gz_in1 c76 hf
      refine sz_iload_n dX12_term_83 rfl ?_
      refine sz_i2l dX12_term_84 ?_
      refine sz_lload_n dX12_term_85 rfl ?_
      obtain ⟨c86, hf⟩ := gz_gd hf
      refine sz_ldiv dX12_term_86 c86 ?_
      refine sz_weak (l2 := [some (.ref 39), none, none, none, none]) (gz_subk (gz_subn (gz_subn (gz_subn (gz_subk gz_sub0))))) ?_
      exact tX12_term_87 HX12_sum hB  hk5 _ _ _ hf
    · have hf := gz_ip c76 hf
      refine sz_lconst (v := 0) dX12_term_79 rfl ?_
      refine sz_goto 87 dX12_term_80 (by decide) ?_
      refine sz_weak (l2 := [some (.ref 39), none, none, none, none]) (gz_subk (gz_subn (gz_subn (gz_subn (gz_subk gz_sub0))))) ?_
      exact tX12_term_87 HX12_sum hB  hk5 _ _ _ hf
  · have hf := gz_in1 c63 hf
    refine sz_iload_n dX12_term_66 rfl ?_
    refine sz_i2l dX12_term_67 ?_
    refine sz_lload_n dX12_term_68 rfl ?_
    refine sz_lmul dX12_term_69 ?_
    refine sz_goto 87 dX12_term_70 (by decide) ?_
    refine sz_weak (l2 := [some (.ref 39), none, none, none, none]) (gz_subk (gz_subn (gz_subn (gz_subn (gz_subk gz_sub0))))) ?_
    exact tX12_term_87 HX12_sum hB  hk5 _ _ _ hf
def fX12_term_31 (La : gz_L) (FX12_sum : gz_S → Option (Int32 × gz_S))  (k5 : Int32 → gz_S → Option (Int32 × gz_S)) (x1 : Int32) (g : gz_S) : Option (Int32 × gz_S) := (fX12_look La   g).bind (fun q32 => if q32.1 = 42 then fX12_term_45 La FX12_sum  k5  x1 1 q32.2 else fX12_term_45 La FX12_sum  k5  x1 0 q32.2)
set_option maxRecDepth 100000 in
set_option maxHeartbeats 4000000 in
theorem tX12_term_31 {La : gz_L} {hr : Nat} {FX12_sum : gz_S → Option (Int32 × gz_S)} (HX12_sum : ∀  (g : gz_S) (r : Int32 × gz_S), FX12_sum  g = some r → gz_K La hr mX12_sum [.ref 39] g (gz_Fi r)) (hB : 20 ≤ hr)  {k5 : Int32 → gz_S → Option (Int32 × gz_S)}  (hk5 : ∀ (x1 : Int32) (g : gz_S) (r : Int32 × gz_S), k5 x1 g = some r → gz_J La (hr + 2) mX12_term 5 [some (.ref 39), some (.int x1), none, none, none] [] g (gz_Fi r)) : ∀ (x1 : Int32) (g : gz_S) (r : Int32 × gz_S), fX12_term_31 La FX12_sum  k5 x1 g = some r → gz_J La (hr + 2) mX12_term 31 [some (.ref 39), some (.int x1), none, none, none] [] g (gz_Fi r) := by
  intro x1 g r hf
  unfold fX12_term_31 at hf
  refine sz_aload_n dX12_term_31 rfl ?_
  obtain ⟨q32, eq32, hf⟩ := gz_bd hf
  refine sz_callVi [] [] dX12_term_32 mvX12_146 (by omega) (by decide : 12 < 13) kd39 rfl (Nat.le_of_ble_eq_true rfl) (kX12_look   eq32) ?_
  refine sz_bipush dX12_term_35 (cB42) ?_
  refine sz_icmp_ne 44 dX12_term_37 (by decide) (fun c37 => ?_) (fun c37 => ?_)
  · have hf := gz_in1 c37 hf
    refine sz_iconst dX12_term_44 (cI0) ?_
    exact tX12_term_45 HX12_sum hB  hk5 _ _ _ _ hf
  · have hf := gz_ip c37 hf
    refine sz_iconst dX12_term_40 (cI1) ?_
    refine sz_goto 45 dX12_term_41 (by decide) ?_
    exact tX12_term_45 HX12_sum hB  hk5 _ _ _ _ hf
def fX12_term_5 (La : gz_L) (FX12_sum : gz_S → Option (Int32 × gz_S))   : Nat → Int32 → gz_S → Option (Int32 × gz_S)
  | 0, _, _ => none
  | n + 1, x1, g => if (g.1 39 11) = (-1) then (fX12_look La   g).bind (fun q14 => if q14.1 = 42 then fX12_term_31 La FX12_sum  (fX12_term_5 La FX12_sum   n)  x1 q14.2 else (fX12_look La   q14.2).bind (fun q23 => if q23.1 = 47 then fX12_term_31 La FX12_sum  (fX12_term_5 La FX12_sum   n)  x1 q23.2 else some (x1, q23.2))) else some (x1, g)
set_option maxRecDepth 100000 in
set_option maxHeartbeats 4000000 in
theorem tX12_term_5 {La : gz_L} {hr : Nat} {FX12_sum : gz_S → Option (Int32 × gz_S)} (HX12_sum : ∀  (g : gz_S) (r : Int32 × gz_S), FX12_sum  g = some r → gz_K La hr mX12_sum [.ref 39] g (gz_Fi r)) (hB : 20 ≤ hr)     : ∀ (n : Nat) (x1 : Int32) (g : gz_S) (r : Int32 × gz_S), fX12_term_5 La FX12_sum   n x1 g = some r → gz_J La (hr + 2) mX12_term 5 [some (.ref 39), some (.int x1), none, none, none] [] g (gz_Fi r) := by
  intro n
  induction n with
  | zero => intro x1 g r hf; exact nomatch (show (none : Option (Int32 × gz_S)) = some r from hf)
  | succ n ih =>
    intro x1 g r hf
    unfold fX12_term_5 at hf
    refine sz_aload_n dX12_term_5 rfl ?_
    refine sz_getI dX12_term_6 flX12_136 kd39 rfl ?_
    refine sz_iconst dX12_term_9 (cIm1) ?_
    refine sz_icmp_ne 94 dX12_term_10 (by decide) (fun c10 => ?_) (fun c10 => ?_)
    · have hf := gz_in1 c10 hf
      refine sz_iload_n dX12_term_94 rfl ?_
      cases hf
      exact sz_iret dX12_term_95 rfl rfl ⟨rfl, rfl⟩
    · have hf := gz_ip c10 hf
      refine sz_aload_n dX12_term_13 rfl ?_
      obtain ⟨q14, eq14, hf⟩ := gz_bd hf
      refine sz_callVi [] [] dX12_term_14 mvX12_146 (by omega) (by decide : 12 < 13) kd39 rfl (Nat.le_of_ble_eq_true rfl) (kX12_look   eq14) ?_
      refine sz_bipush dX12_term_17 (cB42) ?_
      refine sz_icmp_eq 31 dX12_term_19 (by decide) (fun c19 => ?_) (fun c19 => ?_)
      · have hf := gz_ip c19 hf
        exact tX12_term_31 HX12_sum hB  ih _ _ _ hf
      · have hf := gz_in1 c19 hf
        refine sz_aload_n dX12_term_22 rfl ?_
        obtain ⟨q23, eq23, hf⟩ := gz_bd hf
        refine sz_callVi [] [] dX12_term_23 mvX12_146 (by omega) (by decide : 12 < 13) kd39 rfl (Nat.le_of_ble_eq_true rfl) (kX12_look   eq23) ?_
        refine sz_bipush dX12_term_26 (cB47) ?_
        refine sz_icmp_ne 94 dX12_term_28 (by decide) (fun c28 => ?_) (fun c28 => ?_)
        · have hf := gz_in1 c28 hf
          refine sz_iload_n dX12_term_94 rfl ?_
          cases hf
          exact sz_iret dX12_term_95 rfl rfl ⟨rfl, rfl⟩
        · have hf := gz_ip c28 hf
          exact tX12_term_31 HX12_sum hB  ih _ _ _ hf
def fX12_term (La : gz_L) (FX12_sum : gz_S → Option (Int32 × gz_S))  (g : gz_S) : Option (Int32 × gz_S) :=
  (fX12_atom La FX12_sum  g).bind (fun q1 => fX12_term_5 La FX12_sum   gz_FU q1.1 q1.2)
set_option maxRecDepth 100000 in
set_option maxHeartbeats 4000000 in
theorem kX12_term {La : gz_L} {hr : Nat} {FX12_sum : gz_S → Option (Int32 × gz_S)} (HX12_sum : ∀  (g : gz_S) (r : Int32 × gz_S), FX12_sum  g = some r → gz_K La hr mX12_sum [.ref 39] g (gz_Fi r)) (hB : 20 ≤ hr)  {g : gz_S} {r : Int32 × gz_S}  (hf : fX12_term La FX12_sum  g = some r) : gz_K La (hr + 2) mX12_term [.ref 39] g (gz_Fi r) := by
  unfold fX12_term at hf
  refine gz_K.of 4 (by decide +kernel) rfl ?_
  show gz_J La (hr + 2) mX12_term 0 [some (.ref 39), none, none, none, none] [] g (gz_Fi r)
  refine sz_aload_n dX12_term_0 rfl ?_
  obtain ⟨q1, eq1, hf⟩ := gz_bd hf
  refine sz_callVi [] [] dX12_term_1 mvX12_179 (by omega) (by decide : 12 < 13) kd39 rfl (Nat.le_of_ble_eq_true rfl) (kX12_atom HX12_sum hB  eq1) ?_
  refine sz_istore_n dX12_term_4 rfl (Nat.le_of_ble_eq_true rfl) rfl ?_
  refine sz_ls (l2 := [some (.ref 39), some (.int q1.1), none, none, none]) rfl ?_
  exact tX12_term_5 HX12_sum hB   _ _ _ _ hf
def fX12_sum_77 (La : gz_L) (FX12_sum : gz_S → Option (Int32 × gz_S))  (k5 : Int32 → gz_S → Option (Int32 × gz_S)) (s0 : Int64) (g : gz_S) : Option (Int32 × gz_S) := (fX12_within La  s0 g).bind (fun q77 => k5 q77.1 q77.2)
set_option maxRecDepth 100000 in
set_option maxHeartbeats 4000000 in
theorem tX12_sum_77 {La : gz_L} {hr : Nat} {FX12_sum : gz_S → Option (Int32 × gz_S)} (HX12_sum : ∀  (g : gz_S) (r : Int32 × gz_S), FX12_sum  g = some r → gz_K La hr mX12_sum [.ref 39] g (gz_Fi r)) (hB : 20 ≤ hr)  {k5 : Int32 → gz_S → Option (Int32 × gz_S)}  (hk5 : ∀ (x1 : Int32) (g : gz_S) (r : Int32 × gz_S), k5 x1 g = some r → gz_J La (hr + 3) mX12_sum 5 [some (.ref 39), some (.int x1), none, none, none] [] g (gz_Fi r)) : ∀ (s0 : Int64) (g : gz_S) (r : Int32 × gz_S), fX12_sum_77 La FX12_sum  k5 s0 g = some r → gz_J La (hr + 3) mX12_sum 77 [some (.ref 39), none, none, none, none] [.long s0] g (gz_Fi r) := by
  intro s0 g r hf
  unfold fX12_sum_77 at hf
  obtain ⟨q77, eq77, hf⟩ := gz_bd hf
  refine sz_callSi [.long s0] [] dX12_sum_77 msX12_182 (by omega) (Nat.le_of_ble_eq_true rfl) (kX12_within   eq77) ?_
  refine sz_istore_n dX12_sum_80 rfl (Nat.le_of_ble_eq_true rfl) rfl ?_
  refine sz_ls (l2 := [some (.ref 39), some (.int q77.1), none, none, none]) rfl ?_
  refine sz_goto 5 dX12_sum_81 (by decide) ?_
  exact hk5 _ _ _ hf
def fX12_sum_45 (La : gz_L) (FX12_sum : gz_S → Option (Int32 × gz_S))  (k5 : Int32 → gz_S → Option (Int32 × gz_S)) (x1 : Int32) (s0 : Int32) (g : gz_S) : Option (Int32 × gz_S) := gz_let (gz_wi g 39 10 ((g.1 39 10) + 1)) (fun g53 => (fX12_term La FX12_sum  g53).bind (fun q57 => gz_let (Int32.toInt64 q57.1) (fun y61 => if s0 = 0 then fX12_sum_77 La FX12_sum  k5  ((Int32.toInt64 x1) - y61) q57.2 else fX12_sum_77 La FX12_sum  k5  ((Int32.toInt64 x1) + y61) q57.2)))
set_option maxRecDepth 100000 in
set_option maxHeartbeats 4000000 in
theorem tX12_sum_45 {La : gz_L} {hr : Nat} {FX12_sum : gz_S → Option (Int32 × gz_S)} (HX12_sum : ∀  (g : gz_S) (r : Int32 × gz_S), FX12_sum  g = some r → gz_K La hr mX12_sum [.ref 39] g (gz_Fi r)) (hB : 20 ≤ hr)  {k5 : Int32 → gz_S → Option (Int32 × gz_S)}  (hk5 : ∀ (x1 : Int32) (g : gz_S) (r : Int32 × gz_S), k5 x1 g = some r → gz_J La (hr + 3) mX12_sum 5 [some (.ref 39), some (.int x1), none, none, none] [] g (gz_Fi r)) : ∀ (x1 : Int32) (s0 : Int32) (g : gz_S) (r : Int32 × gz_S), fX12_sum_45 La FX12_sum  k5 x1 s0 g = some r → gz_J La (hr + 3) mX12_sum 45 [some (.ref 39), some (.int x1), none, none, none] [.int s0] g (gz_Fi r) := by
  intro x1 s0 g r hf
  unfold fX12_sum_45 at hf
  refine sz_istore_n dX12_sum_45 rfl (Nat.le_of_ble_eq_true rfl) rfl ?_
  refine sz_ls (l2 := [some (.ref 39), some (.int x1), some (.int s0), none, none]) rfl ?_
  refine sz_aload_n dX12_sum_46 rfl ?_
  refine sz_dup dX12_sum_47 rfl ?_
  refine sz_getI dX12_sum_48 flX12_127 kd39 rfl ?_
  refine sz_iconst dX12_sum_51 (cI1) ?_
  refine sz_iadd dX12_sum_52 ?_
  obtain ⟨g53, eg53, hf⟩ := gz_lt hf
  refine sz_putI2 dX12_sum_53 flX12_127 kd39 fi12_10 eg53 ?_
  refine sz_aload_n dX12_sum_56 rfl ?_
  obtain ⟨q57, eq57, hf⟩ := gz_bd hf
  refine sz_callVi [] [] dX12_sum_57 mvX12_186 (by omega) (by decide : 12 < 13) kd39 rfl (Nat.le_of_ble_eq_true rfl) (kX12_term HX12_sum hB  eq57) ?_
  refine sz_i2l dX12_sum_60 ?_
  obtain ⟨y61, ey61, hf⟩ := gz_lt hf
  refine sz_topl ey61 ?_
  refine sz_lstore_n dX12_sum_61 rfl (Nat.le_of_ble_eq_true rfl) rfl ?_
  refine sz_ls (l2 := [some (.ref 39), some (.int x1), some (.int s0), some (.long y61), none]) rfl ?_
  refine sz_iload_n dX12_sum_62 rfl ?_
  refine sz_if_eq 73 dX12_sum_63 (by decide) (fun c63 => ?_) (fun c63 => ?_)
  · have hf := gz_ip c63 hf
    refine sz_iload_n dX12_sum_73 rfl ?_
    refine sz_i2l dX12_sum_74 ?_
    refine sz_lload_n dX12_sum_75 rfl ?_
    refine sz_lsub dX12_sum_76 ?_
    refine sz_weak (l2 := [some (.ref 39), none, none, none, none]) (gz_subk (gz_subn (gz_subn (gz_subn (gz_subk gz_sub0))))) ?_
    exact tX12_sum_77 HX12_sum hB  hk5 _ _ _ hf
  · have hf := gz_in1 c63 hf
    refine sz_iload_n dX12_sum_66 rfl ?_
    refine sz_i2l dX12_sum_67 ?_
    refine sz_lload_n dX12_sum_68 rfl ?_
    refine sz_ladd dX12_sum_69 ?_
    refine sz_goto 77 dX12_sum_70 (by decide) ?_
    refine sz_weak (l2 := [some (.ref 39), none, none, none, none]) (gz_subk (gz_subn (gz_subn (gz_subn (gz_subk gz_sub0))))) ?_
    exact tX12_sum_77 HX12_sum hB  hk5 _ _ _ hf
def fX12_sum_31 (La : gz_L) (FX12_sum : gz_S → Option (Int32 × gz_S))  (k5 : Int32 → gz_S → Option (Int32 × gz_S)) (x1 : Int32) (g : gz_S) : Option (Int32 × gz_S) := (fX12_look La   g).bind (fun q32 => if q32.1 = 43 then fX12_sum_45 La FX12_sum  k5  x1 1 q32.2 else fX12_sum_45 La FX12_sum  k5  x1 0 q32.2)
set_option maxRecDepth 100000 in
set_option maxHeartbeats 4000000 in
theorem tX12_sum_31 {La : gz_L} {hr : Nat} {FX12_sum : gz_S → Option (Int32 × gz_S)} (HX12_sum : ∀  (g : gz_S) (r : Int32 × gz_S), FX12_sum  g = some r → gz_K La hr mX12_sum [.ref 39] g (gz_Fi r)) (hB : 20 ≤ hr)  {k5 : Int32 → gz_S → Option (Int32 × gz_S)}  (hk5 : ∀ (x1 : Int32) (g : gz_S) (r : Int32 × gz_S), k5 x1 g = some r → gz_J La (hr + 3) mX12_sum 5 [some (.ref 39), some (.int x1), none, none, none] [] g (gz_Fi r)) : ∀ (x1 : Int32) (g : gz_S) (r : Int32 × gz_S), fX12_sum_31 La FX12_sum  k5 x1 g = some r → gz_J La (hr + 3) mX12_sum 31 [some (.ref 39), some (.int x1), none, none, none] [] g (gz_Fi r) := by
  intro x1 g r hf
  unfold fX12_sum_31 at hf
  refine sz_aload_n dX12_sum_31 rfl ?_
  obtain ⟨q32, eq32, hf⟩ := gz_bd hf
  refine sz_callVi [] [] dX12_sum_32 mvX12_146 (by omega) (by decide : 12 < 13) kd39 rfl (Nat.le_of_ble_eq_true rfl) (kX12_look   eq32) ?_
  refine sz_bipush dX12_sum_35 (cB43) ?_
  refine sz_icmp_ne 44 dX12_sum_37 (by decide) (fun c37 => ?_) (fun c37 => ?_)
  · have hf := gz_in1 c37 hf
    refine sz_iconst dX12_sum_44 (cI0) ?_
    exact tX12_sum_45 HX12_sum hB  hk5 _ _ _ _ hf
  · have hf := gz_ip c37 hf
    refine sz_iconst dX12_sum_40 (cI1) ?_
    refine sz_goto 45 dX12_sum_41 (by decide) ?_
    exact tX12_sum_45 HX12_sum hB  hk5 _ _ _ _ hf
def fX12_sum_5 (La : gz_L) (FX12_sum : gz_S → Option (Int32 × gz_S))   : Nat → Int32 → gz_S → Option (Int32 × gz_S)
  | 0, _, _ => none
  | n + 1, x1, g => if (g.1 39 11) = (-1) then (fX12_look La   g).bind (fun q14 => if q14.1 = 43 then fX12_sum_31 La FX12_sum  (fX12_sum_5 La FX12_sum   n)  x1 q14.2 else (fX12_look La   q14.2).bind (fun q23 => if q23.1 = 45 then fX12_sum_31 La FX12_sum  (fX12_sum_5 La FX12_sum   n)  x1 q23.2 else some (x1, q23.2))) else some (x1, g)
set_option maxRecDepth 100000 in
set_option maxHeartbeats 4000000 in
theorem tX12_sum_5 {La : gz_L} {hr : Nat} {FX12_sum : gz_S → Option (Int32 × gz_S)} (HX12_sum : ∀  (g : gz_S) (r : Int32 × gz_S), FX12_sum  g = some r → gz_K La hr mX12_sum [.ref 39] g (gz_Fi r)) (hB : 20 ≤ hr)     : ∀ (n : Nat) (x1 : Int32) (g : gz_S) (r : Int32 × gz_S), fX12_sum_5 La FX12_sum   n x1 g = some r → gz_J La (hr + 3) mX12_sum 5 [some (.ref 39), some (.int x1), none, none, none] [] g (gz_Fi r) := by
  intro n
  induction n with
  | zero => intro x1 g r hf; exact nomatch (show (none : Option (Int32 × gz_S)) = some r from hf)
  | succ n ih =>
    intro x1 g r hf
    unfold fX12_sum_5 at hf
    refine sz_aload_n dX12_sum_5 rfl ?_
    refine sz_getI dX12_sum_6 flX12_136 kd39 rfl ?_
    refine sz_iconst dX12_sum_9 (cIm1) ?_
    refine sz_icmp_ne 84 dX12_sum_10 (by decide) (fun c10 => ?_) (fun c10 => ?_)
    · have hf := gz_in1 c10 hf
      refine sz_iload_n dX12_sum_84 rfl ?_
      cases hf
      exact sz_iret dX12_sum_85 rfl rfl ⟨rfl, rfl⟩
    · have hf := gz_ip c10 hf
      refine sz_aload_n dX12_sum_13 rfl ?_
      obtain ⟨q14, eq14, hf⟩ := gz_bd hf
      refine sz_callVi [] [] dX12_sum_14 mvX12_146 (by omega) (by decide : 12 < 13) kd39 rfl (Nat.le_of_ble_eq_true rfl) (kX12_look   eq14) ?_
      refine sz_bipush dX12_sum_17 (cB43) ?_
      refine sz_icmp_eq 31 dX12_sum_19 (by decide) (fun c19 => ?_) (fun c19 => ?_)
      · have hf := gz_ip c19 hf
        exact tX12_sum_31 HX12_sum hB  ih _ _ _ hf
      · have hf := gz_in1 c19 hf
        refine sz_aload_n dX12_sum_22 rfl ?_
        obtain ⟨q23, eq23, hf⟩ := gz_bd hf
        refine sz_callVi [] [] dX12_sum_23 mvX12_146 (by omega) (by decide : 12 < 13) kd39 rfl (Nat.le_of_ble_eq_true rfl) (kX12_look   eq23) ?_
        refine sz_bipush dX12_sum_26 (cB45) ?_
        refine sz_icmp_ne 84 dX12_sum_28 (by decide) (fun c28 => ?_) (fun c28 => ?_)
        · have hf := gz_in1 c28 hf
          refine sz_iload_n dX12_sum_84 rfl ?_
          cases hf
          exact sz_iret dX12_sum_85 rfl rfl ⟨rfl, rfl⟩
        · have hf := gz_ip c28 hf
          exact tX12_sum_31 HX12_sum hB  ih _ _ _ hf
def fX12_sum (La : gz_L) (FX12_sum : gz_S → Option (Int32 × gz_S))  (g : gz_S) : Option (Int32 × gz_S) :=
  (fX12_term La FX12_sum  g).bind (fun q1 => fX12_sum_5 La FX12_sum   gz_FU q1.1 q1.2)
set_option maxRecDepth 100000 in
set_option maxHeartbeats 4000000 in
theorem kX12_sum {La : gz_L} {hr : Nat} {FX12_sum : gz_S → Option (Int32 × gz_S)} (HX12_sum : ∀  (g : gz_S) (r : Int32 × gz_S), FX12_sum  g = some r → gz_K La hr mX12_sum [.ref 39] g (gz_Fi r)) (hB : 20 ≤ hr)  {g : gz_S} {r : Int32 × gz_S}  (hf : fX12_sum La FX12_sum  g = some r) : gz_K La (hr + 3) mX12_sum [.ref 39] g (gz_Fi r) := by
  unfold fX12_sum at hf
  refine gz_K.of 4 (by decide +kernel) rfl ?_
  show gz_J La (hr + 3) mX12_sum 0 [some (.ref 39), none, none, none, none] [] g (gz_Fi r)
  refine sz_aload_n dX12_sum_0 rfl ?_
  obtain ⟨q1, eq1, hf⟩ := gz_bd hf
  refine sz_callVi [] [] dX12_sum_1 mvX12_186 (by omega) (by decide : 12 < 13) kd39 rfl (Nat.le_of_ble_eq_true rfl) (kX12_term HX12_sum hB  eq1) ?_
  refine sz_istore_n dX12_sum_4 rfl (Nat.le_of_ble_eq_true rfl) rfl ?_
  refine sz_ls (l2 := [some (.ref 39), some (.int q1.1), none, none, none]) rfl ?_
  exact tX12_sum_5 HX12_sum hB   _ _ _ _ hf
def fX12_sumD (La : gz_L) : Nat → gz_S → Option (Int32 × gz_S)
  | 0, _ => none
  | d + 1, g => fX12_sum La (fX12_sumD La d)  g
theorem kX12_sumD {La : gz_L} : ∀ (d : Nat)  (g : gz_S) (r : Int32 × gz_S), fX12_sumD La d  g = some r → gz_K La (20 + 3 * d) mX12_sum [.ref 39] g (gz_Fi r) := by
  intro d
  induction d with
  | zero => intro  g r hf; exact nomatch (show (none : Option (Int32 × gz_S)) = some r from hf)
  | succ d ih =>
    intro  g r hf
    have e : 20 + 3 * (d + 1) = (20 + 3 * d) + 3 := by omega
    rw [e]
    exact kX12_sum (hr := 20 + 3 * d) ih (Nat.le_add_right _ _) hf
def fX12_sumT (La : gz_L)  (g : gz_S) : Option (Int32 × gz_S) := fX12_sumD La 12  g
theorem kX12_sumT {La : gz_L}  {g : gz_S} {r : Int32 × gz_S} (hf : fX12_sumT La  g = some r) : gz_K La 56 mX12_sum [.ref 39] g (gz_Fi r) := kX12_sumD 12  g r hf

def fX12_isSign (La : gz_L)  (x0 : Int32) (g : gz_S) : Option (Int32 × gz_S) :=
  if x0 = 61 then some (1, g) else if x0 = 60 then some (1, g) else if x0 = 62 then some (1, g) else some (0, g)
set_option maxRecDepth 100000 in
set_option maxHeartbeats 4000000 in
theorem kX12_isSign {La : gz_L}  {x0 : Int32} {g : gz_S} {r : Int32 × gz_S}  (hf : fX12_isSign La  x0 g = some r) : gz_K La 1 mX12_isSign [.int x0] g (gz_Fi r) := by
  unfold fX12_isSign at hf
  refine gz_K.of 0 (by decide +kernel) rfl ?_
  show gz_J La 1 mX12_isSign 0 [some (.int x0)] [] g (gz_Fi r)
  refine sz_iload_n dX12_isSign_0 rfl ?_
  refine sz_bipush dX12_isSign_1 (cB61) ?_
  refine sz_icmp_eq 18 dX12_isSign_3 (by decide) (fun c3 => ?_) (fun c3 => ?_)
  · have hf := gz_ip c3 hf
    refine sz_iconst dX12_isSign_18 (cI1) ?_
    refine sz_goto 23 dX12_isSign_19 (by decide) ?_
    cases hf
    exact sz_iret dX12_isSign_23 rfl rfl ⟨rfl, rfl⟩
  · have hf := gz_in1 c3 hf
    refine sz_iload_n dX12_isSign_6 rfl ?_
    refine sz_bipush dX12_isSign_7 (cB60) ?_
    refine sz_icmp_eq 18 dX12_isSign_9 (by decide) (fun c9 => ?_) (fun c9 => ?_)
    · have hf := gz_ip c9 hf
      refine sz_iconst dX12_isSign_18 (cI1) ?_
      refine sz_goto 23 dX12_isSign_19 (by decide) ?_
      cases hf
      exact sz_iret dX12_isSign_23 rfl rfl ⟨rfl, rfl⟩
    · have hf := gz_in1 c9 hf
      refine sz_iload_n dX12_isSign_12 rfl ?_
      refine sz_bipush dX12_isSign_13 (cB62) ?_
      refine sz_icmp_ne 22 dX12_isSign_15 (by decide) (fun c15 => ?_) (fun c15 => ?_)
      · have hf := gz_in1 c15 hf
        refine sz_iconst dX12_isSign_22 (cI0) ?_
        cases hf
        exact sz_iret dX12_isSign_23 rfl rfl ⟨rfl, rfl⟩
      · have hf := gz_ip c15 hf
        refine sz_iconst dX12_isSign_18 (cI1) ?_
        refine sz_goto 23 dX12_isSign_19 (by decide) ?_
        cases hf
        exact sz_iret dX12_isSign_23 rfl rfl ⟨rfl, rfl⟩
def fX12_compares_12 (La : gz_L)    (s0 : Int32) (g : gz_S) : Option (Int32 × gz_S) := if (g.1 39 11) = (-1) then (fX12_look La   g).bind (fun q24 => (fX12_isSign La  q24.1 q24.2).bind (fun q31 => if q31.1 = 0 then (fX12_fails La   q31.2).bind (fun q38 => if q38.1 = 0 ∨ q38.1 = 1 then some (q38.1, q38.2) else none) else gz_let (gz_wi q31.2 39 10 ((q31.2.1 39 10) + 1)) (fun g49 => (fX12_sumT La  g49).bind (fun q53 => if q24.1 = 61 then if s0 = q53.1 then some (1, q53.2) else some (0, q53.2) else if q24.1 = 60 then if q53.1 ≤ s0 then some (0, q53.2) else some (1, q53.2) else if s0 ≤ q53.1 then some (0, q53.2) else some (1, q53.2))))) else some (0, g)
set_option maxRecDepth 100000 in
set_option maxHeartbeats 4000000 in
theorem tX12_compares_12 {La : gz_L}      : ∀ (s0 : Int32) (g : gz_S) (r : Int32 × gz_S), fX12_compares_12 La    s0 g = some r → gz_J La 57 mX12_compares 12 [some (.ref 39), none, none, none, none, none] [.int s0] g (gz_Fi r) := by
  intro s0 g r hf
  unfold fX12_compares_12 at hf
  refine sz_istore_n dX12_compares_12 rfl (Nat.le_of_ble_eq_true rfl) rfl ?_
  refine sz_ls (l2 := [some (.ref 39), none, none, some (.int s0), none, none]) rfl ?_
  refine sz_aload_n dX12_compares_13 rfl ?_
  refine sz_getI dX12_compares_14 flX12_136 kd39 rfl ?_
  refine sz_iconst dX12_compares_17 (cIm1) ?_
  refine sz_icmp_eq 23 dX12_compares_18 (by decide) (fun c18 => ?_) (fun c18 => ?_)
  · have hf := gz_ip c18 hf
    refine sz_aload_n dX12_compares_23 rfl ?_
    obtain ⟨q24, eq24, hf⟩ := gz_bd hf
    refine sz_callVi [] [] dX12_compares_24 mvX12_146 (Nat.le_of_ble_eq_true rfl) (by decide : 12 < 13) kd39 rfl (Nat.le_of_ble_eq_true rfl) (kX12_look   eq24) ?_
    refine sz_istore dX12_compares_27 (Nat.le_of_ble_eq_true rfl) rfl ?_
    refine sz_ls (l2 := [some (.ref 39), none, none, some (.int s0), some (.int q24.1), none]) rfl ?_
    refine sz_iload dX12_compares_29 rfl ?_
    obtain ⟨q31, eq31, hf⟩ := gz_bd hf
    refine sz_callSi [.int q24.1] [] dX12_compares_31 msX12_189 (Nat.le_of_ble_eq_true rfl) (Nat.le_of_ble_eq_true rfl) (kX12_isSign   eq31) ?_
    refine sz_if_ne 42 dX12_compares_34 (by decide) (fun c34 => ?_) (fun c34 => ?_)
    · have hf := gz_in1 c34 hf
      refine sz_aload_n dX12_compares_42 rfl ?_
      refine sz_dup dX12_compares_43 rfl ?_
      refine sz_getI dX12_compares_44 flX12_127 kd39 rfl ?_
      refine sz_iconst dX12_compares_47 (cI1) ?_
      refine sz_iadd dX12_compares_48 ?_
      obtain ⟨g49, eg49, hf⟩ := gz_lt hf
      refine sz_putI2 dX12_compares_49 flX12_127 kd39 fi12_10 eg49 ?_
      refine sz_aload_n dX12_compares_52 rfl ?_
      obtain ⟨q53, eq53, hf⟩ := gz_bd hf
      refine sz_callVi [] [] dX12_compares_53 mvX12_169 (Nat.le_of_ble_eq_true rfl) (by decide : 12 < 13) kd39 rfl (Nat.le_of_ble_eq_true rfl) (kX12_sumT eq53) ?_
      refine sz_istore dX12_compares_56 (Nat.le_of_ble_eq_true rfl) rfl ?_
      refine sz_ls (l2 := [some (.ref 39), none, none, some (.int s0), some (.int q24.1), some (.int q53.1)]) rfl ?_
      refine sz_iload dX12_compares_58 rfl ?_
      refine sz_bipush dX12_compares_60 (cB61) ?_
      refine sz_icmp_ne 79 dX12_compares_62 (by decide) (fun c62 => ?_) (fun c62 => ?_)
      · have hf := gz_in1 c62 hf
        refine sz_iload dX12_compares_79 rfl ?_
        refine sz_bipush dX12_compares_81 (cB60) ?_
        refine sz_icmp_ne 100 dX12_compares_83 (by decide) (fun c83 => ?_) (fun c83 => ?_)
        · have hf := gz_in1 c83 hf
          refine sz_iload_n dX12_compares_100 rfl ?_
          refine sz_iload dX12_compares_101 rfl ?_
          refine sz_icmp_le 110 dX12_compares_103 (by decide) (fun c103 => ?_) (fun c103 => ?_)
          · have hf := gz_ip c103 hf
            refine sz_iconst dX12_compares_110 (cI0) ?_
            cases hf
            exact sz_iret dX12_compares_111 rfl rfl ⟨rfl, rfl⟩
          · have hf := gz_in1 c103 hf
            refine sz_iconst dX12_compares_106 (cI1) ?_
            refine sz_goto 111 dX12_compares_107 (by decide) ?_
            cases hf
            exact sz_iret dX12_compares_111 rfl rfl ⟨rfl, rfl⟩
        · have hf := gz_ip c83 hf
          refine sz_iload_n dX12_compares_86 rfl ?_
          refine sz_iload dX12_compares_87 rfl ?_
          refine sz_icmp_ge 96 dX12_compares_89 (by decide) (fun c89 => ?_) (fun c89 => ?_)
          · have hf := gz_ip c89 hf
            refine sz_iconst dX12_compares_96 (cI0) ?_
            refine sz_goto 111 dX12_compares_97 (by decide) ?_
            cases hf
            exact sz_iret dX12_compares_111 rfl rfl ⟨rfl, rfl⟩
          · have hf := gz_in1 c89 hf
            refine sz_iconst dX12_compares_92 (cI1) ?_
            refine sz_goto 111 dX12_compares_93 (by decide) ?_
            cases hf
            exact sz_iret dX12_compares_111 rfl rfl ⟨rfl, rfl⟩
      · have hf := gz_ip c62 hf
        refine sz_iload_n dX12_compares_65 rfl ?_
        refine sz_iload dX12_compares_66 rfl ?_
        refine sz_icmp_ne 75 dX12_compares_68 (by decide) (fun c68 => ?_) (fun c68 => ?_)
        · have hf := gz_in1 c68 hf
          refine sz_iconst dX12_compares_75 (cI0) ?_
          refine sz_goto 111 dX12_compares_76 (by decide) ?_
          cases hf
          exact sz_iret dX12_compares_111 rfl rfl ⟨rfl, rfl⟩
        · have hf := gz_ip c68 hf
          refine sz_iconst dX12_compares_71 (cI1) ?_
          refine sz_goto 111 dX12_compares_72 (by decide) ?_
          cases hf
          exact sz_iret dX12_compares_111 rfl rfl ⟨rfl, rfl⟩
    · have hf := gz_ip c34 hf
      refine sz_aload_n dX12_compares_37 rfl ?_
      obtain ⟨q38, eq38, hf⟩ := gz_bd hf
      refine sz_callVi [] [] dX12_compares_38 mvX12_142 (Nat.le_of_ble_eq_true rfl) (by decide : 12 < 13) kd39 rfl (Nat.le_of_ble_eq_true rfl) (kX12_fails   eq38) ?_
      obtain ⟨c41, hf⟩ := gz_gd hf
      cases hf
      exact sz_iret dX12_compares_41 rfl (gz_nbx c41) ⟨rfl, rfl⟩
  · have hf := gz_in1 c18 hf
    refine sz_iconst dX12_compares_21 (cI0) ?_
    cases hf
    exact sz_iret dX12_compares_22 rfl rfl ⟨rfl, rfl⟩
def fX12_compares (La : gz_L)  (x1 : Int32) (x2 : Int32) (g : gz_S) : Option (Int32 × gz_S) :=
  if x1 = 0 then (fX12_sumT La  g).bind (fun q9 => fX12_compares_12 La     q9.1 q9.2) else fX12_compares_12 La     x2 g
set_option maxRecDepth 100000 in
set_option maxHeartbeats 4000000 in
theorem kX12_compares {La : gz_L}  {x1 : Int32} {x2 : Int32} {g : gz_S} {r : Int32 × gz_S}  (hf : fX12_compares La  x1 x2 g = some r) : gz_K La 57 mX12_compares [.ref 39, .int x1, .int x2] g (gz_Fi r) := by
  unfold fX12_compares at hf
  refine gz_K.of 3 (by decide +kernel) rfl ?_
  show gz_J La 57 mX12_compares 0 [some (.ref 39), some (.int x1), some (.int x2), none, none, none] [] g (gz_Fi r)
  refine sz_iload_n dX12_compares_0 rfl ?_
  refine sz_if_eq 8 dX12_compares_1 (by decide) (fun c1 => ?_) (fun c1 => ?_)
  · have hf := gz_ip c1 hf
    refine sz_aload_n dX12_compares_8 rfl ?_
    obtain ⟨q9, eq9, hf⟩ := gz_bd hf
    refine sz_callVi [] [] dX12_compares_9 mvX12_169 (Nat.le_of_ble_eq_true rfl) (by decide : 12 < 13) kd39 rfl (Nat.le_of_ble_eq_true rfl) (kX12_sumT eq9) ?_
    refine sz_weak (l2 := [some (.ref 39), none, none, none, none, none]) (gz_subk (gz_subn (gz_subn (gz_subk (gz_subk (gz_subk gz_sub0)))))) ?_
    exact tX12_compares_12    _ _ _ hf
  · have hf := gz_in1 c1 hf
    refine sz_iload_n dX12_compares_4 rfl ?_
    refine sz_goto 12 dX12_compares_5 (by decide) ?_
    refine sz_weak (l2 := [some (.ref 39), none, none, none, none, none]) (gz_subk (gz_subn (gz_subn (gz_subk (gz_subk (gz_subk gz_sub0)))))) ?_
    exact tX12_compares_12    _ _ _ hf
def fX12_part_65 (La : gz_L) (FX12_unit : gz_S → Option (Int32 × gz_S))  (k18 : Int32 → gz_S → Option (Int32 × gz_S)) (s0 : Int32) (g : gz_S) : Option (Int32 × gz_S) := k18 s0 g
set_option maxRecDepth 100000 in
set_option maxHeartbeats 4000000 in
theorem tX12_part_65 {La : gz_L} {hr : Nat} {FX12_unit : gz_S → Option (Int32 × gz_S)} (HX12_unit : ∀  (g : gz_S) (r : Int32 × gz_S), FX12_unit  g = some r → gz_K La hr mX12_unit [.ref 39] g (gz_Fi r)) (hB : 100 ≤ hr)  {k18 : Int32 → gz_S → Option (Int32 × gz_S)}  (hk18 : ∀ (x3 : Int32) (g : gz_S) (r : Int32 × gz_S), k18 x3 g = some r → gz_J La (hr + 1) mX12_part 18 [some (.ref 39), none, none, some (.int x3), none] [] g (gz_Fi r)) : ∀ (s0 : Int32) (g : gz_S) (r : Int32 × gz_S), fX12_part_65 La FX12_unit  k18 s0 g = some r → gz_J La (hr + 1) mX12_part 65 [some (.ref 39), none, none, none, none] [.int s0] g (gz_Fi r) := by
  intro s0 g r hf
  unfold fX12_part_65 at hf
  refine sz_istore_n dX12_part_65 rfl (Nat.le_of_ble_eq_true rfl) rfl ?_
  refine sz_ls (l2 := [some (.ref 39), none, none, some (.int s0), none]) rfl ?_
  refine sz_goto 18 dX12_part_66 (by decide) ?_
  exact hk18 _ _ _ hf
def fX12_part_64 (La : gz_L) (FX12_unit : gz_S → Option (Int32 × gz_S))  (k18 : Int32 → gz_S → Option (Int32 × gz_S))  (g : gz_S) : Option (Int32 × gz_S) := fX12_part_65 La FX12_unit  k18  0 g
set_option maxRecDepth 100000 in
set_option maxHeartbeats 4000000 in
theorem tX12_part_64 {La : gz_L} {hr : Nat} {FX12_unit : gz_S → Option (Int32 × gz_S)} (HX12_unit : ∀  (g : gz_S) (r : Int32 × gz_S), FX12_unit  g = some r → gz_K La hr mX12_unit [.ref 39] g (gz_Fi r)) (hB : 100 ≤ hr)  {k18 : Int32 → gz_S → Option (Int32 × gz_S)}  (hk18 : ∀ (x3 : Int32) (g : gz_S) (r : Int32 × gz_S), k18 x3 g = some r → gz_J La (hr + 1) mX12_part 18 [some (.ref 39), none, none, some (.int x3), none] [] g (gz_Fi r)) : ∀  (g : gz_S) (r : Int32 × gz_S), fX12_part_64 La FX12_unit  k18  g = some r → gz_J La (hr + 1) mX12_part 64 [some (.ref 39), none, none, none, none] [] g (gz_Fi r) := by
  intro  g r hf
  unfold fX12_part_64 at hf
  refine sz_iconst dX12_part_64 (cI0) ?_
  exact tX12_part_65 HX12_unit hB  hk18 _ _ _ hf
def fX12_part_18 (La : gz_L) (FX12_unit : gz_S → Option (Int32 × gz_S))   : Nat → Int32 → gz_S → Option (Int32 × gz_S)
  | 0, _, _ => none
  | n + 1, x3, g => if (g.1 39 11) = (-1) then (fX12_look La   g).bind (fun q27 => if q27.1 = 38 then gz_let (gz_wi q27.2 39 10 ((q27.2.1 39 10) + 1)) (fun g42 => (FX12_unit  g42).bind (fun q46 => if x3 = 0 then fX12_part_64 La FX12_unit  (fX12_part_18 La FX12_unit   n)   q46.2 else if q46.1 = 0 then fX12_part_64 La FX12_unit  (fX12_part_18 La FX12_unit   n)   q46.2 else fX12_part_65 La FX12_unit  (fX12_part_18 La FX12_unit   n)  1 q46.2)) else if x3 = 0 ∨ x3 = 1 then some (x3, q27.2) else none) else if x3 = 0 ∨ x3 = 1 then some (x3, g) else none
set_option maxRecDepth 100000 in
set_option maxHeartbeats 4000000 in
theorem tX12_part_18 {La : gz_L} {hr : Nat} {FX12_unit : gz_S → Option (Int32 × gz_S)} (HX12_unit : ∀  (g : gz_S) (r : Int32 × gz_S), FX12_unit  g = some r → gz_K La hr mX12_unit [.ref 39] g (gz_Fi r)) (hB : 100 ≤ hr)     : ∀ (n : Nat) (x3 : Int32) (g : gz_S) (r : Int32 × gz_S), fX12_part_18 La FX12_unit   n x3 g = some r → gz_J La (hr + 1) mX12_part 18 [some (.ref 39), none, none, some (.int x3), none] [] g (gz_Fi r) := by
  intro n
  induction n with
  | zero => intro x3 g r hf; exact nomatch (show (none : Option (Int32 × gz_S)) = some r from hf)
  | succ n ih =>
    intro x3 g r hf
    unfold fX12_part_18 at hf
    refine sz_aload_n dX12_part_18 rfl ?_
    refine sz_getI dX12_part_19 flX12_136 kd39 rfl ?_
    refine sz_iconst dX12_part_22 (cIm1) ?_
    refine sz_icmp_ne 69 dX12_part_23 (by decide) (fun c23 => ?_) (fun c23 => ?_)
    · have hf := gz_in1 c23 hf
      refine sz_iload_n dX12_part_69 rfl ?_
      obtain ⟨c70, hf⟩ := gz_gd hf
      cases hf
      exact sz_iret dX12_part_70 rfl (gz_nbx c70) ⟨rfl, rfl⟩
    · have hf := gz_ip c23 hf
      refine sz_aload_n dX12_part_26 rfl ?_
      obtain ⟨q27, eq27, hf⟩ := gz_bd hf
      refine sz_callVi [] [] dX12_part_27 mvX12_146 (by omega) (by decide : 12 < 13) kd39 rfl (Nat.le_of_ble_eq_true rfl) (kX12_look   eq27) ?_
      refine sz_bipush dX12_part_30 (cB38) ?_
      refine sz_icmp_ne 69 dX12_part_32 (by decide) (fun c32 => ?_) (fun c32 => ?_)
      · have hf := gz_in1 c32 hf
        refine sz_iload_n dX12_part_69 rfl ?_
        obtain ⟨c70, hf⟩ := gz_gd hf
        cases hf
        exact sz_iret dX12_part_70 rfl (gz_nbx c70) ⟨rfl, rfl⟩
      · have hf := gz_ip c32 hf
        refine sz_aload_n dX12_part_35 rfl ?_
        refine sz_dup dX12_part_36 rfl ?_
        refine sz_getI dX12_part_37 flX12_127 kd39 rfl ?_
        refine sz_iconst dX12_part_40 (cI1) ?_
        refine sz_iadd dX12_part_41 ?_
        obtain ⟨g42, eg42, hf⟩ := gz_lt hf
        refine sz_putI2 dX12_part_42 flX12_127 kd39 fi12_10 eg42 ?_
        refine sz_aload_n dX12_part_45 rfl ?_
        obtain ⟨q46, eq46, hf⟩ := gz_bd hf
        refine sz_callVi [] [] dX12_part_46 mvX12_192 (by omega) (by decide : 12 < 13) kd39 rfl (Nat.le_of_ble_eq_true rfl) (HX12_unit  _ _ eq46) ?_
        refine sz_istore dX12_part_49 (Nat.le_of_ble_eq_true rfl) rfl ?_
        refine sz_ls (l2 := [some (.ref 39), none, none, some (.int x3), some (.int q46.1)]) rfl ?_
        refine sz_iload_n dX12_part_51 rfl ?_
        refine sz_if_eq 64 dX12_part_52 (by decide) (fun c52 => ?_) (fun c52 => ?_)
        · have hf := gz_ip c52 hf
          refine sz_weak (l2 := [some (.ref 39), none, none, none, none]) (gz_subk (gz_subk (gz_subk (gz_subn (gz_subn gz_sub0))))) ?_
          exact tX12_part_64 HX12_unit hB  ih  _ _ hf
        · have hf := gz_in1 c52 hf
          refine sz_iload dX12_part_55 rfl ?_
          refine sz_if_eq 64 dX12_part_57 (by decide) (fun c57 => ?_) (fun c57 => ?_)
          · have hf := gz_ip c57 hf
            refine sz_weak (l2 := [some (.ref 39), none, none, none, none]) (gz_subk (gz_subk (gz_subk (gz_subn (gz_subn gz_sub0))))) ?_
            exact tX12_part_64 HX12_unit hB  ih  _ _ hf
          · have hf := gz_in1 c57 hf
            refine sz_iconst dX12_part_60 (cI1) ?_
            refine sz_goto 65 dX12_part_61 (by decide) ?_
            refine sz_weak (l2 := [some (.ref 39), none, none, none, none]) (gz_subk (gz_subk (gz_subk (gz_subn (gz_subn gz_sub0))))) ?_
            exact tX12_part_65 HX12_unit hB  ih _ _ _ hf
def fX12_part_17 (La : gz_L) (FX12_unit : gz_S → Option (Int32 × gz_S))   (s0 : Int32) (g : gz_S) : Option (Int32 × gz_S) := fX12_part_18 La FX12_unit   gz_FU s0 g
set_option maxRecDepth 100000 in
set_option maxHeartbeats 4000000 in
theorem tX12_part_17 {La : gz_L} {hr : Nat} {FX12_unit : gz_S → Option (Int32 × gz_S)} (HX12_unit : ∀  (g : gz_S) (r : Int32 × gz_S), FX12_unit  g = some r → gz_K La hr mX12_unit [.ref 39] g (gz_Fi r)) (hB : 100 ≤ hr)     : ∀ (s0 : Int32) (g : gz_S) (r : Int32 × gz_S), fX12_part_17 La FX12_unit   s0 g = some r → gz_J La (hr + 1) mX12_part 17 [some (.ref 39), none, none, none, none] [.int s0] g (gz_Fi r) := by
  intro s0 g r hf
  unfold fX12_part_17 at hf
  refine sz_istore_n dX12_part_17 rfl (Nat.le_of_ble_eq_true rfl) rfl ?_
  refine sz_ls (l2 := [some (.ref 39), none, none, some (.int s0), none]) rfl ?_
  exact tX12_part_18 HX12_unit hB   _ _ _ _ hf
def fX12_part (La : gz_L) (FX12_unit : gz_S → Option (Int32 × gz_S)) (x1 : Int32) (x2 : Int32) (g : gz_S) : Option (Int32 × gz_S) :=
  if x1 = 0 then (FX12_unit  g).bind (fun q14 => fX12_part_17 La FX12_unit    q14.1 q14.2) else (fX12_compares La  1 x2 g).bind (fun q7 => fX12_part_17 La FX12_unit    q7.1 q7.2)
set_option maxRecDepth 100000 in
set_option maxHeartbeats 4000000 in
theorem kX12_part {La : gz_L} {hr : Nat} {FX12_unit : gz_S → Option (Int32 × gz_S)} (HX12_unit : ∀  (g : gz_S) (r : Int32 × gz_S), FX12_unit  g = some r → gz_K La hr mX12_unit [.ref 39] g (gz_Fi r)) (hB : 100 ≤ hr) {x1 : Int32} {x2 : Int32} {g : gz_S} {r : Int32 × gz_S}  (hf : fX12_part La FX12_unit x1 x2 g = some r) : gz_K La (hr + 1) mX12_part [.ref 39, .int x1, .int x2] g (gz_Fi r) := by
  unfold fX12_part at hf
  refine gz_K.of 2 (by decide +kernel) rfl ?_
  show gz_J La (hr + 1) mX12_part 0 [some (.ref 39), some (.int x1), some (.int x2), none, none] [] g (gz_Fi r)
  refine sz_iload_n dX12_part_0 rfl ?_
  refine sz_if_eq 13 dX12_part_1 (by decide) (fun c1 => ?_) (fun c1 => ?_)
  · have hf := gz_ip c1 hf
    refine sz_aload_n dX12_part_13 rfl ?_
    obtain ⟨q14, eq14, hf⟩ := gz_bd hf
    refine sz_callVi [] [] dX12_part_14 mvX12_192 (by omega) (by decide : 12 < 13) kd39 rfl (Nat.le_of_ble_eq_true rfl) (HX12_unit  _ _ eq14) ?_
    refine sz_weak (l2 := [some (.ref 39), none, none, none, none]) (gz_subk (gz_subn (gz_subn (gz_subk (gz_subk gz_sub0))))) ?_
    exact tX12_part_17 HX12_unit hB   _ _ _ hf
  · have hf := gz_in1 c1 hf
    refine sz_aload_n dX12_part_4 rfl ?_
    refine sz_iconst dX12_part_5 (cI1) ?_
    refine sz_iload_n dX12_part_6 rfl ?_
    obtain ⟨q7, eq7, hf⟩ := gz_bd hf
    refine sz_callVi [.int 1, .int x2] [] dX12_part_7 mvX12_199 (by omega) (by decide : 12 < 13) kd39 rfl (Nat.le_of_ble_eq_true rfl) (kX12_compares   eq7) ?_
    refine sz_goto 17 dX12_part_10 (by decide) ?_
    refine sz_weak (l2 := [some (.ref 39), none, none, none, none]) (gz_subk (gz_subn (gz_subn (gz_subk (gz_subk gz_sub0))))) ?_
    exact tX12_part_17 HX12_unit hB   _ _ _ hf
def fX12_condition_56 (La : gz_L) (FX12_unit : gz_S → Option (Int32 × gz_S))  (k7 : Int32 → gz_S → Option (Int32 × gz_S)) (s0 : Int32) (g : gz_S) : Option (Int32 × gz_S) := k7 s0 g
set_option maxRecDepth 100000 in
set_option maxHeartbeats 4000000 in
theorem tX12_condition_56 {La : gz_L} {hr : Nat} {FX12_unit : gz_S → Option (Int32 × gz_S)} (HX12_unit : ∀  (g : gz_S) (r : Int32 × gz_S), FX12_unit  g = some r → gz_K La hr mX12_unit [.ref 39] g (gz_Fi r)) (hB : 100 ≤ hr)  {k7 : Int32 → gz_S → Option (Int32 × gz_S)}  (hk7 : ∀ (x3 : Int32) (g : gz_S) (r : Int32 × gz_S), k7 x3 g = some r → gz_J La (hr + 2) mX12_condition 7 [some (.ref 39), none, none, some (.int x3), none] [] g (gz_Fi r)) : ∀ (s0 : Int32) (g : gz_S) (r : Int32 × gz_S), fX12_condition_56 La FX12_unit  k7 s0 g = some r → gz_J La (hr + 2) mX12_condition 56 [some (.ref 39), none, none, none, none] [.int s0] g (gz_Fi r) := by
  intro s0 g r hf
  unfold fX12_condition_56 at hf
  refine sz_istore_n dX12_condition_56 rfl (Nat.le_of_ble_eq_true rfl) rfl ?_
  refine sz_ls (l2 := [some (.ref 39), none, none, some (.int s0), none]) rfl ?_
  refine sz_goto 7 dX12_condition_57 (by decide) ?_
  exact hk7 _ _ _ hf
def fX12_condition_51 (La : gz_L) (FX12_unit : gz_S → Option (Int32 × gz_S))  (k7 : Int32 → gz_S → Option (Int32 × gz_S))  (g : gz_S) : Option (Int32 × gz_S) := fX12_condition_56 La FX12_unit  k7  1 g
set_option maxRecDepth 100000 in
set_option maxHeartbeats 4000000 in
theorem tX12_condition_51 {La : gz_L} {hr : Nat} {FX12_unit : gz_S → Option (Int32 × gz_S)} (HX12_unit : ∀  (g : gz_S) (r : Int32 × gz_S), FX12_unit  g = some r → gz_K La hr mX12_unit [.ref 39] g (gz_Fi r)) (hB : 100 ≤ hr)  {k7 : Int32 → gz_S → Option (Int32 × gz_S)}  (hk7 : ∀ (x3 : Int32) (g : gz_S) (r : Int32 × gz_S), k7 x3 g = some r → gz_J La (hr + 2) mX12_condition 7 [some (.ref 39), none, none, some (.int x3), none] [] g (gz_Fi r)) : ∀  (g : gz_S) (r : Int32 × gz_S), fX12_condition_51 La FX12_unit  k7  g = some r → gz_J La (hr + 2) mX12_condition 51 [some (.ref 39), none, none, none, none] [] g (gz_Fi r) := by
  intro  g r hf
  unfold fX12_condition_51 at hf
  refine sz_iconst dX12_condition_51 (cI1) ?_
  refine sz_goto 56 dX12_condition_52 (by decide) ?_
  exact tX12_condition_56 HX12_unit hB  hk7 _ _ _ hf
def fX12_condition_7 (La : gz_L) (FX12_unit : gz_S → Option (Int32 × gz_S))   : Nat → Int32 → gz_S → Option (Int32 × gz_S)
  | 0, _, _ => none
  | n + 1, x3, g => if (g.1 39 11) = (-1) then (fX12_look La   g).bind (fun q16 => if q16.1 = 124 then gz_let (gz_wi q16.2 39 10 ((q16.2.1 39 10) + 1)) (fun g31 => (fX12_part La FX12_unit 0 0 g31).bind (fun q37 => if x3 = 0 then if q37.1 = 0 then fX12_condition_56 La FX12_unit  (fX12_condition_7 La FX12_unit   n)  0 q37.2 else fX12_condition_51 La FX12_unit  (fX12_condition_7 La FX12_unit   n)   q37.2 else fX12_condition_51 La FX12_unit  (fX12_condition_7 La FX12_unit   n)   q37.2)) else if x3 = 0 ∨ x3 = 1 then some (x3, q16.2) else none) else if x3 = 0 ∨ x3 = 1 then some (x3, g) else none
set_option maxRecDepth 100000 in
set_option maxHeartbeats 4000000 in
theorem tX12_condition_7 {La : gz_L} {hr : Nat} {FX12_unit : gz_S → Option (Int32 × gz_S)} (HX12_unit : ∀  (g : gz_S) (r : Int32 × gz_S), FX12_unit  g = some r → gz_K La hr mX12_unit [.ref 39] g (gz_Fi r)) (hB : 100 ≤ hr)     : ∀ (n : Nat) (x3 : Int32) (g : gz_S) (r : Int32 × gz_S), fX12_condition_7 La FX12_unit   n x3 g = some r → gz_J La (hr + 2) mX12_condition 7 [some (.ref 39), none, none, some (.int x3), none] [] g (gz_Fi r) := by
  intro n
  induction n with
  | zero => intro x3 g r hf; exact nomatch (show (none : Option (Int32 × gz_S)) = some r from hf)
  | succ n ih =>
    intro x3 g r hf
    unfold fX12_condition_7 at hf
    refine sz_aload_n dX12_condition_7 rfl ?_
    refine sz_getI dX12_condition_8 flX12_136 kd39 rfl ?_
    refine sz_iconst dX12_condition_11 (cIm1) ?_
    refine sz_icmp_ne 60 dX12_condition_12 (by decide) (fun c12 => ?_) (fun c12 => ?_)
    · have hf := gz_in1 c12 hf
      refine sz_iload_n dX12_condition_60 rfl ?_
      obtain ⟨c61, hf⟩ := gz_gd hf
      cases hf
      exact sz_iret dX12_condition_61 rfl (gz_nbx c61) ⟨rfl, rfl⟩
    · have hf := gz_ip c12 hf
      refine sz_aload_n dX12_condition_15 rfl ?_
      obtain ⟨q16, eq16, hf⟩ := gz_bd hf
      refine sz_callVi [] [] dX12_condition_16 mvX12_146 (by omega) (by decide : 12 < 13) kd39 rfl (Nat.le_of_ble_eq_true rfl) (kX12_look   eq16) ?_
      refine sz_bipush dX12_condition_19 (cB124) ?_
      refine sz_icmp_ne 60 dX12_condition_21 (by decide) (fun c21 => ?_) (fun c21 => ?_)
      · have hf := gz_in1 c21 hf
        refine sz_iload_n dX12_condition_60 rfl ?_
        obtain ⟨c61, hf⟩ := gz_gd hf
        cases hf
        exact sz_iret dX12_condition_61 rfl (gz_nbx c61) ⟨rfl, rfl⟩
      · have hf := gz_ip c21 hf
        refine sz_aload_n dX12_condition_24 rfl ?_
        refine sz_dup dX12_condition_25 rfl ?_
        refine sz_getI dX12_condition_26 flX12_127 kd39 rfl ?_
        refine sz_iconst dX12_condition_29 (cI1) ?_
        refine sz_iadd dX12_condition_30 ?_
        obtain ⟨g31, eg31, hf⟩ := gz_lt hf
        refine sz_putI2 dX12_condition_31 flX12_127 kd39 fi12_10 eg31 ?_
        refine sz_aload_n dX12_condition_34 rfl ?_
        refine sz_iconst dX12_condition_35 (cI0) ?_
        refine sz_iconst dX12_condition_36 (cI0) ?_
        obtain ⟨q37, eq37, hf⟩ := gz_bd hf
        refine sz_callVi [.int 0, .int 0] [] dX12_condition_37 mvX12_202 (by omega) (by decide : 12 < 13) kd39 rfl (Nat.le_of_ble_eq_true rfl) (kX12_part HX12_unit hB  eq37) ?_
        refine sz_istore dX12_condition_40 (Nat.le_of_ble_eq_true rfl) rfl ?_
        refine sz_ls (l2 := [some (.ref 39), none, none, some (.int x3), some (.int q37.1)]) rfl ?_
        refine sz_iload_n dX12_condition_42 rfl ?_
        refine sz_if_ne 51 dX12_condition_43 (by decide) (fun c43 => ?_) (fun c43 => ?_)
        · have hf := gz_in1 c43 hf
          refine sz_weak (l2 := [some (.ref 39), none, none, none, none]) (gz_subk (gz_subk (gz_subk (gz_subn (gz_subn gz_sub0))))) ?_
          exact tX12_condition_51 HX12_unit hB  ih  _ _ hf
        · have hf := gz_ip c43 hf
          refine sz_iload dX12_condition_46 rfl ?_
          refine sz_if_eq 55 dX12_condition_48 (by decide) (fun c48 => ?_) (fun c48 => ?_)
          · have hf := gz_ip c48 hf
            refine sz_iconst dX12_condition_55 (cI0) ?_
            refine sz_weak (l2 := [some (.ref 39), none, none, none, none]) (gz_subk (gz_subk (gz_subk (gz_subn (gz_subn gz_sub0))))) ?_
            exact tX12_condition_56 HX12_unit hB  ih _ _ _ hf
          · have hf := gz_in1 c48 hf
            refine sz_weak (l2 := [some (.ref 39), none, none, none, none]) (gz_subk (gz_subk (gz_subk (gz_subn (gz_subn gz_sub0))))) ?_
            exact tX12_condition_51 HX12_unit hB  ih  _ _ hf
def fX12_condition (La : gz_L) (FX12_unit : gz_S → Option (Int32 × gz_S)) (x1 : Int32) (x2 : Int32) (g : gz_S) : Option (Int32 × gz_S) :=
  (fX12_part La FX12_unit x1 x2 g).bind (fun q3 => fX12_condition_7 La FX12_unit   gz_FU q3.1 q3.2)
set_option maxRecDepth 100000 in
set_option maxHeartbeats 4000000 in
theorem kX12_condition {La : gz_L} {hr : Nat} {FX12_unit : gz_S → Option (Int32 × gz_S)} (HX12_unit : ∀  (g : gz_S) (r : Int32 × gz_S), FX12_unit  g = some r → gz_K La hr mX12_unit [.ref 39] g (gz_Fi r)) (hB : 100 ≤ hr) {x1 : Int32} {x2 : Int32} {g : gz_S} {r : Int32 × gz_S}  (hf : fX12_condition La FX12_unit x1 x2 g = some r) : gz_K La (hr + 2) mX12_condition [.ref 39, .int x1, .int x2] g (gz_Fi r) := by
  unfold fX12_condition at hf
  refine gz_K.of 2 (by decide +kernel) rfl ?_
  show gz_J La (hr + 2) mX12_condition 0 [some (.ref 39), some (.int x1), some (.int x2), none, none] [] g (gz_Fi r)
  refine sz_aload_n dX12_condition_0 rfl ?_
  refine sz_iload_n dX12_condition_1 rfl ?_
  refine sz_iload_n dX12_condition_2 rfl ?_
  obtain ⟨q3, eq3, hf⟩ := gz_bd hf
  refine sz_callVi [.int x1, .int x2] [] dX12_condition_3 mvX12_202 (by omega) (by decide : 12 < 13) kd39 rfl (Nat.le_of_ble_eq_true rfl) (kX12_part HX12_unit hB  eq3) ?_
  refine sz_istore_n dX12_condition_6 rfl (Nat.le_of_ble_eq_true rfl) rfl ?_
  refine sz_ls (l2 := [some (.ref 39), some (.int x1), some (.int x2), some (.int q3.1), none]) rfl ?_
  refine sz_weak (l2 := [some (.ref 39), none, none, some (.int q3.1), none]) (gz_subk (gz_subn (gz_subn (gz_subk (gz_subk gz_sub0))))) ?_
  exact tX12_condition_7 HX12_unit hB   _ _ _ _ hf
def fX12_unit (La : gz_L) (FX12_unit : gz_S → Option (Int32 × gz_S))  (g : gz_S) : Option (Int32 × gz_S) :=
  (fX12_look La   g).bind (fun q1 => if q1.1 = 33 then (fX12_goesIn La   q1.2).bind (fun q12 => if q12.1 = 0 then some (0, q12.2) else (FX12_unit  q12.2).bind (fun q21 => gz_let (gz_wi q21.2 39 12 ((q21.2.1 39 12) - 1)) (fun g32 => if q21.1 = 0 then some (1, g32) else some (0, g32)))) else if q1.1 = 40 then (fX12_goesIn La   q1.2).bind (fun q52 => if q52.1 = 0 then some (0, q52.2) else (fX12_condition La FX12_unit 0 0 q52.2).bind (fun q63 => (fX12_takes La  41 q63.2).bind (fun q70 => if q70.1 = 0 then some (0, q70.2) else gz_let (gz_wi q70.2 39 12 ((q70.2.1 39 12) - 1)) (fun g85 => if q63.1 = 0 ∨ q63.1 = 1 then some (q63.1, g85) else none)))) else (fX12_compares La  0 0 q1.2).bind (fun q93 => if q93.1 = 0 ∨ q93.1 = 1 then some (q93.1, q93.2) else none))
set_option maxRecDepth 100000 in
set_option maxHeartbeats 4000000 in
theorem kX12_unit {La : gz_L} {hr : Nat} {FX12_unit : gz_S → Option (Int32 × gz_S)} (HX12_unit : ∀  (g : gz_S) (r : Int32 × gz_S), FX12_unit  g = some r → gz_K La hr mX12_unit [.ref 39] g (gz_Fi r)) (hB : 100 ≤ hr)  {g : gz_S} {r : Int32 × gz_S}  (hf : fX12_unit La FX12_unit  g = some r) : gz_K La (hr + 3) mX12_unit [.ref 39] g (gz_Fi r) := by
  unfold fX12_unit at hf
  refine gz_K.of 2 (by decide +kernel) rfl ?_
  show gz_J La (hr + 3) mX12_unit 0 [some (.ref 39), none, none] [] g (gz_Fi r)
  refine sz_aload_n dX12_unit_0 rfl ?_
  obtain ⟨q1, eq1, hf⟩ := gz_bd hf
  refine sz_callVi [] [] dX12_unit_1 mvX12_146 (by omega) (by decide : 12 < 13) kd39 rfl (Nat.le_of_ble_eq_true rfl) (kX12_look   eq1) ?_
  refine sz_istore_n dX12_unit_4 rfl (Nat.le_of_ble_eq_true rfl) rfl ?_
  refine sz_ls (l2 := [some (.ref 39), some (.int q1.1), none]) rfl ?_
  refine sz_iload_n dX12_unit_5 rfl ?_
  refine sz_bipush dX12_unit_6 (cB33) ?_
  refine sz_icmp_ne 45 dX12_unit_8 (by decide) (fun c8 => ?_) (fun c8 => ?_)
  · have hf := gz_in1 c8 hf
    refine sz_iload_n dX12_unit_45 rfl ?_
    refine sz_bipush dX12_unit_46 (cB40) ?_
    refine sz_icmp_ne 90 dX12_unit_48 (by decide) (fun c48 => ?_) (fun c48 => ?_)
    · have hf := gz_in1 c48 hf
      refine sz_aload_n dX12_unit_90 rfl ?_
      refine sz_iconst dX12_unit_91 (cI0) ?_
      refine sz_iconst dX12_unit_92 (cI0) ?_
      obtain ⟨q93, eq93, hf⟩ := gz_bd hf
      refine sz_callVi [.int 0, .int 0] [] dX12_unit_93 mvX12_199 (by omega) (by decide : 12 < 13) kd39 rfl (Nat.le_of_ble_eq_true rfl) (kX12_compares   eq93) ?_
      obtain ⟨c96, hf⟩ := gz_gd hf
      cases hf
      exact sz_iret dX12_unit_96 rfl (gz_nbx c96) ⟨rfl, rfl⟩
    · have hf := gz_ip c48 hf
      refine sz_aload_n dX12_unit_51 rfl ?_
      obtain ⟨q52, eq52, hf⟩ := gz_bd hf
      refine sz_callVi [] [] dX12_unit_52 mvX12_166 (by omega) (by decide : 12 < 13) kd39 rfl (Nat.le_of_ble_eq_true rfl) (kX12_goesIn   eq52) ?_
      refine sz_if_ne 60 dX12_unit_55 (by decide) (fun c55 => ?_) (fun c55 => ?_)
      · have hf := gz_in1 c55 hf
        refine sz_aload_n dX12_unit_60 rfl ?_
        refine sz_iconst dX12_unit_61 (cI0) ?_
        refine sz_iconst dX12_unit_62 (cI0) ?_
        obtain ⟨q63, eq63, hf⟩ := gz_bd hf
        refine sz_callVi [.int 0, .int 0] [] dX12_unit_63 mvX12_195 (by omega) (by decide : 12 < 13) kd39 rfl (Nat.le_of_ble_eq_true rfl) (kX12_condition HX12_unit hB  eq63) ?_
        refine sz_istore_n dX12_unit_66 rfl (Nat.le_of_ble_eq_true rfl) rfl ?_
        refine sz_ls (l2 := [some (.ref 39), some (.int q1.1), some (.int q63.1)]) rfl ?_
        refine sz_aload_n dX12_unit_67 rfl ?_
        refine sz_bipush dX12_unit_68 (cB41) ?_
        obtain ⟨q70, eq70, hf⟩ := gz_bd hf
        refine sz_callVi [.int 41] [] dX12_unit_70 mvX12_172 (by omega) (by decide : 12 < 13) kd39 rfl (Nat.le_of_ble_eq_true rfl) (kX12_takes   eq70) ?_
        refine sz_if_ne 78 dX12_unit_73 (by decide) (fun c73 => ?_) (fun c73 => ?_)
        · have hf := gz_in1 c73 hf
          refine sz_aload_n dX12_unit_78 rfl ?_
          refine sz_dup dX12_unit_79 rfl ?_
          refine sz_getI dX12_unit_80 flX12_139 kd39 rfl ?_
          refine sz_iconst dX12_unit_83 (cI1) ?_
          refine sz_isub dX12_unit_84 ?_
          obtain ⟨g85, eg85, hf⟩ := gz_lt hf
          refine sz_putI2 dX12_unit_85 flX12_139 kd39 fi12_12 eg85 ?_
          refine sz_iload_n dX12_unit_88 rfl ?_
          obtain ⟨c89, hf⟩ := gz_gd hf
          cases hf
          exact sz_iret dX12_unit_89 rfl (gz_nbx c89) ⟨rfl, rfl⟩
        · have hf := gz_ip c73 hf
          refine sz_iconst dX12_unit_76 (cI0) ?_
          cases hf
          exact sz_iret dX12_unit_77 rfl rfl ⟨rfl, rfl⟩
      · have hf := gz_ip c55 hf
        refine sz_iconst dX12_unit_58 (cI0) ?_
        cases hf
        exact sz_iret dX12_unit_59 rfl rfl ⟨rfl, rfl⟩
  · have hf := gz_ip c8 hf
    refine sz_aload_n dX12_unit_11 rfl ?_
    obtain ⟨q12, eq12, hf⟩ := gz_bd hf
    refine sz_callVi [] [] dX12_unit_12 mvX12_166 (by omega) (by decide : 12 < 13) kd39 rfl (Nat.le_of_ble_eq_true rfl) (kX12_goesIn   eq12) ?_
    refine sz_if_ne 20 dX12_unit_15 (by decide) (fun c15 => ?_) (fun c15 => ?_)
    · have hf := gz_in1 c15 hf
      refine sz_aload_n dX12_unit_20 rfl ?_
      obtain ⟨q21, eq21, hf⟩ := gz_bd hf
      refine sz_callVi [] [] dX12_unit_21 mvX12_192 (by omega) (by decide : 12 < 13) kd39 rfl (Nat.le_of_ble_eq_true rfl) (HX12_unit  _ _ eq21) ?_
      refine sz_istore_n dX12_unit_24 rfl (Nat.le_of_ble_eq_true rfl) rfl ?_
      refine sz_ls (l2 := [some (.ref 39), some (.int q1.1), some (.int q21.1)]) rfl ?_
      refine sz_aload_n dX12_unit_25 rfl ?_
      refine sz_dup dX12_unit_26 rfl ?_
      refine sz_getI dX12_unit_27 flX12_139 kd39 rfl ?_
      refine sz_iconst dX12_unit_30 (cI1) ?_
      refine sz_isub dX12_unit_31 ?_
      obtain ⟨g32, eg32, hf⟩ := gz_lt hf
      refine sz_putI2 dX12_unit_32 flX12_139 kd39 fi12_12 eg32 ?_
      refine sz_iload_n dX12_unit_35 rfl ?_
      refine sz_if_ne 43 dX12_unit_36 (by decide) (fun c36 => ?_) (fun c36 => ?_)
      · have hf := gz_in1 c36 hf
        refine sz_iconst dX12_unit_43 (cI0) ?_
        cases hf
        exact sz_iret dX12_unit_44 rfl rfl ⟨rfl, rfl⟩
      · have hf := gz_ip c36 hf
        refine sz_iconst dX12_unit_39 (cI1) ?_
        refine sz_goto 44 dX12_unit_40 (by decide) ?_
        cases hf
        exact sz_iret dX12_unit_44 rfl rfl ⟨rfl, rfl⟩
    · have hf := gz_ip c15 hf
      refine sz_iconst dX12_unit_18 (cI0) ?_
      cases hf
      exact sz_iret dX12_unit_19 rfl rfl ⟨rfl, rfl⟩
def fX12_unitD (La : gz_L) : Nat → gz_S → Option (Int32 × gz_S)
  | 0, _ => none
  | d + 1, g => fX12_unit La (fX12_unitD La d)  g
theorem kX12_unitD {La : gz_L} : ∀ (d : Nat)  (g : gz_S) (r : Int32 × gz_S), fX12_unitD La d  g = some r → gz_K La (100 + 3 * d) mX12_unit [.ref 39] g (gz_Fi r) := by
  intro d
  induction d with
  | zero => intro  g r hf; exact nomatch (show (none : Option (Int32 × gz_S)) = some r from hf)
  | succ d ih =>
    intro  g r hf
    have e : 100 + 3 * (d + 1) = (100 + 3 * d) + 3 := by omega
    rw [e]
    exact kX12_unit (hr := 100 + 3 * d) ih (Nat.le_add_right _ _) hf
def fX12_unitT (La : gz_L)  (g : gz_S) : Option (Int32 × gz_S) := fX12_unitD La 12  g
theorem kX12_unitT {La : gz_L}  {g : gz_S} {r : Int32 × gz_S} (hf : fX12_unitT La  g = some r) : gz_K La 136 mX12_unit [.ref 39] g (gz_Fi r) := kX12_unitD 12  g r hf

def fX12_clause_134 (La : gz_L)    (x1 : Int32) (x2 : Int32) (x3 : Int32) (g : gz_S) : Option (gz_S) := if (g.1 39 11) = (-1) then if (g.1 39 17) = 0 then if x1 = (g.1 39 13) then if x2 = 0 then some g else gz_let (gz_wi g 39 17 1) (fun g164 => gz_let (gz_wi g164 39 14 x3) (fun g169 => some g169)) else some g else some g else some g
set_option maxRecDepth 100000 in
set_option maxHeartbeats 4000000 in
theorem tX12_clause_134 {La : gz_L}      : ∀ (x1 : Int32) (x2 : Int32) (x3 : Int32) (g : gz_S) (r : gz_S), fX12_clause_134 La    x1 x2 x3 g = some r → gz_J La 139 mX12_clause 134 [some (.ref 39), some (.int x1), some (.int x2), some (.int x3), none] [] g (gz_Fv r) := by
  intro x1 x2 x3 g r hf
  unfold fX12_clause_134 at hf
  refine sz_aload_n dX12_clause_134 rfl ?_
  refine sz_getI dX12_clause_135 flX12_136 kd39 rfl ?_
  refine sz_iconst dX12_clause_138 (cIm1) ?_
  refine sz_icmp_ne 161 dX12_clause_139 (by decide) (fun c139 => ?_) (fun c139 => ?_)
  · have hf := gz_in1 c139 hf
    cases hf
    exact sz_ret dX12_clause_161 rfl ⟨rfl, rfl⟩
  · have hf := gz_ip c139 hf
    refine sz_aload_n dX12_clause_142 rfl ?_
    refine sz_getI dX12_clause_143 flX12_205 kd39 rfl ?_
    refine sz_if_ne 161 dX12_clause_146 (by decide) (fun c146 => ?_) (fun c146 => ?_)
    · have hf := gz_in1 c146 hf
      cases hf
      exact sz_ret dX12_clause_161 rfl ⟨rfl, rfl⟩
    · have hf := gz_ip c146 hf
      refine sz_iload_n dX12_clause_149 rfl ?_
      refine sz_aload_n dX12_clause_150 rfl ?_
      refine sz_getI dX12_clause_151 flX12_209 kd39 rfl ?_
      refine sz_icmp_ne 161 dX12_clause_154 (by decide) (fun c154 => ?_) (fun c154 => ?_)
      · have hf := gz_in1 c154 hf
        cases hf
        exact sz_ret dX12_clause_161 rfl ⟨rfl, rfl⟩
      · have hf := gz_ip c154 hf
        refine sz_iload_n dX12_clause_157 rfl ?_
        refine sz_if_ne 162 dX12_clause_158 (by decide) (fun c158 => ?_) (fun c158 => ?_)
        · have hf := gz_in1 c158 hf
          refine sz_aload_n dX12_clause_162 rfl ?_
          refine sz_iconst dX12_clause_163 (cI1) ?_
          obtain ⟨g164, eg164, hf⟩ := gz_lt hf
          refine sz_putZ2 dX12_clause_164 flX12_205 kd39 fi12_17 (Or.inr rfl) eg164 ?_
          refine sz_aload_n dX12_clause_167 rfl ?_
          refine sz_iload_n dX12_clause_168 rfl ?_
          obtain ⟨g169, eg169, hf⟩ := gz_lt hf
          refine sz_putI2 dX12_clause_169 flX12_212 kd39 fi12_14 eg169 ?_
          cases hf
          exact sz_ret dX12_clause_172 rfl ⟨rfl, rfl⟩
        · have hf := gz_ip c158 hf
          cases hf
          exact sz_ret dX12_clause_161 rfl ⟨rfl, rfl⟩
def fX12_clause_64 (La : gz_L)    (x1 : Int32) (g : gz_S) : Option (gz_S) := (fX12_condition La (fX12_unitD La 12) 0 0 g).bind (fun q67 => (fX12_takes La  63 q67.2).bind (fun q74 => if q74.1 = 0 then some q74.2 else (fX12_sumT La  q74.2).bind (fun q82 => fX12_clause_134 La     x1 q67.1 q82.1 q82.2)))
set_option maxRecDepth 100000 in
set_option maxHeartbeats 4000000 in
theorem tX12_clause_64 {La : gz_L}      : ∀ (x1 : Int32) (g : gz_S) (r : gz_S), fX12_clause_64 La    x1 g = some r → gz_J La 139 mX12_clause 64 [some (.ref 39), some (.int x1), none, none, none] [] g (gz_Fv r) := by
  intro x1 g r hf
  unfold fX12_clause_64 at hf
  refine sz_aload_n dX12_clause_64 rfl ?_
  refine sz_iconst dX12_clause_65 (cI0) ?_
  refine sz_iconst dX12_clause_66 (cI0) ?_
  obtain ⟨q67, eq67, hf⟩ := gz_bd hf
  refine sz_callVi [.int 0, .int 0] [] dX12_clause_67 mvX12_195 (Nat.le_of_ble_eq_true rfl) (by decide : 12 < 13) kd39 rfl (Nat.le_of_ble_eq_true rfl) (kX12_condition (kX12_unitD 12) (Nat.le_of_ble_eq_true rfl)  eq67) ?_
  refine sz_istore_n dX12_clause_70 rfl (Nat.le_of_ble_eq_true rfl) rfl ?_
  refine sz_ls (l2 := [some (.ref 39), some (.int x1), some (.int q67.1), none, none]) rfl ?_
  refine sz_aload_n dX12_clause_71 rfl ?_
  refine sz_bipush dX12_clause_72 (cB63) ?_
  obtain ⟨q74, eq74, hf⟩ := gz_bd hf
  refine sz_callVi [.int 63] [] dX12_clause_74 mvX12_172 (Nat.le_of_ble_eq_true rfl) (by decide : 12 < 13) kd39 rfl (Nat.le_of_ble_eq_true rfl) (kX12_takes   eq74) ?_
  refine sz_if_ne 81 dX12_clause_77 (by decide) (fun c77 => ?_) (fun c77 => ?_)
  · have hf := gz_in1 c77 hf
    refine sz_aload_n dX12_clause_81 rfl ?_
    obtain ⟨q82, eq82, hf⟩ := gz_bd hf
    refine sz_callVi [] [] dX12_clause_82 mvX12_169 (Nat.le_of_ble_eq_true rfl) (by decide : 12 < 13) kd39 rfl (Nat.le_of_ble_eq_true rfl) (kX12_sumT eq82) ?_
    refine sz_istore_n dX12_clause_85 rfl (Nat.le_of_ble_eq_true rfl) rfl ?_
    refine sz_ls (l2 := [some (.ref 39), some (.int x1), some (.int q67.1), some (.int q82.1), none]) rfl ?_
    refine sz_goto 134 dX12_clause_86 (by decide) ?_
    exact tX12_clause_134    _ _ _ _ _ hf
  · have hf := gz_ip c77 hf
    cases hf
    exact sz_ret dX12_clause_80 rfl ⟨rfl, rfl⟩
def fX12_clause (La : gz_L)   (g : gz_S) : Option (gz_S) :=
  (fX12_look La   g).bind (fun q1 => (fX12_isAmong La  210 q1.1 q1.2).bind (fun q8 => if q8.1 = 0 then (fX12_fails La   q8.2).bind (fun q15 => some q15.2) else gz_let (gz_wi q8.2 39 10 ((q8.2.1 39 10) + 1)) (fun g27 => (fX12_takes La  58 g27).bind (fun q33 => if q33.1 = 0 then some q33.2 else (fX12_look La   q33.2).bind (fun q45 => if q45.1 = 33 then fX12_clause_64 La     q1.1 q45.2 else if q45.1 = 40 then fX12_clause_64 La     q1.1 q45.2 else (fX12_sumT La  q45.2).bind (fun q90 => if (q90.2.1 39 11) = (-1) then (fX12_look La   q90.2).bind (fun q103 => (fX12_isSign La  q103.1 q103.2).bind (fun q106 => if q106.1 = 0 then fX12_clause_134 La     q1.1 1 q90.1 q106.2 else (fX12_condition La (fX12_unitD La 12) 1 q90.1 q106.2).bind (fun q115 => (fX12_takes La  63 q115.2).bind (fun q122 => if q122.1 = 0 then some q122.2 else (fX12_sumT La  q122.2).bind (fun q130 => fX12_clause_134 La     q1.1 q115.1 q130.1 q130.2))))) else fX12_clause_134 La     q1.1 1 q90.1 q90.2))))))
set_option maxRecDepth 100000 in
set_option maxHeartbeats 4000000 in
theorem kX12_clause {La : gz_L}   {g : gz_S} {r : gz_S}  (hf : fX12_clause La   g = some r) : gz_K La 139 mX12_clause [.ref 39] g (gz_Fv r) := by
  unfold fX12_clause at hf
  refine gz_K.of 4 (by decide +kernel) rfl ?_
  show gz_J La 139 mX12_clause 0 [some (.ref 39), none, none, none, none] [] g (gz_Fv r)
  refine sz_aload_n dX12_clause_0 rfl ?_
  obtain ⟨q1, eq1, hf⟩ := gz_bd hf
  refine sz_callVi [] [] dX12_clause_1 mvX12_146 (Nat.le_of_ble_eq_true rfl) (by decide : 12 < 13) kd39 rfl (Nat.le_of_ble_eq_true rfl) (kX12_look   eq1) ?_
  refine sz_istore_n dX12_clause_4 rfl (Nat.le_of_ble_eq_true rfl) rfl ?_
  refine sz_ls (l2 := [some (.ref 39), some (.int q1.1), none, none, none]) rfl ?_
  refine sz_ldcS2 (w := 210) ⟨rfl, by decide⟩ dX12_clause_5 ?_
  refine sz_iload_n dX12_clause_7 rfl ?_
  obtain ⟨q8, eq8, hf⟩ := gz_bd hf
  refine sz_callSi [.ref 210, .int q1.1] [] dX12_clause_8 msX12_162 (Nat.le_of_ble_eq_true rfl) (Nat.le_of_ble_eq_true rfl) (kX12_isAmong  (by decide) eq8) ?_
  refine sz_if_ne 20 dX12_clause_11 (by decide) (fun c11 => ?_) (fun c11 => ?_)
  · have hf := gz_in1 c11 hf
    refine sz_aload_n dX12_clause_20 rfl ?_
    refine sz_dup dX12_clause_21 rfl ?_
    refine sz_getI dX12_clause_22 flX12_127 kd39 rfl ?_
    refine sz_iconst dX12_clause_25 (cI1) ?_
    refine sz_iadd dX12_clause_26 ?_
    obtain ⟨g27, eg27, hf⟩ := gz_lt hf
    refine sz_putI2 dX12_clause_27 flX12_127 kd39 fi12_10 eg27 ?_
    refine sz_aload_n dX12_clause_30 rfl ?_
    refine sz_bipush dX12_clause_31 (cB58) ?_
    obtain ⟨q33, eq33, hf⟩ := gz_bd hf
    refine sz_callVi [.int 58] [] dX12_clause_33 mvX12_172 (Nat.le_of_ble_eq_true rfl) (by decide : 12 < 13) kd39 rfl (Nat.le_of_ble_eq_true rfl) (kX12_takes   eq33) ?_
    refine sz_if_ne 40 dX12_clause_36 (by decide) (fun c36 => ?_) (fun c36 => ?_)
    · have hf := gz_in1 c36 hf
      refine sz_iconst dX12_clause_40 (cI1) ?_
      refine sz_istore_n dX12_clause_41 rfl (Nat.le_of_ble_eq_true rfl) rfl ?_
      refine sz_ls (l2 := [some (.ref 39), some (.int q1.1), some (.int 1), none, none]) rfl ?_
      refine sz_iconst dX12_clause_42 (cI0) ?_
      refine sz_istore_n dX12_clause_43 rfl (Nat.le_of_ble_eq_true rfl) rfl ?_
      refine sz_ls (l2 := [some (.ref 39), some (.int q1.1), some (.int 1), some (.int 0), none]) rfl ?_
      refine sz_aload_n dX12_clause_44 rfl ?_
      obtain ⟨q45, eq45, hf⟩ := gz_bd hf
      refine sz_callVi [] [] dX12_clause_45 mvX12_146 (Nat.le_of_ble_eq_true rfl) (by decide : 12 < 13) kd39 rfl (Nat.le_of_ble_eq_true rfl) (kX12_look   eq45) ?_
      refine sz_istore dX12_clause_48 (Nat.le_of_ble_eq_true rfl) rfl ?_
      refine sz_ls (l2 := [some (.ref 39), some (.int q1.1), some (.int 1), some (.int 0), some (.int q45.1)]) rfl ?_
      refine sz_iload dX12_clause_50 rfl ?_
      refine sz_bipush dX12_clause_52 (cB33) ?_
      refine sz_icmp_eq 64 dX12_clause_54 (by decide) (fun c54 => ?_) (fun c54 => ?_)
      · have hf := gz_ip c54 hf
        refine sz_weak (l2 := [some (.ref 39), some (.int q1.1), none, none, none]) (gz_subk (gz_subk (gz_subn (gz_subn (gz_subn gz_sub0))))) ?_
        exact tX12_clause_64    _ _ _ hf
      · have hf := gz_in1 c54 hf
        refine sz_iload dX12_clause_57 rfl ?_
        refine sz_bipush dX12_clause_59 (cB40) ?_
        refine sz_icmp_ne 89 dX12_clause_61 (by decide) (fun c61 => ?_) (fun c61 => ?_)
        · have hf := gz_in1 c61 hf
          refine sz_aload_n dX12_clause_89 rfl ?_
          obtain ⟨q90, eq90, hf⟩ := gz_bd hf
          refine sz_callVi [] [] dX12_clause_90 mvX12_169 (Nat.le_of_ble_eq_true rfl) (by decide : 12 < 13) kd39 rfl (Nat.le_of_ble_eq_true rfl) (kX12_sumT eq90) ?_
          refine sz_istore_n dX12_clause_93 rfl (Nat.le_of_ble_eq_true rfl) rfl ?_
          refine sz_ls (l2 := [some (.ref 39), some (.int q1.1), some (.int 1), some (.int q90.1), some (.int q45.1)]) rfl ?_
          refine sz_aload_n dX12_clause_94 rfl ?_
          refine sz_getI dX12_clause_95 flX12_136 kd39 rfl ?_
          refine sz_iconst dX12_clause_98 (cIm1) ?_
          refine sz_icmp_ne 134 dX12_clause_99 (by decide) (fun c99 => ?_) (fun c99 => ?_)
          · have hf := gz_in1 c99 hf
            refine sz_weak (l2 := [some (.ref 39), some (.int q1.1), some (.int 1), some (.int q90.1), none]) (gz_subk (gz_subk (gz_subk (gz_subk (gz_subn gz_sub0))))) ?_
            exact tX12_clause_134    _ _ _ _ _ hf
          · have hf := gz_ip c99 hf
            refine sz_aload_n dX12_clause_102 rfl ?_
            obtain ⟨q103, eq103, hf⟩ := gz_bd hf
            refine sz_callVi [] [] dX12_clause_103 mvX12_146 (Nat.le_of_ble_eq_true rfl) (by decide : 12 < 13) kd39 rfl (Nat.le_of_ble_eq_true rfl) (kX12_look   eq103) ?_
            obtain ⟨q106, eq106, hf⟩ := gz_bd hf
            refine sz_callSi [.int q103.1] [] dX12_clause_106 msX12_189 (Nat.le_of_ble_eq_true rfl) (Nat.le_of_ble_eq_true rfl) (kX12_isSign   eq106) ?_
            refine sz_if_eq 134 dX12_clause_109 (by decide) (fun c109 => ?_) (fun c109 => ?_)
            · have hf := gz_ip c109 hf
              refine sz_weak (l2 := [some (.ref 39), some (.int q1.1), some (.int 1), some (.int q90.1), none]) (gz_subk (gz_subk (gz_subk (gz_subk (gz_subn gz_sub0))))) ?_
              exact tX12_clause_134    _ _ _ _ _ hf
            · have hf := gz_in1 c109 hf
              refine sz_aload_n dX12_clause_112 rfl ?_
              refine sz_iconst dX12_clause_113 (cI1) ?_
              refine sz_iload_n dX12_clause_114 rfl ?_
              obtain ⟨q115, eq115, hf⟩ := gz_bd hf
              refine sz_callVi [.int 1, .int q90.1] [] dX12_clause_115 mvX12_195 (Nat.le_of_ble_eq_true rfl) (by decide : 12 < 13) kd39 rfl (Nat.le_of_ble_eq_true rfl) (kX12_condition (kX12_unitD 12) (Nat.le_of_ble_eq_true rfl)  eq115) ?_
              refine sz_istore_n dX12_clause_118 rfl (Nat.le_of_ble_eq_true rfl) rfl ?_
              refine sz_ls (l2 := [some (.ref 39), some (.int q1.1), some (.int q115.1), some (.int q90.1), some (.int q45.1)]) rfl ?_
              refine sz_aload_n dX12_clause_119 rfl ?_
              refine sz_bipush dX12_clause_120 (cB63) ?_
              obtain ⟨q122, eq122, hf⟩ := gz_bd hf
              refine sz_callVi [.int 63] [] dX12_clause_122 mvX12_172 (Nat.le_of_ble_eq_true rfl) (by decide : 12 < 13) kd39 rfl (Nat.le_of_ble_eq_true rfl) (kX12_takes   eq122) ?_
              refine sz_if_ne 129 dX12_clause_125 (by decide) (fun c125 => ?_) (fun c125 => ?_)
              · have hf := gz_in1 c125 hf
                refine sz_aload_n dX12_clause_129 rfl ?_
                obtain ⟨q130, eq130, hf⟩ := gz_bd hf
                refine sz_callVi [] [] dX12_clause_130 mvX12_169 (Nat.le_of_ble_eq_true rfl) (by decide : 12 < 13) kd39 rfl (Nat.le_of_ble_eq_true rfl) (kX12_sumT eq130) ?_
                refine sz_istore_n dX12_clause_133 rfl (Nat.le_of_ble_eq_true rfl) rfl ?_
                refine sz_ls (l2 := [some (.ref 39), some (.int q1.1), some (.int q115.1), some (.int q130.1), some (.int q45.1)]) rfl ?_
                refine sz_weak (l2 := [some (.ref 39), some (.int q1.1), some (.int q115.1), some (.int q130.1), none]) (gz_subk (gz_subk (gz_subk (gz_subk (gz_subn gz_sub0))))) ?_
                exact tX12_clause_134    _ _ _ _ _ hf
              · have hf := gz_ip c125 hf
                cases hf
                exact sz_ret dX12_clause_128 rfl ⟨rfl, rfl⟩
        · have hf := gz_ip c61 hf
          refine sz_weak (l2 := [some (.ref 39), some (.int q1.1), none, none, none]) (gz_subk (gz_subk (gz_subn (gz_subn (gz_subn gz_sub0))))) ?_
          exact tX12_clause_64    _ _ _ hf
    · have hf := gz_ip c36 hf
      cases hf
      exact sz_ret dX12_clause_39 rfl ⟨rfl, rfl⟩
  · have hf := gz_ip c11 hf
    refine sz_aload_n dX12_clause_14 rfl ?_
    obtain ⟨q15, eq15, hf⟩ := gz_bd hf
    refine sz_callVi [] [] dX12_clause_15 mvX12_142 (Nat.le_of_ble_eq_true rfl) (by decide : 12 < 13) kd39 rfl (Nat.le_of_ble_eq_true rfl) (kX12_fails   eq15) ?_
    refine sz_pop dX12_clause_18 rfl ?_
    cases hf
    exact sz_ret dX12_clause_19 rfl ⟨rfl, rfl⟩
def fX12_starts (La : gz_L)  (w1 : Nat) (x2 : Int32) (x3 : Int32) (g : gz_S) : Option (gz_S) :=
  gz_let (gz_wd g 1 (some w1)) (fun g2 => gz_let (gz_wi g2 39 8 x2) (fun g7 => gz_let (gz_wi g7 39 9 x3) (fun g12 => gz_let (gz_wi g12 39 10 0) (fun g17 => gz_let (gz_wi g17 39 11 (-1)) (fun g22 => some g22)))))
set_option maxRecDepth 100000 in
set_option maxHeartbeats 4000000 in
theorem kX12_starts {La : gz_L}  {w1 : Nat} {x2 : Int32} {x3 : Int32} {g : gz_S} {r : gz_S} (hw1 : w1 = 40 ∨ w1 = 41) (hf : fX12_starts La  w1 x2 x3 g = some r) : gz_K La 1 mX12_starts [.ref 39, .ref w1, .int x2, .int x3] g (gz_Fv r) := by
  unfold fX12_starts at hf
  refine gz_K.of 0 (by decide +kernel) rfl ?_
  show gz_J La 1 mX12_starts 0 [some (.ref 39), some (.ref w1), some (.int x2), some (.int x3)] [] g (gz_Fv r)
  refine sz_aload_n dX12_starts_0 rfl ?_
  refine sz_aload_n dX12_starts_1 rfl ?_
  obtain ⟨g2, eg2, hf⟩ := gz_lt hf
  refine sz_putD (d := 1) dX12_starts_2 flX12_23 kd39 rfl (Or.inr ⟨rfl, rfl, rfl⟩) (fun _ => rfl) (fun _ => rfl) rfl ?_
  refine sz_tog eg2 ?_
  refine sz_aload_n dX12_starts_5 rfl ?_
  refine sz_iload_n dX12_starts_6 rfl ?_
  obtain ⟨g7, eg7, hf⟩ := gz_lt hf
  refine sz_putI2 dX12_starts_7 flX12_133 kd39 fi12_8 eg7 ?_
  refine sz_aload_n dX12_starts_10 rfl ?_
  refine sz_iload_n dX12_starts_11 rfl ?_
  obtain ⟨g12, eg12, hf⟩ := gz_lt hf
  refine sz_putI2 dX12_starts_12 flX12_130 kd39 fi12_9 eg12 ?_
  refine sz_aload_n dX12_starts_15 rfl ?_
  refine sz_iconst dX12_starts_16 (cI0) ?_
  obtain ⟨g17, eg17, hf⟩ := gz_lt hf
  refine sz_putI2 dX12_starts_17 flX12_127 kd39 fi12_10 eg17 ?_
  refine sz_aload_n dX12_starts_20 rfl ?_
  refine sz_iconst dX12_starts_21 (cIm1) ?_
  obtain ⟨g22, eg22, hf⟩ := gz_lt hf
  refine sz_putI2 dX12_starts_22 flX12_136 kd39 fi12_11 eg22 ?_
  cases hf
  exact sz_ret dX12_starts_25 rfl ⟨rfl, rfl⟩
def fX12_goThrough_32 (La : gz_L)  (w1 : Nat) (k66 : gz_S → Option (gz_S)) : Nat → gz_S → Option (gz_S)
  | 0, _ => none
  | n + 1, g => if (g.1 39 11) = (-1) then (fX12_look La   g).bind (fun q41 => if q41.1 = 59 then gz_let (gz_wi q41.2 39 10 ((q41.2.1 39 10) + 1)) (fun g56 => (fX12_clause La   g56).bind (fun q60 => fX12_goThrough_32 La  w1 k66 n  q60)) else k66  q41.2) else k66  g
set_option maxRecDepth 100000 in
set_option maxHeartbeats 4000000 in
theorem tX12_goThrough_32 {La : gz_L}  {w1 : Nat} {k66 : gz_S → Option (gz_S)} (hw1 : w1 = 40 ∨ w1 = 41) (hk66 : ∀  (g : gz_S) (r : gz_S), k66  g = some r → gz_J La 140 mX12_goThrough 66 [some (.ref 39), none, none, none] [] g (gz_Fv r)) : ∀ (n : Nat)  (g : gz_S) (r : gz_S), fX12_goThrough_32 La  w1 k66 n  g = some r → gz_J La 140 mX12_goThrough 32 [some (.ref 39), none, none, none] [] g (gz_Fv r) := by
  intro n
  induction n with
  | zero => intro  g r hf; exact nomatch (show (none : Option (gz_S)) = some r from hf)
  | succ n ih =>
    intro  g r hf
    unfold fX12_goThrough_32 at hf
    refine sz_aload_n dX12_goThrough_32 rfl ?_
    refine sz_getI dX12_goThrough_33 flX12_136 kd39 rfl ?_
    refine sz_iconst dX12_goThrough_36 (cIm1) ?_
    refine sz_icmp_ne 66 dX12_goThrough_37 (by decide) (fun c37 => ?_) (fun c37 => ?_)
    · have hf := gz_in1 c37 hf
      exact hk66  _ _ hf
    · have hf := gz_ip c37 hf
      refine sz_aload_n dX12_goThrough_40 rfl ?_
      obtain ⟨q41, eq41, hf⟩ := gz_bd hf
      refine sz_callVi [] [] dX12_goThrough_41 mvX12_146 (Nat.le_of_ble_eq_true rfl) (by decide : 12 < 13) kd39 rfl (Nat.le_of_ble_eq_true rfl) (kX12_look   eq41) ?_
      refine sz_bipush dX12_goThrough_44 (cB59) ?_
      refine sz_icmp_ne 66 dX12_goThrough_46 (by decide) (fun c46 => ?_) (fun c46 => ?_)
      · have hf := gz_in1 c46 hf
        exact hk66  _ _ hf
      · have hf := gz_ip c46 hf
        refine sz_aload_n dX12_goThrough_49 rfl ?_
        refine sz_dup dX12_goThrough_50 rfl ?_
        refine sz_getI dX12_goThrough_51 flX12_127 kd39 rfl ?_
        refine sz_iconst dX12_goThrough_54 (cI1) ?_
        refine sz_iadd dX12_goThrough_55 ?_
        obtain ⟨g56, eg56, hf⟩ := gz_lt hf
        refine sz_putI2 dX12_goThrough_56 flX12_127 kd39 fi12_10 eg56 ?_
        refine sz_aload_n dX12_goThrough_59 rfl ?_
        obtain ⟨q60, eq60, hf⟩ := gz_bd hf
        refine sz_callVv [] [] dX12_goThrough_60 mvX12_219 (Nat.le_of_ble_eq_true rfl) (by decide : 12 < 13) kd39 rfl (Nat.le_of_ble_eq_true rfl) (kX12_clause   eq60) ?_
        refine sz_goto 32 dX12_goThrough_63 (by decide) ?_
        exact ih  _ _ hf
def fX12_goThrough_66 (La : gz_L)  (w1 : Nat)   (g : gz_S) : Option (gz_S) := if (g.1 39 11) = (-1) then (fX12_look La   g).bind (fun q75 => if q75.1 = (-1) then some q75.2 else (fX12_fails La   q75.2).bind (fun q83 => some q83.2)) else some g
set_option maxRecDepth 100000 in
set_option maxHeartbeats 4000000 in
theorem tX12_goThrough_66 {La : gz_L}  {w1 : Nat}  (hw1 : w1 = 40 ∨ w1 = 41)  : ∀  (g : gz_S) (r : gz_S), fX12_goThrough_66 La  w1   g = some r → gz_J La 140 mX12_goThrough 66 [some (.ref 39), none, none, none] [] g (gz_Fv r) := by
  intro  g r hf
  unfold fX12_goThrough_66 at hf
  refine sz_aload_n dX12_goThrough_66 rfl ?_
  refine sz_getI dX12_goThrough_67 flX12_136 kd39 rfl ?_
  refine sz_iconst dX12_goThrough_70 (cIm1) ?_
  refine sz_icmp_ne 87 dX12_goThrough_71 (by decide) (fun c71 => ?_) (fun c71 => ?_)
  · have hf := gz_in1 c71 hf
    cases hf
    exact sz_ret dX12_goThrough_87 rfl ⟨rfl, rfl⟩
  · have hf := gz_ip c71 hf
    refine sz_aload_n dX12_goThrough_74 rfl ?_
    obtain ⟨q75, eq75, hf⟩ := gz_bd hf
    refine sz_callVi [] [] dX12_goThrough_75 mvX12_146 (Nat.le_of_ble_eq_true rfl) (by decide : 12 < 13) kd39 rfl (Nat.le_of_ble_eq_true rfl) (kX12_look   eq75) ?_
    refine sz_iconst dX12_goThrough_78 (cIm1) ?_
    refine sz_icmp_eq 87 dX12_goThrough_79 (by decide) (fun c79 => ?_) (fun c79 => ?_)
    · have hf := gz_ip c79 hf
      cases hf
      exact sz_ret dX12_goThrough_87 rfl ⟨rfl, rfl⟩
    · have hf := gz_in1 c79 hf
      refine sz_aload_n dX12_goThrough_82 rfl ?_
      obtain ⟨q83, eq83, hf⟩ := gz_bd hf
      refine sz_callVi [] [] dX12_goThrough_83 mvX12_142 (Nat.le_of_ble_eq_true rfl) (by decide : 12 < 13) kd39 rfl (Nat.le_of_ble_eq_true rfl) (kX12_fails   eq83) ?_
      refine sz_pop dX12_goThrough_86 rfl ?_
      cases hf
      exact sz_ret dX12_goThrough_87 rfl ⟨rfl, rfl⟩
def fX12_goThrough (La : gz_L)  (w1 : Nat) (x2 : Int32) (x3 : Int32) (g : gz_S) : Option (gz_S) :=
  (fX12_starts La  w1 x2 x3 g).bind (fun q4 => gz_let (gz_wi q4 39 13 121) (fun g10 => gz_let (gz_wi g10 39 12 0) (fun g15 => gz_let (gz_wi g15 39 17 0) (fun g20 => gz_let (gz_wi g20 39 14 0) (fun g25 => (fX12_clause La   g25).bind (fun q29 => fX12_goThrough_32 La  w1 (fX12_goThrough_66 La  w1  ) gz_FU  q29))))))
set_option maxRecDepth 100000 in
set_option maxHeartbeats 4000000 in
theorem kX12_goThrough {La : gz_L}  {w1 : Nat} {x2 : Int32} {x3 : Int32} {g : gz_S} {r : gz_S} (hw1 : w1 = 40 ∨ w1 = 41) (hf : fX12_goThrough La  w1 x2 x3 g = some r) : gz_K La 140 mX12_goThrough [.ref 39, .ref w1, .int x2, .int x3] g (gz_Fv r) := by
  unfold fX12_goThrough at hf
  refine gz_K.of 0 (by decide +kernel) rfl ?_
  show gz_J La 140 mX12_goThrough 0 [some (.ref 39), some (.ref w1), some (.int x2), some (.int x3)] [] g (gz_Fv r)
  refine sz_aload_n dX12_goThrough_0 rfl ?_
  refine sz_aload_n dX12_goThrough_1 rfl ?_
  refine sz_iload_n dX12_goThrough_2 rfl ?_
  refine sz_iload_n dX12_goThrough_3 rfl ?_
  obtain ⟨q4, eq4, hf⟩ := gz_bd hf
  refine sz_callVv [.ref w1, .int x2, .int x3] [] dX12_goThrough_4 mvX12_215 (Nat.le_of_ble_eq_true rfl) (by decide : 12 < 13) kd39 rfl (Nat.le_of_ble_eq_true rfl) (kX12_starts  hw1 eq4) ?_
  refine sz_aload_n dX12_goThrough_7 rfl ?_
  refine sz_bipush dX12_goThrough_8 (cB121) ?_
  obtain ⟨g10, eg10, hf⟩ := gz_lt hf
  refine sz_putI2 dX12_goThrough_10 flX12_209 kd39 fi12_13 eg10 ?_
  refine sz_aload_n dX12_goThrough_13 rfl ?_
  refine sz_iconst dX12_goThrough_14 (cI0) ?_
  obtain ⟨g15, eg15, hf⟩ := gz_lt hf
  refine sz_putI2 dX12_goThrough_15 flX12_139 kd39 fi12_12 eg15 ?_
  refine sz_aload_n dX12_goThrough_18 rfl ?_
  refine sz_iconst dX12_goThrough_19 (cI0) ?_
  obtain ⟨g20, eg20, hf⟩ := gz_lt hf
  refine sz_putZ2 dX12_goThrough_20 flX12_205 kd39 fi12_17 (Or.inl rfl) eg20 ?_
  refine sz_aload_n dX12_goThrough_23 rfl ?_
  refine sz_iconst dX12_goThrough_24 (cI0) ?_
  obtain ⟨g25, eg25, hf⟩ := gz_lt hf
  refine sz_putI2 dX12_goThrough_25 flX12_212 kd39 fi12_14 eg25 ?_
  refine sz_aload_n dX12_goThrough_28 rfl ?_
  obtain ⟨q29, eq29, hf⟩ := gz_bd hf
  refine sz_callVv [] [] dX12_goThrough_29 mvX12_219 (Nat.le_of_ble_eq_true rfl) (by decide : 12 < 13) kd39 rfl (Nat.le_of_ble_eq_true rfl) (kX12_clause   eq29) ?_
  refine sz_weak (l2 := [some (.ref 39), none, none, none]) (gz_subk (gz_subn (gz_subn (gz_subn gz_sub0)))) ?_
  exact tX12_goThrough_32  hw1 (tX12_goThrough_66  hw1 ) _  _ _ hf
def fX12_here (La : gz_L)   (g : gz_S) : Option (Int32 × gz_S) :=
  if (g.1 39 9) ≤ (g.1 39 10) then some ((-1), g) else gz_on (g.2.2 1) none (fun e12 => if e12 = 40 ∨ e12 = 41 then if gz_ok ((g.1 39 8) + (g.1 39 10)) (gz_ln e12) then some ((g.1 e12 (Int32.toNatClampNeg ((g.1 39 8) + (g.1 39 10)))) &&& (255 : Int32), g) else none else none)
set_option maxRecDepth 100000 in
set_option maxHeartbeats 4000000 in
theorem kX12_here {La : gz_L}   {g : gz_S} {r : Int32 × gz_S}  (hf : fX12_here La   g = some r) : gz_K La 1 mX12_here [.ref 39] g (gz_Fi r) := by
  unfold fX12_here at hf
  refine gz_K.of 0 (by decide +kernel) rfl ?_
  show gz_J La 1 mX12_here 0 [some (.ref 39)] [] g (gz_Fi r)
  refine sz_aload_n dX12_here_0 rfl ?_
  refine sz_getI dX12_here_1 flX12_127 kd39 rfl ?_
  refine sz_aload_n dX12_here_4 rfl ?_
  refine sz_getI dX12_here_5 flX12_130 kd39 rfl ?_
  refine sz_icmp_ge 32 dX12_here_8 (by decide) (fun c8 => ?_) (fun c8 => ?_)
  · have hf := gz_ip c8 hf
    refine sz_iconst dX12_here_32 (cIm1) ?_
    cases hf
    exact sz_iret dX12_here_33 rfl rfl ⟨rfl, rfl⟩
  · have hf := gz_in1 c8 hf
    refine sz_aload_n dX12_here_11 rfl ?_
    rcases ho12 : g.2.2 1 with _ | e12
    · cases gz_on0 ho12 hf
    · have hf := gz_on1 ho12 hf
      obtain ⟨he12, hf⟩ := gz_gd hf
      refine sz_getR dX12_here_12 flX12_23 kd39 rfl (rfd1.trans ho12) ?_
      refine sz_aload_n dX12_here_15 rfl ?_
      refine sz_getI dX12_here_16 flX12_133 kd39 rfl ?_
      refine sz_aload_n dX12_here_19 rfl ?_
      refine sz_getI dX12_here_20 flX12_127 kd39 rfl ?_
      refine sz_iadd dX12_here_23 ?_
      obtain ⟨c24, hf⟩ := gz_gd hf
      refine sz_baldL dX12_here_24 (kds_tx he12) c24 rfl ?_
      refine sz_sipush dX12_here_25 (cH255) ?_
      refine sz_iand dX12_here_28 ?_
      refine sz_goto 33 dX12_here_29 (by decide) ?_
      cases hf
      exact sz_iret dX12_here_33 rfl rfl ⟨rfl, rfl⟩
def fX12_spotOf_2 (La : gz_L)  (w0 : Nat)  : Nat → Int32 → Int32 → gz_S → Option (Int32 × gz_S)
  | 0, _, _, _ => none
  | n + 1, x1, x2, g => (fJ0_length_8abf5 La  w0 g).bind (fun q4 => if q4.1 ≤ x2 then some ((-1), q4.2) else (fJ0_charAt_5068e La  w0 x2 q4.2).bind (fun q12 => if q12.1 = x1 then some (x2, q12.2) else gz_let (x2 + 1) (fun y21 => fX12_spotOf_2 La  w0  n x1 y21 q12.2)))
set_option maxRecDepth 100000 in
set_option maxHeartbeats 4000000 in
theorem tX12_spotOf_2 {La : gz_L}  {w0 : Nat}  (hw0 : gz_str w0)  : ∀ (n : Nat) (x1 : Int32) (x2 : Int32) (g : gz_S) (r : Int32 × gz_S), fX12_spotOf_2 La  w0  n x1 x2 g = some r → gz_J La 5 mX12_spotOf 2 [some (.ref w0), some (.int x1), some (.int x2)] [] g (gz_Fi r) := by
  intro n
  induction n with
  | zero => intro x1 x2 g r hf; exact nomatch (show (none : Option (Int32 × gz_S)) = some r from hf)
  | succ n ih =>
    intro x1 x2 g r hf
    unfold fX12_spotOf_2 at hf
    refine sz_iload_n dX12_spotOf_2 rfl ?_
    refine sz_aload_n dX12_spotOf_3 rfl ?_
    obtain ⟨q4, eq4, hf⟩ := gz_bd hf
    refine sz_callStr [] [.int x2] hw0 dX12_spotOf_4 mvX12_107 (Nat.le_of_ble_eq_true rfl) rfl (Nat.le_of_ble_eq_true rfl) (kJ0_length_8abf5  hw0 eq4) ?_
    refine sz_icmp_ge 27 dX12_spotOf_7 (by decide) (fun c7 => ?_) (fun c7 => ?_)
    · have hf := gz_ip c7 hf
      refine sz_iconst dX12_spotOf_27 (cIm1) ?_
      cases hf
      exact sz_iret dX12_spotOf_28 rfl rfl ⟨rfl, rfl⟩
    · have hf := gz_in1 c7 hf
      refine sz_aload_n dX12_spotOf_10 rfl ?_
      refine sz_iload_n dX12_spotOf_11 rfl ?_
      obtain ⟨q12, eq12, hf⟩ := gz_bd hf
      refine sz_callStr [.int x2] [] hw0 dX12_spotOf_12 mvX12_113 (Nat.le_of_ble_eq_true rfl) rfl (Nat.le_of_ble_eq_true rfl) (kJ0_charAt_5068e  hw0 eq12) ?_
      refine sz_iload_n dX12_spotOf_15 rfl ?_
      refine sz_icmp_ne 21 dX12_spotOf_16 (by decide) (fun c16 => ?_) (fun c16 => ?_)
      · have hf := gz_in1 c16 hf
        obtain ⟨y21, ey21, hf⟩ := gz_lt hf
        refine sz_iinc (v := y21) dX12_spotOf_21 rfl (by rw [ey21, cI1]) (Nat.le_of_ble_eq_true rfl) rfl ?_
        refine sz_ls (l2 := [some (.ref w0), some (.int x1), some (.int y21)]) rfl ?_
        refine sz_goto 2 dX12_spotOf_24 (by decide) ?_
        exact ih _ _ _ _ hf
      · have hf := gz_ip c16 hf
        refine sz_iload_n dX12_spotOf_19 rfl ?_
        cases hf
        exact sz_iret dX12_spotOf_20 rfl rfl ⟨rfl, rfl⟩
def fX12_spotOf (La : gz_L)  (w0 : Nat) (x1 : Int32) (g : gz_S) : Option (Int32 × gz_S) :=
  fX12_spotOf_2 La  w0  gz_FU x1 0 g
set_option maxRecDepth 100000 in
set_option maxHeartbeats 4000000 in
theorem kX12_spotOf {La : gz_L}  {w0 : Nat} {x1 : Int32} {g : gz_S} {r : Int32 × gz_S} (hw0 : gz_str w0) (hf : fX12_spotOf La  w0 x1 g = some r) : gz_K La 5 mX12_spotOf [.ref w0, .int x1] g (gz_Fi r) := by
  unfold fX12_spotOf at hf
  refine gz_K.of 1 (by decide +kernel) rfl ?_
  show gz_J La 5 mX12_spotOf 0 [some (.ref w0), some (.int x1), none] [] g (gz_Fi r)
  refine sz_iconst dX12_spotOf_0 (cI0) ?_
  refine sz_istore_n dX12_spotOf_1 rfl (Nat.le_of_ble_eq_true rfl) rfl ?_
  refine sz_ls (l2 := [some (.ref w0), some (.int x1), some (.int 0)]) rfl ?_
  exact tX12_spotOf_2  hw0  _ _ _ _ _ hf
def fX12_number_67 (La : gz_L)    (x1 : Int32) (x2 : Int32) (x4 : Int32) (g : gz_S) : Option (Int32 × gz_S) := (fX12_isDigit La   g).bind (fun q68 => if q68.1 = 0 then (fX12_isIn La  (Int32.toInt64 x4) (Int32.toInt64 x1) (Int32.toInt64 x2) q68.2).bind (fun q88 => if q88.1 = 0 then gz_let (gz_wi q88.2 39 10 ((q88.2.1 39 10) - 1)) (fun g101 => (fX12_fails La   g101).bind (fun q105 => some (x4, q105.2))) else some (x4, q88.2)) else (fX12_fails La   q68.2).bind (fun q75 => some (0, q75.2)))
set_option maxRecDepth 100000 in
set_option maxHeartbeats 4000000 in
theorem tX12_number_67 {La : gz_L}      : ∀ (x1 : Int32) (x2 : Int32) (x4 : Int32) (g : gz_S) (r : Int32 × gz_S), fX12_number_67 La    x1 x2 x4 g = some r → gz_J La 2 mX12_number 67 [some (.ref 39), some (.int x1), some (.int x2), none, some (.int x4)] [] g (gz_Fi r) := by
  intro x1 x2 x4 g r hf
  unfold fX12_number_67 at hf
  refine sz_aload_n dX12_number_67 rfl ?_
  obtain ⟨q68, eq68, hf⟩ := gz_bd hf
  refine sz_callVi [] [] dX12_number_68 mvX12_176 (Nat.le_of_ble_eq_true rfl) (by decide : 12 < 13) kd39 rfl (Nat.le_of_ble_eq_true rfl) (kX12_isDigit   eq68) ?_
  refine sz_if_eq 81 dX12_number_71 (by decide) (fun c71 => ?_) (fun c71 => ?_)
  · have hf := gz_ip c71 hf
    refine sz_iload dX12_number_81 rfl ?_
    refine sz_i2l dX12_number_83 ?_
    refine sz_iload_n dX12_number_84 rfl ?_
    refine sz_i2l dX12_number_85 ?_
    refine sz_iload_n dX12_number_86 rfl ?_
    refine sz_i2l dX12_number_87 ?_
    obtain ⟨q88, eq88, hf⟩ := gz_bd hf
    refine sz_callSi [.long (Int32.toInt64 x4), .long (Int32.toInt64 x1), .long (Int32.toInt64 x2)] [] dX12_number_88 msX12_225 (Nat.le_of_ble_eq_true rfl) (Nat.le_of_ble_eq_true rfl) (kX12_isIn   eq88) ?_
    refine sz_if_ne 109 dX12_number_91 (by decide) (fun c91 => ?_) (fun c91 => ?_)
    · have hf := gz_in1 c91 hf
      refine sz_iload dX12_number_109 rfl ?_
      cases hf
      exact sz_iret dX12_number_111 rfl rfl ⟨rfl, rfl⟩
    · have hf := gz_ip c91 hf
      refine sz_aload_n dX12_number_94 rfl ?_
      refine sz_dup dX12_number_95 rfl ?_
      refine sz_getI dX12_number_96 flX12_127 kd39 rfl ?_
      refine sz_iconst dX12_number_99 (cI1) ?_
      refine sz_isub dX12_number_100 ?_
      obtain ⟨g101, eg101, hf⟩ := gz_lt hf
      refine sz_putI2 dX12_number_101 flX12_127 kd39 fi12_10 eg101 ?_
      refine sz_aload_n dX12_number_104 rfl ?_
      obtain ⟨q105, eq105, hf⟩ := gz_bd hf
      refine sz_callVi [] [] dX12_number_105 mvX12_142 (Nat.le_of_ble_eq_true rfl) (by decide : 12 < 13) kd39 rfl (Nat.le_of_ble_eq_true rfl) (kX12_fails   eq105) ?_
      refine sz_pop dX12_number_108 rfl ?_
      refine sz_iload dX12_number_109 rfl ?_
      cases hf
      exact sz_iret dX12_number_111 rfl rfl ⟨rfl, rfl⟩
  · have hf := gz_in1 c71 hf
    refine sz_aload_n dX12_number_74 rfl ?_
    obtain ⟨q75, eq75, hf⟩ := gz_bd hf
    refine sz_callVi [] [] dX12_number_75 mvX12_142 (Nat.le_of_ble_eq_true rfl) (by decide : 12 < 13) kd39 rfl (Nat.le_of_ble_eq_true rfl) (kX12_fails   eq75) ?_
    refine sz_pop dX12_number_78 rfl ?_
    refine sz_iconst dX12_number_79 (cI0) ?_
    cases hf
    exact sz_iret dX12_number_80 rfl rfl ⟨rfl, rfl⟩
def fX12_number (La : gz_L)  (x1 : Int32) (x2 : Int32) (g : gz_S) : Option (Int32 × gz_S) :=
  (fX12_look La   g).bind (fun q1 => (fX12_isDigit La   q1.2).bind (fun q6 => if q6.1 = 0 then (fX12_fails La   q6.2).bind (fun q13 => some (0, q13.2)) else gz_let (q1.1 - 48) (fun y23 => gz_let (gz_wi q6.2 39 10 ((q6.2.1 39 10) + 1)) (fun g32 => (fX12_isDigit La   g32).bind (fun q36 => if q36.1 = 0 then fX12_number_67 La     x1 x2 y23 q36.2 else (fX12_here La   q36.2).bind (fun q48 => gz_let ((((10 : Int32) * y23) + q48.1) - 48) (fun y55 => gz_let (gz_wi q48.2 39 10 ((q48.2.1 39 10) + 1)) (fun g64 => fX12_number_67 La     x1 x2 y55 g64))))))))
set_option maxRecDepth 100000 in
set_option maxHeartbeats 4000000 in
theorem kX12_number {La : gz_L}  {x1 : Int32} {x2 : Int32} {g : gz_S} {r : Int32 × gz_S}  (hf : fX12_number La  x1 x2 g = some r) : gz_K La 2 mX12_number [.ref 39, .int x1, .int x2] g (gz_Fi r) := by
  unfold fX12_number at hf
  refine gz_K.of 2 (by decide +kernel) rfl ?_
  show gz_J La 2 mX12_number 0 [some (.ref 39), some (.int x1), some (.int x2), none, none] [] g (gz_Fi r)
  refine sz_aload_n dX12_number_0 rfl ?_
  obtain ⟨q1, eq1, hf⟩ := gz_bd hf
  refine sz_callVi [] [] dX12_number_1 mvX12_146 (Nat.le_of_ble_eq_true rfl) (by decide : 12 < 13) kd39 rfl (Nat.le_of_ble_eq_true rfl) (kX12_look   eq1) ?_
  refine sz_istore_n dX12_number_4 rfl (Nat.le_of_ble_eq_true rfl) rfl ?_
  refine sz_ls (l2 := [some (.ref 39), some (.int x1), some (.int x2), some (.int q1.1), none]) rfl ?_
  refine sz_aload_n dX12_number_5 rfl ?_
  obtain ⟨q6, eq6, hf⟩ := gz_bd hf
  refine sz_callVi [] [] dX12_number_6 mvX12_176 (Nat.le_of_ble_eq_true rfl) (by decide : 12 < 13) kd39 rfl (Nat.le_of_ble_eq_true rfl) (kX12_isDigit   eq6) ?_
  refine sz_if_ne 19 dX12_number_9 (by decide) (fun c9 => ?_) (fun c9 => ?_)
  · have hf := gz_in1 c9 hf
    refine sz_iload_n dX12_number_19 rfl ?_
    refine sz_bipush dX12_number_20 (cB48) ?_
    refine sz_isub dX12_number_22 ?_
    obtain ⟨y23, ey23, hf⟩ := gz_lt hf
    refine sz_topi ey23 ?_
    refine sz_istore dX12_number_23 (Nat.le_of_ble_eq_true rfl) rfl ?_
    refine sz_ls (l2 := [some (.ref 39), some (.int x1), some (.int x2), some (.int q1.1), some (.int y23)]) rfl ?_
    refine sz_aload_n dX12_number_25 rfl ?_
    refine sz_dup dX12_number_26 rfl ?_
    refine sz_getI dX12_number_27 flX12_127 kd39 rfl ?_
    refine sz_iconst dX12_number_30 (cI1) ?_
    refine sz_iadd dX12_number_31 ?_
    obtain ⟨g32, eg32, hf⟩ := gz_lt hf
    refine sz_putI2 dX12_number_32 flX12_127 kd39 fi12_10 eg32 ?_
    refine sz_aload_n dX12_number_35 rfl ?_
    obtain ⟨q36, eq36, hf⟩ := gz_bd hf
    refine sz_callVi [] [] dX12_number_36 mvX12_176 (Nat.le_of_ble_eq_true rfl) (by decide : 12 < 13) kd39 rfl (Nat.le_of_ble_eq_true rfl) (kX12_isDigit   eq36) ?_
    refine sz_if_eq 67 dX12_number_39 (by decide) (fun c39 => ?_) (fun c39 => ?_)
    · have hf := gz_ip c39 hf
      refine sz_weak (l2 := [some (.ref 39), some (.int x1), some (.int x2), none, some (.int y23)]) (gz_subk (gz_subk (gz_subk (gz_subn (gz_subk gz_sub0))))) ?_
      exact tX12_number_67    _ _ _ _ _ hf
    · have hf := gz_in1 c39 hf
      refine sz_bipush dX12_number_42 (cB10) ?_
      refine sz_iload dX12_number_44 rfl ?_
      refine sz_imul dX12_number_46 ?_
      refine sz_aload_n dX12_number_47 rfl ?_
      obtain ⟨q48, eq48, hf⟩ := gz_bd hf
      refine sz_callVi [] [.int ((10 : Int32) * y23)] dX12_number_48 mvX12_222 (Nat.le_of_ble_eq_true rfl) (by decide : 12 < 13) kd39 rfl (Nat.le_of_ble_eq_true rfl) (kX12_here   eq48) ?_
      refine sz_iadd dX12_number_51 ?_
      refine sz_bipush dX12_number_52 (cB48) ?_
      refine sz_isub dX12_number_54 ?_
      obtain ⟨y55, ey55, hf⟩ := gz_lt hf
      refine sz_topi ey55 ?_
      refine sz_istore dX12_number_55 (Nat.le_of_ble_eq_true rfl) rfl ?_
      refine sz_ls (l2 := [some (.ref 39), some (.int x1), some (.int x2), some (.int q1.1), some (.int y55)]) rfl ?_
      refine sz_aload_n dX12_number_57 rfl ?_
      refine sz_dup dX12_number_58 rfl ?_
      refine sz_getI dX12_number_59 flX12_127 kd39 rfl ?_
      refine sz_iconst dX12_number_62 (cI1) ?_
      refine sz_iadd dX12_number_63 ?_
      obtain ⟨g64, eg64, hf⟩ := gz_lt hf
      refine sz_putI2 dX12_number_64 flX12_127 kd39 fi12_10 eg64 ?_
      refine sz_weak (l2 := [some (.ref 39), some (.int x1), some (.int x2), none, some (.int y55)]) (gz_subk (gz_subk (gz_subk (gz_subn (gz_subk gz_sub0))))) ?_
      exact tX12_number_67    _ _ _ _ _ hf
  · have hf := gz_ip c9 hf
    refine sz_aload_n dX12_number_12 rfl ?_
    obtain ⟨q13, eq13, hf⟩ := gz_bd hf
    refine sz_callVi [] [] dX12_number_13 mvX12_142 (Nat.le_of_ble_eq_true rfl) (by decide : 12 < 13) kd39 rfl (Nat.le_of_ble_eq_true rfl) (kX12_fails   eq13) ?_
    refine sz_pop dX12_number_16 rfl ?_
    refine sz_iconst dX12_number_17 (cI0) ?_
    cases hf
    exact sz_iret dX12_number_18 rfl rfl ⟨rfl, rfl⟩
def fX12_mostOf (La : gz_L)  (x0 : Int32) (x1 : Int32) (g : gz_S) : Option (Int32 × gz_S) :=
  if x0 = 115 then if x1 = 0 then some (6, g) else if x1 = 3 then some (99, g) else some (5, g) else if x1 = 0 then some (5, g) else if x1 = 1 then some (4, g) else if x1 = 2 then some (3, g) else some (4, g)
set_option maxRecDepth 100000 in
set_option maxHeartbeats 4000000 in
theorem kX12_mostOf {La : gz_L}  {x0 : Int32} {x1 : Int32} {g : gz_S} {r : Int32 × gz_S}  (hf : fX12_mostOf La  x0 x1 g = some r) : gz_K La 1 mX12_mostOf [.int x0, .int x1] g (gz_Fi r) := by
  unfold fX12_mostOf at hf
  refine gz_K.of 0 (by decide +kernel) rfl ?_
  show gz_J La 1 mX12_mostOf 0 [some (.int x0), some (.int x1)] [] g (gz_Fi r)
  refine sz_iload_n dX12_mostOf_0 rfl ?_
  refine sz_bipush dX12_mostOf_1 (cB115) ?_
  refine sz_icmp_ne 27 dX12_mostOf_3 (by decide) (fun c3 => ?_) (fun c3 => ?_)
  · have hf := gz_in1 c3 hf
    refine sz_iload_n dX12_mostOf_27 rfl ?_
    refine sz_if_ne 35 dX12_mostOf_28 (by decide) (fun c28 => ?_) (fun c28 => ?_)
    · have hf := gz_in1 c28 hf
      refine sz_iload_n dX12_mostOf_35 rfl ?_
      refine sz_iconst dX12_mostOf_36 (cI1) ?_
      refine sz_icmp_ne 44 dX12_mostOf_37 (by decide) (fun c37 => ?_) (fun c37 => ?_)
      · have hf := gz_in1 c37 hf
        refine sz_iload_n dX12_mostOf_44 rfl ?_
        refine sz_iconst dX12_mostOf_45 (cI2) ?_
        refine sz_icmp_ne 53 dX12_mostOf_46 (by decide) (fun c46 => ?_) (fun c46 => ?_)
        · have hf := gz_in1 c46 hf
          refine sz_iconst dX12_mostOf_53 (cI4) ?_
          cases hf
          exact sz_iret dX12_mostOf_54 rfl rfl ⟨rfl, rfl⟩
        · have hf := gz_ip c46 hf
          refine sz_iconst dX12_mostOf_49 (cI3) ?_
          refine sz_goto 54 dX12_mostOf_50 (by decide) ?_
          cases hf
          exact sz_iret dX12_mostOf_54 rfl rfl ⟨rfl, rfl⟩
      · have hf := gz_ip c37 hf
        refine sz_iconst dX12_mostOf_40 (cI4) ?_
        refine sz_goto 54 dX12_mostOf_41 (by decide) ?_
        cases hf
        exact sz_iret dX12_mostOf_54 rfl rfl ⟨rfl, rfl⟩
    · have hf := gz_ip c28 hf
      refine sz_iconst dX12_mostOf_31 (cI5) ?_
      refine sz_goto 54 dX12_mostOf_32 (by decide) ?_
      cases hf
      exact sz_iret dX12_mostOf_54 rfl rfl ⟨rfl, rfl⟩
  · have hf := gz_ip c3 hf
    refine sz_iload_n dX12_mostOf_6 rfl ?_
    refine sz_if_ne 15 dX12_mostOf_7 (by decide) (fun c7 => ?_) (fun c7 => ?_)
    · have hf := gz_in1 c7 hf
      refine sz_iload_n dX12_mostOf_15 rfl ?_
      refine sz_iconst dX12_mostOf_16 (cI3) ?_
      refine sz_icmp_ne 25 dX12_mostOf_17 (by decide) (fun c17 => ?_) (fun c17 => ?_)
      · have hf := gz_in1 c17 hf
        refine sz_iconst dX12_mostOf_25 (cI5) ?_
        cases hf
        exact sz_iret dX12_mostOf_26 rfl rfl ⟨rfl, rfl⟩
      · have hf := gz_ip c17 hf
        refine sz_bipush dX12_mostOf_20 (cB99) ?_
        refine sz_goto 26 dX12_mostOf_22 (by decide) ?_
        cases hf
        exact sz_iret dX12_mostOf_26 rfl rfl ⟨rfl, rfl⟩
    · have hf := gz_ip c7 hf
      refine sz_bipush dX12_mostOf_10 (cB6) ?_
      refine sz_goto 26 dX12_mostOf_12 (by decide) ?_
      cases hf
      exact sz_iret dX12_mostOf_26 rfl rfl ⟨rfl, rfl⟩
def fX12_leastOf (La : gz_L)  (x0 : Int32) (x1 : Int32) (g : gz_S) : Option (Int32 × gz_S) :=
  if x0 = 115 then if 2 ≤ x1 then some (0, g) else some (2, g) else if x1 = 3 then some (1, g) else some (0, g)
set_option maxRecDepth 100000 in
set_option maxHeartbeats 4000000 in
theorem kX12_leastOf {La : gz_L}  {x0 : Int32} {x1 : Int32} {g : gz_S} {r : Int32 × gz_S}  (hf : fX12_leastOf La  x0 x1 g = some r) : gz_K La 1 mX12_leastOf [.int x0, .int x1] g (gz_Fi r) := by
  unfold fX12_leastOf at hf
  refine gz_K.of 0 (by decide +kernel) rfl ?_
  show gz_J La 1 mX12_leastOf 0 [some (.int x0), some (.int x1)] [] g (gz_Fi r)
  refine sz_iload_n dX12_leastOf_0 rfl ?_
  refine sz_bipush dX12_leastOf_1 (cB115) ?_
  refine sz_icmp_ne 17 dX12_leastOf_3 (by decide) (fun c3 => ?_) (fun c3 => ?_)
  · have hf := gz_in1 c3 hf
    refine sz_iload_n dX12_leastOf_17 rfl ?_
    refine sz_iconst dX12_leastOf_18 (cI3) ?_
    refine sz_icmp_ne 26 dX12_leastOf_19 (by decide) (fun c19 => ?_) (fun c19 => ?_)
    · have hf := gz_in1 c19 hf
      refine sz_iconst dX12_leastOf_26 (cI0) ?_
      cases hf
      exact sz_iret dX12_leastOf_27 rfl rfl ⟨rfl, rfl⟩
    · have hf := gz_ip c19 hf
      refine sz_iconst dX12_leastOf_22 (cI1) ?_
      refine sz_goto 27 dX12_leastOf_23 (by decide) ?_
      cases hf
      exact sz_iret dX12_leastOf_27 rfl rfl ⟨rfl, rfl⟩
  · have hf := gz_ip c3 hf
    refine sz_iload_n dX12_leastOf_6 rfl ?_
    refine sz_iconst dX12_leastOf_7 (cI2) ?_
    refine sz_icmp_ge 15 dX12_leastOf_8 (by decide) (fun c8 => ?_) (fun c8 => ?_)
    · have hf := gz_ip c8 hf
      refine sz_iconst dX12_leastOf_15 (cI0) ?_
      cases hf
      exact sz_iret dX12_leastOf_16 rfl rfl ⟨rfl, rfl⟩
    · have hf := gz_in1 c8 hf
      refine sz_iconst dX12_leastOf_11 (cI2) ?_
      refine sz_goto 16 dX12_leastOf_12 (by decide) ?_
      cases hf
      exact sz_iret dX12_leastOf_16 rfl rfl ⟨rfl, rfl⟩
def fX12_usual (La : gz_L)  (x0 : Int32) (x1 : Int32) (g : gz_S) : Option (Int32 × gz_S) :=
  if x0 = 115 then if x1 = 0 then some (5, g) else if x1 = 1 then some (4, g) else if x1 = 2 then some (0, g) else some (20, g) else if 2 ≤ x1 then some (1, g) else some (0, g)
set_option maxRecDepth 100000 in
set_option maxHeartbeats 4000000 in
theorem kX12_usual {La : gz_L}  {x0 : Int32} {x1 : Int32} {g : gz_S} {r : Int32 × gz_S}  (hf : fX12_usual La  x0 x1 g = some r) : gz_K La 1 mX12_usual [.int x0, .int x1] g (gz_Fi r) := by
  unfold fX12_usual at hf
  refine gz_K.of 0 (by decide +kernel) rfl ?_
  show gz_J La 1 mX12_usual 0 [some (.int x0), some (.int x1)] [] g (gz_Fi r)
  refine sz_iload_n dX12_usual_0 rfl ?_
  refine sz_bipush dX12_usual_1 (cB115) ?_
  refine sz_icmp_ne 35 dX12_usual_3 (by decide) (fun c3 => ?_) (fun c3 => ?_)
  · have hf := gz_in1 c3 hf
    refine sz_iload_n dX12_usual_35 rfl ?_
    refine sz_iconst dX12_usual_36 (cI2) ?_
    refine sz_icmp_ge 44 dX12_usual_37 (by decide) (fun c37 => ?_) (fun c37 => ?_)
    · have hf := gz_ip c37 hf
      refine sz_iconst dX12_usual_44 (cI1) ?_
      cases hf
      exact sz_iret dX12_usual_45 rfl rfl ⟨rfl, rfl⟩
    · have hf := gz_in1 c37 hf
      refine sz_iconst dX12_usual_40 (cI0) ?_
      refine sz_goto 45 dX12_usual_41 (by decide) ?_
      cases hf
      exact sz_iret dX12_usual_45 rfl rfl ⟨rfl, rfl⟩
  · have hf := gz_ip c3 hf
    refine sz_iload_n dX12_usual_6 rfl ?_
    refine sz_if_ne 14 dX12_usual_7 (by decide) (fun c7 => ?_) (fun c7 => ?_)
    · have hf := gz_in1 c7 hf
      refine sz_iload_n dX12_usual_14 rfl ?_
      refine sz_iconst dX12_usual_15 (cI1) ?_
      refine sz_icmp_ne 23 dX12_usual_16 (by decide) (fun c16 => ?_) (fun c16 => ?_)
      · have hf := gz_in1 c16 hf
        refine sz_iload_n dX12_usual_23 rfl ?_
        refine sz_iconst dX12_usual_24 (cI2) ?_
        refine sz_icmp_ne 32 dX12_usual_25 (by decide) (fun c25 => ?_) (fun c25 => ?_)
        · have hf := gz_in1 c25 hf
          refine sz_bipush dX12_usual_32 (cB20) ?_
          cases hf
          exact sz_iret dX12_usual_34 rfl rfl ⟨rfl, rfl⟩
        · have hf := gz_ip c25 hf
          refine sz_iconst dX12_usual_28 (cI0) ?_
          refine sz_goto 34 dX12_usual_29 (by decide) ?_
          cases hf
          exact sz_iret dX12_usual_34 rfl rfl ⟨rfl, rfl⟩
      · have hf := gz_ip c16 hf
        refine sz_iconst dX12_usual_19 (cI4) ?_
        refine sz_goto 34 dX12_usual_20 (by decide) ?_
        cases hf
        exact sz_iret dX12_usual_34 rfl rfl ⟨rfl, rfl⟩
    · have hf := gz_ip c7 hf
      refine sz_iconst dX12_usual_10 (cI5) ?_
      refine sz_goto 34 dX12_usual_11 (by decide) ?_
      cases hf
      exact sz_iret dX12_usual_34 rfl rfl ⟨rfl, rfl⟩
def fX12_readItems_3 (La : gz_L)  (w2 : Nat) (w4 : Nat) (k31 : Int32 → Int32 → gz_S → Option (gz_S)) : Nat → Int32 → Int32 → Int32 → gz_S → Option (gz_S)
  | 0, _, _, _, _ => none
  | n + 1, x1, x3, x5, g => (fJ0_length_8abf5 La  w4 g).bind (fun q7 => if q7.1 ≤ x5 then k31 x1 x3 q7.2 else (fX12_usual La  x1 x5 q7.2).bind (fun q21 => if gz_ok (x3 + x5) (gz_ln w2) then gz_let (gz_wi q21.2 w2 (Int32.toNatClampNeg (x3 + x5)) q21.1) (fun g24 => gz_let (x5 + 1) (fun y25 => fX12_readItems_3 La  w2 w4 k31 n x1 x3 y25 g24)) else none))
set_option maxRecDepth 100000 in
set_option maxHeartbeats 4000000 in
theorem tX12_readItems_3 {La : gz_L}  {w2 : Nat} {w4 : Nat} {k31 : Int32 → Int32 → gz_S → Option (gz_S)} (hw2 : w2 = 45 ∨ w2 = 47) (hw4 : gz_str w4) (hk31 : ∀ (x1 : Int32) (x3 : Int32) (g : gz_S) (r : gz_S), k31 x1 x3 g = some r → gz_J La 6 mX12_readItems 31 [some (.ref 39), some (.int x1), some (.ref w2), some (.int x3), some (.ref w4), none, none] [] g (gz_Fv r)) : ∀ (n : Nat) (x1 : Int32) (x3 : Int32) (x5 : Int32) (g : gz_S) (r : gz_S), fX12_readItems_3 La  w2 w4 k31 n x1 x3 x5 g = some r → gz_J La 6 mX12_readItems 3 [some (.ref 39), some (.int x1), some (.ref w2), some (.int x3), some (.ref w4), some (.int x5), none] [] g (gz_Fv r) := by
  intro n
  induction n with
  | zero => intro x1 x3 x5 g r hf; exact nomatch (show (none : Option (gz_S)) = some r from hf)
  | succ n ih =>
    intro x1 x3 x5 g r hf
    unfold fX12_readItems_3 at hf
    refine sz_iload dX12_readItems_3 rfl ?_
    refine sz_aload dX12_readItems_5 rfl ?_
    obtain ⟨q7, eq7, hf⟩ := gz_bd hf
    refine sz_callStr [] [.int x5] hw4 dX12_readItems_7 mvX12_107 (Nat.le_of_ble_eq_true rfl) rfl (Nat.le_of_ble_eq_true rfl) (kJ0_length_8abf5  hw4 eq7) ?_
    refine sz_icmp_ge 31 dX12_readItems_10 (by decide) (fun c10 => ?_) (fun c10 => ?_)
    · have hf := gz_ip c10 hf
      refine sz_weak (l2 := [some (.ref 39), some (.int x1), some (.ref w2), some (.int x3), some (.ref w4), none, none]) (gz_subk (gz_subk (gz_subk (gz_subk (gz_subk (gz_subn (gz_subk gz_sub0))))))) ?_
      exact hk31 _ _ _ _ hf
    · have hf := gz_in1 c10 hf
      refine sz_aload_n dX12_readItems_13 rfl ?_
      refine sz_iload_n dX12_readItems_14 rfl ?_
      refine sz_iload dX12_readItems_15 rfl ?_
      refine sz_iadd dX12_readItems_17 ?_
      refine sz_iload_n dX12_readItems_18 rfl ?_
      refine sz_iload dX12_readItems_19 rfl ?_
      obtain ⟨q21, eq21, hf⟩ := gz_bd hf
      refine sz_callSi [.int x1, .int x5] [.int (x3 + x5), .ref w2] dX12_readItems_21 msX12_229 (Nat.le_of_ble_eq_true rfl) (Nat.le_of_ble_eq_true rfl) (kX12_usual   eq21) ?_
      obtain ⟨c24, hf⟩ := gz_gd hf
      obtain ⟨g24, eg24, hf⟩ := gz_lt hf
      refine sz_iastL dX12_readItems_24 (kds_in12 hw2) c24 rfl eg24 ?_
      obtain ⟨y25, ey25, hf⟩ := gz_lt hf
      refine sz_iinc (v := y25) dX12_readItems_25 rfl (by rw [ey25, cI1]) (Nat.le_of_ble_eq_true rfl) rfl ?_
      refine sz_ls (l2 := [some (.ref 39), some (.int x1), some (.ref w2), some (.int x3), some (.ref w4), some (.int y25), none]) rfl ?_
      refine sz_goto 3 dX12_readItems_28 (by decide) ?_
      exact ih _ _ _ _ _ hf
def fX12_readItems_45 (La : gz_L)  (w2 : Nat) (w4 : Nat) (k69 : gz_S → Option (gz_S)) : Nat → Int32 → Int32 → Int32 → Int32 → gz_S → Option (gz_S)
  | 0, _, _, _, _, _ => none
  | n + 1, x1, x3, x5, x6, g => if x6 = (-1) then some g else if (g.1 39 11) = (-1) then (fX12_has La  x5 x6 g).bind (fun q63 => if q63.1 = 0 then gz_let (x5 ||| ((1 : Int32) <<< (x6 &&& 31))) (fun y82 => gz_let (gz_wi q63.2 39 10 ((q63.2.1 39 10) + 1)) (fun g91 => (fX12_leastOf La  x1 x6 g91).bind (fun q103 => (fX12_mostOf La  x1 x6 q103.2).bind (fun q109 => (fX12_number La  q103.1 q109.1 q109.2).bind (fun q112 => if gz_ok (x3 + x6) (gz_ln w2) then gz_let (gz_wi q112.2 w2 (Int32.toNatClampNeg (x3 + x6)) q112.1) (fun g115 => if (g115.1 39 11) = (-1) then (fX12_look La   g115).bind (fun q127 => (fX12_spotOf La  w4 q127.1 q127.2).bind (fun q130 => fX12_readItems_45 La  w2 w4 k69 n x1 x3 y82 q130.1 q130.2)) else fX12_readItems_45 La  w2 w4 k69 n x1 x3 y82 x6 g115) else none))))) else k69  q63.2) else some g
set_option maxRecDepth 100000 in
set_option maxHeartbeats 4000000 in
theorem tX12_readItems_45 {La : gz_L}  {w2 : Nat} {w4 : Nat} {k69 : gz_S → Option (gz_S)} (hw2 : w2 = 45 ∨ w2 = 47) (hw4 : gz_str w4) (hk69 : ∀  (g : gz_S) (r : gz_S), k69  g = some r → gz_J La 6 mX12_readItems 69 [some (.ref 39), none, none, none, none, none, none] [] g (gz_Fv r)) : ∀ (n : Nat) (x1 : Int32) (x3 : Int32) (x5 : Int32) (x6 : Int32) (g : gz_S) (r : gz_S), fX12_readItems_45 La  w2 w4 k69 n x1 x3 x5 x6 g = some r → gz_J La 6 mX12_readItems 45 [some (.ref 39), some (.int x1), some (.ref w2), some (.int x3), some (.ref w4), some (.int x5), some (.int x6)] [] g (gz_Fv r) := by
  intro n
  induction n with
  | zero => intro x1 x3 x5 x6 g r hf; exact nomatch (show (none : Option (gz_S)) = some r from hf)
  | succ n ih =>
    intro x1 x3 x5 x6 g r hf
    unfold fX12_readItems_45 at hf
    refine sz_iload dX12_readItems_45 rfl ?_
    refine sz_iconst dX12_readItems_47 (cIm1) ?_
    refine sz_icmp_eq 138 dX12_readItems_48 (by decide) (fun c48 => ?_) (fun c48 => ?_)
    · have hf := gz_ip c48 hf
      cases hf
      exact sz_ret dX12_readItems_138 rfl ⟨rfl, rfl⟩
    · have hf := gz_in1 c48 hf
      refine sz_aload_n dX12_readItems_51 rfl ?_
      refine sz_getI dX12_readItems_52 flX12_136 kd39 rfl ?_
      refine sz_iconst dX12_readItems_55 (cIm1) ?_
      refine sz_icmp_ne 138 dX12_readItems_56 (by decide) (fun c56 => ?_) (fun c56 => ?_)
      · have hf := gz_in1 c56 hf
        cases hf
        exact sz_ret dX12_readItems_138 rfl ⟨rfl, rfl⟩
      · have hf := gz_ip c56 hf
        refine sz_iload dX12_readItems_59 rfl ?_
        refine sz_iload dX12_readItems_61 rfl ?_
        obtain ⟨q63, eq63, hf⟩ := gz_bd hf
        refine sz_callSi [.int x5, .int x6] [] dX12_readItems_63 msX12_237 (Nat.le_of_ble_eq_true rfl) (Nat.le_of_ble_eq_true rfl) (kX12_has   eq63) ?_
        refine sz_if_eq 75 dX12_readItems_66 (by decide) (fun c66 => ?_) (fun c66 => ?_)
        · have hf := gz_ip c66 hf
          refine sz_iload dX12_readItems_75 rfl ?_
          refine sz_iconst dX12_readItems_77 (cI1) ?_
          refine sz_iload dX12_readItems_78 rfl ?_
          refine sz_ishl dX12_readItems_80 ?_
          refine sz_ior dX12_readItems_81 ?_
          obtain ⟨y82, ey82, hf⟩ := gz_lt hf
          refine sz_topi ey82 ?_
          refine sz_istore dX12_readItems_82 (Nat.le_of_ble_eq_true rfl) rfl ?_
          refine sz_ls (l2 := [some (.ref 39), some (.int x1), some (.ref w2), some (.int x3), some (.ref w4), some (.int y82), some (.int x6)]) rfl ?_
          refine sz_aload_n dX12_readItems_84 rfl ?_
          refine sz_dup dX12_readItems_85 rfl ?_
          refine sz_getI dX12_readItems_86 flX12_127 kd39 rfl ?_
          refine sz_iconst dX12_readItems_89 (cI1) ?_
          refine sz_iadd dX12_readItems_90 ?_
          obtain ⟨g91, eg91, hf⟩ := gz_lt hf
          refine sz_putI2 dX12_readItems_91 flX12_127 kd39 fi12_10 eg91 ?_
          refine sz_aload_n dX12_readItems_94 rfl ?_
          refine sz_iload_n dX12_readItems_95 rfl ?_
          refine sz_iload dX12_readItems_96 rfl ?_
          refine sz_iadd dX12_readItems_98 ?_
          refine sz_aload_n dX12_readItems_99 rfl ?_
          refine sz_iload_n dX12_readItems_100 rfl ?_
          refine sz_iload dX12_readItems_101 rfl ?_
          obtain ⟨q103, eq103, hf⟩ := gz_bd hf
          refine sz_callSi [.int x1, .int x6] [.ref 39, .int (x3 + x6), .ref w2] dX12_readItems_103 msX12_241 (Nat.le_of_ble_eq_true rfl) (Nat.le_of_ble_eq_true rfl) (kX12_leastOf   eq103) ?_
          refine sz_iload_n dX12_readItems_106 rfl ?_
          refine sz_iload dX12_readItems_107 rfl ?_
          obtain ⟨q109, eq109, hf⟩ := gz_bd hf
          refine sz_callSi [.int x1, .int x6] [.int q103.1, .ref 39, .int (x3 + x6), .ref w2] dX12_readItems_109 msX12_244 (Nat.le_of_ble_eq_true rfl) (Nat.le_of_ble_eq_true rfl) (kX12_mostOf   eq109) ?_
          obtain ⟨q112, eq112, hf⟩ := gz_bd hf
          refine sz_callVi [.int q103.1, .int q109.1] [.int (x3 + x6), .ref w2] dX12_readItems_112 mvX12_247 (Nat.le_of_ble_eq_true rfl) (by decide : 12 < 13) kd39 rfl (Nat.le_of_ble_eq_true rfl) (kX12_number   eq112) ?_
          obtain ⟨c115, hf⟩ := gz_gd hf
          obtain ⟨g115, eg115, hf⟩ := gz_lt hf
          refine sz_iastL dX12_readItems_115 (kds_in12 hw2) c115 rfl eg115 ?_
          refine sz_aload_n dX12_readItems_116 rfl ?_
          refine sz_getI dX12_readItems_117 flX12_136 kd39 rfl ?_
          refine sz_iconst dX12_readItems_120 (cIm1) ?_
          refine sz_icmp_ne 45 dX12_readItems_121 (by decide) (fun c121 => ?_) (fun c121 => ?_)
          · have hf := gz_in1 c121 hf
            exact ih _ _ _ _ _ _ hf
          · have hf := gz_ip c121 hf
            refine sz_aload dX12_readItems_124 rfl ?_
            refine sz_aload_n dX12_readItems_126 rfl ?_
            obtain ⟨q127, eq127, hf⟩ := gz_bd hf
            refine sz_callVi [] [.ref w4] dX12_readItems_127 mvX12_146 (Nat.le_of_ble_eq_true rfl) (by decide : 12 < 13) kd39 rfl (Nat.le_of_ble_eq_true rfl) (kX12_look   eq127) ?_
            obtain ⟨q130, eq130, hf⟩ := gz_bd hf
            refine sz_callSi [.ref w4, .int q127.1] [] dX12_readItems_130 msX12_233 (Nat.le_of_ble_eq_true rfl) (Nat.le_of_ble_eq_true rfl) (kX12_spotOf  hw4 eq130) ?_
            refine sz_istore dX12_readItems_133 (Nat.le_of_ble_eq_true rfl) rfl ?_
            refine sz_ls (l2 := [some (.ref 39), some (.int x1), some (.ref w2), some (.int x3), some (.ref w4), some (.int y82), some (.int q130.1)]) rfl ?_
            refine sz_goto 45 dX12_readItems_135 (by decide) ?_
            exact ih _ _ _ _ _ _ hf
        · have hf := gz_in1 c66 hf
          refine sz_weak (l2 := [some (.ref 39), none, none, none, none, none, none]) (gz_subk (gz_subn (gz_subn (gz_subn (gz_subn (gz_subn (gz_subn gz_sub0))))))) ?_
          exact hk69  _ _ hf
def fX12_readItems (La : gz_L)  (x1 : Int32) (w2 : Nat) (x3 : Int32) (w4 : Nat) (g : gz_S) : Option (gz_S) :=
  fX12_readItems_3 La  w2 w4 (fun (x1 : Int32) (x3 : Int32) g => (fX12_look La   g).bind (fun q37 => (fX12_spotOf La  w4 q37.1 q37.2).bind (fun q40 => fX12_readItems_45 La  w2 w4 (fun  g => (fX12_fails La   g).bind (fun q70 => some q70.2)) gz_FU x1 x3 0 q40.1 q40.2))) gz_FU x1 x3 0 g
set_option maxRecDepth 100000 in
set_option maxHeartbeats 4000000 in
theorem kX12_readItems {La : gz_L}  {x1 : Int32} {w2 : Nat} {x3 : Int32} {w4 : Nat} {g : gz_S} {r : gz_S} (hw2 : w2 = 45 ∨ w2 = 47) (hw4 : gz_str w4) (hf : fX12_readItems La  x1 w2 x3 w4 g = some r) : gz_K La 6 mX12_readItems [.ref 39, .int x1, .ref w2, .int x3, .ref w4] g (gz_Fv r) := by
  unfold fX12_readItems at hf
  refine gz_K.of 2 (by decide +kernel) rfl ?_
  show gz_J La 6 mX12_readItems 0 [some (.ref 39), some (.int x1), some (.ref w2), some (.int x3), some (.ref w4), none, none] [] g (gz_Fv r)
  refine sz_iconst dX12_readItems_0 (cI0) ?_
  refine sz_istore dX12_readItems_1 (Nat.le_of_ble_eq_true rfl) rfl ?_
  refine sz_ls (l2 := [some (.ref 39), some (.int x1), some (.ref w2), some (.int x3), some (.ref w4), some (.int 0), none]) rfl ?_
  have hk31 : ∀ (x1 : Int32) (x3 : Int32) (g : gz_S) (r : gz_S), (fun (x1 : Int32) (x3 : Int32) g => (fX12_look La   g).bind (fun q37 => (fX12_spotOf La  w4 q37.1 q37.2).bind (fun q40 => fX12_readItems_45 La  w2 w4 (fun  g => (fX12_fails La   g).bind (fun q70 => some q70.2)) gz_FU x1 x3 0 q40.1 q40.2))) x1 x3 g = some r → gz_J La 6 mX12_readItems 31 [some (.ref 39), some (.int x1), some (.ref w2), some (.int x3), some (.ref w4), none, none] [] g (gz_Fv r) := by
    intro x1 x3 g r hf
    refine sz_iconst dX12_readItems_31 (cI0) ?_
    refine sz_istore dX12_readItems_32 (Nat.le_of_ble_eq_true rfl) rfl ?_
    refine sz_ls (l2 := [some (.ref 39), some (.int x1), some (.ref w2), some (.int x3), some (.ref w4), some (.int 0), none]) rfl ?_
    refine sz_aload dX12_readItems_34 rfl ?_
    refine sz_aload_n dX12_readItems_36 rfl ?_
    obtain ⟨q37, eq37, hf⟩ := gz_bd hf
    refine sz_callVi [] [.ref w4] dX12_readItems_37 mvX12_146 (Nat.le_of_ble_eq_true rfl) (by decide : 12 < 13) kd39 rfl (Nat.le_of_ble_eq_true rfl) (kX12_look   eq37) ?_
    obtain ⟨q40, eq40, hf⟩ := gz_bd hf
    refine sz_callSi [.ref w4, .int q37.1] [] dX12_readItems_40 msX12_233 (Nat.le_of_ble_eq_true rfl) (Nat.le_of_ble_eq_true rfl) (kX12_spotOf  hw4 eq40) ?_
    refine sz_istore dX12_readItems_43 (Nat.le_of_ble_eq_true rfl) rfl ?_
    refine sz_ls (l2 := [some (.ref 39), some (.int x1), some (.ref w2), some (.int x3), some (.ref w4), some (.int 0), some (.int q40.1)]) rfl ?_
    have hk69 : ∀  (g : gz_S) (r : gz_S), (fun  g => (fX12_fails La   g).bind (fun q70 => some q70.2))  g = some r → gz_J La 6 mX12_readItems 69 [some (.ref 39), none, none, none, none, none, none] [] g (gz_Fv r) := by
      intro  g r hf
      refine sz_aload_n dX12_readItems_69 rfl ?_
      obtain ⟨q70, eq70, hf⟩ := gz_bd hf
      refine sz_callVi [] [] dX12_readItems_70 mvX12_142 (Nat.le_of_ble_eq_true rfl) (by decide : 12 < 13) kd39 rfl (Nat.le_of_ble_eq_true rfl) (kX12_fails   eq70) ?_
      refine sz_pop dX12_readItems_73 rfl ?_
      cases hf
      exact sz_ret dX12_readItems_74 rfl ⟨rfl, rfl⟩
    exact tX12_readItems_45  hw2 hw4 hk69 _ _ _ _ _ _ _ hf
  exact tX12_readItems_3  hw2 hw4 hk31 _ _ _ _ _ _ hf
def fX12_readRow_7 (La : gz_L)   (k76 : Int32 → gz_S → Option (gz_S)) (k31 : gz_S → Option (gz_S)) : Nat → Int32 → gz_S → Option (gz_S)
  | 0, _, _ => none
  | n + 1, x1, g => (fX12_isDigit La   g).bind (fun q8 => if q8.1 = 0 then k76 x1 q8.2 else (fX12_here La   q8.2).bind (fun q15 => if x1 = 6 then k31  q15.2 else if q15.1 ≤ 51 then if gz_ok (((6 : Int32) * (q15.2.1 39 29)) + x1) 30 then gz_let (gz_wi q15.2 49 (Int32.toNatClampNeg (((6 : Int32) * (q15.2.1 39 29)) + x1)) (q15.1 - 48)) (fun g54 => gz_let (x1 + 1) (fun y55 => gz_let (gz_wi g54 39 10 ((g54.1 39 10) + 1)) (fun g65 => (fX12_look La   g65).bind (fun q69 => fX12_readRow_7 La   k76 k31 n y55 q69.2)))) else none else k31  q15.2))
set_option maxRecDepth 100000 in
set_option maxHeartbeats 4000000 in
theorem tX12_readRow_7 {La : gz_L}   {k76 : Int32 → gz_S → Option (gz_S)} {k31 : gz_S → Option (gz_S)}  (hk76 : ∀ (x1 : Int32) (g : gz_S) (r : gz_S), k76 x1 g = some r → gz_J La 2 mX12_readRow 76 [some (.ref 39), some (.int x1), none] [] g (gz_Fv r)) (hk31 : ∀  (g : gz_S) (r : gz_S), k31  g = some r → gz_J La 2 mX12_readRow 31 [some (.ref 39), none, none] [] g (gz_Fv r)) : ∀ (n : Nat) (x1 : Int32) (g : gz_S) (r : gz_S), fX12_readRow_7 La   k76 k31 n x1 g = some r → gz_J La 2 mX12_readRow 7 [some (.ref 39), some (.int x1), none] [] g (gz_Fv r) := by
  intro n
  induction n with
  | zero => intro x1 g r hf; exact nomatch (show (none : Option (gz_S)) = some r from hf)
  | succ n ih =>
    intro x1 g r hf
    unfold fX12_readRow_7 at hf
    refine sz_aload_n dX12_readRow_7 rfl ?_
    obtain ⟨q8, eq8, hf⟩ := gz_bd hf
    refine sz_callVi [] [] dX12_readRow_8 mvX12_176 (Nat.le_of_ble_eq_true rfl) (by decide : 12 < 13) kd39 rfl (Nat.le_of_ble_eq_true rfl) (kX12_isDigit   eq8) ?_
    refine sz_if_eq 76 dX12_readRow_11 (by decide) (fun c11 => ?_) (fun c11 => ?_)
    · have hf := gz_ip c11 hf
      exact hk76 _ _ _ hf
    · have hf := gz_in1 c11 hf
      refine sz_aload_n dX12_readRow_14 rfl ?_
      obtain ⟨q15, eq15, hf⟩ := gz_bd hf
      refine sz_callVi [] [] dX12_readRow_15 mvX12_222 (Nat.le_of_ble_eq_true rfl) (by decide : 12 < 13) kd39 rfl (Nat.le_of_ble_eq_true rfl) (kX12_here   eq15) ?_
      refine sz_istore_n dX12_readRow_18 rfl (Nat.le_of_ble_eq_true rfl) rfl ?_
      refine sz_ls (l2 := [some (.ref 39), some (.int x1), some (.int q15.1)]) rfl ?_
      refine sz_iload_n dX12_readRow_19 rfl ?_
      refine sz_bipush dX12_readRow_20 (cB6) ?_
      refine sz_icmp_eq 31 dX12_readRow_22 (by decide) (fun c22 => ?_) (fun c22 => ?_)
      · have hf := gz_ip c22 hf
        refine sz_weak (l2 := [some (.ref 39), none, none]) (gz_subk (gz_subn (gz_subn gz_sub0))) ?_
        exact hk31  _ _ hf
      · have hf := gz_in1 c22 hf
        refine sz_iload_n dX12_readRow_25 rfl ?_
        refine sz_bipush dX12_readRow_26 (cB51) ?_
        refine sz_icmp_le 37 dX12_readRow_28 (by decide) (fun c28 => ?_) (fun c28 => ?_)
        · have hf := gz_ip c28 hf
          refine sz_aload_n dX12_readRow_37 rfl ?_
          refine sz_getR dX12_readRow_38 flX12_52 kd39 rfl rf39_23 ?_
          refine sz_bipush dX12_readRow_41 (cB6) ?_
          refine sz_aload_n dX12_readRow_43 rfl ?_
          refine sz_getI dX12_readRow_44 flX12_250 kd39 rfl ?_
          refine sz_imul dX12_readRow_47 ?_
          refine sz_iload_n dX12_readRow_48 rfl ?_
          refine sz_iadd dX12_readRow_49 ?_
          refine sz_iload_n dX12_readRow_50 rfl ?_
          refine sz_bipush dX12_readRow_51 (cB48) ?_
          refine sz_isub dX12_readRow_53 ?_
          obtain ⟨c54, hf⟩ := gz_gd hf
          obtain ⟨g54, eg54, hf⟩ := gz_lt hf
          refine sz_iastL dX12_readRow_54 kd49 c54 rfl eg54 ?_
          obtain ⟨y55, ey55, hf⟩ := gz_lt hf
          refine sz_iinc (v := y55) dX12_readRow_55 rfl (by rw [ey55, cI1]) (Nat.le_of_ble_eq_true rfl) rfl ?_
          refine sz_ls (l2 := [some (.ref 39), some (.int y55), some (.int q15.1)]) rfl ?_
          refine sz_aload_n dX12_readRow_58 rfl ?_
          refine sz_dup dX12_readRow_59 rfl ?_
          refine sz_getI dX12_readRow_60 flX12_127 kd39 rfl ?_
          refine sz_iconst dX12_readRow_63 (cI1) ?_
          refine sz_iadd dX12_readRow_64 ?_
          obtain ⟨g65, eg65, hf⟩ := gz_lt hf
          refine sz_putI2 dX12_readRow_65 flX12_127 kd39 fi12_10 eg65 ?_
          refine sz_aload_n dX12_readRow_68 rfl ?_
          obtain ⟨q69, eq69, hf⟩ := gz_bd hf
          refine sz_callVi [] [] dX12_readRow_69 mvX12_146 (Nat.le_of_ble_eq_true rfl) (by decide : 12 < 13) kd39 rfl (Nat.le_of_ble_eq_true rfl) (kX12_look   eq69) ?_
          refine sz_istore_n dX12_readRow_72 rfl (Nat.le_of_ble_eq_true rfl) rfl ?_
          refine sz_ls (l2 := [some (.ref 39), some (.int y55), some (.int q69.1)]) rfl ?_
          refine sz_goto 7 dX12_readRow_73 (by decide) ?_
          refine sz_weak (l2 := [some (.ref 39), some (.int y55), none]) (gz_subk (gz_subk (gz_subn gz_sub0))) ?_
          exact ih _ _ _ hf
        · have hf := gz_in1 c28 hf
          refine sz_weak (l2 := [some (.ref 39), none, none]) (gz_subk (gz_subn (gz_subn gz_sub0))) ?_
          exact hk31  _ _ hf
def fX12_readRow_31 (La : gz_L)     (g : gz_S) : Option (gz_S) := (fX12_fails La   g).bind (fun q32 => some q32.2)
set_option maxRecDepth 100000 in
set_option maxHeartbeats 4000000 in
theorem tX12_readRow_31 {La : gz_L}      : ∀  (g : gz_S) (r : gz_S), fX12_readRow_31 La     g = some r → gz_J La 2 mX12_readRow 31 [some (.ref 39), none, none] [] g (gz_Fv r) := by
  intro  g r hf
  unfold fX12_readRow_31 at hf
  refine sz_aload_n dX12_readRow_31 rfl ?_
  obtain ⟨q32, eq32, hf⟩ := gz_bd hf
  refine sz_callVi [] [] dX12_readRow_32 mvX12_142 (Nat.le_of_ble_eq_true rfl) (by decide : 12 < 13) kd39 rfl (Nat.le_of_ble_eq_true rfl) (kX12_fails   eq32) ?_
  refine sz_pop dX12_readRow_35 rfl ?_
  cases hf
  exact sz_ret dX12_readRow_36 rfl ⟨rfl, rfl⟩
def fX12_readRow (La : gz_L)   (g : gz_S) : Option (gz_S) :=
  (fX12_look La   g).bind (fun q3 => fX12_readRow_7 La   (fun (x1 : Int32) g => if gz_ok (g.1 39 29) 5 then gz_let (gz_wi g 50 (Int32.toNatClampNeg (g.1 39 29)) x1) (fun g85 => gz_let (gz_wi g85 39 29 ((g85.1 39 29) + 1)) (fun g93 => some g93)) else none) (fX12_readRow_31 La    ) gz_FU 0 q3.2)
set_option maxRecDepth 100000 in
set_option maxHeartbeats 4000000 in
theorem kX12_readRow {La : gz_L}   {g : gz_S} {r : gz_S}  (hf : fX12_readRow La   g = some r) : gz_K La 2 mX12_readRow [.ref 39] g (gz_Fv r) := by
  unfold fX12_readRow at hf
  refine gz_K.of 2 (by decide +kernel) rfl ?_
  show gz_J La 2 mX12_readRow 0 [some (.ref 39), none, none] [] g (gz_Fv r)
  refine sz_iconst dX12_readRow_0 (cI0) ?_
  refine sz_istore_n dX12_readRow_1 rfl (Nat.le_of_ble_eq_true rfl) rfl ?_
  refine sz_ls (l2 := [some (.ref 39), some (.int 0), none]) rfl ?_
  refine sz_aload_n dX12_readRow_2 rfl ?_
  obtain ⟨q3, eq3, hf⟩ := gz_bd hf
  refine sz_callVi [] [] dX12_readRow_3 mvX12_146 (Nat.le_of_ble_eq_true rfl) (by decide : 12 < 13) kd39 rfl (Nat.le_of_ble_eq_true rfl) (kX12_look   eq3) ?_
  refine sz_istore_n dX12_readRow_6 rfl (Nat.le_of_ble_eq_true rfl) rfl ?_
  refine sz_ls (l2 := [some (.ref 39), some (.int 0), some (.int q3.1)]) rfl ?_
  have hk76 : ∀ (x1 : Int32) (g : gz_S) (r : gz_S), (fun (x1 : Int32) g => if gz_ok (g.1 39 29) 5 then gz_let (gz_wi g 50 (Int32.toNatClampNeg (g.1 39 29)) x1) (fun g85 => gz_let (gz_wi g85 39 29 ((g85.1 39 29) + 1)) (fun g93 => some g93)) else none) x1 g = some r → gz_J La 2 mX12_readRow 76 [some (.ref 39), some (.int x1), none] [] g (gz_Fv r) := by
    intro x1 g r hf
    refine sz_aload_n dX12_readRow_76 rfl ?_
    refine sz_getR dX12_readRow_77 flX12_55 kd39 rfl rf39_24 ?_
    refine sz_aload_n dX12_readRow_80 rfl ?_
    refine sz_getI dX12_readRow_81 flX12_250 kd39 rfl ?_
    refine sz_iload_n dX12_readRow_84 rfl ?_
    obtain ⟨c85, hf⟩ := gz_gd hf
    obtain ⟨g85, eg85, hf⟩ := gz_lt hf
    refine sz_iastL dX12_readRow_85 kd50 c85 rfl eg85 ?_
    refine sz_aload_n dX12_readRow_86 rfl ?_
    refine sz_dup dX12_readRow_87 rfl ?_
    refine sz_getI dX12_readRow_88 flX12_250 kd39 rfl ?_
    refine sz_iconst dX12_readRow_91 (cI1) ?_
    refine sz_iadd dX12_readRow_92 ?_
    obtain ⟨g93, eg93, hf⟩ := gz_lt hf
    refine sz_putI2 dX12_readRow_93 flX12_250 kd39 fi12_29 eg93 ?_
    cases hf
    exact sz_ret dX12_readRow_96 rfl ⟨rfl, rfl⟩
  refine sz_weak (l2 := [some (.ref 39), some (.int 0), none]) (gz_subk (gz_subk (gz_subn gz_sub0))) ?_
  exact tX12_readRow_7   hk76 (tX12_readRow_31   ) _ _ _ _ hf
def fX12_readClause_51 (La : gz_L)    (x1 : Int32) (s0 : Int32) (g : gz_S) : Option (gz_S) := if s0 = 0 then (fX12_fails La   g).bind (fun q57 => some q57.2) else gz_let (gz_wi g 39 10 ((g.1 39 10) + 1)) (fun g69 => if x1 = 115 then gz_let (gz_wi g69 39 31 1) (fun g80 => (fX12_readItems La  x1 45 0 212 g80).bind (fun q93 => some q93)) else if x1 = 114 then (fX12_readRow La   g69).bind (fun q106 => some q106) else gz_let (gz_wi g69 39 28 ((g69.1 39 28) + 1)) (fun g119 => (fX12_readItems La  x1 47 ((4 : Int32) * ((g119.1 39 28) - 1)) 213 g119).bind (fun q139 => some q139)))
set_option maxRecDepth 100000 in
set_option maxHeartbeats 4000000 in
theorem tX12_readClause_51 {La : gz_L}      : ∀ (x1 : Int32) (s0 : Int32) (g : gz_S) (r : gz_S), fX12_readClause_51 La    x1 s0 g = some r → gz_J La 7 mX12_readClause 51 [some (.ref 39), some (.int x1), none] [.int s0] g (gz_Fv r) := by
  intro x1 s0 g r hf
  unfold fX12_readClause_51 at hf
  refine sz_istore_n dX12_readClause_51 rfl (Nat.le_of_ble_eq_true rfl) rfl ?_
  refine sz_ls (l2 := [some (.ref 39), some (.int x1), some (.int s0)]) rfl ?_
  refine sz_iload_n dX12_readClause_52 rfl ?_
  refine sz_if_ne 62 dX12_readClause_53 (by decide) (fun c53 => ?_) (fun c53 => ?_)
  · have hf := gz_in1 c53 hf
    refine sz_aload_n dX12_readClause_62 rfl ?_
    refine sz_dup dX12_readClause_63 rfl ?_
    refine sz_getI dX12_readClause_64 flX12_127 kd39 rfl ?_
    refine sz_iconst dX12_readClause_67 (cI1) ?_
    refine sz_iadd dX12_readClause_68 ?_
    obtain ⟨g69, eg69, hf⟩ := gz_lt hf
    refine sz_putI2 dX12_readClause_69 flX12_127 kd39 fi12_10 eg69 ?_
    refine sz_iload_n dX12_readClause_72 rfl ?_
    refine sz_bipush dX12_readClause_73 (cB115) ?_
    refine sz_icmp_ne 99 dX12_readClause_75 (by decide) (fun c75 => ?_) (fun c75 => ?_)
    · have hf := gz_in1 c75 hf
      refine sz_iload_n dX12_readClause_99 rfl ?_
      refine sz_bipush dX12_readClause_100 (cB114) ?_
      refine sz_icmp_ne 112 dX12_readClause_102 (by decide) (fun c102 => ?_) (fun c102 => ?_)
      · have hf := gz_in1 c102 hf
        refine sz_aload_n dX12_readClause_112 rfl ?_
        refine sz_dup dX12_readClause_113 rfl ?_
        refine sz_getI dX12_readClause_114 flX12_256 kd39 rfl ?_
        refine sz_iconst dX12_readClause_117 (cI1) ?_
        refine sz_iadd dX12_readClause_118 ?_
        obtain ⟨g119, eg119, hf⟩ := gz_lt hf
        refine sz_putI2 dX12_readClause_119 flX12_256 kd39 fi12_28 eg119 ?_
        refine sz_aload_n dX12_readClause_122 rfl ?_
        refine sz_iload_n dX12_readClause_123 rfl ?_
        refine sz_aload_n dX12_readClause_124 rfl ?_
        refine sz_getR dX12_readClause_125 flX12_46 kd39 rfl rf39_21 ?_
        refine sz_iconst dX12_readClause_128 (cI4) ?_
        refine sz_aload_n dX12_readClause_129 rfl ?_
        refine sz_getI dX12_readClause_130 flX12_256 kd39 rfl ?_
        refine sz_iconst dX12_readClause_133 (cI1) ?_
        refine sz_isub dX12_readClause_134 ?_
        refine sz_imul dX12_readClause_135 ?_
        refine sz_ldcS (w := 213) ⟨rfl, by decide⟩ dX12_readClause_136 ?_
        obtain ⟨q139, eq139, hf⟩ := gz_bd hf
        refine sz_callVv [.int x1, .ref 47, .int ((4 : Int32) * ((g119.1 39 28) - 1)), .ref 213] [] dX12_readClause_139 mvX12_261 (Nat.le_of_ble_eq_true rfl) (by decide : 12 < 13) kd39 rfl (Nat.le_of_ble_eq_true rfl) (kX12_readItems  (Or.inr rfl) (by decide) eq139) ?_
        cases hf
        exact sz_ret dX12_readClause_142 rfl ⟨rfl, rfl⟩
      · have hf := gz_ip c102 hf
        refine sz_aload_n dX12_readClause_105 rfl ?_
        obtain ⟨q106, eq106, hf⟩ := gz_bd hf
        refine sz_callVv [] [] dX12_readClause_106 mvX12_265 (Nat.le_of_ble_eq_true rfl) (by decide : 12 < 13) kd39 rfl (Nat.le_of_ble_eq_true rfl) (kX12_readRow   eq106) ?_
        refine sz_goto 142 dX12_readClause_109 (by decide) ?_
        cases hf
        exact sz_ret dX12_readClause_142 rfl ⟨rfl, rfl⟩
    · have hf := gz_ip c75 hf
      refine sz_aload_n dX12_readClause_78 rfl ?_
      refine sz_iconst dX12_readClause_79 (cI1) ?_
      obtain ⟨g80, eg80, hf⟩ := gz_lt hf
      refine sz_putZ2 dX12_readClause_80 flX12_253 kd39 fi12_31 (Or.inr rfl) eg80 ?_
      refine sz_aload_n dX12_readClause_83 rfl ?_
      refine sz_iload_n dX12_readClause_84 rfl ?_
      refine sz_aload_n dX12_readClause_85 rfl ?_
      refine sz_getR dX12_readClause_86 flX12_40 kd39 rfl rf39_19 ?_
      refine sz_iconst dX12_readClause_89 (cI0) ?_
      refine sz_ldcS (w := 212) ⟨rfl, by decide⟩ dX12_readClause_90 ?_
      obtain ⟨q93, eq93, hf⟩ := gz_bd hf
      refine sz_callVv [.int x1, .ref 45, .int 0, .ref 212] [] dX12_readClause_93 mvX12_261 (Nat.le_of_ble_eq_true rfl) (by decide : 12 < 13) kd39 rfl (Nat.le_of_ble_eq_true rfl) (kX12_readItems  (Or.inl rfl) (by decide) eq93) ?_
      refine sz_goto 142 dX12_readClause_96 (by decide) ?_
      cases hf
      exact sz_ret dX12_readClause_142 rfl ⟨rfl, rfl⟩
  · have hf := gz_ip c53 hf
    refine sz_aload_n dX12_readClause_56 rfl ?_
    obtain ⟨q57, eq57, hf⟩ := gz_bd hf
    refine sz_callVi [] [] dX12_readClause_57 mvX12_142 (Nat.le_of_ble_eq_true rfl) (by decide : 12 < 13) kd39 rfl (Nat.le_of_ble_eq_true rfl) (kX12_fails   eq57) ?_
    refine sz_pop dX12_readClause_60 rfl ?_
    cases hf
    exact sz_ret dX12_readClause_61 rfl ⟨rfl, rfl⟩
def fX12_readClause_50 (La : gz_L)    (x1 : Int32) (g : gz_S) : Option (gz_S) := fX12_readClause_51 La     x1 0 g
set_option maxRecDepth 100000 in
set_option maxHeartbeats 4000000 in
theorem tX12_readClause_50 {La : gz_L}      : ∀ (x1 : Int32) (g : gz_S) (r : gz_S), fX12_readClause_50 La    x1 g = some r → gz_J La 7 mX12_readClause 50 [some (.ref 39), some (.int x1), none] [] g (gz_Fv r) := by
  intro x1 g r hf
  unfold fX12_readClause_50 at hf
  refine sz_iconst dX12_readClause_50 (cI0) ?_
  exact tX12_readClause_51    _ _ _ _ hf
def fX12_readClause_46 (La : gz_L)    (x1 : Int32) (g : gz_S) : Option (gz_S) := fX12_readClause_51 La     x1 1 g
set_option maxRecDepth 100000 in
set_option maxHeartbeats 4000000 in
theorem tX12_readClause_46 {La : gz_L}      : ∀ (x1 : Int32) (g : gz_S) (r : gz_S), fX12_readClause_46 La    x1 g = some r → gz_J La 7 mX12_readClause 46 [some (.ref 39), some (.int x1), none] [] g (gz_Fv r) := by
  intro x1 g r hf
  unfold fX12_readClause_46 at hf
  refine sz_iconst dX12_readClause_46 (cI1) ?_
  refine sz_goto 51 dX12_readClause_47 (by decide) ?_
  exact tX12_readClause_51    _ _ _ _ hf
def fX12_readClause_32 (La : gz_L)    (x1 : Int32) (g : gz_S) : Option (gz_S) := if x1 = 103 then if 4 ≤ (g.1 39 28) then fX12_readClause_50 La     x1 g else fX12_readClause_46 La     x1 g else fX12_readClause_50 La     x1 g
set_option maxRecDepth 100000 in
set_option maxHeartbeats 4000000 in
theorem tX12_readClause_32 {La : gz_L}      : ∀ (x1 : Int32) (g : gz_S) (r : gz_S), fX12_readClause_32 La    x1 g = some r → gz_J La 7 mX12_readClause 32 [some (.ref 39), some (.int x1), none] [] g (gz_Fv r) := by
  intro x1 g r hf
  unfold fX12_readClause_32 at hf
  refine sz_iload_n dX12_readClause_32 rfl ?_
  refine sz_bipush dX12_readClause_33 (cB103) ?_
  refine sz_icmp_ne 50 dX12_readClause_35 (by decide) (fun c35 => ?_) (fun c35 => ?_)
  · have hf := gz_in1 c35 hf
    exact tX12_readClause_50    _ _ _ hf
  · have hf := gz_ip c35 hf
    refine sz_aload_n dX12_readClause_38 rfl ?_
    refine sz_getI dX12_readClause_39 flX12_256 kd39 rfl ?_
    refine sz_iconst dX12_readClause_42 (cI4) ?_
    refine sz_icmp_ge 50 dX12_readClause_43 (by decide) (fun c43 => ?_) (fun c43 => ?_)
    · have hf := gz_ip c43 hf
      exact tX12_readClause_50    _ _ _ hf
    · have hf := gz_in1 c43 hf
      exact tX12_readClause_46    _ _ _ hf
def fX12_readClause_18 (La : gz_L)    (x1 : Int32) (g : gz_S) : Option (gz_S) := if x1 = 114 then if (g.1 39 29) < 5 then fX12_readClause_46 La     x1 g else fX12_readClause_32 La     x1 g else fX12_readClause_32 La     x1 g
set_option maxRecDepth 100000 in
set_option maxHeartbeats 4000000 in
theorem tX12_readClause_18 {La : gz_L}      : ∀ (x1 : Int32) (g : gz_S) (r : gz_S), fX12_readClause_18 La    x1 g = some r → gz_J La 7 mX12_readClause 18 [some (.ref 39), some (.int x1), none] [] g (gz_Fv r) := by
  intro x1 g r hf
  unfold fX12_readClause_18 at hf
  refine sz_iload_n dX12_readClause_18 rfl ?_
  refine sz_bipush dX12_readClause_19 (cB114) ?_
  refine sz_icmp_ne 32 dX12_readClause_21 (by decide) (fun c21 => ?_) (fun c21 => ?_)
  · have hf := gz_in1 c21 hf
    exact tX12_readClause_32    _ _ _ hf
  · have hf := gz_ip c21 hf
    refine sz_aload_n dX12_readClause_24 rfl ?_
    refine sz_getI dX12_readClause_25 flX12_250 kd39 rfl ?_
    refine sz_iconst dX12_readClause_28 (cI5) ?_
    refine sz_icmp_lt 46 dX12_readClause_29 (by decide) (fun c29 => ?_) (fun c29 => ?_)
    · have hf := gz_ip c29 hf
      exact tX12_readClause_46    _ _ _ hf
    · have hf := gz_in1 c29 hf
      exact tX12_readClause_32    _ _ _ hf
def fX12_readClause (La : gz_L)   (g : gz_S) : Option (gz_S) :=
  (fX12_look La   g).bind (fun q1 => if q1.1 = 115 then if (q1.2.1 39 31) = 0 then fX12_readClause_46 La     q1.1 q1.2 else fX12_readClause_18 La     q1.1 q1.2 else fX12_readClause_18 La     q1.1 q1.2)
set_option maxRecDepth 100000 in
set_option maxHeartbeats 4000000 in
theorem kX12_readClause {La : gz_L}   {g : gz_S} {r : gz_S}  (hf : fX12_readClause La   g = some r) : gz_K La 7 mX12_readClause [.ref 39] g (gz_Fv r) := by
  unfold fX12_readClause at hf
  refine gz_K.of 2 (by decide +kernel) rfl ?_
  show gz_J La 7 mX12_readClause 0 [some (.ref 39), none, none] [] g (gz_Fv r)
  refine sz_aload_n dX12_readClause_0 rfl ?_
  obtain ⟨q1, eq1, hf⟩ := gz_bd hf
  refine sz_callVi [] [] dX12_readClause_1 mvX12_146 (Nat.le_of_ble_eq_true rfl) (by decide : 12 < 13) kd39 rfl (Nat.le_of_ble_eq_true rfl) (kX12_look   eq1) ?_
  refine sz_istore_n dX12_readClause_4 rfl (Nat.le_of_ble_eq_true rfl) rfl ?_
  refine sz_ls (l2 := [some (.ref 39), some (.int q1.1), none]) rfl ?_
  refine sz_iload_n dX12_readClause_5 rfl ?_
  refine sz_bipush dX12_readClause_6 (cB115) ?_
  refine sz_icmp_ne 18 dX12_readClause_8 (by decide) (fun c8 => ?_) (fun c8 => ?_)
  · have hf := gz_in1 c8 hf
    exact tX12_readClause_18    _ _ _ hf
  · have hf := gz_ip c8 hf
    refine sz_aload_n dX12_readClause_11 rfl ?_
    refine sz_getI dX12_readClause_12 flX12_253 kd39 rfl ?_
    refine sz_if_eq 46 dX12_readClause_15 (by decide) (fun c15 => ?_) (fun c15 => ?_)
    · have hf := gz_ip c15 hf
      exact tX12_readClause_46    _ _ _ hf
    · have hf := gz_in1 c15 hf
      exact tX12_readClause_18    _ _ _ hf
def fX12_isWhole_2 (La : gz_L)   (k33 : gz_S → Option (Int32 × gz_S)) : Nat → Int32 → gz_S → Option (Int32 × gz_S)
  | 0, _, _ => none
  | n + 1, x1, g => if (g.1 39 29) ≤ x1 then k33  g else if gz_ok x1 5 then if (g.1 50 (Int32.toNatClampNeg x1)) ≤ (g.1 45 0) then gz_let (x1 + 1) (fun y27 => fX12_isWhole_2 La   k33 n y27 g) else some (0, g) else none
set_option maxRecDepth 100000 in
set_option maxHeartbeats 4000000 in
theorem tX12_isWhole_2 {La : gz_L}   {k33 : gz_S → Option (Int32 × gz_S)}  (hk33 : ∀  (g : gz_S) (r : Int32 × gz_S), k33  g = some r → gz_J La 1 mX12_isWhole 33 [some (.ref 39), none] [] g (gz_Fi r)) : ∀ (n : Nat) (x1 : Int32) (g : gz_S) (r : Int32 × gz_S), fX12_isWhole_2 La   k33 n x1 g = some r → gz_J La 1 mX12_isWhole 2 [some (.ref 39), some (.int x1)] [] g (gz_Fi r) := by
  intro n
  induction n with
  | zero => intro x1 g r hf; exact nomatch (show (none : Option (Int32 × gz_S)) = some r from hf)
  | succ n ih =>
    intro x1 g r hf
    unfold fX12_isWhole_2 at hf
    refine sz_iload_n dX12_isWhole_2 rfl ?_
    refine sz_aload_n dX12_isWhole_3 rfl ?_
    refine sz_getI dX12_isWhole_4 flX12_250 kd39 rfl ?_
    refine sz_icmp_ge 33 dX12_isWhole_7 (by decide) (fun c7 => ?_) (fun c7 => ?_)
    · have hf := gz_ip c7 hf
      refine sz_weak (l2 := [some (.ref 39), none]) (gz_subk (gz_subn gz_sub0)) ?_
      exact hk33  _ _ hf
    · have hf := gz_in1 c7 hf
      refine sz_aload_n dX12_isWhole_10 rfl ?_
      refine sz_getR dX12_isWhole_11 flX12_55 kd39 rfl rf39_24 ?_
      refine sz_iload_n dX12_isWhole_14 rfl ?_
      obtain ⟨c15, hf⟩ := gz_gd hf
      refine sz_ialdL dX12_isWhole_15 kd50 c15 rfl ?_
      refine sz_aload_n dX12_isWhole_16 rfl ?_
      refine sz_getR dX12_isWhole_17 flX12_40 kd39 rfl rf39_19 ?_
      refine sz_iconst dX12_isWhole_20 (cI0) ?_
      refine sz_ialdL dX12_isWhole_21 kd45 vi0_4 tn0 ?_
      refine sz_icmp_le 27 dX12_isWhole_22 (by decide) (fun c22 => ?_) (fun c22 => ?_)
      · have hf := gz_ip c22 hf
        obtain ⟨y27, ey27, hf⟩ := gz_lt hf
        refine sz_iinc (v := y27) dX12_isWhole_27 rfl (by rw [ey27, cI1]) (Nat.le_of_ble_eq_true rfl) rfl ?_
        refine sz_ls (l2 := [some (.ref 39), some (.int y27)]) rfl ?_
        refine sz_goto 2 dX12_isWhole_30 (by decide) ?_
        exact ih _ _ _ hf
      · have hf := gz_in1 c22 hf
        refine sz_iconst dX12_isWhole_25 (cI0) ?_
        cases hf
        exact sz_iret dX12_isWhole_26 rfl rfl ⟨rfl, rfl⟩
def fX12_isWhole_35 (La : gz_L)   (k87 : gz_S → Option (Int32 × gz_S)) : Nat → Int32 → gz_S → Option (Int32 × gz_S)
  | 0, _, _ => none
  | n + 1, x1, g => if (g.1 39 28) ≤ x1 then k87  g else if gz_ok ((4 : Int32) * x1) 16 then if (g.1 45 0) ≤ (g.1 47 (Int32.toNatClampNeg ((4 : Int32) * x1))) then some (0, g) else if gz_ok (((4 : Int32) * x1) + 1) 16 then if (g.1 47 (Int32.toNatClampNeg (((4 : Int32) * x1) + 1))) < (g.1 45 1) then gz_let (x1 + 1) (fun y81 => fX12_isWhole_35 La   k87 n y81 g) else some (0, g) else none else none
set_option maxRecDepth 100000 in
set_option maxHeartbeats 4000000 in
theorem tX12_isWhole_35 {La : gz_L}   {k87 : gz_S → Option (Int32 × gz_S)}  (hk87 : ∀  (g : gz_S) (r : Int32 × gz_S), k87  g = some r → gz_J La 1 mX12_isWhole 87 [some (.ref 39), none] [] g (gz_Fi r)) : ∀ (n : Nat) (x1 : Int32) (g : gz_S) (r : Int32 × gz_S), fX12_isWhole_35 La   k87 n x1 g = some r → gz_J La 1 mX12_isWhole 35 [some (.ref 39), some (.int x1)] [] g (gz_Fi r) := by
  intro n
  induction n with
  | zero => intro x1 g r hf; exact nomatch (show (none : Option (Int32 × gz_S)) = some r from hf)
  | succ n ih =>
    intro x1 g r hf
    unfold fX12_isWhole_35 at hf
    refine sz_iload_n dX12_isWhole_35 rfl ?_
    refine sz_aload_n dX12_isWhole_36 rfl ?_
    refine sz_getI dX12_isWhole_37 flX12_256 kd39 rfl ?_
    refine sz_icmp_ge 87 dX12_isWhole_40 (by decide) (fun c40 => ?_) (fun c40 => ?_)
    · have hf := gz_ip c40 hf
      refine sz_weak (l2 := [some (.ref 39), none]) (gz_subk (gz_subn gz_sub0)) ?_
      exact hk87  _ _ hf
    · have hf := gz_in1 c40 hf
      refine sz_aload_n dX12_isWhole_43 rfl ?_
      refine sz_getR dX12_isWhole_44 flX12_46 kd39 rfl rf39_21 ?_
      refine sz_iconst dX12_isWhole_47 (cI4) ?_
      refine sz_iload_n dX12_isWhole_48 rfl ?_
      refine sz_imul dX12_isWhole_49 ?_
      obtain ⟨c50, hf⟩ := gz_gd hf
      refine sz_ialdL dX12_isWhole_50 kd47 c50 rfl ?_
      refine sz_aload_n dX12_isWhole_51 rfl ?_
      refine sz_getR dX12_isWhole_52 flX12_40 kd39 rfl rf39_19 ?_
      refine sz_iconst dX12_isWhole_55 (cI0) ?_
      refine sz_ialdL dX12_isWhole_56 kd45 vi0_4 tn0 ?_
      refine sz_icmp_ge 79 dX12_isWhole_57 (by decide) (fun c57 => ?_) (fun c57 => ?_)
      · have hf := gz_ip c57 hf
        refine sz_iconst dX12_isWhole_79 (cI0) ?_
        cases hf
        exact sz_iret dX12_isWhole_80 rfl rfl ⟨rfl, rfl⟩
      · have hf := gz_in1 c57 hf
        refine sz_aload_n dX12_isWhole_60 rfl ?_
        refine sz_getR dX12_isWhole_61 flX12_46 kd39 rfl rf39_21 ?_
        refine sz_iconst dX12_isWhole_64 (cI4) ?_
        refine sz_iload_n dX12_isWhole_65 rfl ?_
        refine sz_imul dX12_isWhole_66 ?_
        refine sz_iconst dX12_isWhole_67 (cI1) ?_
        refine sz_iadd dX12_isWhole_68 ?_
        obtain ⟨c69, hf⟩ := gz_gd hf
        refine sz_ialdL dX12_isWhole_69 kd47 c69 rfl ?_
        refine sz_aload_n dX12_isWhole_70 rfl ?_
        refine sz_getR dX12_isWhole_71 flX12_40 kd39 rfl rf39_19 ?_
        refine sz_iconst dX12_isWhole_74 (cI1) ?_
        refine sz_ialdL dX12_isWhole_75 kd45 vi1_4 tn1 ?_
        refine sz_icmp_lt 81 dX12_isWhole_76 (by decide) (fun c76 => ?_) (fun c76 => ?_)
        · have hf := gz_ip c76 hf
          obtain ⟨y81, ey81, hf⟩ := gz_lt hf
          refine sz_iinc (v := y81) dX12_isWhole_81 rfl (by rw [ey81, cI1]) (Nat.le_of_ble_eq_true rfl) rfl ?_
          refine sz_ls (l2 := [some (.ref 39), some (.int y81)]) rfl ?_
          refine sz_goto 35 dX12_isWhole_84 (by decide) ?_
          exact ih _ _ _ hf
        · have hf := gz_in1 c76 hf
          refine sz_iconst dX12_isWhole_79 (cI0) ?_
          cases hf
          exact sz_iret dX12_isWhole_80 rfl rfl ⟨rfl, rfl⟩
def fX12_isWhole (La : gz_L)   (g : gz_S) : Option (Int32 × gz_S) :=
  fX12_isWhole_2 La   (fun  g => fX12_isWhole_35 La   (fun  g => if (g.1 39 28) ≤ 0 then some (0, g) else if (g.1 45 1) < (g.1 39 29) then some (0, g) else some (1, g)) gz_FU 0 g) gz_FU 0 g
set_option maxRecDepth 100000 in
set_option maxHeartbeats 4000000 in
theorem kX12_isWhole {La : gz_L}   {g : gz_S} {r : Int32 × gz_S}  (hf : fX12_isWhole La   g = some r) : gz_K La 1 mX12_isWhole [.ref 39] g (gz_Fi r) := by
  unfold fX12_isWhole at hf
  refine gz_K.of 1 (by decide +kernel) rfl ?_
  show gz_J La 1 mX12_isWhole 0 [some (.ref 39), none] [] g (gz_Fi r)
  refine sz_iconst dX12_isWhole_0 (cI0) ?_
  refine sz_istore_n dX12_isWhole_1 rfl (Nat.le_of_ble_eq_true rfl) rfl ?_
  refine sz_ls (l2 := [some (.ref 39), some (.int 0)]) rfl ?_
  have hk33 : ∀  (g : gz_S) (r : Int32 × gz_S), (fun  g => fX12_isWhole_35 La   (fun  g => if (g.1 39 28) ≤ 0 then some (0, g) else if (g.1 45 1) < (g.1 39 29) then some (0, g) else some (1, g)) gz_FU 0 g)  g = some r → gz_J La 1 mX12_isWhole 33 [some (.ref 39), none] [] g (gz_Fi r) := by
    intro  g r hf
    refine sz_iconst dX12_isWhole_33 (cI0) ?_
    refine sz_istore_n dX12_isWhole_34 rfl (Nat.le_of_ble_eq_true rfl) rfl ?_
    refine sz_ls (l2 := [some (.ref 39), some (.int 0)]) rfl ?_
    have hk87 : ∀  (g : gz_S) (r : Int32 × gz_S), (fun  g => if (g.1 39 28) ≤ 0 then some (0, g) else if (g.1 45 1) < (g.1 39 29) then some (0, g) else some (1, g))  g = some r → gz_J La 1 mX12_isWhole 87 [some (.ref 39), none] [] g (gz_Fi r) := by
      intro  g r hf
      refine sz_aload_n dX12_isWhole_87 rfl ?_
      refine sz_getI dX12_isWhole_88 flX12_256 kd39 rfl ?_
      refine sz_if_le 111 dX12_isWhole_91 (by decide) (fun c91 => ?_) (fun c91 => ?_)
      · have hf := gz_ip c91 hf
        refine sz_iconst dX12_isWhole_111 (cI0) ?_
        cases hf
        exact sz_iret dX12_isWhole_112 rfl rfl ⟨rfl, rfl⟩
      · have hf := gz_in1 c91 hf
        refine sz_aload_n dX12_isWhole_94 rfl ?_
        refine sz_getI dX12_isWhole_95 flX12_250 kd39 rfl ?_
        refine sz_aload_n dX12_isWhole_98 rfl ?_
        refine sz_getR dX12_isWhole_99 flX12_40 kd39 rfl rf39_19 ?_
        refine sz_iconst dX12_isWhole_102 (cI1) ?_
        refine sz_ialdL dX12_isWhole_103 kd45 vi1_4 tn1 ?_
        refine sz_icmp_gt 111 dX12_isWhole_104 (by decide) (fun c104 => ?_) (fun c104 => ?_)
        · have hf := gz_ip c104 hf
          refine sz_iconst dX12_isWhole_111 (cI0) ?_
          cases hf
          exact sz_iret dX12_isWhole_112 rfl rfl ⟨rfl, rfl⟩
        · have hf := gz_in1 c104 hf
          refine sz_iconst dX12_isWhole_107 (cI1) ?_
          refine sz_goto 112 dX12_isWhole_108 (by decide) ?_
          cases hf
          exact sz_iret dX12_isWhole_112 rfl rfl ⟨rfl, rfl⟩
    exact tX12_isWhole_35   hk87 _ _ _ _ hf
  exact tX12_isWhole_2   hk33 _ _ _ _ hf
def fX12_readShore_30 (La : gz_L)   (k53 : gz_S → Option (gz_S)) : Nat → Int32 → gz_S → Option (gz_S)
  | 0, _, _ => none
  | n + 1, x1, g => if 4 ≤ x1 then k53  g else (fX12_usual La  115 x1 g).bind (fun q43 => if gz_ok x1 4 then gz_let (gz_wi q43.2 45 (Int32.toNatClampNeg x1) q43.1) (fun g46 => gz_let (x1 + 1) (fun y47 => fX12_readShore_30 La   k53 n y47 g46)) else none)
set_option maxRecDepth 100000 in
set_option maxHeartbeats 4000000 in
theorem tX12_readShore_30 {La : gz_L}   {k53 : gz_S → Option (gz_S)}  (hk53 : ∀  (g : gz_S) (r : gz_S), k53  g = some r → gz_J La 8 mX12_readShore 53 [some (.ref 39), none] [] g (gz_Fv r)) : ∀ (n : Nat) (x1 : Int32) (g : gz_S) (r : gz_S), fX12_readShore_30 La   k53 n x1 g = some r → gz_J La 8 mX12_readShore 30 [some (.ref 39), some (.int x1)] [] g (gz_Fv r) := by
  intro n
  induction n with
  | zero => intro x1 g r hf; exact nomatch (show (none : Option (gz_S)) = some r from hf)
  | succ n ih =>
    intro x1 g r hf
    unfold fX12_readShore_30 at hf
    refine sz_iload_n dX12_readShore_30 rfl ?_
    refine sz_iconst dX12_readShore_31 (cI4) ?_
    refine sz_icmp_ge 53 dX12_readShore_32 (by decide) (fun c32 => ?_) (fun c32 => ?_)
    · have hf := gz_ip c32 hf
      refine sz_weak (l2 := [some (.ref 39), none]) (gz_subk (gz_subn gz_sub0)) ?_
      exact hk53  _ _ hf
    · have hf := gz_in1 c32 hf
      refine sz_aload_n dX12_readShore_35 rfl ?_
      refine sz_getR dX12_readShore_36 flX12_40 kd39 rfl rf39_19 ?_
      refine sz_iload_n dX12_readShore_39 rfl ?_
      refine sz_bipush dX12_readShore_40 (cB115) ?_
      refine sz_iload_n dX12_readShore_42 rfl ?_
      obtain ⟨q43, eq43, hf⟩ := gz_bd hf
      refine sz_callSi [.int 115, .int x1] [.int x1, .ref 45] dX12_readShore_43 msX12_229 (Nat.le_of_ble_eq_true rfl) (Nat.le_of_ble_eq_true rfl) (kX12_usual   eq43) ?_
      obtain ⟨c46, hf⟩ := gz_gd hf
      obtain ⟨g46, eg46, hf⟩ := gz_lt hf
      refine sz_iastL dX12_readShore_46 kd45 c46 rfl eg46 ?_
      obtain ⟨y47, ey47, hf⟩ := gz_lt hf
      refine sz_iinc (v := y47) dX12_readShore_47 rfl (by rw [ey47, cI1]) (Nat.le_of_ble_eq_true rfl) rfl ?_
      refine sz_ls (l2 := [some (.ref 39), some (.int y47)]) rfl ?_
      refine sz_goto 30 dX12_readShore_50 (by decide) ?_
      exact ih _ _ _ hf
def fX12_readShore_55 (La : gz_L)   (k74 : gz_S → Option (gz_S)) : Nat → Int32 → gz_S → Option (gz_S)
  | 0, _, _ => none
  | n + 1, x1, g => if 30 ≤ x1 then k74  g else if gz_ok x1 30 then gz_let (gz_wi g 49 (Int32.toNatClampNeg x1) 0) (fun g67 => gz_let (x1 + 1) (fun y68 => fX12_readShore_55 La   k74 n y68 g67)) else none
set_option maxRecDepth 100000 in
set_option maxHeartbeats 4000000 in
theorem tX12_readShore_55 {La : gz_L}   {k74 : gz_S → Option (gz_S)}  (hk74 : ∀  (g : gz_S) (r : gz_S), k74  g = some r → gz_J La 8 mX12_readShore 74 [some (.ref 39), none] [] g (gz_Fv r)) : ∀ (n : Nat) (x1 : Int32) (g : gz_S) (r : gz_S), fX12_readShore_55 La   k74 n x1 g = some r → gz_J La 8 mX12_readShore 55 [some (.ref 39), some (.int x1)] [] g (gz_Fv r) := by
  intro n
  induction n with
  | zero => intro x1 g r hf; exact nomatch (show (none : Option (gz_S)) = some r from hf)
  | succ n ih =>
    intro x1 g r hf
    unfold fX12_readShore_55 at hf
    refine sz_iload_n dX12_readShore_55 rfl ?_
    refine sz_bipush dX12_readShore_56 (cB30) ?_
    refine sz_icmp_ge 74 dX12_readShore_58 (by decide) (fun c58 => ?_) (fun c58 => ?_)
    · have hf := gz_ip c58 hf
      refine sz_weak (l2 := [some (.ref 39), none]) (gz_subk (gz_subn gz_sub0)) ?_
      exact hk74  _ _ hf
    · have hf := gz_in1 c58 hf
      refine sz_aload_n dX12_readShore_61 rfl ?_
      refine sz_getR dX12_readShore_62 flX12_52 kd39 rfl rf39_23 ?_
      refine sz_iload_n dX12_readShore_65 rfl ?_
      refine sz_iconst dX12_readShore_66 (cI0) ?_
      obtain ⟨c67, hf⟩ := gz_gd hf
      obtain ⟨g67, eg67, hf⟩ := gz_lt hf
      refine sz_iastL dX12_readShore_67 kd49 c67 rfl eg67 ?_
      obtain ⟨y68, ey68, hf⟩ := gz_lt hf
      refine sz_iinc (v := y68) dX12_readShore_68 rfl (by rw [ey68, cI1]) (Nat.le_of_ble_eq_true rfl) rfl ?_
      refine sz_ls (l2 := [some (.ref 39), some (.int y68)]) rfl ?_
      refine sz_goto 55 dX12_readShore_71 (by decide) ?_
      exact ih _ _ _ hf
def fX12_readShore_114 (La : gz_L)   (k76 : Int32 → gz_S → Option (gz_S)) (s0 : Int32) (g : gz_S) : Option (gz_S) := if s0 = 0 then k76 s0 g else gz_let (gz_wi g 39 10 ((g.1 39 10) + 1)) (fun g126 => k76 s0 g126)
set_option maxRecDepth 100000 in
set_option maxHeartbeats 4000000 in
theorem tX12_readShore_114 {La : gz_L}   {k76 : Int32 → gz_S → Option (gz_S)}  (hk76 : ∀ (x1 : Int32) (g : gz_S) (r : gz_S), k76 x1 g = some r → gz_J La 8 mX12_readShore 76 [some (.ref 39), some (.int x1)] [] g (gz_Fv r)) : ∀ (s0 : Int32) (g : gz_S) (r : gz_S), fX12_readShore_114 La   k76 s0 g = some r → gz_J La 8 mX12_readShore 114 [some (.ref 39), none] [.int s0] g (gz_Fv r) := by
  intro s0 g r hf
  unfold fX12_readShore_114 at hf
  refine sz_istore_n dX12_readShore_114 rfl (Nat.le_of_ble_eq_true rfl) rfl ?_
  refine sz_ls (l2 := [some (.ref 39), some (.int s0)]) rfl ?_
  refine sz_iload_n dX12_readShore_115 rfl ?_
  refine sz_if_eq 76 dX12_readShore_116 (by decide) (fun c116 => ?_) (fun c116 => ?_)
  · have hf := gz_ip c116 hf
    exact hk76 _ _ _ hf
  · have hf := gz_in1 c116 hf
    refine sz_aload_n dX12_readShore_119 rfl ?_
    refine sz_dup dX12_readShore_120 rfl ?_
    refine sz_getI dX12_readShore_121 flX12_127 kd39 rfl ?_
    refine sz_iconst dX12_readShore_124 (cI1) ?_
    refine sz_iadd dX12_readShore_125 ?_
    obtain ⟨g126, eg126, hf⟩ := gz_lt hf
    refine sz_putI2 dX12_readShore_126 flX12_127 kd39 fi12_10 eg126 ?_
    refine sz_goto 76 dX12_readShore_129 (by decide) ?_
    exact hk76 _ _ _ hf
def fX12_readShore_113 (La : gz_L)   (k76 : Int32 → gz_S → Option (gz_S))  (g : gz_S) : Option (gz_S) := fX12_readShore_114 La   k76  0 g
set_option maxRecDepth 100000 in
set_option maxHeartbeats 4000000 in
theorem tX12_readShore_113 {La : gz_L}   {k76 : Int32 → gz_S → Option (gz_S)}  (hk76 : ∀ (x1 : Int32) (g : gz_S) (r : gz_S), k76 x1 g = some r → gz_J La 8 mX12_readShore 76 [some (.ref 39), some (.int x1)] [] g (gz_Fv r)) : ∀  (g : gz_S) (r : gz_S), fX12_readShore_113 La   k76  g = some r → gz_J La 8 mX12_readShore 113 [some (.ref 39), none] [] g (gz_Fv r) := by
  intro  g r hf
  unfold fX12_readShore_113 at hf
  refine sz_iconst dX12_readShore_113 (cI0) ?_
  exact tX12_readShore_114   hk76 _ _ _ hf
def fX12_readShore_76 (La : gz_L)   (k132 : gz_S → Option (gz_S)) : Nat → Int32 → gz_S → Option (gz_S)
  | 0, _, _ => none
  | n + 1, x1, g => if x1 = 0 then k132  g else if (g.1 39 11) = (-1) then (fX12_readClause La   g).bind (fun q89 => if (q89.1 39 11) = (-1) then (fX12_look La   q89).bind (fun q101 => if q101.1 = 59 then fX12_readShore_114 La   (fX12_readShore_76 La   k132 n)  1 q101.2 else fX12_readShore_113 La   (fX12_readShore_76 La   k132 n)   q101.2) else fX12_readShore_113 La   (fX12_readShore_76 La   k132 n)   q89) else k132  g
set_option maxRecDepth 100000 in
set_option maxHeartbeats 4000000 in
theorem tX12_readShore_76 {La : gz_L}   {k132 : gz_S → Option (gz_S)}  (hk132 : ∀  (g : gz_S) (r : gz_S), k132  g = some r → gz_J La 8 mX12_readShore 132 [some (.ref 39), none] [] g (gz_Fv r)) : ∀ (n : Nat) (x1 : Int32) (g : gz_S) (r : gz_S), fX12_readShore_76 La   k132 n x1 g = some r → gz_J La 8 mX12_readShore 76 [some (.ref 39), some (.int x1)] [] g (gz_Fv r) := by
  intro n
  induction n with
  | zero => intro x1 g r hf; exact nomatch (show (none : Option (gz_S)) = some r from hf)
  | succ n ih =>
    intro x1 g r hf
    unfold fX12_readShore_76 at hf
    refine sz_iload_n dX12_readShore_76 rfl ?_
    refine sz_if_eq 132 dX12_readShore_77 (by decide) (fun c77 => ?_) (fun c77 => ?_)
    · have hf := gz_ip c77 hf
      refine sz_weak (l2 := [some (.ref 39), none]) (gz_subk (gz_subn gz_sub0)) ?_
      exact hk132  _ _ hf
    · have hf := gz_in1 c77 hf
      refine sz_aload_n dX12_readShore_80 rfl ?_
      refine sz_getI dX12_readShore_81 flX12_136 kd39 rfl ?_
      refine sz_iconst dX12_readShore_84 (cIm1) ?_
      refine sz_icmp_ne 132 dX12_readShore_85 (by decide) (fun c85 => ?_) (fun c85 => ?_)
      · have hf := gz_in1 c85 hf
        refine sz_weak (l2 := [some (.ref 39), none]) (gz_subk (gz_subn gz_sub0)) ?_
        exact hk132  _ _ hf
      · have hf := gz_ip c85 hf
        refine sz_aload_n dX12_readShore_88 rfl ?_
        obtain ⟨q89, eq89, hf⟩ := gz_bd hf
        refine sz_callVv [] [] dX12_readShore_89 mvX12_270 (Nat.le_of_ble_eq_true rfl) (by decide : 12 < 13) kd39 rfl (Nat.le_of_ble_eq_true rfl) (kX12_readClause   eq89) ?_
        refine sz_aload_n dX12_readShore_92 rfl ?_
        refine sz_getI dX12_readShore_93 flX12_136 kd39 rfl ?_
        refine sz_iconst dX12_readShore_96 (cIm1) ?_
        refine sz_icmp_ne 113 dX12_readShore_97 (by decide) (fun c97 => ?_) (fun c97 => ?_)
        · have hf := gz_in1 c97 hf
          refine sz_weak (l2 := [some (.ref 39), none]) (gz_subk (gz_subn gz_sub0)) ?_
          exact tX12_readShore_113   ih  _ _ hf
        · have hf := gz_ip c97 hf
          refine sz_aload_n dX12_readShore_100 rfl ?_
          obtain ⟨q101, eq101, hf⟩ := gz_bd hf
          refine sz_callVi [] [] dX12_readShore_101 mvX12_146 (Nat.le_of_ble_eq_true rfl) (by decide : 12 < 13) kd39 rfl (Nat.le_of_ble_eq_true rfl) (kX12_look   eq101) ?_
          refine sz_bipush dX12_readShore_104 (cB59) ?_
          refine sz_icmp_ne 113 dX12_readShore_106 (by decide) (fun c106 => ?_) (fun c106 => ?_)
          · have hf := gz_in1 c106 hf
            refine sz_weak (l2 := [some (.ref 39), none]) (gz_subk (gz_subn gz_sub0)) ?_
            exact tX12_readShore_113   ih  _ _ hf
          · have hf := gz_ip c106 hf
            refine sz_iconst dX12_readShore_109 (cI1) ?_
            refine sz_goto 114 dX12_readShore_110 (by decide) ?_
            refine sz_weak (l2 := [some (.ref 39), none]) (gz_subk (gz_subn gz_sub0)) ?_
            exact tX12_readShore_114   ih _ _ _ hf
def fX12_readShore_155 (La : gz_L)     (g : gz_S) : Option (gz_S) := (fX12_fails La   g).bind (fun q156 => some q156.2)
set_option maxRecDepth 100000 in
set_option maxHeartbeats 4000000 in
theorem tX12_readShore_155 {La : gz_L}      : ∀  (g : gz_S) (r : gz_S), fX12_readShore_155 La     g = some r → gz_J La 8 mX12_readShore 155 [some (.ref 39), none] [] g (gz_Fv r) := by
  intro  g r hf
  unfold fX12_readShore_155 at hf
  refine sz_aload_n dX12_readShore_155 rfl ?_
  obtain ⟨q156, eq156, hf⟩ := gz_bd hf
  refine sz_callVi [] [] dX12_readShore_156 mvX12_142 (Nat.le_of_ble_eq_true rfl) (by decide : 12 < 13) kd39 rfl (Nat.le_of_ble_eq_true rfl) (kX12_fails   eq156) ?_
  refine sz_pop dX12_readShore_159 rfl ?_
  cases hf
  exact sz_ret dX12_readShore_160 rfl ⟨rfl, rfl⟩
def fX12_readShore_132 (La : gz_L)     (g : gz_S) : Option (gz_S) := if (g.1 39 11) = (-1) then (fX12_look La   g).bind (fun q141 => if q141.1 = (-1) then (fX12_isWhole La   q141.2).bind (fun q149 => if q149.1 = 0 then fX12_readShore_155 La      q149.2 else some q149.2) else fX12_readShore_155 La      q141.2) else some g
set_option maxRecDepth 100000 in
set_option maxHeartbeats 4000000 in
theorem tX12_readShore_132 {La : gz_L}      : ∀  (g : gz_S) (r : gz_S), fX12_readShore_132 La     g = some r → gz_J La 8 mX12_readShore 132 [some (.ref 39), none] [] g (gz_Fv r) := by
  intro  g r hf
  unfold fX12_readShore_132 at hf
  refine sz_aload_n dX12_readShore_132 rfl ?_
  refine sz_getI dX12_readShore_133 flX12_136 kd39 rfl ?_
  refine sz_iconst dX12_readShore_136 (cIm1) ?_
  refine sz_icmp_ne 160 dX12_readShore_137 (by decide) (fun c137 => ?_) (fun c137 => ?_)
  · have hf := gz_in1 c137 hf
    cases hf
    exact sz_ret dX12_readShore_160 rfl ⟨rfl, rfl⟩
  · have hf := gz_ip c137 hf
    refine sz_aload_n dX12_readShore_140 rfl ?_
    obtain ⟨q141, eq141, hf⟩ := gz_bd hf
    refine sz_callVi [] [] dX12_readShore_141 mvX12_146 (Nat.le_of_ble_eq_true rfl) (by decide : 12 < 13) kd39 rfl (Nat.le_of_ble_eq_true rfl) (kX12_look   eq141) ?_
    refine sz_iconst dX12_readShore_144 (cIm1) ?_
    refine sz_icmp_ne 155 dX12_readShore_145 (by decide) (fun c145 => ?_) (fun c145 => ?_)
    · have hf := gz_in1 c145 hf
      exact tX12_readShore_155     _ _ hf
    · have hf := gz_ip c145 hf
      refine sz_aload_n dX12_readShore_148 rfl ?_
      obtain ⟨q149, eq149, hf⟩ := gz_bd hf
      refine sz_callVi [] [] dX12_readShore_149 mvX12_273 (Nat.le_of_ble_eq_true rfl) (by decide : 12 < 13) kd39 rfl (Nat.le_of_ble_eq_true rfl) (kX12_isWhole   eq149) ?_
      refine sz_if_ne 160 dX12_readShore_152 (by decide) (fun c152 => ?_) (fun c152 => ?_)
      · have hf := gz_in1 c152 hf
        cases hf
        exact sz_ret dX12_readShore_160 rfl ⟨rfl, rfl⟩
      · have hf := gz_ip c152 hf
        exact tX12_readShore_155     _ _ hf
def fX12_readShore (La : gz_L)   (g : gz_S) : Option (gz_S) :=
  (fX12_starts La  40 0 (g.1 39 6) g).bind (fun q10 => gz_let (gz_wi q10 39 28 0) (fun g15 => gz_let (gz_wi g15 39 29 0) (fun g20 => gz_let (gz_wi g20 39 31 0) (fun g25 => fX12_readShore_30 La   (fun  g => fX12_readShore_55 La   (fun  g => fX12_readShore_76 La   (fX12_readShore_132 La    ) gz_FU 1 g) gz_FU 0 g) gz_FU 0 g25))))
set_option maxRecDepth 100000 in
set_option maxHeartbeats 4000000 in
theorem kX12_readShore {La : gz_L}   {g : gz_S} {r : gz_S}  (hf : fX12_readShore La   g = some r) : gz_K La 8 mX12_readShore [.ref 39] g (gz_Fv r) := by
  unfold fX12_readShore at hf
  refine gz_K.of 1 (by decide +kernel) rfl ?_
  show gz_J La 8 mX12_readShore 0 [some (.ref 39), none] [] g (gz_Fv r)
  refine sz_aload_n dX12_readShore_0 rfl ?_
  refine sz_aload_n dX12_readShore_1 rfl ?_
  refine sz_getR dX12_readShore_2 flX12_9 kd39 rfl rf39_1 ?_
  refine sz_iconst dX12_readShore_5 (cI0) ?_
  refine sz_aload_n dX12_readShore_6 rfl ?_
  refine sz_getI dX12_readShore_7 flX12_117 kd39 rfl ?_
  obtain ⟨q10, eq10, hf⟩ := gz_bd hf
  refine sz_callVv [.ref 40, .int 0, .int (g.1 39 6)] [] dX12_readShore_10 mvX12_215 (Nat.le_of_ble_eq_true rfl) (by decide : 12 < 13) kd39 rfl (Nat.le_of_ble_eq_true rfl) (kX12_starts  (Or.inl rfl) eq10) ?_
  refine sz_aload_n dX12_readShore_13 rfl ?_
  refine sz_iconst dX12_readShore_14 (cI0) ?_
  obtain ⟨g15, eg15, hf⟩ := gz_lt hf
  refine sz_putI2 dX12_readShore_15 flX12_256 kd39 fi12_28 eg15 ?_
  refine sz_aload_n dX12_readShore_18 rfl ?_
  refine sz_iconst dX12_readShore_19 (cI0) ?_
  obtain ⟨g20, eg20, hf⟩ := gz_lt hf
  refine sz_putI2 dX12_readShore_20 flX12_250 kd39 fi12_29 eg20 ?_
  refine sz_aload_n dX12_readShore_23 rfl ?_
  refine sz_iconst dX12_readShore_24 (cI0) ?_
  obtain ⟨g25, eg25, hf⟩ := gz_lt hf
  refine sz_putZ2 dX12_readShore_25 flX12_253 kd39 fi12_31 (Or.inl rfl) eg25 ?_
  refine sz_iconst dX12_readShore_28 (cI0) ?_
  refine sz_istore_n dX12_readShore_29 rfl (Nat.le_of_ble_eq_true rfl) rfl ?_
  refine sz_ls (l2 := [some (.ref 39), some (.int 0)]) rfl ?_
  have hk53 : ∀  (g : gz_S) (r : gz_S), (fun  g => fX12_readShore_55 La   (fun  g => fX12_readShore_76 La   (fX12_readShore_132 La    ) gz_FU 1 g) gz_FU 0 g)  g = some r → gz_J La 8 mX12_readShore 53 [some (.ref 39), none] [] g (gz_Fv r) := by
    intro  g r hf
    refine sz_iconst dX12_readShore_53 (cI0) ?_
    refine sz_istore_n dX12_readShore_54 rfl (Nat.le_of_ble_eq_true rfl) rfl ?_
    refine sz_ls (l2 := [some (.ref 39), some (.int 0)]) rfl ?_
    have hk74 : ∀  (g : gz_S) (r : gz_S), (fun  g => fX12_readShore_76 La   (fX12_readShore_132 La    ) gz_FU 1 g)  g = some r → gz_J La 8 mX12_readShore 74 [some (.ref 39), none] [] g (gz_Fv r) := by
      intro  g r hf
      refine sz_iconst dX12_readShore_74 (cI1) ?_
      refine sz_istore_n dX12_readShore_75 rfl (Nat.le_of_ble_eq_true rfl) rfl ?_
      refine sz_ls (l2 := [some (.ref 39), some (.int 1)]) rfl ?_
      exact tX12_readShore_76   (tX12_readShore_132   ) _ _ _ _ hf
    exact tX12_readShore_55   hk74 _ _ _ _ hf
  exact tX12_readShore_30   hk53 _ _ _ _ hf
def fX12_digit (La : gz_L)   (g : gz_S) : Option (Int32 × gz_S) :=
  (fX12_look La   g).bind (fun q1 => (fX12_isDigit La   q1.2).bind (fun q6 => if q6.1 = 0 then (fX12_fails La   q6.2).bind (fun q13 => some (0, q13.2)) else gz_let (gz_wi q6.2 39 10 ((q6.2.1 39 10) + 1)) (fun g26 => some (q1.1 - 48, g26))))
set_option maxRecDepth 100000 in
set_option maxHeartbeats 4000000 in
theorem kX12_digit {La : gz_L}   {g : gz_S} {r : Int32 × gz_S}  (hf : fX12_digit La   g = some r) : gz_K La 2 mX12_digit [.ref 39] g (gz_Fi r) := by
  unfold fX12_digit at hf
  refine gz_K.of 1 (by decide +kernel) rfl ?_
  show gz_J La 2 mX12_digit 0 [some (.ref 39), none] [] g (gz_Fi r)
  refine sz_aload_n dX12_digit_0 rfl ?_
  obtain ⟨q1, eq1, hf⟩ := gz_bd hf
  refine sz_callVi [] [] dX12_digit_1 mvX12_146 (Nat.le_of_ble_eq_true rfl) (by decide : 12 < 13) kd39 rfl (Nat.le_of_ble_eq_true rfl) (kX12_look   eq1) ?_
  refine sz_istore_n dX12_digit_4 rfl (Nat.le_of_ble_eq_true rfl) rfl ?_
  refine sz_ls (l2 := [some (.ref 39), some (.int q1.1)]) rfl ?_
  refine sz_aload_n dX12_digit_5 rfl ?_
  obtain ⟨q6, eq6, hf⟩ := gz_bd hf
  refine sz_callVi [] [] dX12_digit_6 mvX12_176 (Nat.le_of_ble_eq_true rfl) (by decide : 12 < 13) kd39 rfl (Nat.le_of_ble_eq_true rfl) (kX12_isDigit   eq6) ?_
  refine sz_if_ne 19 dX12_digit_9 (by decide) (fun c9 => ?_) (fun c9 => ?_)
  · have hf := gz_in1 c9 hf
    refine sz_aload_n dX12_digit_19 rfl ?_
    refine sz_dup dX12_digit_20 rfl ?_
    refine sz_getI dX12_digit_21 flX12_127 kd39 rfl ?_
    refine sz_iconst dX12_digit_24 (cI1) ?_
    refine sz_iadd dX12_digit_25 ?_
    obtain ⟨g26, eg26, hf⟩ := gz_lt hf
    refine sz_putI2 dX12_digit_26 flX12_127 kd39 fi12_10 eg26 ?_
    refine sz_iload_n dX12_digit_29 rfl ?_
    refine sz_bipush dX12_digit_30 (cB48) ?_
    refine sz_isub dX12_digit_32 ?_
    cases hf
    exact sz_iret dX12_digit_33 rfl rfl ⟨rfl, rfl⟩
  · have hf := gz_ip c9 hf
    refine sz_aload_n dX12_digit_12 rfl ?_
    obtain ⟨q13, eq13, hf⟩ := gz_bd hf
    refine sz_callVi [] [] dX12_digit_13 mvX12_142 (Nat.le_of_ble_eq_true rfl) (by decide : 12 < 13) kd39 rfl (Nat.le_of_ble_eq_true rfl) (kX12_fails   eq13) ?_
    refine sz_pop dX12_digit_16 rfl ?_
    refine sz_iconst dX12_digit_17 (cI0) ?_
    cases hf
    exact sz_iret dX12_digit_18 rfl rfl ⟨rfl, rfl⟩
def fX12_readStep (La : gz_L)  (x1 : Int32) (g : gz_S) : Option (gz_S) :=
  (fX12_look La   g).bind (fun q4 => (fX12_spotOf La  214 q4.1 q4.2).bind (fun q7 => if q7.1 = (-1) then (fX12_fails La   q7.2).bind (fun q17 => some q17.2) else gz_let (gz_wi q7.2 39 10 ((q7.2.1 39 10) + 1)) (fun g29 => if gz_ok x1 240 then gz_let (gz_wi g29 51 (Int32.toNatClampNeg x1) q7.1) (fun g38 => if gz_ok (x1 + 1) 240 then gz_let (gz_wi g38 51 (Int32.toNatClampNeg (x1 + 1)) (-1)) (fun g47 => if gz_ok (x1 + 2) 240 then gz_let (gz_wi g47 51 (Int32.toNatClampNeg (x1 + 2)) (-1)) (fun g56 => if q7.1 = 0 then some g56 else (fX12_digit La   g56).bind (fun q70 => if gz_ok (x1 + 1) 240 then gz_let (gz_wi q70.2 51 (Int32.toNatClampNeg (x1 + 1)) q70.1) (fun g73 => if (g73.1 39 11) = (-1) then if q7.1 = 2 then some g73 else (fX12_digit La   g73).bind (fun q89 => if q7.1 = 1 then if gz_ok (x1 + 2) 240 then gz_let (gz_wi q89.2 51 (Int32.toNatClampNeg (x1 + 2)) q89.1) (fun g106 => some g106) else none else if gz_ok (x1 + 1) 240 then if gz_ok (x1 + 1) 240 then gz_let (gz_wi q89.2 51 (Int32.toNatClampNeg (x1 + 1)) (((10 : Int32) * (q89.2.1 51 (Int32.toNatClampNeg (x1 + 1)))) + q89.1)) (fun g130 => some g130) else none else none) else some g73) else none)) else none) else none) else none)))
set_option maxRecDepth 100000 in
set_option maxHeartbeats 4000000 in
theorem kX12_readStep {La : gz_L}  {x1 : Int32} {g : gz_S} {r : gz_S}  (hf : fX12_readStep La  x1 g = some r) : gz_K La 6 mX12_readStep [.ref 39, .int x1] g (gz_Fv r) := by
  unfold fX12_readStep at hf
  refine gz_K.of 2 (by decide +kernel) rfl ?_
  show gz_J La 6 mX12_readStep 0 [some (.ref 39), some (.int x1), none, none] [] g (gz_Fv r)
  refine sz_ldcS (w := 214) ⟨rfl, by decide⟩ dX12_readStep_0 ?_
  refine sz_aload_n dX12_readStep_3 rfl ?_
  obtain ⟨q4, eq4, hf⟩ := gz_bd hf
  refine sz_callVi [] [.ref 214] dX12_readStep_4 mvX12_146 (Nat.le_of_ble_eq_true rfl) (by decide : 12 < 13) kd39 rfl (Nat.le_of_ble_eq_true rfl) (kX12_look   eq4) ?_
  obtain ⟨q7, eq7, hf⟩ := gz_bd hf
  refine sz_callSi [.ref 214, .int q4.1] [] dX12_readStep_7 msX12_233 (Nat.le_of_ble_eq_true rfl) (Nat.le_of_ble_eq_true rfl) (kX12_spotOf  (by decide) eq7) ?_
  refine sz_istore_n dX12_readStep_10 rfl (Nat.le_of_ble_eq_true rfl) rfl ?_
  refine sz_ls (l2 := [some (.ref 39), some (.int x1), some (.int q7.1), none]) rfl ?_
  refine sz_iload_n dX12_readStep_11 rfl ?_
  refine sz_iconst dX12_readStep_12 (cIm1) ?_
  refine sz_icmp_ne 22 dX12_readStep_13 (by decide) (fun c13 => ?_) (fun c13 => ?_)
  · have hf := gz_in1 c13 hf
    refine sz_aload_n dX12_readStep_22 rfl ?_
    refine sz_dup dX12_readStep_23 rfl ?_
    refine sz_getI dX12_readStep_24 flX12_127 kd39 rfl ?_
    refine sz_iconst dX12_readStep_27 (cI1) ?_
    refine sz_iadd dX12_readStep_28 ?_
    obtain ⟨g29, eg29, hf⟩ := gz_lt hf
    refine sz_putI2 dX12_readStep_29 flX12_127 kd39 fi12_10 eg29 ?_
    refine sz_aload_n dX12_readStep_32 rfl ?_
    refine sz_getR dX12_readStep_33 flX12_58 kd39 rfl rf39_25 ?_
    refine sz_iload_n dX12_readStep_36 rfl ?_
    refine sz_iload_n dX12_readStep_37 rfl ?_
    obtain ⟨c38, hf⟩ := gz_gd hf
    obtain ⟨g38, eg38, hf⟩ := gz_lt hf
    refine sz_iastL dX12_readStep_38 kd51 c38 rfl eg38 ?_
    refine sz_aload_n dX12_readStep_39 rfl ?_
    refine sz_getR dX12_readStep_40 flX12_58 kd39 rfl rf39_25 ?_
    refine sz_iload_n dX12_readStep_43 rfl ?_
    refine sz_iconst dX12_readStep_44 (cI1) ?_
    refine sz_iadd dX12_readStep_45 ?_
    refine sz_iconst dX12_readStep_46 (cIm1) ?_
    obtain ⟨c47, hf⟩ := gz_gd hf
    obtain ⟨g47, eg47, hf⟩ := gz_lt hf
    refine sz_iastL dX12_readStep_47 kd51 c47 rfl eg47 ?_
    refine sz_aload_n dX12_readStep_48 rfl ?_
    refine sz_getR dX12_readStep_49 flX12_58 kd39 rfl rf39_25 ?_
    refine sz_iload_n dX12_readStep_52 rfl ?_
    refine sz_iconst dX12_readStep_53 (cI2) ?_
    refine sz_iadd dX12_readStep_54 ?_
    refine sz_iconst dX12_readStep_55 (cIm1) ?_
    obtain ⟨c56, hf⟩ := gz_gd hf
    obtain ⟨g56, eg56, hf⟩ := gz_lt hf
    refine sz_iastL dX12_readStep_56 kd51 c56 rfl eg56 ?_
    refine sz_iload_n dX12_readStep_57 rfl ?_
    refine sz_if_ne 62 dX12_readStep_58 (by decide) (fun c58 => ?_) (fun c58 => ?_)
    · have hf := gz_in1 c58 hf
      refine sz_aload_n dX12_readStep_62 rfl ?_
      refine sz_getR dX12_readStep_63 flX12_58 kd39 rfl rf39_25 ?_
      refine sz_iload_n dX12_readStep_66 rfl ?_
      refine sz_iconst dX12_readStep_67 (cI1) ?_
      refine sz_iadd dX12_readStep_68 ?_
      refine sz_aload_n dX12_readStep_69 rfl ?_
      obtain ⟨q70, eq70, hf⟩ := gz_bd hf
      refine sz_callVi [] [.int (x1 + 1), .ref 51] dX12_readStep_70 mvX12_278 (Nat.le_of_ble_eq_true rfl) (by decide : 12 < 13) kd39 rfl (Nat.le_of_ble_eq_true rfl) (kX12_digit   eq70) ?_
      obtain ⟨c73, hf⟩ := gz_gd hf
      obtain ⟨g73, eg73, hf⟩ := gz_lt hf
      refine sz_iastL dX12_readStep_73 kd51 c73 rfl eg73 ?_
      refine sz_aload_n dX12_readStep_74 rfl ?_
      refine sz_getI dX12_readStep_75 flX12_136 kd39 rfl ?_
      refine sz_iconst dX12_readStep_78 (cIm1) ?_
      refine sz_icmp_ne 87 dX12_readStep_79 (by decide) (fun c79 => ?_) (fun c79 => ?_)
      · have hf := gz_in1 c79 hf
        cases hf
        exact sz_ret dX12_readStep_87 rfl ⟨rfl, rfl⟩
      · have hf := gz_ip c79 hf
        refine sz_iload_n dX12_readStep_82 rfl ?_
        refine sz_iconst dX12_readStep_83 (cI2) ?_
        refine sz_icmp_ne 88 dX12_readStep_84 (by decide) (fun c84 => ?_) (fun c84 => ?_)
        · have hf := gz_in1 c84 hf
          refine sz_aload_n dX12_readStep_88 rfl ?_
          obtain ⟨q89, eq89, hf⟩ := gz_bd hf
          refine sz_callVi [] [] dX12_readStep_89 mvX12_278 (Nat.le_of_ble_eq_true rfl) (by decide : 12 < 13) kd39 rfl (Nat.le_of_ble_eq_true rfl) (kX12_digit   eq89) ?_
          refine sz_istore_n dX12_readStep_92 rfl (Nat.le_of_ble_eq_true rfl) rfl ?_
          refine sz_ls (l2 := [some (.ref 39), some (.int x1), some (.int q7.1), some (.int q89.1)]) rfl ?_
          refine sz_iload_n dX12_readStep_93 rfl ?_
          refine sz_iconst dX12_readStep_94 (cI1) ?_
          refine sz_icmp_ne 110 dX12_readStep_95 (by decide) (fun c95 => ?_) (fun c95 => ?_)
          · have hf := gz_in1 c95 hf
            refine sz_aload_n dX12_readStep_110 rfl ?_
            refine sz_getR dX12_readStep_111 flX12_58 kd39 rfl rf39_25 ?_
            refine sz_iload_n dX12_readStep_114 rfl ?_
            refine sz_iconst dX12_readStep_115 (cI1) ?_
            refine sz_iadd dX12_readStep_116 ?_
            refine sz_bipush dX12_readStep_117 (cB10) ?_
            refine sz_aload_n dX12_readStep_119 rfl ?_
            refine sz_getR dX12_readStep_120 flX12_58 kd39 rfl rf39_25 ?_
            refine sz_iload_n dX12_readStep_123 rfl ?_
            refine sz_iconst dX12_readStep_124 (cI1) ?_
            refine sz_iadd dX12_readStep_125 ?_
            obtain ⟨c126, hf⟩ := gz_gd hf
            refine sz_ialdL dX12_readStep_126 kd51 c126 rfl ?_
            refine sz_imul dX12_readStep_127 ?_
            refine sz_iload_n dX12_readStep_128 rfl ?_
            refine sz_iadd dX12_readStep_129 ?_
            obtain ⟨c130, hf⟩ := gz_gd hf
            obtain ⟨g130, eg130, hf⟩ := gz_lt hf
            refine sz_iastL dX12_readStep_130 kd51 c130 rfl eg130 ?_
            cases hf
            exact sz_ret dX12_readStep_131 rfl ⟨rfl, rfl⟩
          · have hf := gz_ip c95 hf
            refine sz_aload_n dX12_readStep_98 rfl ?_
            refine sz_getR dX12_readStep_99 flX12_58 kd39 rfl rf39_25 ?_
            refine sz_iload_n dX12_readStep_102 rfl ?_
            refine sz_iconst dX12_readStep_103 (cI2) ?_
            refine sz_iadd dX12_readStep_104 ?_
            refine sz_iload_n dX12_readStep_105 rfl ?_
            obtain ⟨c106, hf⟩ := gz_gd hf
            obtain ⟨g106, eg106, hf⟩ := gz_lt hf
            refine sz_iastL dX12_readStep_106 kd51 c106 rfl eg106 ?_
            refine sz_goto 131 dX12_readStep_107 (by decide) ?_
            cases hf
            exact sz_ret dX12_readStep_131 rfl ⟨rfl, rfl⟩
        · have hf := gz_ip c84 hf
          cases hf
          exact sz_ret dX12_readStep_87 rfl ⟨rfl, rfl⟩
    · have hf := gz_ip c58 hf
      cases hf
      exact sz_ret dX12_readStep_61 rfl ⟨rfl, rfl⟩
  · have hf := gz_ip c13 hf
    refine sz_aload_n dX12_readStep_16 rfl ?_
    obtain ⟨q17, eq17, hf⟩ := gz_bd hf
    refine sz_callVi [] [] dX12_readStep_17 mvX12_142 (Nat.le_of_ble_eq_true rfl) (by decide : 12 < 13) kd39 rfl (Nat.le_of_ble_eq_true rfl) (kX12_fails   eq17) ?_
    refine sz_pop dX12_readStep_20 rfl ?_
    cases hf
    exact sz_ret dX12_readStep_21 rfl ⟨rfl, rfl⟩
def fX12_readPlan_74 (La : gz_L)   (k17 : Int32 → Int32 → gz_S → Option (gz_S)) (x1 : Int32) (x2 : Int32) (g : gz_S) : Option (gz_S) := if x2 = 0 then k17 x1 x2 g else gz_let (gz_wi g 39 10 ((g.1 39 10) + 1)) (fun g85 => k17 x1 x2 g85)
set_option maxRecDepth 100000 in
set_option maxHeartbeats 4000000 in
theorem tX12_readPlan_74 {La : gz_L}   {k17 : Int32 → Int32 → gz_S → Option (gz_S)}  (hk17 : ∀ (x1 : Int32) (x2 : Int32) (g : gz_S) (r : gz_S), k17 x1 x2 g = some r → gz_J La 7 mX12_readPlan 17 [some (.ref 39), some (.int x1), some (.int x2)] [] g (gz_Fv r)) : ∀ (x1 : Int32) (x2 : Int32) (g : gz_S) (r : gz_S), fX12_readPlan_74 La   k17 x1 x2 g = some r → gz_J La 7 mX12_readPlan 74 [some (.ref 39), some (.int x1), some (.int x2)] [] g (gz_Fv r) := by
  intro x1 x2 g r hf
  unfold fX12_readPlan_74 at hf
  refine sz_iload_n dX12_readPlan_74 rfl ?_
  refine sz_if_eq 17 dX12_readPlan_75 (by decide) (fun c75 => ?_) (fun c75 => ?_)
  · have hf := gz_ip c75 hf
    exact hk17 _ _ _ _ hf
  · have hf := gz_in1 c75 hf
    refine sz_aload_n dX12_readPlan_78 rfl ?_
    refine sz_dup dX12_readPlan_79 rfl ?_
    refine sz_getI dX12_readPlan_80 flX12_127 kd39 rfl ?_
    refine sz_iconst dX12_readPlan_83 (cI1) ?_
    refine sz_iadd dX12_readPlan_84 ?_
    obtain ⟨g85, eg85, hf⟩ := gz_lt hf
    refine sz_putI2 dX12_readPlan_85 flX12_127 kd39 fi12_10 eg85 ?_
    refine sz_goto 17 dX12_readPlan_88 (by decide) ?_
    exact hk17 _ _ _ _ hf
def fX12_readPlan_57 (La : gz_L)   (k17 : Int32 → Int32 → gz_S → Option (gz_S)) (k68 : gz_S → Option (gz_S)) (x1 : Int32) (s0 : Int32) (g : gz_S) : Option (gz_S) := if s0 = 0 then fX12_readPlan_74 La   k17  x1 s0 g else if x1 = 16 then k68  g else fX12_readPlan_74 La   k17  x1 s0 g
set_option maxRecDepth 100000 in
set_option maxHeartbeats 4000000 in
theorem tX12_readPlan_57 {La : gz_L}   {k17 : Int32 → Int32 → gz_S → Option (gz_S)} {k68 : gz_S → Option (gz_S)}  (hk17 : ∀ (x1 : Int32) (x2 : Int32) (g : gz_S) (r : gz_S), k17 x1 x2 g = some r → gz_J La 7 mX12_readPlan 17 [some (.ref 39), some (.int x1), some (.int x2)] [] g (gz_Fv r)) (hk68 : ∀  (g : gz_S) (r : gz_S), k68  g = some r → gz_J La 7 mX12_readPlan 68 [some (.ref 39), none, none] [] g (gz_Fv r)) : ∀ (x1 : Int32) (s0 : Int32) (g : gz_S) (r : gz_S), fX12_readPlan_57 La   k17 k68 x1 s0 g = some r → gz_J La 7 mX12_readPlan 57 [some (.ref 39), some (.int x1), none] [.int s0] g (gz_Fv r) := by
  intro x1 s0 g r hf
  unfold fX12_readPlan_57 at hf
  refine sz_istore_n dX12_readPlan_57 rfl (Nat.le_of_ble_eq_true rfl) rfl ?_
  refine sz_ls (l2 := [some (.ref 39), some (.int x1), some (.int s0)]) rfl ?_
  refine sz_iload_n dX12_readPlan_58 rfl ?_
  refine sz_if_eq 74 dX12_readPlan_59 (by decide) (fun c59 => ?_) (fun c59 => ?_)
  · have hf := gz_ip c59 hf
    exact tX12_readPlan_74   hk17 _ _ _ _ hf
  · have hf := gz_in1 c59 hf
    refine sz_iload_n dX12_readPlan_62 rfl ?_
    refine sz_bipush dX12_readPlan_63 (cB16) ?_
    refine sz_icmp_ne 74 dX12_readPlan_65 (by decide) (fun c65 => ?_) (fun c65 => ?_)
    · have hf := gz_in1 c65 hf
      exact tX12_readPlan_74   hk17 _ _ _ _ hf
    · have hf := gz_ip c65 hf
      refine sz_weak (l2 := [some (.ref 39), none, none]) (gz_subk (gz_subn (gz_subn gz_sub0))) ?_
      exact hk68  _ _ hf
def fX12_readPlan_17 (La : gz_L)   (k91 : Int32 → gz_S → Option (gz_S)) (k68 : gz_S → Option (gz_S)) : Nat → Int32 → Int32 → gz_S → Option (gz_S)
  | 0, _, _, _ => none
  | n + 1, x1, x2, g => if x2 = 0 then k91 x1 g else (fX12_readStep La  ((3 : Int32) * ((64 : Int32) + x1)) g).bind (fun q28 => if (q28.1 39 11) = (-1) then gz_let (x1 + 1) (fun y40 => (fX12_look La   q28).bind (fun q44 => if q44.1 = 59 then fX12_readPlan_57 La   (fX12_readPlan_17 La   k91 k68 n) k68  y40 1 q44.2 else fX12_readPlan_57 La   (fX12_readPlan_17 La   k91 k68 n) k68  y40 0 q44.2)) else some q28)
set_option maxRecDepth 100000 in
set_option maxHeartbeats 4000000 in
theorem tX12_readPlan_17 {La : gz_L}   {k91 : Int32 → gz_S → Option (gz_S)} {k68 : gz_S → Option (gz_S)}  (hk91 : ∀ (x1 : Int32) (g : gz_S) (r : gz_S), k91 x1 g = some r → gz_J La 7 mX12_readPlan 91 [some (.ref 39), some (.int x1), none] [] g (gz_Fv r)) (hk68 : ∀  (g : gz_S) (r : gz_S), k68  g = some r → gz_J La 7 mX12_readPlan 68 [some (.ref 39), none, none] [] g (gz_Fv r)) : ∀ (n : Nat) (x1 : Int32) (x2 : Int32) (g : gz_S) (r : gz_S), fX12_readPlan_17 La   k91 k68 n x1 x2 g = some r → gz_J La 7 mX12_readPlan 17 [some (.ref 39), some (.int x1), some (.int x2)] [] g (gz_Fv r) := by
  intro n
  induction n with
  | zero => intro x1 x2 g r hf; exact nomatch (show (none : Option (gz_S)) = some r from hf)
  | succ n ih =>
    intro x1 x2 g r hf
    unfold fX12_readPlan_17 at hf
    refine sz_iload_n dX12_readPlan_17 rfl ?_
    refine sz_if_eq 91 dX12_readPlan_18 (by decide) (fun c18 => ?_) (fun c18 => ?_)
    · have hf := gz_ip c18 hf
      refine sz_weak (l2 := [some (.ref 39), some (.int x1), none]) (gz_subk (gz_subk (gz_subn gz_sub0))) ?_
      exact hk91 _ _ _ hf
    · have hf := gz_in1 c18 hf
      refine sz_aload_n dX12_readPlan_21 rfl ?_
      refine sz_iconst dX12_readPlan_22 (cI3) ?_
      refine sz_bipush dX12_readPlan_23 (cB64) ?_
      refine sz_iload_n dX12_readPlan_25 rfl ?_
      refine sz_iadd dX12_readPlan_26 ?_
      refine sz_imul dX12_readPlan_27 ?_
      obtain ⟨q28, eq28, hf⟩ := gz_bd hf
      refine sz_callVv [.int ((3 : Int32) * ((64 : Int32) + x1))] [] dX12_readPlan_28 mvX12_281 (Nat.le_of_ble_eq_true rfl) (by decide : 12 < 13) kd39 rfl (Nat.le_of_ble_eq_true rfl) (kX12_readStep   eq28) ?_
      refine sz_aload_n dX12_readPlan_31 rfl ?_
      refine sz_getI dX12_readPlan_32 flX12_136 kd39 rfl ?_
      refine sz_iconst dX12_readPlan_35 (cIm1) ?_
      refine sz_icmp_eq 40 dX12_readPlan_36 (by decide) (fun c36 => ?_) (fun c36 => ?_)
      · have hf := gz_ip c36 hf
        obtain ⟨y40, ey40, hf⟩ := gz_lt hf
        refine sz_iinc (v := y40) dX12_readPlan_40 rfl (by rw [ey40, cI1]) (Nat.le_of_ble_eq_true rfl) rfl ?_
        refine sz_ls (l2 := [some (.ref 39), some (.int y40), some (.int x2)]) rfl ?_
        refine sz_aload_n dX12_readPlan_43 rfl ?_
        obtain ⟨q44, eq44, hf⟩ := gz_bd hf
        refine sz_callVi [] [] dX12_readPlan_44 mvX12_146 (Nat.le_of_ble_eq_true rfl) (by decide : 12 < 13) kd39 rfl (Nat.le_of_ble_eq_true rfl) (kX12_look   eq44) ?_
        refine sz_bipush dX12_readPlan_47 (cB59) ?_
        refine sz_icmp_ne 56 dX12_readPlan_49 (by decide) (fun c49 => ?_) (fun c49 => ?_)
        · have hf := gz_in1 c49 hf
          refine sz_iconst dX12_readPlan_56 (cI0) ?_
          refine sz_weak (l2 := [some (.ref 39), some (.int y40), none]) (gz_subk (gz_subk (gz_subn gz_sub0))) ?_
          exact tX12_readPlan_57   ih hk68 _ _ _ _ hf
        · have hf := gz_ip c49 hf
          refine sz_iconst dX12_readPlan_52 (cI1) ?_
          refine sz_goto 57 dX12_readPlan_53 (by decide) ?_
          refine sz_weak (l2 := [some (.ref 39), some (.int y40), none]) (gz_subk (gz_subk (gz_subn gz_sub0))) ?_
          exact tX12_readPlan_57   ih hk68 _ _ _ _ hf
      · have hf := gz_in1 c36 hf
        cases hf
        exact sz_ret dX12_readPlan_39 rfl ⟨rfl, rfl⟩
def fX12_readPlan (La : gz_L)   (g : gz_S) : Option (gz_S) :=
  (fX12_starts La  40 0 (g.1 39 6) g).bind (fun q10 => fX12_readPlan_17 La   (fun (x1 : Int32) g => gz_let (gz_wi g 52 4 x1) (fun g97 => (fX12_look La   g97).bind (fun q99 => if q99.1 = (-1) then some q99.2 else (fX12_fails La   q99.2).bind (fun q107 => some q107.2)))) (fun  g => (fX12_fails La   g).bind (fun q69 => some q69.2)) gz_FU 0 1 q10)
set_option maxRecDepth 100000 in
set_option maxHeartbeats 4000000 in
theorem kX12_readPlan {La : gz_L}   {g : gz_S} {r : gz_S}  (hf : fX12_readPlan La   g = some r) : gz_K La 7 mX12_readPlan [.ref 39] g (gz_Fv r) := by
  unfold fX12_readPlan at hf
  refine gz_K.of 2 (by decide +kernel) rfl ?_
  show gz_J La 7 mX12_readPlan 0 [some (.ref 39), none, none] [] g (gz_Fv r)
  refine sz_aload_n dX12_readPlan_0 rfl ?_
  refine sz_aload_n dX12_readPlan_1 rfl ?_
  refine sz_getR dX12_readPlan_2 flX12_9 kd39 rfl rf39_1 ?_
  refine sz_iconst dX12_readPlan_5 (cI0) ?_
  refine sz_aload_n dX12_readPlan_6 rfl ?_
  refine sz_getI dX12_readPlan_7 flX12_117 kd39 rfl ?_
  obtain ⟨q10, eq10, hf⟩ := gz_bd hf
  refine sz_callVv [.ref 40, .int 0, .int (g.1 39 6)] [] dX12_readPlan_10 mvX12_215 (Nat.le_of_ble_eq_true rfl) (by decide : 12 < 13) kd39 rfl (Nat.le_of_ble_eq_true rfl) (kX12_starts  (Or.inl rfl) eq10) ?_
  refine sz_iconst dX12_readPlan_13 (cI0) ?_
  refine sz_istore_n dX12_readPlan_14 rfl (Nat.le_of_ble_eq_true rfl) rfl ?_
  refine sz_ls (l2 := [some (.ref 39), some (.int 0), none]) rfl ?_
  refine sz_iconst dX12_readPlan_15 (cI1) ?_
  refine sz_istore_n dX12_readPlan_16 rfl (Nat.le_of_ble_eq_true rfl) rfl ?_
  refine sz_ls (l2 := [some (.ref 39), some (.int 0), some (.int 1)]) rfl ?_
  have hk91 : ∀ (x1 : Int32) (g : gz_S) (r : gz_S), (fun (x1 : Int32) g => gz_let (gz_wi g 52 4 x1) (fun g97 => (fX12_look La   g97).bind (fun q99 => if q99.1 = (-1) then some q99.2 else (fX12_fails La   q99.2).bind (fun q107 => some q107.2)))) x1 g = some r → gz_J La 7 mX12_readPlan 91 [some (.ref 39), some (.int x1), none] [] g (gz_Fv r) := by
    intro x1 g r hf
    refine sz_aload_n dX12_readPlan_91 rfl ?_
    refine sz_getR dX12_readPlan_92 flX12_61 kd39 rfl rf39_26 ?_
    refine sz_iconst dX12_readPlan_95 (cI4) ?_
    refine sz_iload_n dX12_readPlan_96 rfl ?_
    obtain ⟨g97, eg97, hf⟩ := gz_lt hf
    refine sz_iastL dX12_readPlan_97 kd52 vi4_5 tn4 eg97 ?_
    refine sz_aload_n dX12_readPlan_98 rfl ?_
    obtain ⟨q99, eq99, hf⟩ := gz_bd hf
    refine sz_callVi [] [] dX12_readPlan_99 mvX12_146 (Nat.le_of_ble_eq_true rfl) (by decide : 12 < 13) kd39 rfl (Nat.le_of_ble_eq_true rfl) (kX12_look   eq99) ?_
    refine sz_iconst dX12_readPlan_102 (cIm1) ?_
    refine sz_icmp_eq 111 dX12_readPlan_103 (by decide) (fun c103 => ?_) (fun c103 => ?_)
    · have hf := gz_ip c103 hf
      cases hf
      exact sz_ret dX12_readPlan_111 rfl ⟨rfl, rfl⟩
    · have hf := gz_in1 c103 hf
      refine sz_aload_n dX12_readPlan_106 rfl ?_
      obtain ⟨q107, eq107, hf⟩ := gz_bd hf
      refine sz_callVi [] [] dX12_readPlan_107 mvX12_142 (Nat.le_of_ble_eq_true rfl) (by decide : 12 < 13) kd39 rfl (Nat.le_of_ble_eq_true rfl) (kX12_fails   eq107) ?_
      refine sz_pop dX12_readPlan_110 rfl ?_
      cases hf
      exact sz_ret dX12_readPlan_111 rfl ⟨rfl, rfl⟩
  have hk68 : ∀  (g : gz_S) (r : gz_S), (fun  g => (fX12_fails La   g).bind (fun q69 => some q69.2))  g = some r → gz_J La 7 mX12_readPlan 68 [some (.ref 39), none, none] [] g (gz_Fv r) := by
    intro  g r hf
    refine sz_aload_n dX12_readPlan_68 rfl ?_
    obtain ⟨q69, eq69, hf⟩ := gz_bd hf
    refine sz_callVi [] [] dX12_readPlan_69 mvX12_142 (Nat.le_of_ble_eq_true rfl) (by decide : 12 < 13) kd39 rfl (Nat.le_of_ble_eq_true rfl) (kX12_fails   eq69) ?_
    refine sz_pop dX12_readPlan_72 rfl ?_
    cases hf
    exact sz_ret dX12_readPlan_73 rfl ⟨rfl, rfl⟩
  exact tX12_readPlan_17   hk91 hk68 _ _ _ _ _ hf
def fX12_fault_46 (La : gz_L)    (x1 : Int32) (g : gz_S) : Option (Int32 × gz_S) := if x1 = 2 then (fX12_readPlan La   g).bind (fun q52 => some (q52.1 39 11, q52)) else some (g.1 39 11, g)
set_option maxRecDepth 100000 in
set_option maxHeartbeats 4000000 in
theorem tX12_fault_46 {La : gz_L}      : ∀ (x1 : Int32) (g : gz_S) (r : Int32 × gz_S), fX12_fault_46 La    x1 g = some r → gz_J La 141 mX12_fault 46 [some (.ref 39), some (.int x1)] [] g (gz_Fi r) := by
  intro x1 g r hf
  unfold fX12_fault_46 at hf
  refine sz_iload_n dX12_fault_46 rfl ?_
  refine sz_iconst dX12_fault_47 (cI2) ?_
  refine sz_icmp_ne 55 dX12_fault_48 (by decide) (fun c48 => ?_) (fun c48 => ?_)
  · have hf := gz_in1 c48 hf
    refine sz_aload_n dX12_fault_55 rfl ?_
    refine sz_getI dX12_fault_56 flX12_136 kd39 rfl ?_
    cases hf
    exact sz_iret dX12_fault_59 rfl rfl ⟨rfl, rfl⟩
  · have hf := gz_ip c48 hf
    refine sz_aload_n dX12_fault_51 rfl ?_
    obtain ⟨q52, eq52, hf⟩ := gz_bd hf
    refine sz_callVv [] [] dX12_fault_52 mvX12_292 (Nat.le_of_ble_eq_true rfl) (by decide : 12 < 13) kd39 rfl (Nat.le_of_ble_eq_true rfl) (kX12_readPlan   eq52) ?_
    refine sz_aload_n dX12_fault_55 rfl ?_
    refine sz_getI dX12_fault_56 flX12_136 kd39 rfl ?_
    cases hf
    exact sz_iret dX12_fault_59 rfl rfl ⟨rfl, rfl⟩
def fX12_fault_28 (La : gz_L)    (x1 : Int32) (g : gz_S) : Option (Int32 × gz_S) := if x1 = 1 then (fX12_goThrough La  40 0 (g.1 39 6) g).bind (fun q43 => fX12_fault_46 La     x1 q43) else fX12_fault_46 La     x1 g
set_option maxRecDepth 100000 in
set_option maxHeartbeats 4000000 in
theorem tX12_fault_28 {La : gz_L}      : ∀ (x1 : Int32) (g : gz_S) (r : Int32 × gz_S), fX12_fault_28 La    x1 g = some r → gz_J La 141 mX12_fault 28 [some (.ref 39), some (.int x1)] [] g (gz_Fi r) := by
  intro x1 g r hf
  unfold fX12_fault_28 at hf
  refine sz_iload_n dX12_fault_28 rfl ?_
  refine sz_iconst dX12_fault_29 (cI1) ?_
  refine sz_icmp_ne 46 dX12_fault_30 (by decide) (fun c30 => ?_) (fun c30 => ?_)
  · have hf := gz_in1 c30 hf
    exact tX12_fault_46    _ _ _ hf
  · have hf := gz_ip c30 hf
    refine sz_aload_n dX12_fault_33 rfl ?_
    refine sz_aload_n dX12_fault_34 rfl ?_
    refine sz_getR dX12_fault_35 flX12_9 kd39 rfl rf39_1 ?_
    refine sz_iconst dX12_fault_38 (cI0) ?_
    refine sz_aload_n dX12_fault_39 rfl ?_
    refine sz_getI dX12_fault_40 flX12_117 kd39 rfl ?_
    obtain ⟨q43, eq43, hf⟩ := gz_bd hf
    refine sz_callVv [.ref 40, .int 0, .int (g.1 39 6)] [] dX12_fault_43 mvX12_289 (Nat.le_of_ble_eq_true rfl) (by decide : 12 < 13) kd39 rfl (Nat.le_of_ble_eq_true rfl) (kX12_goThrough  (Or.inl rfl) eq43) ?_
    exact tX12_fault_46    _ _ _ hf
def fX12_fault (La : gz_L)  (x1 : Int32) (g : gz_S) : Option (Int32 × gz_S) :=
  gz_let (gz_wi g 39 0 0) (fun g2 => (fX12_isIn La  (Int32.toInt64 x1) 0 2 g2).bind (fun q11 => if q11.1 = 0 then some ((-2), q11.2) else if x1 = 0 then (fX12_readShore La   q11.2).bind (fun q25 => fX12_fault_28 La     x1 q25) else fX12_fault_28 La     x1 q11.2))
set_option maxRecDepth 100000 in
set_option maxHeartbeats 4000000 in
theorem kX12_fault {La : gz_L}  {x1 : Int32} {g : gz_S} {r : Int32 × gz_S}  (hf : fX12_fault La  x1 g = some r) : gz_K La 141 mX12_fault [.ref 39, .int x1] g (gz_Fi r) := by
  unfold fX12_fault at hf
  refine gz_K.of 0 (by decide +kernel) rfl ?_
  show gz_J La 141 mX12_fault 0 [some (.ref 39), some (.int x1)] [] g (gz_Fi r)
  refine sz_aload_n dX12_fault_0 rfl ?_
  refine sz_iconst dX12_fault_1 (cI0) ?_
  obtain ⟨g2, eg2, hf⟩ := gz_lt hf
  refine sz_putI2 dX12_fault_2 flX12_104 kd39 fi12_0 eg2 ?_
  refine sz_iload_n dX12_fault_5 rfl ?_
  refine sz_i2l dX12_fault_6 ?_
  refine sz_lconst (v := 0) dX12_fault_7 rfl ?_
  refine sz_ldc2 dX12_fault_8 cstlX12_284 ?_
  obtain ⟨q11, eq11, hf⟩ := gz_bd hf
  refine sz_callSi [.long (Int32.toInt64 x1), .long 0, .long 2] [] dX12_fault_11 msX12_225 (Nat.le_of_ble_eq_true rfl) (Nat.le_of_ble_eq_true rfl) (kX12_isIn   eq11) ?_
  refine sz_if_ne 20 dX12_fault_14 (by decide) (fun c14 => ?_) (fun c14 => ?_)
  · have hf := gz_in1 c14 hf
    refine sz_iload_n dX12_fault_20 rfl ?_
    refine sz_if_ne 28 dX12_fault_21 (by decide) (fun c21 => ?_) (fun c21 => ?_)
    · have hf := gz_in1 c21 hf
      exact tX12_fault_28    _ _ _ hf
    · have hf := gz_ip c21 hf
      refine sz_aload_n dX12_fault_24 rfl ?_
      obtain ⟨q25, eq25, hf⟩ := gz_bd hf
      refine sz_callVv [] [] dX12_fault_25 mvX12_286 (Nat.le_of_ble_eq_true rfl) (by decide : 12 < 13) kd39 rfl (Nat.le_of_ble_eq_true rfl) (kX12_readShore   eq25) ?_
      exact tX12_fault_28    _ _ _ hf
  · have hf := gz_ip c14 hf
    refine sz_bipush dX12_fault_17 (cBm2) ?_
    cases hf
    exact sz_iret dX12_fault_19 rfl rfl ⟨rfl, rfl⟩
def fX12_cells (La : gz_L)   (g : gz_S) : Option (Int32 × gz_S) :=
  if (g.1 39 27) = 0 then some (0, g) else some ((g.1 44 0) * (g.1 44 1), g)
set_option maxRecDepth 100000 in
set_option maxHeartbeats 4000000 in
theorem kX12_cells {La : gz_L}   {g : gz_S} {r : Int32 × gz_S}  (hf : fX12_cells La   g = some r) : gz_K La 1 mX12_cells [.ref 39] g (gz_Fi r) := by
  unfold fX12_cells at hf
  refine gz_K.of 0 (by decide +kernel) rfl ?_
  show gz_J La 1 mX12_cells 0 [some (.ref 39)] [] g (gz_Fi r)
  refine sz_aload_n dX12_cells_0 rfl ?_
  refine sz_getI dX12_cells_1 flX12_303 kd39 rfl ?_
  refine sz_if_ne 11 dX12_cells_4 (by decide) (fun c4 => ?_) (fun c4 => ?_)
  · have hf := gz_in1 c4 hf
    refine sz_aload_n dX12_cells_11 rfl ?_
    refine sz_getR dX12_cells_12 flX12_37 kd39 rfl rf39_18 ?_
    refine sz_iconst dX12_cells_15 (cI0) ?_
    refine sz_ialdL dX12_cells_16 kd44 vi0_4 tn0 ?_
    refine sz_aload_n dX12_cells_17 rfl ?_
    refine sz_getR dX12_cells_18 flX12_37 kd39 rfl rf39_18 ?_
    refine sz_iconst dX12_cells_21 (cI1) ?_
    refine sz_ialdL dX12_cells_22 kd44 vi1_4 tn1 ?_
    refine sz_imul dX12_cells_23 ?_
    cases hf
    exact sz_iret dX12_cells_24 rfl rfl ⟨rfl, rfl⟩
  · have hf := gz_ip c4 hf
    refine sz_iconst dX12_cells_7 (cI0) ?_
    refine sz_goto 24 dX12_cells_8 (by decide) ?_
    cases hf
    exact sz_iret dX12_cells_24 rfl rfl ⟨rfl, rfl⟩
def fX12_startOf (La : gz_L)  (x1 : Int32) (g : gz_S) : Option (Int32 × gz_S) :=
  if gz_ok (((4 : Int32) * x1) + 1) 16 then if gz_ok ((4 : Int32) * x1) 16 then some (((g.1 44 0) * (g.1 46 (Int32.toNatClampNeg (((4 : Int32) * x1) + 1)))) + (g.1 46 (Int32.toNatClampNeg ((4 : Int32) * x1))), g) else none else none
set_option maxRecDepth 100000 in
set_option maxHeartbeats 4000000 in
theorem kX12_startOf {La : gz_L}  {x1 : Int32} {g : gz_S} {r : Int32 × gz_S}  (hf : fX12_startOf La  x1 g = some r) : gz_K La 1 mX12_startOf [.ref 39, .int x1] g (gz_Fi r) := by
  unfold fX12_startOf at hf
  refine gz_K.of 0 (by decide +kernel) rfl ?_
  show gz_J La 1 mX12_startOf 0 [some (.ref 39), some (.int x1)] [] g (gz_Fi r)
  refine sz_aload_n dX12_startOf_0 rfl ?_
  refine sz_getR dX12_startOf_1 flX12_37 kd39 rfl rf39_18 ?_
  refine sz_iconst dX12_startOf_4 (cI0) ?_
  refine sz_ialdL dX12_startOf_5 kd44 vi0_4 tn0 ?_
  refine sz_aload_n dX12_startOf_6 rfl ?_
  refine sz_getR dX12_startOf_7 flX12_43 kd39 rfl rf39_20 ?_
  refine sz_iconst dX12_startOf_10 (cI4) ?_
  refine sz_iload_n dX12_startOf_11 rfl ?_
  refine sz_imul dX12_startOf_12 ?_
  refine sz_iconst dX12_startOf_13 (cI1) ?_
  refine sz_iadd dX12_startOf_14 ?_
  obtain ⟨c15, hf⟩ := gz_gd hf
  refine sz_ialdL dX12_startOf_15 kd46 c15 rfl ?_
  refine sz_imul dX12_startOf_16 ?_
  refine sz_aload_n dX12_startOf_17 rfl ?_
  refine sz_getR dX12_startOf_18 flX12_43 kd39 rfl rf39_20 ?_
  refine sz_iconst dX12_startOf_21 (cI4) ?_
  refine sz_iload_n dX12_startOf_22 rfl ?_
  refine sz_imul dX12_startOf_23 ?_
  obtain ⟨c24, hf⟩ := gz_gd hf
  refine sz_ialdL dX12_startOf_24 kd46 c24 rfl ?_
  refine sz_iadd dX12_startOf_25 ?_
  cases hf
  exact sz_iret dX12_startOf_26 rfl rfl ⟨rfl, rfl⟩
def fX12_lays_2 (La : gz_L)  (w1 : Nat) (k19 : gz_S → Option (gz_S)) : Nat → Int32 → gz_S → Option (gz_S)
  | 0, _, _ => none
  | n + 1, x2, g => if 231 ≤ x2 then k19  g else if gz_ok x2 231 then gz_let (gz_wi g w1 (Int32.toNatClampNeg x2) 0) (fun g12 => gz_let (x2 + 1) (fun y13 => fX12_lays_2 La  w1 k19 n y13 g12)) else none
set_option maxRecDepth 100000 in
set_option maxHeartbeats 4000000 in
theorem tX12_lays_2 {La : gz_L}  {w1 : Nat} {k19 : gz_S → Option (gz_S)} (hw1 : w1 = 53 ∨ w1 = 54) (hk19 : ∀  (g : gz_S) (r : gz_S), k19  g = some r → gz_J La 2 mX12_lays 19 [some (.ref 39), some (.ref w1), none] [] g (gz_Fv r)) : ∀ (n : Nat) (x2 : Int32) (g : gz_S) (r : gz_S), fX12_lays_2 La  w1 k19 n x2 g = some r → gz_J La 2 mX12_lays 2 [some (.ref 39), some (.ref w1), some (.int x2)] [] g (gz_Fv r) := by
  intro n
  induction n with
  | zero => intro x2 g r hf; exact nomatch (show (none : Option (gz_S)) = some r from hf)
  | succ n ih =>
    intro x2 g r hf
    unfold fX12_lays_2 at hf
    refine sz_iload_n dX12_lays_2 rfl ?_
    refine sz_sipush dX12_lays_3 (cH231) ?_
    refine sz_icmp_ge 19 dX12_lays_6 (by decide) (fun c6 => ?_) (fun c6 => ?_)
    · have hf := gz_ip c6 hf
      refine sz_weak (l2 := [some (.ref 39), some (.ref w1), none]) (gz_subk (gz_subk (gz_subn gz_sub0))) ?_
      exact hk19  _ _ hf
    · have hf := gz_in1 c6 hf
      refine sz_aload_n dX12_lays_9 rfl ?_
      refine sz_iload_n dX12_lays_10 rfl ?_
      refine sz_iconst dX12_lays_11 (cI0) ?_
      obtain ⟨c12, hf⟩ := gz_gd hf
      obtain ⟨g12, eg12, hf⟩ := gz_lt hf
      refine sz_iastL dX12_lays_12 (kds_nt hw1) c12 rfl eg12 ?_
      obtain ⟨y13, ey13, hf⟩ := gz_lt hf
      refine sz_iinc (v := y13) dX12_lays_13 rfl (by rw [ey13, cI1]) (Nat.le_of_ble_eq_true rfl) rfl ?_
      refine sz_ls (l2 := [some (.ref 39), some (.ref w1), some (.int y13)]) rfl ?_
      refine sz_goto 2 dX12_lays_16 (by decide) ?_
      exact ih _ _ _ hf
def fX12_lays_21 (La : gz_L)  (w1 : Nat) (k63 : gz_S → Option (gz_S)) : Nat → Int32 → gz_S → Option (gz_S)
  | 0, _, _ => none
  | n + 1, x2, g => (fX12_cells La   g).bind (fun q23 => if q23.1 ≤ x2 then k63  q23.2 else if ¬ (q23.2.1 44 0) = 0 then if ¬ (q23.2.1 44 0) = 0 then if gz_ok (((6 : Int32) * (x2 / (q23.2.1 44 0))) + (x2 - x2 / (q23.2.1 44 0) * (q23.2.1 44 0))) 30 then if gz_ok x2 231 then gz_let (gz_wi q23.2 w1 (Int32.toNatClampNeg x2) (q23.2.1 48 (Int32.toNatClampNeg (((6 : Int32) * (x2 / (q23.2.1 44 0))) + (x2 - x2 / (q23.2.1 44 0) * (q23.2.1 44 0)))))) (fun g56 => gz_let (x2 + 1) (fun y57 => fX12_lays_21 La  w1 k63 n y57 g56)) else none else none else none else none)
set_option maxRecDepth 100000 in
set_option maxHeartbeats 4000000 in
theorem tX12_lays_21 {La : gz_L}  {w1 : Nat} {k63 : gz_S → Option (gz_S)} (hw1 : w1 = 53 ∨ w1 = 54) (hk63 : ∀  (g : gz_S) (r : gz_S), k63  g = some r → gz_J La 2 mX12_lays 63 [some (.ref 39), some (.ref w1), none] [] g (gz_Fv r)) : ∀ (n : Nat) (x2 : Int32) (g : gz_S) (r : gz_S), fX12_lays_21 La  w1 k63 n x2 g = some r → gz_J La 2 mX12_lays 21 [some (.ref 39), some (.ref w1), some (.int x2)] [] g (gz_Fv r) := by
  intro n
  induction n with
  | zero => intro x2 g r hf; exact nomatch (show (none : Option (gz_S)) = some r from hf)
  | succ n ih =>
    intro x2 g r hf
    unfold fX12_lays_21 at hf
    refine sz_iload_n dX12_lays_21 rfl ?_
    refine sz_aload_n dX12_lays_22 rfl ?_
    obtain ⟨q23, eq23, hf⟩ := gz_bd hf
    refine sz_callVi [] [.int x2] dX12_lays_23 mvX12_319 (Nat.le_of_ble_eq_true rfl) (by decide : 12 < 13) kd39 rfl (Nat.le_of_ble_eq_true rfl) (kX12_cells   eq23) ?_
    refine sz_icmp_ge 63 dX12_lays_26 (by decide) (fun c26 => ?_) (fun c26 => ?_)
    · have hf := gz_ip c26 hf
      refine sz_weak (l2 := [some (.ref 39), some (.ref w1), none]) (gz_subk (gz_subk (gz_subn gz_sub0))) ?_
      exact hk63  _ _ hf
    · have hf := gz_in1 c26 hf
      refine sz_aload_n dX12_lays_29 rfl ?_
      refine sz_iload_n dX12_lays_30 rfl ?_
      refine sz_aload_n dX12_lays_31 rfl ?_
      refine sz_getR dX12_lays_32 flX12_49 kd39 rfl rf39_22 ?_
      refine sz_bipush dX12_lays_35 (cB6) ?_
      refine sz_iload_n dX12_lays_37 rfl ?_
      refine sz_aload_n dX12_lays_38 rfl ?_
      refine sz_getR dX12_lays_39 flX12_37 kd39 rfl rf39_18 ?_
      refine sz_iconst dX12_lays_42 (cI0) ?_
      refine sz_ialdL dX12_lays_43 kd44 vi0_4 tn0 ?_
      obtain ⟨c44, hf⟩ := gz_gd hf
      refine sz_idiv dX12_lays_44 c44 ?_
      refine sz_imul dX12_lays_45 ?_
      refine sz_iload_n dX12_lays_46 rfl ?_
      refine sz_aload_n dX12_lays_47 rfl ?_
      refine sz_getR dX12_lays_48 flX12_37 kd39 rfl rf39_18 ?_
      refine sz_iconst dX12_lays_51 (cI0) ?_
      refine sz_ialdL dX12_lays_52 kd44 vi0_4 tn0 ?_
      obtain ⟨c53, hf⟩ := gz_gd hf
      refine sz_irem dX12_lays_53 c53 ?_
      refine sz_iadd dX12_lays_54 ?_
      obtain ⟨c55, hf⟩ := gz_gd hf
      refine sz_ialdL dX12_lays_55 kd48 c55 rfl ?_
      obtain ⟨c56, hf⟩ := gz_gd hf
      obtain ⟨g56, eg56, hf⟩ := gz_lt hf
      refine sz_iastL dX12_lays_56 (kds_nt hw1) c56 rfl eg56 ?_
      obtain ⟨y57, ey57, hf⟩ := gz_lt hf
      refine sz_iinc (v := y57) dX12_lays_57 rfl (by rw [ey57, cI1]) (Nat.le_of_ble_eq_true rfl) rfl ?_
      refine sz_ls (l2 := [some (.ref 39), some (.ref w1), some (.int y57)]) rfl ?_
      refine sz_goto 21 dX12_lays_60 (by decide) ?_
      exact ih _ _ _ hf
def fX12_lays_65 (La : gz_L)  (w1 : Nat) (k114 : gz_S → Option (gz_S)) : Nat → Int32 → gz_S → Option (gz_S)
  | 0, _, _ => none
  | n + 1, x2, g => if (g.1 39 27) ≤ x2 then k114  g else (fX12_startOf La  x2 g).bind (fun q84 => if gz_ok (((30 : Int32) + ((4 : Int32) * x2)) + 0) 231 then gz_let (gz_wi q84.2 w1 (Int32.toNatClampNeg (((30 : Int32) + ((4 : Int32) * x2)) + 0)) q84.1) (fun g87 => if gz_ok (((4 : Int32) * x2) + 2) 16 then if gz_ok (((30 : Int32) + ((4 : Int32) * x2)) + 1) 231 then gz_let (gz_wi g87 w1 (Int32.toNatClampNeg (((30 : Int32) + ((4 : Int32) * x2)) + 1)) (g87.1 46 (Int32.toNatClampNeg (((4 : Int32) * x2) + 2)))) (fun g107 => gz_let (x2 + 1) (fun y108 => fX12_lays_65 La  w1 k114 n y108 g107)) else none else none) else none)
set_option maxRecDepth 100000 in
set_option maxHeartbeats 4000000 in
theorem tX12_lays_65 {La : gz_L}  {w1 : Nat} {k114 : gz_S → Option (gz_S)} (hw1 : w1 = 53 ∨ w1 = 54) (hk114 : ∀  (g : gz_S) (r : gz_S), k114  g = some r → gz_J La 2 mX12_lays 114 [some (.ref 39), some (.ref w1), none] [] g (gz_Fv r)) : ∀ (n : Nat) (x2 : Int32) (g : gz_S) (r : gz_S), fX12_lays_65 La  w1 k114 n x2 g = some r → gz_J La 2 mX12_lays 65 [some (.ref 39), some (.ref w1), some (.int x2)] [] g (gz_Fv r) := by
  intro n
  induction n with
  | zero => intro x2 g r hf; exact nomatch (show (none : Option (gz_S)) = some r from hf)
  | succ n ih =>
    intro x2 g r hf
    unfold fX12_lays_65 at hf
    refine sz_iload_n dX12_lays_65 rfl ?_
    refine sz_aload_n dX12_lays_66 rfl ?_
    refine sz_getI dX12_lays_67 flX12_303 kd39 rfl ?_
    refine sz_icmp_ge 114 dX12_lays_70 (by decide) (fun c70 => ?_) (fun c70 => ?_)
    · have hf := gz_ip c70 hf
      refine sz_weak (l2 := [some (.ref 39), some (.ref w1), none]) (gz_subk (gz_subk (gz_subn gz_sub0))) ?_
      exact hk114  _ _ hf
    · have hf := gz_in1 c70 hf
      refine sz_aload_n dX12_lays_73 rfl ?_
      refine sz_bipush dX12_lays_74 (cB30) ?_
      refine sz_iconst dX12_lays_76 (cI4) ?_
      refine sz_iload_n dX12_lays_77 rfl ?_
      refine sz_imul dX12_lays_78 ?_
      refine sz_iadd dX12_lays_79 ?_
      refine sz_iconst dX12_lays_80 (cI0) ?_
      refine sz_iadd dX12_lays_81 ?_
      refine sz_aload_n dX12_lays_82 rfl ?_
      refine sz_iload_n dX12_lays_83 rfl ?_
      obtain ⟨q84, eq84, hf⟩ := gz_bd hf
      refine sz_callVi [.int x2] [.int (((30 : Int32) + ((4 : Int32) * x2)) + 0), .ref w1] dX12_lays_84 mvX12_322 (Nat.le_of_ble_eq_true rfl) (by decide : 12 < 13) kd39 rfl (Nat.le_of_ble_eq_true rfl) (kX12_startOf   eq84) ?_
      obtain ⟨c87, hf⟩ := gz_gd hf
      obtain ⟨g87, eg87, hf⟩ := gz_lt hf
      refine sz_iastL dX12_lays_87 (kds_nt hw1) c87 rfl eg87 ?_
      refine sz_aload_n dX12_lays_88 rfl ?_
      refine sz_bipush dX12_lays_89 (cB30) ?_
      refine sz_iconst dX12_lays_91 (cI4) ?_
      refine sz_iload_n dX12_lays_92 rfl ?_
      refine sz_imul dX12_lays_93 ?_
      refine sz_iadd dX12_lays_94 ?_
      refine sz_iconst dX12_lays_95 (cI1) ?_
      refine sz_iadd dX12_lays_96 ?_
      refine sz_aload_n dX12_lays_97 rfl ?_
      refine sz_getR dX12_lays_98 flX12_43 kd39 rfl rf39_20 ?_
      refine sz_iconst dX12_lays_101 (cI4) ?_
      refine sz_iload_n dX12_lays_102 rfl ?_
      refine sz_imul dX12_lays_103 ?_
      refine sz_iconst dX12_lays_104 (cI2) ?_
      refine sz_iadd dX12_lays_105 ?_
      obtain ⟨c106, hf⟩ := gz_gd hf
      refine sz_ialdL dX12_lays_106 kd46 c106 rfl ?_
      obtain ⟨c107, hf⟩ := gz_gd hf
      obtain ⟨g107, eg107, hf⟩ := gz_lt hf
      refine sz_iastL dX12_lays_107 (kds_nt hw1) c107 rfl eg107 ?_
      obtain ⟨y108, ey108, hf⟩ := gz_lt hf
      refine sz_iinc (v := y108) dX12_lays_108 rfl (by rw [ey108, cI1]) (Nat.le_of_ble_eq_true rfl) rfl ?_
      refine sz_ls (l2 := [some (.ref 39), some (.ref w1), some (.int y108)]) rfl ?_
      refine sz_goto 65 dX12_lays_111 (by decide) ?_
      exact ih _ _ _ hf
def fX12_lays (La : gz_L)  (w1 : Nat) (g : gz_S) : Option (gz_S) :=
  fX12_lays_2 La  w1 (fun  g => fX12_lays_21 La  w1 (fun  g => fX12_lays_65 La  w1 (fun  g => gz_let (gz_wi g w1 46 (g.1 44 2)) (fun g123 => gz_let (gz_wi g123 w1 48 (g123.1 44 3)) (fun g133 => some g133))) gz_FU 0 g) gz_FU 0 g) gz_FU 0 g
set_option maxRecDepth 100000 in
set_option maxHeartbeats 4000000 in
theorem kX12_lays {La : gz_L}  {w1 : Nat} {g : gz_S} {r : gz_S} (hw1 : w1 = 53 ∨ w1 = 54) (hf : fX12_lays La  w1 g = some r) : gz_K La 2 mX12_lays [.ref 39, .ref w1] g (gz_Fv r) := by
  unfold fX12_lays at hf
  refine gz_K.of 1 (by decide +kernel) rfl ?_
  show gz_J La 2 mX12_lays 0 [some (.ref 39), some (.ref w1), none] [] g (gz_Fv r)
  refine sz_iconst dX12_lays_0 (cI0) ?_
  refine sz_istore_n dX12_lays_1 rfl (Nat.le_of_ble_eq_true rfl) rfl ?_
  refine sz_ls (l2 := [some (.ref 39), some (.ref w1), some (.int 0)]) rfl ?_
  have hk19 : ∀  (g : gz_S) (r : gz_S), (fun  g => fX12_lays_21 La  w1 (fun  g => fX12_lays_65 La  w1 (fun  g => gz_let (gz_wi g w1 46 (g.1 44 2)) (fun g123 => gz_let (gz_wi g123 w1 48 (g123.1 44 3)) (fun g133 => some g133))) gz_FU 0 g) gz_FU 0 g)  g = some r → gz_J La 2 mX12_lays 19 [some (.ref 39), some (.ref w1), none] [] g (gz_Fv r) := by
    intro  g r hf
    refine sz_iconst dX12_lays_19 (cI0) ?_
    refine sz_istore_n dX12_lays_20 rfl (Nat.le_of_ble_eq_true rfl) rfl ?_
    refine sz_ls (l2 := [some (.ref 39), some (.ref w1), some (.int 0)]) rfl ?_
    have hk63 : ∀  (g : gz_S) (r : gz_S), (fun  g => fX12_lays_65 La  w1 (fun  g => gz_let (gz_wi g w1 46 (g.1 44 2)) (fun g123 => gz_let (gz_wi g123 w1 48 (g123.1 44 3)) (fun g133 => some g133))) gz_FU 0 g)  g = some r → gz_J La 2 mX12_lays 63 [some (.ref 39), some (.ref w1), none] [] g (gz_Fv r) := by
      intro  g r hf
      refine sz_iconst dX12_lays_63 (cI0) ?_
      refine sz_istore_n dX12_lays_64 rfl (Nat.le_of_ble_eq_true rfl) rfl ?_
      refine sz_ls (l2 := [some (.ref 39), some (.ref w1), some (.int 0)]) rfl ?_
      have hk114 : ∀  (g : gz_S) (r : gz_S), (fun  g => gz_let (gz_wi g w1 46 (g.1 44 2)) (fun g123 => gz_let (gz_wi g123 w1 48 (g123.1 44 3)) (fun g133 => some g133)))  g = some r → gz_J La 2 mX12_lays 114 [some (.ref 39), some (.ref w1), none] [] g (gz_Fv r) := by
        intro  g r hf
        refine sz_aload_n dX12_lays_114 rfl ?_
        refine sz_bipush dX12_lays_115 (cB46) ?_
        refine sz_aload_n dX12_lays_117 rfl ?_
        refine sz_getR dX12_lays_118 flX12_37 kd39 rfl rf39_18 ?_
        refine sz_iconst dX12_lays_121 (cI2) ?_
        refine sz_ialdL dX12_lays_122 kd44 vi2_4 tn2 ?_
        obtain ⟨g123, eg123, hf⟩ := gz_lt hf
        refine sz_iastL dX12_lays_123 (kds_nt hw1) vi46_231 tn46 eg123 ?_
        refine sz_aload_n dX12_lays_124 rfl ?_
        refine sz_bipush dX12_lays_125 (cB48) ?_
        refine sz_aload_n dX12_lays_127 rfl ?_
        refine sz_getR dX12_lays_128 flX12_37 kd39 rfl rf39_18 ?_
        refine sz_iconst dX12_lays_131 (cI3) ?_
        refine sz_ialdL dX12_lays_132 kd44 vi3_4 tn3 ?_
        obtain ⟨g133, eg133, hf⟩ := gz_lt hf
        refine sz_iastL dX12_lays_133 (kds_nt hw1) vi48_231 tn48 eg133 ?_
        cases hf
        exact sz_ret dX12_lays_134 rfl ⟨rfl, rfl⟩
      exact tX12_lays_65  hw1 hk114 _ _ _ _ hf
    exact tX12_lays_21  hw1 hk63 _ _ _ _ hf
  exact tX12_lays_2  hw1 hk19 _ _ _ _ hf
def fX12_text_215 (La : gz_L)   (k238 : gz_S → Option (Int32 × gz_S)) : Nat → Int32 → gz_S → Option (Int32 × gz_S)
  | 0, _, _ => none
  | n + 1, x3, g => if 4 ≤ x3 then k238  g else if gz_ok x3 4 then if gz_ok x3 4 then gz_let (gz_wi g 44 (Int32.toNatClampNeg x3) (g.1 45 (Int32.toNatClampNeg x3))) (fun g231 => gz_let (x3 + 1) (fun y232 => fX12_text_215 La   k238 n y232 g231)) else none else none
set_option maxRecDepth 100000 in
set_option maxHeartbeats 4000000 in
theorem tX12_text_215 {La : gz_L}   {k238 : gz_S → Option (Int32 × gz_S)}  (hk238 : ∀  (g : gz_S) (r : Int32 × gz_S), k238  g = some r → gz_J La 142 mX12_text 238 [some (.ref 39), none, none, none] [] g (gz_Fi r)) : ∀ (n : Nat) (x3 : Int32) (g : gz_S) (r : Int32 × gz_S), fX12_text_215 La   k238 n x3 g = some r → gz_J La 142 mX12_text 215 [some (.ref 39), none, none, some (.int x3)] [] g (gz_Fi r) := by
  intro n
  induction n with
  | zero => intro x3 g r hf; exact nomatch (show (none : Option (Int32 × gz_S)) = some r from hf)
  | succ n ih =>
    intro x3 g r hf
    unfold fX12_text_215 at hf
    refine sz_iload_n dX12_text_215 rfl ?_
    refine sz_iconst dX12_text_216 (cI4) ?_
    refine sz_icmp_ge 238 dX12_text_217 (by decide) (fun c217 => ?_) (fun c217 => ?_)
    · have hf := gz_ip c217 hf
      refine sz_weak (l2 := [some (.ref 39), none, none, none]) (gz_subk (gz_subk (gz_subk (gz_subn gz_sub0)))) ?_
      exact hk238  _ _ hf
    · have hf := gz_in1 c217 hf
      refine sz_aload_n dX12_text_220 rfl ?_
      refine sz_getR dX12_text_221 flX12_37 kd39 rfl rf39_18 ?_
      refine sz_iload_n dX12_text_224 rfl ?_
      refine sz_aload_n dX12_text_225 rfl ?_
      refine sz_getR dX12_text_226 flX12_40 kd39 rfl rf39_19 ?_
      refine sz_iload_n dX12_text_229 rfl ?_
      obtain ⟨c230, hf⟩ := gz_gd hf
      refine sz_ialdL dX12_text_230 kd45 c230 rfl ?_
      obtain ⟨c231, hf⟩ := gz_gd hf
      obtain ⟨g231, eg231, hf⟩ := gz_lt hf
      refine sz_iastL dX12_text_231 kd44 c231 rfl eg231 ?_
      obtain ⟨y232, ey232, hf⟩ := gz_lt hf
      refine sz_iinc (v := y232) dX12_text_232 rfl (by rw [ey232, cI1]) (Nat.le_of_ble_eq_true rfl) rfl ?_
      refine sz_ls (l2 := [some (.ref 39), none, none, some (.int y232)]) rfl ?_
      refine sz_goto 215 dX12_text_235 (by decide) ?_
      exact ih _ _ _ hf
def fX12_text_240 (La : gz_L)   (k264 : gz_S → Option (Int32 × gz_S)) : Nat → Int32 → gz_S → Option (Int32 × gz_S)
  | 0, _, _ => none
  | n + 1, x3, g => if 16 ≤ x3 then k264  g else if gz_ok x3 16 then if gz_ok x3 16 then gz_let (gz_wi g 46 (Int32.toNatClampNeg x3) (g.1 47 (Int32.toNatClampNeg x3))) (fun g257 => gz_let (x3 + 1) (fun y258 => fX12_text_240 La   k264 n y258 g257)) else none else none
set_option maxRecDepth 100000 in
set_option maxHeartbeats 4000000 in
theorem tX12_text_240 {La : gz_L}   {k264 : gz_S → Option (Int32 × gz_S)}  (hk264 : ∀  (g : gz_S) (r : Int32 × gz_S), k264  g = some r → gz_J La 142 mX12_text 264 [some (.ref 39), none, none, none] [] g (gz_Fi r)) : ∀ (n : Nat) (x3 : Int32) (g : gz_S) (r : Int32 × gz_S), fX12_text_240 La   k264 n x3 g = some r → gz_J La 142 mX12_text 240 [some (.ref 39), none, none, some (.int x3)] [] g (gz_Fi r) := by
  intro n
  induction n with
  | zero => intro x3 g r hf; exact nomatch (show (none : Option (Int32 × gz_S)) = some r from hf)
  | succ n ih =>
    intro x3 g r hf
    unfold fX12_text_240 at hf
    refine sz_iload_n dX12_text_240 rfl ?_
    refine sz_bipush dX12_text_241 (cB16) ?_
    refine sz_icmp_ge 264 dX12_text_243 (by decide) (fun c243 => ?_) (fun c243 => ?_)
    · have hf := gz_ip c243 hf
      refine sz_weak (l2 := [some (.ref 39), none, none, none]) (gz_subk (gz_subk (gz_subk (gz_subn gz_sub0)))) ?_
      exact hk264  _ _ hf
    · have hf := gz_in1 c243 hf
      refine sz_aload_n dX12_text_246 rfl ?_
      refine sz_getR dX12_text_247 flX12_43 kd39 rfl rf39_20 ?_
      refine sz_iload_n dX12_text_250 rfl ?_
      refine sz_aload_n dX12_text_251 rfl ?_
      refine sz_getR dX12_text_252 flX12_46 kd39 rfl rf39_21 ?_
      refine sz_iload_n dX12_text_255 rfl ?_
      obtain ⟨c256, hf⟩ := gz_gd hf
      refine sz_ialdL dX12_text_256 kd47 c256 rfl ?_
      obtain ⟨c257, hf⟩ := gz_gd hf
      obtain ⟨g257, eg257, hf⟩ := gz_lt hf
      refine sz_iastL dX12_text_257 kd46 c257 rfl eg257 ?_
      obtain ⟨y258, ey258, hf⟩ := gz_lt hf
      refine sz_iinc (v := y258) dX12_text_258 rfl (by rw [ey258, cI1]) (Nat.le_of_ble_eq_true rfl) rfl ?_
      refine sz_ls (l2 := [some (.ref 39), none, none, some (.int y258)]) rfl ?_
      refine sz_goto 240 dX12_text_261 (by decide) ?_
      exact ih _ _ _ hf
def fX12_text_266 (La : gz_L)   (k290 : gz_S → Option (Int32 × gz_S)) : Nat → Int32 → gz_S → Option (Int32 × gz_S)
  | 0, _, _ => none
  | n + 1, x3, g => if 30 ≤ x3 then k290  g else if gz_ok x3 30 then if gz_ok x3 30 then gz_let (gz_wi g 48 (Int32.toNatClampNeg x3) (g.1 49 (Int32.toNatClampNeg x3))) (fun g283 => gz_let (x3 + 1) (fun y284 => fX12_text_266 La   k290 n y284 g283)) else none else none
set_option maxRecDepth 100000 in
set_option maxHeartbeats 4000000 in
theorem tX12_text_266 {La : gz_L}   {k290 : gz_S → Option (Int32 × gz_S)}  (hk290 : ∀  (g : gz_S) (r : Int32 × gz_S), k290  g = some r → gz_J La 142 mX12_text 290 [some (.ref 39), none, none, none] [] g (gz_Fi r)) : ∀ (n : Nat) (x3 : Int32) (g : gz_S) (r : Int32 × gz_S), fX12_text_266 La   k290 n x3 g = some r → gz_J La 142 mX12_text 266 [some (.ref 39), none, none, some (.int x3)] [] g (gz_Fi r) := by
  intro n
  induction n with
  | zero => intro x3 g r hf; exact nomatch (show (none : Option (Int32 × gz_S)) = some r from hf)
  | succ n ih =>
    intro x3 g r hf
    unfold fX12_text_266 at hf
    refine sz_iload_n dX12_text_266 rfl ?_
    refine sz_bipush dX12_text_267 (cB30) ?_
    refine sz_icmp_ge 290 dX12_text_269 (by decide) (fun c269 => ?_) (fun c269 => ?_)
    · have hf := gz_ip c269 hf
      refine sz_weak (l2 := [some (.ref 39), none, none, none]) (gz_subk (gz_subk (gz_subk (gz_subn gz_sub0)))) ?_
      exact hk290  _ _ hf
    · have hf := gz_in1 c269 hf
      refine sz_aload_n dX12_text_272 rfl ?_
      refine sz_getR dX12_text_273 flX12_49 kd39 rfl rf39_22 ?_
      refine sz_iload_n dX12_text_276 rfl ?_
      refine sz_aload_n dX12_text_277 rfl ?_
      refine sz_getR dX12_text_278 flX12_52 kd39 rfl rf39_23 ?_
      refine sz_iload_n dX12_text_281 rfl ?_
      obtain ⟨c282, hf⟩ := gz_gd hf
      refine sz_ialdL dX12_text_282 kd49 c282 rfl ?_
      obtain ⟨c283, hf⟩ := gz_gd hf
      obtain ⟨g283, eg283, hf⟩ := gz_lt hf
      refine sz_iastL dX12_text_283 kd48 c283 rfl eg283 ?_
      obtain ⟨y284, ey284, hf⟩ := gz_lt hf
      refine sz_iinc (v := y284) dX12_text_284 rfl (by rw [ey284, cI1]) (Nat.le_of_ble_eq_true rfl) rfl ?_
      refine sz_ls (l2 := [some (.ref 39), none, none, some (.int y284)]) rfl ?_
      refine sz_goto 266 dX12_text_287 (by decide) ?_
      exact ih _ _ _ hf
def fX12_text_137 (La : gz_L)   (k173 : gz_S → Option (Int32 × gz_S)) : Nat → Int32 → gz_S → Option (Int32 × gz_S)
  | 0, _, _ => none
  | n + 1, x3, g => if 48 ≤ x3 then k173  g else if gz_ok ((192 : Int32) + x3) 240 then if gz_ok (((48 : Int32) * (g.1 39 30)) + x3) 240 then gz_let (gz_wi g 51 (Int32.toNatClampNeg (((48 : Int32) * (g.1 39 30)) + x3)) (g.1 51 (Int32.toNatClampNeg ((192 : Int32) + x3)))) (fun g166 => gz_let (x3 + 1) (fun y167 => fX12_text_137 La   k173 n y167 g166)) else none else none
set_option maxRecDepth 100000 in
set_option maxHeartbeats 4000000 in
theorem tX12_text_137 {La : gz_L}   {k173 : gz_S → Option (Int32 × gz_S)}  (hk173 : ∀  (g : gz_S) (r : Int32 × gz_S), k173  g = some r → gz_J La 142 mX12_text 173 [some (.ref 39), none, none, none] [] g (gz_Fi r)) : ∀ (n : Nat) (x3 : Int32) (g : gz_S) (r : Int32 × gz_S), fX12_text_137 La   k173 n x3 g = some r → gz_J La 142 mX12_text 137 [some (.ref 39), none, none, some (.int x3)] [] g (gz_Fi r) := by
  intro n
  induction n with
  | zero => intro x3 g r hf; exact nomatch (show (none : Option (Int32 × gz_S)) = some r from hf)
  | succ n ih =>
    intro x3 g r hf
    unfold fX12_text_137 at hf
    refine sz_iload_n dX12_text_137 rfl ?_
    refine sz_bipush dX12_text_138 (cB48) ?_
    refine sz_icmp_ge 173 dX12_text_140 (by decide) (fun c140 => ?_) (fun c140 => ?_)
    · have hf := gz_ip c140 hf
      refine sz_weak (l2 := [some (.ref 39), none, none, none]) (gz_subk (gz_subk (gz_subk (gz_subn gz_sub0)))) ?_
      exact hk173  _ _ hf
    · have hf := gz_in1 c140 hf
      refine sz_aload_n dX12_text_143 rfl ?_
      refine sz_getR dX12_text_144 flX12_58 kd39 rfl rf39_25 ?_
      refine sz_bipush dX12_text_147 (cB48) ?_
      refine sz_aload_n dX12_text_149 rfl ?_
      refine sz_getI dX12_text_150 flX12_298 kd39 rfl ?_
      refine sz_imul dX12_text_153 ?_
      refine sz_iload_n dX12_text_154 rfl ?_
      refine sz_iadd dX12_text_155 ?_
      refine sz_aload_n dX12_text_156 rfl ?_
      refine sz_getR dX12_text_157 flX12_58 kd39 rfl rf39_25 ?_
      refine sz_sipush dX12_text_160 (cH192) ?_
      refine sz_iload_n dX12_text_163 rfl ?_
      refine sz_iadd dX12_text_164 ?_
      obtain ⟨c165, hf⟩ := gz_gd hf
      refine sz_ialdL dX12_text_165 kd51 c165 rfl ?_
      obtain ⟨c166, hf⟩ := gz_gd hf
      obtain ⟨g166, eg166, hf⟩ := gz_lt hf
      refine sz_iastL dX12_text_166 kd51 c166 rfl eg166 ?_
      obtain ⟨y167, ey167, hf⟩ := gz_lt hf
      refine sz_iinc (v := y167) dX12_text_167 rfl (by rw [ey167, cI1]) (Nat.le_of_ble_eq_true rfl) rfl ?_
      refine sz_ls (l2 := [some (.ref 39), none, none, some (.int y167)]) rfl ?_
      refine sz_goto 137 dX12_text_170 (by decide) ?_
      exact ih _ _ _ hf
def fX12_text_71 (La : gz_L)   (k103 : Int32 → gz_S → Option (Int32 × gz_S)) : Nat → Int32 → Int32 → gz_S → Option (Int32 × gz_S)
  | 0, _, _, _ => none
  | n + 1, x2, x3, g => if x2 ≤ x3 then k103 x2 g else if gz_ok x3 240 then if gz_ok (((240 : Int32) * (g.1 39 7)) + x3) 960 then gz_let (gz_wi g 41 (Int32.toNatClampNeg (((240 : Int32) * (g.1 39 7)) + x3)) (vp_nar .byte (g.1 40 (Int32.toNatClampNeg x3)))) (fun g96 => gz_let (x3 + 1) (fun y97 => fX12_text_71 La   k103 n x2 y97 g96)) else none else none
set_option maxRecDepth 100000 in
set_option maxHeartbeats 4000000 in
theorem tX12_text_71 {La : gz_L}   {k103 : Int32 → gz_S → Option (Int32 × gz_S)}  (hk103 : ∀ (x2 : Int32) (g : gz_S) (r : Int32 × gz_S), k103 x2 g = some r → gz_J La 142 mX12_text 103 [some (.ref 39), none, some (.int x2), none] [] g (gz_Fi r)) : ∀ (n : Nat) (x2 : Int32) (x3 : Int32) (g : gz_S) (r : Int32 × gz_S), fX12_text_71 La   k103 n x2 x3 g = some r → gz_J La 142 mX12_text 71 [some (.ref 39), none, some (.int x2), some (.int x3)] [] g (gz_Fi r) := by
  intro n
  induction n with
  | zero => intro x2 x3 g r hf; exact nomatch (show (none : Option (Int32 × gz_S)) = some r from hf)
  | succ n ih =>
    intro x2 x3 g r hf
    unfold fX12_text_71 at hf
    refine sz_iload_n dX12_text_71 rfl ?_
    refine sz_iload_n dX12_text_72 rfl ?_
    refine sz_icmp_ge 103 dX12_text_73 (by decide) (fun c73 => ?_) (fun c73 => ?_)
    · have hf := gz_ip c73 hf
      refine sz_weak (l2 := [some (.ref 39), none, some (.int x2), none]) (gz_subk (gz_subk (gz_subk (gz_subn gz_sub0)))) ?_
      exact hk103 _ _ _ hf
    · have hf := gz_in1 c73 hf
      refine sz_aload_n dX12_text_76 rfl ?_
      refine sz_getR dX12_text_77 flX12_13 kd39 rfl rf39_2 ?_
      refine sz_sipush dX12_text_80 (cH240) ?_
      refine sz_aload_n dX12_text_83 rfl ?_
      refine sz_getI dX12_text_84 flX12_295 kd39 rfl ?_
      refine sz_imul dX12_text_87 ?_
      refine sz_iload_n dX12_text_88 rfl ?_
      refine sz_iadd dX12_text_89 ?_
      refine sz_aload_n dX12_text_90 rfl ?_
      refine sz_getR dX12_text_91 flX12_9 kd39 rfl rf39_1 ?_
      refine sz_iload_n dX12_text_94 rfl ?_
      obtain ⟨c95, hf⟩ := gz_gd hf
      refine sz_baldL dX12_text_95 kd40 c95 rfl ?_
      obtain ⟨c96, hf⟩ := gz_gd hf
      obtain ⟨g96, eg96, hf⟩ := gz_lt hf
      refine sz_bastL dX12_text_96 kd41 c96 rfl eg96 ?_
      obtain ⟨y97, ey97, hf⟩ := gz_lt hf
      refine sz_iinc (v := y97) dX12_text_97 rfl (by rw [ey97, cI1]) (Nat.le_of_ble_eq_true rfl) rfl ?_
      refine sz_ls (l2 := [some (.ref 39), none, some (.int x2), some (.int y97)]) rfl ?_
      refine sz_goto 71 dX12_text_100 (by decide) ?_
      exact ih _ _ _ _ hf
def fX12_text_43 (La : gz_L)    (x1 : Int32) (g : gz_S) : Option (Int32 × gz_S) := (fX12_fault La  x1 g).bind (fun q45 => if q45.1 = (-1) then gz_let (q45.2.1 39 6) (fun y58 => gz_let (gz_wi q45.2 39 6 0) (fun g61 => if x1 = 1 then fX12_text_71 La   (fun (x2 : Int32) g => if gz_ok (g.1 39 7) 4 then gz_let (gz_wi g 42 (Int32.toNatClampNeg (g.1 39 7)) x2) (fun g112 => gz_let (gz_wi g112 39 7 ((g112.1 39 7) + 1)) (fun g120 => some ((g120.1 39 7) - 1, g120))) else none) gz_FU y58 0 g61 else if x1 = 2 then fX12_text_137 La   (fun  g => if gz_ok (g.1 39 30) 5 then gz_let (gz_wi g 52 (Int32.toNatClampNeg (g.1 39 30)) (g.1 52 4)) (fun g187 => gz_let (gz_wi g187 39 30 ((g187.1 39 30) + 1)) (fun g195 => some ((g195.1 39 30) - 1, g195))) else none) gz_FU 0 g61 else gz_let (gz_wi g61 39 27 (g61.1 39 28)) (fun g210 => fX12_text_215 La   (fun  g => fX12_text_240 La   (fun  g => fX12_text_266 La   (fun  g => (fX12_lays La  53 g).bind (fun q295 => gz_let (gz_wi q295 39 47 0) (fun g300 => gz_let (gz_wi g300 39 41 0) (fun g305 => gz_let (gz_wi g305 39 50 0) (fun g310 => (fX12_cells La   g310).bind (fun q314 => some (q314.1, q314.2))))))) gz_FU 0 g) gz_FU 0 g) gz_FU 0 g210))) else some ((-1), q45.2))
set_option maxRecDepth 100000 in
set_option maxHeartbeats 4000000 in
theorem tX12_text_43 {La : gz_L}      : ∀ (x1 : Int32) (g : gz_S) (r : Int32 × gz_S), fX12_text_43 La    x1 g = some r → gz_J La 142 mX12_text 43 [some (.ref 39), some (.int x1), none, none] [] g (gz_Fi r) := by
  intro x1 g r hf
  unfold fX12_text_43 at hf
  refine sz_aload_n dX12_text_43 rfl ?_
  refine sz_iload_n dX12_text_44 rfl ?_
  obtain ⟨q45, eq45, hf⟩ := gz_bd hf
  refine sz_callVi [.int x1] [] dX12_text_45 mvX12_301 (Nat.le_of_ble_eq_true rfl) (by decide : 12 < 13) kd39 rfl (Nat.le_of_ble_eq_true rfl) (kX12_fault   eq45) ?_
  refine sz_iconst dX12_text_48 (cIm1) ?_
  refine sz_icmp_eq 54 dX12_text_49 (by decide) (fun c49 => ?_) (fun c49 => ?_)
  · have hf := gz_ip c49 hf
    refine sz_aload_n dX12_text_54 rfl ?_
    refine sz_getI dX12_text_55 flX12_117 kd39 rfl ?_
    obtain ⟨y58, ey58, hf⟩ := gz_lt hf
    refine sz_topi ey58 ?_
    refine sz_istore_n dX12_text_58 rfl (Nat.le_of_ble_eq_true rfl) rfl ?_
    refine sz_ls (l2 := [some (.ref 39), some (.int x1), some (.int y58), none]) rfl ?_
    refine sz_aload_n dX12_text_59 rfl ?_
    refine sz_iconst dX12_text_60 (cI0) ?_
    obtain ⟨g61, eg61, hf⟩ := gz_lt hf
    refine sz_putI2 dX12_text_61 flX12_117 kd39 fi12_6 eg61 ?_
    refine sz_iload_n dX12_text_64 rfl ?_
    refine sz_iconst dX12_text_65 (cI1) ?_
    refine sz_icmp_ne 130 dX12_text_66 (by decide) (fun c66 => ?_) (fun c66 => ?_)
    · have hf := gz_in1 c66 hf
      refine sz_iload_n dX12_text_130 rfl ?_
      refine sz_iconst dX12_text_131 (cI2) ?_
      refine sz_icmp_ne 205 dX12_text_132 (by decide) (fun c132 => ?_) (fun c132 => ?_)
      · have hf := gz_in1 c132 hf
        refine sz_aload_n dX12_text_205 rfl ?_
        refine sz_aload_n dX12_text_206 rfl ?_
        refine sz_getI dX12_text_207 flX12_256 kd39 rfl ?_
        obtain ⟨g210, eg210, hf⟩ := gz_lt hf
        refine sz_putI2 dX12_text_210 flX12_303 kd39 fi12_27 eg210 ?_
        refine sz_iconst dX12_text_213 (cI0) ?_
        refine sz_istore_n dX12_text_214 rfl (Nat.le_of_ble_eq_true rfl) rfl ?_
        refine sz_ls (l2 := [some (.ref 39), some (.int x1), some (.int y58), some (.int 0)]) rfl ?_
        have hk238 : ∀  (g : gz_S) (r : Int32 × gz_S), (fun  g => fX12_text_240 La   (fun  g => fX12_text_266 La   (fun  g => (fX12_lays La  53 g).bind (fun q295 => gz_let (gz_wi q295 39 47 0) (fun g300 => gz_let (gz_wi g300 39 41 0) (fun g305 => gz_let (gz_wi g305 39 50 0) (fun g310 => (fX12_cells La   g310).bind (fun q314 => some (q314.1, q314.2))))))) gz_FU 0 g) gz_FU 0 g)  g = some r → gz_J La 142 mX12_text 238 [some (.ref 39), none, none, none] [] g (gz_Fi r) := by
          intro  g r hf
          refine sz_iconst dX12_text_238 (cI0) ?_
          refine sz_istore_n dX12_text_239 rfl (Nat.le_of_ble_eq_true rfl) rfl ?_
          refine sz_ls (l2 := [some (.ref 39), none, none, some (.int 0)]) rfl ?_
          have hk264 : ∀  (g : gz_S) (r : Int32 × gz_S), (fun  g => fX12_text_266 La   (fun  g => (fX12_lays La  53 g).bind (fun q295 => gz_let (gz_wi q295 39 47 0) (fun g300 => gz_let (gz_wi g300 39 41 0) (fun g305 => gz_let (gz_wi g305 39 50 0) (fun g310 => (fX12_cells La   g310).bind (fun q314 => some (q314.1, q314.2))))))) gz_FU 0 g)  g = some r → gz_J La 142 mX12_text 264 [some (.ref 39), none, none, none] [] g (gz_Fi r) := by
            intro  g r hf
            refine sz_iconst dX12_text_264 (cI0) ?_
            refine sz_istore_n dX12_text_265 rfl (Nat.le_of_ble_eq_true rfl) rfl ?_
            refine sz_ls (l2 := [some (.ref 39), none, none, some (.int 0)]) rfl ?_
            have hk290 : ∀  (g : gz_S) (r : Int32 × gz_S), (fun  g => (fX12_lays La  53 g).bind (fun q295 => gz_let (gz_wi q295 39 47 0) (fun g300 => gz_let (gz_wi g300 39 41 0) (fun g305 => gz_let (gz_wi g305 39 50 0) (fun g310 => (fX12_cells La   g310).bind (fun q314 => some (q314.1, q314.2)))))))  g = some r → gz_J La 142 mX12_text 290 [some (.ref 39), none, none, none] [] g (gz_Fi r) := by
              intro  g r hf
              refine sz_aload_n dX12_text_290 rfl ?_
              refine sz_aload_n dX12_text_291 rfl ?_
              refine sz_getR dX12_text_292 flX12_64 kd39 rfl rf39_32 ?_
              obtain ⟨q295, eq295, hf⟩ := gz_bd hf
              refine sz_callVv [.ref 53] [] dX12_text_295 mvX12_306 (Nat.le_of_ble_eq_true rfl) (by decide : 12 < 13) kd39 rfl (Nat.le_of_ble_eq_true rfl) (kX12_lays  (Or.inl rfl) eq295) ?_
              refine sz_aload_n dX12_text_298 rfl ?_
              refine sz_iconst dX12_text_299 (cI0) ?_
              obtain ⟨g300, eg300, hf⟩ := gz_lt hf
              refine sz_putI2 dX12_text_300 flX12_310 kd39 fi12_47 eg300 ?_
              refine sz_aload_n dX12_text_303 rfl ?_
              refine sz_iconst dX12_text_304 (cI0) ?_
              obtain ⟨g305, eg305, hf⟩ := gz_lt hf
              refine sz_putI2 dX12_text_305 flX12_313 kd39 fi12_41 eg305 ?_
              refine sz_aload_n dX12_text_308 rfl ?_
              refine sz_iconst dX12_text_309 (cI0) ?_
              obtain ⟨g310, eg310, hf⟩ := gz_lt hf
              refine sz_putZ2 dX12_text_310 flX12_316 kd39 fi12_50 (Or.inl rfl) eg310 ?_
              refine sz_aload_n dX12_text_313 rfl ?_
              obtain ⟨q314, eq314, hf⟩ := gz_bd hf
              refine sz_callVi [] [] dX12_text_314 mvX12_319 (Nat.le_of_ble_eq_true rfl) (by decide : 12 < 13) kd39 rfl (Nat.le_of_ble_eq_true rfl) (kX12_cells   eq314) ?_
              cases hf
              exact sz_iret dX12_text_317 rfl rfl ⟨rfl, rfl⟩
            exact tX12_text_266   hk290 _ _ _ _ hf
          exact tX12_text_240   hk264 _ _ _ _ hf
        refine sz_weak (l2 := [some (.ref 39), none, none, some (.int 0)]) (gz_subk (gz_subn (gz_subn (gz_subk gz_sub0)))) ?_
        exact tX12_text_215   hk238 _ _ _ _ hf
      · have hf := gz_ip c132 hf
        refine sz_iconst dX12_text_135 (cI0) ?_
        refine sz_istore_n dX12_text_136 rfl (Nat.le_of_ble_eq_true rfl) rfl ?_
        refine sz_ls (l2 := [some (.ref 39), some (.int x1), some (.int y58), some (.int 0)]) rfl ?_
        have hk173 : ∀  (g : gz_S) (r : Int32 × gz_S), (fun  g => if gz_ok (g.1 39 30) 5 then gz_let (gz_wi g 52 (Int32.toNatClampNeg (g.1 39 30)) (g.1 52 4)) (fun g187 => gz_let (gz_wi g187 39 30 ((g187.1 39 30) + 1)) (fun g195 => some ((g195.1 39 30) - 1, g195))) else none)  g = some r → gz_J La 142 mX12_text 173 [some (.ref 39), none, none, none] [] g (gz_Fi r) := by
          intro  g r hf
          refine sz_aload_n dX12_text_173 rfl ?_
          refine sz_getR dX12_text_174 flX12_61 kd39 rfl rf39_26 ?_
          refine sz_aload_n dX12_text_177 rfl ?_
          refine sz_getI dX12_text_178 flX12_298 kd39 rfl ?_
          refine sz_aload_n dX12_text_181 rfl ?_
          refine sz_getR dX12_text_182 flX12_61 kd39 rfl rf39_26 ?_
          refine sz_iconst dX12_text_185 (cI4) ?_
          refine sz_ialdL dX12_text_186 kd52 vi4_5 tn4 ?_
          obtain ⟨c187, hf⟩ := gz_gd hf
          obtain ⟨g187, eg187, hf⟩ := gz_lt hf
          refine sz_iastL dX12_text_187 kd52 c187 rfl eg187 ?_
          refine sz_aload_n dX12_text_188 rfl ?_
          refine sz_dup dX12_text_189 rfl ?_
          refine sz_getI dX12_text_190 flX12_298 kd39 rfl ?_
          refine sz_iconst dX12_text_193 (cI1) ?_
          refine sz_iadd dX12_text_194 ?_
          obtain ⟨g195, eg195, hf⟩ := gz_lt hf
          refine sz_putI2 dX12_text_195 flX12_298 kd39 fi12_30 eg195 ?_
          refine sz_aload_n dX12_text_198 rfl ?_
          refine sz_getI dX12_text_199 flX12_298 kd39 rfl ?_
          refine sz_iconst dX12_text_202 (cI1) ?_
          refine sz_isub dX12_text_203 ?_
          cases hf
          exact sz_iret dX12_text_204 rfl rfl ⟨rfl, rfl⟩
        refine sz_weak (l2 := [some (.ref 39), none, none, some (.int 0)]) (gz_subk (gz_subn (gz_subn (gz_subk gz_sub0)))) ?_
        exact tX12_text_137   hk173 _ _ _ _ hf
    · have hf := gz_ip c66 hf
      refine sz_iconst dX12_text_69 (cI0) ?_
      refine sz_istore_n dX12_text_70 rfl (Nat.le_of_ble_eq_true rfl) rfl ?_
      refine sz_ls (l2 := [some (.ref 39), some (.int x1), some (.int y58), some (.int 0)]) rfl ?_
      have hk103 : ∀ (x2 : Int32) (g : gz_S) (r : Int32 × gz_S), (fun (x2 : Int32) g => if gz_ok (g.1 39 7) 4 then gz_let (gz_wi g 42 (Int32.toNatClampNeg (g.1 39 7)) x2) (fun g112 => gz_let (gz_wi g112 39 7 ((g112.1 39 7) + 1)) (fun g120 => some ((g120.1 39 7) - 1, g120))) else none) x2 g = some r → gz_J La 142 mX12_text 103 [some (.ref 39), none, some (.int x2), none] [] g (gz_Fi r) := by
        intro x2 g r hf
        refine sz_aload_n dX12_text_103 rfl ?_
        refine sz_getR dX12_text_104 flX12_16 kd39 rfl rf39_3 ?_
        refine sz_aload_n dX12_text_107 rfl ?_
        refine sz_getI dX12_text_108 flX12_295 kd39 rfl ?_
        refine sz_iload_n dX12_text_111 rfl ?_
        obtain ⟨c112, hf⟩ := gz_gd hf
        obtain ⟨g112, eg112, hf⟩ := gz_lt hf
        refine sz_iastL dX12_text_112 kd42 c112 rfl eg112 ?_
        refine sz_aload_n dX12_text_113 rfl ?_
        refine sz_dup dX12_text_114 rfl ?_
        refine sz_getI dX12_text_115 flX12_295 kd39 rfl ?_
        refine sz_iconst dX12_text_118 (cI1) ?_
        refine sz_iadd dX12_text_119 ?_
        obtain ⟨g120, eg120, hf⟩ := gz_lt hf
        refine sz_putI2 dX12_text_120 flX12_295 kd39 fi12_7 eg120 ?_
        refine sz_aload_n dX12_text_123 rfl ?_
        refine sz_getI dX12_text_124 flX12_295 kd39 rfl ?_
        refine sz_iconst dX12_text_127 (cI1) ?_
        refine sz_isub dX12_text_128 ?_
        cases hf
        exact sz_iret dX12_text_129 rfl rfl ⟨rfl, rfl⟩
      refine sz_weak (l2 := [some (.ref 39), none, some (.int y58), some (.int 0)]) (gz_subk (gz_subn (gz_subk (gz_subk gz_sub0)))) ?_
      exact tX12_text_71   hk103 _ _ _ _ _ hf
  · have hf := gz_in1 c49 hf
    refine sz_iconst dX12_text_52 (cIm1) ?_
    cases hf
    exact sz_iret dX12_text_53 rfl rfl ⟨rfl, rfl⟩
def fX12_text_30 (La : gz_L)    (x1 : Int32) (g : gz_S) : Option (Int32 × gz_S) := if x1 = 2 then if (g.1 39 30) = 4 then some ((-1), g) else fX12_text_43 La     x1 g else fX12_text_43 La     x1 g
set_option maxRecDepth 100000 in
set_option maxHeartbeats 4000000 in
theorem tX12_text_30 {La : gz_L}      : ∀ (x1 : Int32) (g : gz_S) (r : Int32 × gz_S), fX12_text_30 La    x1 g = some r → gz_J La 142 mX12_text 30 [some (.ref 39), some (.int x1), none, none] [] g (gz_Fi r) := by
  intro x1 g r hf
  unfold fX12_text_30 at hf
  refine sz_iload_n dX12_text_30 rfl ?_
  refine sz_iconst dX12_text_31 (cI2) ?_
  refine sz_icmp_ne 43 dX12_text_32 (by decide) (fun c32 => ?_) (fun c32 => ?_)
  · have hf := gz_in1 c32 hf
    exact tX12_text_43    _ _ _ hf
  · have hf := gz_ip c32 hf
    refine sz_aload_n dX12_text_35 rfl ?_
    refine sz_getI dX12_text_36 flX12_298 kd39 rfl ?_
    refine sz_iconst dX12_text_39 (cI4) ?_
    refine sz_icmp_eq 52 dX12_text_40 (by decide) (fun c40 => ?_) (fun c40 => ?_)
    · have hf := gz_ip c40 hf
      refine sz_iconst dX12_text_52 (cIm1) ?_
      cases hf
      exact sz_iret dX12_text_53 rfl rfl ⟨rfl, rfl⟩
    · have hf := gz_in1 c40 hf
      exact tX12_text_43    _ _ _ hf
def fX12_text (La : gz_L)  (x1 : Int32) (g : gz_S) : Option (Int32 × gz_S) :=
  gz_let (gz_wi g 39 0 0) (fun g2 => (fX12_isIn La  (Int32.toInt64 x1) 0 2 g2).bind (fun q11 => if q11.1 = 0 then some ((-1), q11.2) else if x1 = 1 then if (q11.2.1 39 7) = 4 then some ((-1), q11.2) else fX12_text_30 La     x1 q11.2 else fX12_text_30 La     x1 q11.2))
set_option maxRecDepth 100000 in
set_option maxHeartbeats 4000000 in
theorem kX12_text {La : gz_L}  {x1 : Int32} {g : gz_S} {r : Int32 × gz_S}  (hf : fX12_text La  x1 g = some r) : gz_K La 142 mX12_text [.ref 39, .int x1] g (gz_Fi r) := by
  unfold fX12_text at hf
  refine gz_K.of 2 (by decide +kernel) rfl ?_
  show gz_J La 142 mX12_text 0 [some (.ref 39), some (.int x1), none, none] [] g (gz_Fi r)
  refine sz_aload_n dX12_text_0 rfl ?_
  refine sz_iconst dX12_text_1 (cI0) ?_
  obtain ⟨g2, eg2, hf⟩ := gz_lt hf
  refine sz_putI2 dX12_text_2 flX12_104 kd39 fi12_0 eg2 ?_
  refine sz_iload_n dX12_text_5 rfl ?_
  refine sz_i2l dX12_text_6 ?_
  refine sz_lconst (v := 0) dX12_text_7 rfl ?_
  refine sz_ldc2 dX12_text_8 cstlX12_284 ?_
  obtain ⟨q11, eq11, hf⟩ := gz_bd hf
  refine sz_callSi [.long (Int32.toInt64 x1), .long 0, .long 2] [] dX12_text_11 msX12_225 (Nat.le_of_ble_eq_true rfl) (Nat.le_of_ble_eq_true rfl) (kX12_isIn   eq11) ?_
  refine sz_if_eq 52 dX12_text_14 (by decide) (fun c14 => ?_) (fun c14 => ?_)
  · have hf := gz_ip c14 hf
    refine sz_iconst dX12_text_52 (cIm1) ?_
    cases hf
    exact sz_iret dX12_text_53 rfl rfl ⟨rfl, rfl⟩
  · have hf := gz_in1 c14 hf
    refine sz_iload_n dX12_text_17 rfl ?_
    refine sz_iconst dX12_text_18 (cI1) ?_
    refine sz_icmp_ne 30 dX12_text_19 (by decide) (fun c19 => ?_) (fun c19 => ?_)
    · have hf := gz_in1 c19 hf
      exact tX12_text_30    _ _ _ hf
    · have hf := gz_ip c19 hf
      refine sz_aload_n dX12_text_22 rfl ?_
      refine sz_getI dX12_text_23 flX12_295 kd39 rfl ?_
      refine sz_iconst dX12_text_26 (cI4) ?_
      refine sz_icmp_eq 52 dX12_text_27 (by decide) (fun c27 => ?_) (fun c27 => ?_)
      · have hf := gz_ip c27 hf
        refine sz_iconst dX12_text_52 (cIm1) ?_
        cases hf
        exact sz_iret dX12_text_53 rfl rfl ⟨rfl, rfl⟩
      · have hf := gz_in1 c27 hf
        exact tX12_text_30    _ _ _ hf
