def fX2_cellBehind_13 (La : gz_L)   (k36 : Int32 → gz_S → Option (Int32 × gz_S)) : Nat → Int32 → Int32 → Int32 → gz_S → Option (Int32 × gz_S)
  | 0, _, _, _, _ => none
  | n + 1, x1, x2, x3, g => if x2 ≤ x3 then k36 x1 g else (fX10_passHour La  7 g).bind (fun q26 => gz_let (x3 + 1) (fun y30 => fX2_cellBehind_13 La   k36 n x1 x2 y30 q26.2))
set_option maxRecDepth 100000 in
set_option maxHeartbeats 4000000 in
theorem tX2_cellBehind_13 {La : gz_L}   {k36 : Int32 → gz_S → Option (Int32 × gz_S)}  (hk36 : ∀ (x1 : Int32) (g : gz_S) (r : Int32 × gz_S), k36 x1 g = some r → gz_J La 6 mX2_cellBehind 36 [some (.ref 10), some (.int x1), none, none] [] g (gz_Fi r)) : ∀ (n : Nat) (x1 : Int32) (x2 : Int32) (x3 : Int32) (g : gz_S) (r : Int32 × gz_S), fX2_cellBehind_13 La   k36 n x1 x2 x3 g = some r → gz_J La 6 mX2_cellBehind 13 [some (.ref 10), some (.int x1), some (.int x2), some (.int x3)] [] g (gz_Fi r) := by
  intro n
  induction n with
  | zero => intro x1 x2 x3 g r hf; exact nomatch (show (none : Option (Int32 × gz_S)) = some r from hf)
  | succ n ih =>
    intro x1 x2 x3 g r hf
    unfold fX2_cellBehind_13 at hf
    refine sz_iload_n dX2_cellBehind_13 rfl ?_
    refine sz_iload_n dX2_cellBehind_14 rfl ?_
    refine sz_icmp_ge 36 dX2_cellBehind_15 (by decide) (fun c15 => ?_) (fun c15 => ?_)
    · have hf := gz_ip c15 hf
      refine sz_weak (l2 := [some (.ref 10), some (.int x1), none, none]) (gz_subk (gz_subk (gz_subn (gz_subn gz_sub0)))) ?_
      exact hk36 _ _ _ hf
    · have hf := gz_in1 c15 hf
      refine sz_aload_n dX2_cellBehind_18 rfl ?_
      refine sz_getR dX2_cellBehind_19 flX2_30 kd10 rfl rf10_4 ?_
      refine sz_aload_n dX2_cellBehind_22 rfl ?_
      refine sz_getR dX2_cellBehind_23 flX2_27 kd10 rfl rf10_3 ?_
      obtain ⟨q26, eq26, hf⟩ := gz_bd hf
      refine sz_callVi [.ref 7] [] dX2_cellBehind_26 mvX2_38 (Nat.le_of_ble_eq_true rfl) (by decide : 10 < 13) kd8 rfl (Nat.le_of_ble_eq_true rfl) (kX10_passHour  (Or.inr (Or.inr rfl)) eq26) ?_
      refine sz_pop dX2_cellBehind_29 rfl ?_
      obtain ⟨y30, ey30, hf⟩ := gz_lt hf
      refine sz_iinc (v := y30) dX2_cellBehind_30 rfl (by rw [ey30, cI1]) (Nat.le_of_ble_eq_true rfl) rfl ?_
      refine sz_ls (l2 := [some (.ref 10), some (.int x1), some (.int x2), some (.int y30)]) rfl ?_
      refine sz_goto 13 dX2_cellBehind_33 (by decide) ?_
      exact ih _ _ _ _ _ hf
def fX2_cellBehind (La : gz_L)  (x1 : Int32) (x2 : Int32) (g : gz_S) : Option (Int32 × gz_S) :=
  (fX6_copy La  7 6 g).bind (fun q8 => fX2_cellBehind_13 La   (fun (x1 : Int32) g => if gz_ok ((30 : Int32) + x1) 61 then some (g.1 23 (Int32.toNatClampNeg ((30 : Int32) + x1)), g) else none) gz_FU x1 x2 0 q8)
set_option maxRecDepth 100000 in
set_option maxHeartbeats 4000000 in
theorem kX2_cellBehind {La : gz_L}  {x1 : Int32} {x2 : Int32} {g : gz_S} {r : Int32 × gz_S}  (hf : fX2_cellBehind La  x1 x2 g = some r) : gz_K La 6 mX2_cellBehind [.ref 10, .int x1, .int x2] g (gz_Fi r) := by
  unfold fX2_cellBehind at hf
  refine gz_K.of 1 (by decide +kernel) rfl ?_
  show gz_J La 6 mX2_cellBehind 0 [some (.ref 10), some (.int x1), some (.int x2), none] [] g (gz_Fi r)
  refine sz_aload_n dX2_cellBehind_0 rfl ?_
  refine sz_getR dX2_cellBehind_1 flX2_27 kd10 rfl rf10_3 ?_
  refine sz_aload_n dX2_cellBehind_4 rfl ?_
  refine sz_getR dX2_cellBehind_5 flX2_23 kd10 rfl rf10_2 ?_
  obtain ⟨q8, eq8, hf⟩ := gz_bd hf
  refine sz_callVv [.ref 6] [] dX2_cellBehind_8 mvX2_34 (Nat.le_of_ble_eq_true rfl) (by decide : 6 < 13) kd7 rfl (Nat.le_of_ble_eq_true rfl) (kX6_copy  (Or.inr (Or.inr rfl)) (Or.inr (Or.inl rfl)) eq8) ?_
  refine sz_iconst dX2_cellBehind_11 (cI0) ?_
  refine sz_istore_n dX2_cellBehind_12 rfl (Nat.le_of_ble_eq_true rfl) rfl ?_
  refine sz_ls (l2 := [some (.ref 10), some (.int x1), some (.int x2), some (.int 0)]) rfl ?_
  have hk36 : ∀ (x1 : Int32) (g : gz_S) (r : Int32 × gz_S), (fun (x1 : Int32) g => if gz_ok ((30 : Int32) + x1) 61 then some (g.1 23 (Int32.toNatClampNeg ((30 : Int32) + x1)), g) else none) x1 g = some r → gz_J La 6 mX2_cellBehind 36 [some (.ref 10), some (.int x1), none, none] [] g (gz_Fi r) := by
    intro x1 g r hf
    refine sz_aload_n dX2_cellBehind_36 rfl ?_
    refine sz_getR dX2_cellBehind_37 flX2_27 kd10 rfl rf10_3 ?_
    refine sz_getR dX2_cellBehind_40 flX2_44 kd7 rfl rf7_0 ?_
    refine sz_bipush dX2_cellBehind_43 (cB30) ?_
    refine sz_iload_n dX2_cellBehind_45 rfl ?_
    refine sz_iadd dX2_cellBehind_46 ?_
    obtain ⟨c47, hf⟩ := gz_gd hf
    refine sz_ialdL dX2_cellBehind_47 kd23 c47 rfl ?_
    cases hf
    exact sz_iret dX2_cellBehind_48 rfl rfl ⟨rfl, rfl⟩
  exact tX2_cellBehind_13   hk36 _ _ _ _ _ _ hf
def fX2_firstMeeting_13 (La : gz_L)    : Nat → Int32 → Int32 → Int32 → gz_S → Option (Int32 × gz_S)
  | 0, _, _, _, _ => none
  | n + 1, x1, x2, x3, g => if 99 < x3 then some ((-1), g) else (fX10_passHour La  7 g).bind (fun q27 => (fX6_together La  7 x1 x2 q27.2).bind (fun q37 => if q37.1 = 0 then gz_let (x3 + 1) (fun y45 => fX2_firstMeeting_13 La    n x1 x2 y45 q37.2) else some (x3, q37.2)))
set_option maxRecDepth 100000 in
set_option maxHeartbeats 4000000 in
theorem tX2_firstMeeting_13 {La : gz_L}      : ∀ (n : Nat) (x1 : Int32) (x2 : Int32) (x3 : Int32) (g : gz_S) (r : Int32 × gz_S), fX2_firstMeeting_13 La    n x1 x2 x3 g = some r → gz_J La 6 mX2_firstMeeting 13 [some (.ref 10), some (.int x1), some (.int x2), some (.int x3)] [] g (gz_Fi r) := by
  intro n
  induction n with
  | zero => intro x1 x2 x3 g r hf; exact nomatch (show (none : Option (Int32 × gz_S)) = some r from hf)
  | succ n ih =>
    intro x1 x2 x3 g r hf
    unfold fX2_firstMeeting_13 at hf
    refine sz_iload_n dX2_firstMeeting_13 rfl ?_
    refine sz_bipush dX2_firstMeeting_14 (cB99) ?_
    refine sz_icmp_gt 51 dX2_firstMeeting_16 (by decide) (fun c16 => ?_) (fun c16 => ?_)
    · have hf := gz_ip c16 hf
      refine sz_iconst dX2_firstMeeting_51 (cIm1) ?_
      cases hf
      exact sz_iret dX2_firstMeeting_52 rfl rfl ⟨rfl, rfl⟩
    · have hf := gz_in1 c16 hf
      refine sz_aload_n dX2_firstMeeting_19 rfl ?_
      refine sz_getR dX2_firstMeeting_20 flX2_30 kd10 rfl rf10_4 ?_
      refine sz_aload_n dX2_firstMeeting_23 rfl ?_
      refine sz_getR dX2_firstMeeting_24 flX2_27 kd10 rfl rf10_3 ?_
      obtain ⟨q27, eq27, hf⟩ := gz_bd hf
      refine sz_callVi [.ref 7] [] dX2_firstMeeting_27 mvX2_38 (Nat.le_of_ble_eq_true rfl) (by decide : 10 < 13) kd8 rfl (Nat.le_of_ble_eq_true rfl) (kX10_passHour  (Or.inr (Or.inr rfl)) eq27) ?_
      refine sz_pop dX2_firstMeeting_30 rfl ?_
      refine sz_aload_n dX2_firstMeeting_31 rfl ?_
      refine sz_getR dX2_firstMeeting_32 flX2_27 kd10 rfl rf10_3 ?_
      refine sz_iload_n dX2_firstMeeting_35 rfl ?_
      refine sz_iload_n dX2_firstMeeting_36 rfl ?_
      obtain ⟨q37, eq37, hf⟩ := gz_bd hf
      refine sz_callVi [.int x1, .int x2] [] dX2_firstMeeting_37 mvX2_47 (Nat.le_of_ble_eq_true rfl) (by decide : 6 < 13) kd7 rfl (Nat.le_of_ble_eq_true rfl) (kX6_together  (Or.inr (Or.inr rfl)) eq37) ?_
      refine sz_if_eq 45 dX2_firstMeeting_40 (by decide) (fun c40 => ?_) (fun c40 => ?_)
      · have hf := gz_ip c40 hf
        obtain ⟨y45, ey45, hf⟩ := gz_lt hf
        refine sz_iinc (v := y45) dX2_firstMeeting_45 rfl (by rw [ey45, cI1]) (Nat.le_of_ble_eq_true rfl) rfl ?_
        refine sz_ls (l2 := [some (.ref 10), some (.int x1), some (.int x2), some (.int y45)]) rfl ?_
        refine sz_goto 13 dX2_firstMeeting_48 (by decide) ?_
        exact ih _ _ _ _ _ hf
      · have hf := gz_in1 c40 hf
        refine sz_iload_n dX2_firstMeeting_43 rfl ?_
        cases hf
        exact sz_iret dX2_firstMeeting_44 rfl rfl ⟨rfl, rfl⟩
def fX2_firstMeeting (La : gz_L)  (x1 : Int32) (x2 : Int32) (g : gz_S) : Option (Int32 × gz_S) :=
  (fX6_copy La  7 6 g).bind (fun q8 => fX2_firstMeeting_13 La    gz_FU x1 x2 1 q8)
set_option maxRecDepth 100000 in
set_option maxHeartbeats 4000000 in
theorem kX2_firstMeeting {La : gz_L}  {x1 : Int32} {x2 : Int32} {g : gz_S} {r : Int32 × gz_S}  (hf : fX2_firstMeeting La  x1 x2 g = some r) : gz_K La 6 mX2_firstMeeting [.ref 10, .int x1, .int x2] g (gz_Fi r) := by
  unfold fX2_firstMeeting at hf
  refine gz_K.of 1 (by decide +kernel) rfl ?_
  show gz_J La 6 mX2_firstMeeting 0 [some (.ref 10), some (.int x1), some (.int x2), none] [] g (gz_Fi r)
  refine sz_aload_n dX2_firstMeeting_0 rfl ?_
  refine sz_getR dX2_firstMeeting_1 flX2_27 kd10 rfl rf10_3 ?_
  refine sz_aload_n dX2_firstMeeting_4 rfl ?_
  refine sz_getR dX2_firstMeeting_5 flX2_23 kd10 rfl rf10_2 ?_
  obtain ⟨q8, eq8, hf⟩ := gz_bd hf
  refine sz_callVv [.ref 6] [] dX2_firstMeeting_8 mvX2_34 (Nat.le_of_ble_eq_true rfl) (by decide : 6 < 13) kd7 rfl (Nat.le_of_ble_eq_true rfl) (kX6_copy  (Or.inr (Or.inr rfl)) (Or.inr (Or.inl rfl)) eq8) ?_
  refine sz_iconst dX2_firstMeeting_11 (cI1) ?_
  refine sz_istore_n dX2_firstMeeting_12 rfl (Nat.le_of_ble_eq_true rfl) rfl ?_
  refine sz_ls (l2 := [some (.ref 10), some (.int x1), some (.int x2), some (.int 1)]) rfl ?_
  exact tX2_firstMeeting_13    _ _ _ _ _ _ hf
def fX2_endOf_13 (La : gz_L)   (k30 : Int32 → Int32 → Int32 → gz_S → Option (Int32 × gz_S)) : Nat → Int32 → Int32 → Int32 → gz_S → Option (Int32 × gz_S)
  | 0, _, _, _, _ => none
  | n + 1, x1, x2, x3, g => if 99 < x3 then some ((-1), g) else (fX6_goes La  7 x1 g).bind (fun q24 => if q24.1 = 0 then k30 x1 x2 x3 q24.2 else (fX10_passHour La  7 q24.2).bind (fun q59 => gz_let (x3 + 1) (fun y63 => fX2_endOf_13 La   k30 n x1 x2 y63 q59.2)))
set_option maxRecDepth 100000 in
set_option maxHeartbeats 4000000 in
theorem tX2_endOf_13 {La : gz_L}   {k30 : Int32 → Int32 → Int32 → gz_S → Option (Int32 × gz_S)}  (hk30 : ∀ (x1 : Int32) (x2 : Int32) (x3 : Int32) (g : gz_S) (r : Int32 × gz_S), k30 x1 x2 x3 g = some r → gz_J La 6 mX2_endOf 30 [some (.ref 10), some (.int x1), some (.int x2), some (.int x3)] [] g (gz_Fi r)) : ∀ (n : Nat) (x1 : Int32) (x2 : Int32) (x3 : Int32) (g : gz_S) (r : Int32 × gz_S), fX2_endOf_13 La   k30 n x1 x2 x3 g = some r → gz_J La 6 mX2_endOf 13 [some (.ref 10), some (.int x1), some (.int x2), some (.int x3)] [] g (gz_Fi r) := by
  intro n
  induction n with
  | zero => intro x1 x2 x3 g r hf; exact nomatch (show (none : Option (Int32 × gz_S)) = some r from hf)
  | succ n ih =>
    intro x1 x2 x3 g r hf
    unfold fX2_endOf_13 at hf
    refine sz_iload_n dX2_endOf_13 rfl ?_
    refine sz_bipush dX2_endOf_14 (cB99) ?_
    refine sz_icmp_gt 69 dX2_endOf_16 (by decide) (fun c16 => ?_) (fun c16 => ?_)
    · have hf := gz_ip c16 hf
      refine sz_iconst dX2_endOf_69 (cIm1) ?_
      cases hf
      exact sz_iret dX2_endOf_70 rfl rfl ⟨rfl, rfl⟩
    · have hf := gz_in1 c16 hf
      refine sz_aload_n dX2_endOf_19 rfl ?_
      refine sz_getR dX2_endOf_20 flX2_27 kd10 rfl rf10_3 ?_
      refine sz_iload_n dX2_endOf_23 rfl ?_
      obtain ⟨q24, eq24, hf⟩ := gz_bd hf
      refine sz_callVi [.int x1] [] dX2_endOf_24 mvX2_51 (Nat.le_of_ble_eq_true rfl) (by decide : 6 < 13) kd7 rfl (Nat.le_of_ble_eq_true rfl) (kX6_goes  (Or.inr (Or.inr rfl)) eq24) ?_
      refine sz_if_ne 51 dX2_endOf_27 (by decide) (fun c27 => ?_) (fun c27 => ?_)
      · have hf := gz_in1 c27 hf
        refine sz_aload_n dX2_endOf_51 rfl ?_
        refine sz_getR dX2_endOf_52 flX2_30 kd10 rfl rf10_4 ?_
        refine sz_aload_n dX2_endOf_55 rfl ?_
        refine sz_getR dX2_endOf_56 flX2_27 kd10 rfl rf10_3 ?_
        obtain ⟨q59, eq59, hf⟩ := gz_bd hf
        refine sz_callVi [.ref 7] [] dX2_endOf_59 mvX2_38 (Nat.le_of_ble_eq_true rfl) (by decide : 10 < 13) kd8 rfl (Nat.le_of_ble_eq_true rfl) (kX10_passHour  (Or.inr (Or.inr rfl)) eq59) ?_
        refine sz_pop dX2_endOf_62 rfl ?_
        obtain ⟨y63, ey63, hf⟩ := gz_lt hf
        refine sz_iinc (v := y63) dX2_endOf_63 rfl (by rw [ey63, cI1]) (Nat.le_of_ble_eq_true rfl) rfl ?_
        refine sz_ls (l2 := [some (.ref 10), some (.int x1), some (.int x2), some (.int y63)]) rfl ?_
        refine sz_goto 13 dX2_endOf_66 (by decide) ?_
        exact ih _ _ _ _ _ hf
      · have hf := gz_ip c27 hf
        exact hk30 _ _ _ _ _ hf
def fX2_endOf (La : gz_L)  (x1 : Int32) (x2 : Int32) (g : gz_S) : Option (Int32 × gz_S) :=
  (fX6_copy La  7 6 g).bind (fun q8 => fX2_endOf_13 La   (fun (x1 : Int32) (x2 : Int32) (x3 : Int32) g => if x2 = 0 then some (x3, g) else if gz_ok ((42 : Int32) + x1) 61 then some (g.1 23 (Int32.toNatClampNeg ((42 : Int32) + x1)), g) else none) gz_FU x1 x2 0 q8)
set_option maxRecDepth 100000 in
set_option maxHeartbeats 4000000 in
theorem kX2_endOf {La : gz_L}  {x1 : Int32} {x2 : Int32} {g : gz_S} {r : Int32 × gz_S}  (hf : fX2_endOf La  x1 x2 g = some r) : gz_K La 6 mX2_endOf [.ref 10, .int x1, .int x2] g (gz_Fi r) := by
  unfold fX2_endOf at hf
  refine gz_K.of 1 (by decide +kernel) rfl ?_
  show gz_J La 6 mX2_endOf 0 [some (.ref 10), some (.int x1), some (.int x2), none] [] g (gz_Fi r)
  refine sz_aload_n dX2_endOf_0 rfl ?_
  refine sz_getR dX2_endOf_1 flX2_27 kd10 rfl rf10_3 ?_
  refine sz_aload_n dX2_endOf_4 rfl ?_
  refine sz_getR dX2_endOf_5 flX2_23 kd10 rfl rf10_2 ?_
  obtain ⟨q8, eq8, hf⟩ := gz_bd hf
  refine sz_callVv [.ref 6] [] dX2_endOf_8 mvX2_34 (Nat.le_of_ble_eq_true rfl) (by decide : 6 < 13) kd7 rfl (Nat.le_of_ble_eq_true rfl) (kX6_copy  (Or.inr (Or.inr rfl)) (Or.inr (Or.inl rfl)) eq8) ?_
  refine sz_iconst dX2_endOf_11 (cI0) ?_
  refine sz_istore_n dX2_endOf_12 rfl (Nat.le_of_ble_eq_true rfl) rfl ?_
  refine sz_ls (l2 := [some (.ref 10), some (.int x1), some (.int x2), some (.int 0)]) rfl ?_
  have hk30 : ∀ (x1 : Int32) (x2 : Int32) (x3 : Int32) (g : gz_S) (r : Int32 × gz_S), (fun (x1 : Int32) (x2 : Int32) (x3 : Int32) g => if x2 = 0 then some (x3, g) else if gz_ok ((42 : Int32) + x1) 61 then some (g.1 23 (Int32.toNatClampNeg ((42 : Int32) + x1)), g) else none) x1 x2 x3 g = some r → gz_J La 6 mX2_endOf 30 [some (.ref 10), some (.int x1), some (.int x2), some (.int x3)] [] g (gz_Fi r) := by
    intro x1 x2 x3 g r hf
    refine sz_iload_n dX2_endOf_30 rfl ?_
    refine sz_if_ne 38 dX2_endOf_31 (by decide) (fun c31 => ?_) (fun c31 => ?_)
    · have hf := gz_in1 c31 hf
      refine sz_aload_n dX2_endOf_38 rfl ?_
      refine sz_getR dX2_endOf_39 flX2_27 kd10 rfl rf10_3 ?_
      refine sz_getR dX2_endOf_42 flX2_44 kd7 rfl rf7_0 ?_
      refine sz_bipush dX2_endOf_45 (cB42) ?_
      refine sz_iload_n dX2_endOf_47 rfl ?_
      refine sz_iadd dX2_endOf_48 ?_
      obtain ⟨c49, hf⟩ := gz_gd hf
      refine sz_ialdL dX2_endOf_49 kd23 c49 rfl ?_
      cases hf
      exact sz_iret dX2_endOf_50 rfl rfl ⟨rfl, rfl⟩
    · have hf := gz_ip c31 hf
      refine sz_iload_n dX2_endOf_34 rfl ?_
      refine sz_goto 50 dX2_endOf_35 (by decide) ?_
      cases hf
      exact sz_iret dX2_endOf_50 rfl rfl ⟨rfl, rfl⟩
  exact tX2_endOf_13   hk30 _ _ _ _ _ _ hf
def fX2_sameAgain_83 (La : gz_L)   (k13 : Int32 → Int32 → gz_S → Option (Int32 × gz_S)) (x1 : Int32) (x2 : Int32) (g : gz_S) : Option (Int32 × gz_S) := gz_let (x2 + 1) (fun y83 => k13 x1 y83 g)
set_option maxRecDepth 100000 in
set_option maxHeartbeats 4000000 in
theorem tX2_sameAgain_83 {La : gz_L}   {k13 : Int32 → Int32 → gz_S → Option (Int32 × gz_S)}  (hk13 : ∀ (x1 : Int32) (x2 : Int32) (g : gz_S) (r : Int32 × gz_S), k13 x1 x2 g = some r → gz_J La 6 mX2_sameAgain 13 [some (.ref 10), some (.int x1), some (.int x2)] [] g (gz_Fi r)) : ∀ (x1 : Int32) (x2 : Int32) (g : gz_S) (r : Int32 × gz_S), fX2_sameAgain_83 La   k13 x1 x2 g = some r → gz_J La 6 mX2_sameAgain 83 [some (.ref 10), some (.int x1), some (.int x2)] [] g (gz_Fi r) := by
  intro x1 x2 g r hf
  unfold fX2_sameAgain_83 at hf
  obtain ⟨y83, ey83, hf⟩ := gz_lt hf
  refine sz_iinc (v := y83) dX2_sameAgain_83 rfl (by rw [ey83, cI1]) (Nat.le_of_ble_eq_true rfl) rfl ?_
  refine sz_ls (l2 := [some (.ref 10), some (.int x1), some (.int y83)]) rfl ?_
  refine sz_goto 13 dX2_sameAgain_86 (by decide) ?_
  exact hk13 _ _ _ _ hf
def fX2_sameAgain_13 (La : gz_L)    : Nat → Int32 → Int32 → gz_S → Option (Int32 × gz_S)
  | 0, _, _, _ => none
  | n + 1, x1, x2, g => if 99 < x2 then some ((-1), g) else (fX10_passHour La  7 g).bind (fun q27 => if gz_ok ((30 : Int32) + x1) 61 then (fX6_goesOn La  7 x1 (q27.2.1 22 (Int32.toNatClampNeg ((30 : Int32) + x1))) q27.2).bind (fun q48 => if q48.1 = 0 then fX2_sameAgain_83 La   (fX2_sameAgain_13 La    n)  x1 x2 q48.2 else if gz_ok ((34 : Int32) + x1) 61 then if gz_ok ((34 : Int32) + x1) 61 then if (q48.2.1 23 (Int32.toNatClampNeg ((34 : Int32) + x1))) = (q48.2.1 22 (Int32.toNatClampNeg ((34 : Int32) + x1))) then some (x2, q48.2) else fX2_sameAgain_83 La   (fX2_sameAgain_13 La    n)  x1 x2 q48.2 else none else none) else none)
set_option maxRecDepth 100000 in
set_option maxHeartbeats 4000000 in
theorem tX2_sameAgain_13 {La : gz_L}      : ∀ (n : Nat) (x1 : Int32) (x2 : Int32) (g : gz_S) (r : Int32 × gz_S), fX2_sameAgain_13 La    n x1 x2 g = some r → gz_J La 6 mX2_sameAgain 13 [some (.ref 10), some (.int x1), some (.int x2)] [] g (gz_Fi r) := by
  intro n
  induction n with
  | zero => intro x1 x2 g r hf; exact nomatch (show (none : Option (Int32 × gz_S)) = some r from hf)
  | succ n ih =>
    intro x1 x2 g r hf
    unfold fX2_sameAgain_13 at hf
    refine sz_iload_n dX2_sameAgain_13 rfl ?_
    refine sz_bipush dX2_sameAgain_14 (cB99) ?_
    refine sz_icmp_gt 89 dX2_sameAgain_16 (by decide) (fun c16 => ?_) (fun c16 => ?_)
    · have hf := gz_ip c16 hf
      refine sz_iconst dX2_sameAgain_89 (cIm1) ?_
      cases hf
      exact sz_iret dX2_sameAgain_90 rfl rfl ⟨rfl, rfl⟩
    · have hf := gz_in1 c16 hf
      refine sz_aload_n dX2_sameAgain_19 rfl ?_
      refine sz_getR dX2_sameAgain_20 flX2_30 kd10 rfl rf10_4 ?_
      refine sz_aload_n dX2_sameAgain_23 rfl ?_
      refine sz_getR dX2_sameAgain_24 flX2_27 kd10 rfl rf10_3 ?_
      obtain ⟨q27, eq27, hf⟩ := gz_bd hf
      refine sz_callVi [.ref 7] [] dX2_sameAgain_27 mvX2_38 (Nat.le_of_ble_eq_true rfl) (by decide : 10 < 13) kd8 rfl (Nat.le_of_ble_eq_true rfl) (kX10_passHour  (Or.inr (Or.inr rfl)) eq27) ?_
      refine sz_pop dX2_sameAgain_30 rfl ?_
      refine sz_aload_n dX2_sameAgain_31 rfl ?_
      refine sz_getR dX2_sameAgain_32 flX2_27 kd10 rfl rf10_3 ?_
      refine sz_iload_n dX2_sameAgain_35 rfl ?_
      refine sz_aload_n dX2_sameAgain_36 rfl ?_
      refine sz_getR dX2_sameAgain_37 flX2_23 kd10 rfl rf10_2 ?_
      refine sz_getR dX2_sameAgain_40 flX2_44 kd6 rfl rf6_0 ?_
      refine sz_bipush dX2_sameAgain_43 (cB30) ?_
      refine sz_iload_n dX2_sameAgain_45 rfl ?_
      refine sz_iadd dX2_sameAgain_46 ?_
      obtain ⟨c47, hf⟩ := gz_gd hf
      refine sz_ialdL dX2_sameAgain_47 kd22 c47 rfl ?_
      obtain ⟨q48, eq48, hf⟩ := gz_bd hf
      refine sz_callVi [.int x1, .int (q27.2.1 22 (Int32.toNatClampNeg ((30 : Int32) + x1)))] [] dX2_sameAgain_48 mvX2_55 (Nat.le_of_ble_eq_true rfl) (by decide : 6 < 13) kd7 rfl (Nat.le_of_ble_eq_true rfl) (kX6_goesOn  (Or.inr (Or.inr rfl)) eq48) ?_
      refine sz_if_eq 83 dX2_sameAgain_51 (by decide) (fun c51 => ?_) (fun c51 => ?_)
      · have hf := gz_ip c51 hf
        exact tX2_sameAgain_83   ih _ _ _ _ hf
      · have hf := gz_in1 c51 hf
        refine sz_aload_n dX2_sameAgain_54 rfl ?_
        refine sz_getR dX2_sameAgain_55 flX2_27 kd10 rfl rf10_3 ?_
        refine sz_getR dX2_sameAgain_58 flX2_44 kd7 rfl rf7_0 ?_
        refine sz_bipush dX2_sameAgain_61 (cB34) ?_
        refine sz_iload_n dX2_sameAgain_63 rfl ?_
        refine sz_iadd dX2_sameAgain_64 ?_
        obtain ⟨c65, hf⟩ := gz_gd hf
        refine sz_ialdL dX2_sameAgain_65 kd23 c65 rfl ?_
        refine sz_aload_n dX2_sameAgain_66 rfl ?_
        refine sz_getR dX2_sameAgain_67 flX2_23 kd10 rfl rf10_2 ?_
        refine sz_getR dX2_sameAgain_70 flX2_44 kd6 rfl rf6_0 ?_
        refine sz_bipush dX2_sameAgain_73 (cB34) ?_
        refine sz_iload_n dX2_sameAgain_75 rfl ?_
        refine sz_iadd dX2_sameAgain_76 ?_
        obtain ⟨c77, hf⟩ := gz_gd hf
        refine sz_ialdL dX2_sameAgain_77 kd22 c77 rfl ?_
        refine sz_icmp_ne 83 dX2_sameAgain_78 (by decide) (fun c78 => ?_) (fun c78 => ?_)
        · have hf := gz_in1 c78 hf
          exact tX2_sameAgain_83   ih _ _ _ _ hf
        · have hf := gz_ip c78 hf
          refine sz_iload_n dX2_sameAgain_81 rfl ?_
          cases hf
          exact sz_iret dX2_sameAgain_82 rfl rfl ⟨rfl, rfl⟩
def fX2_sameAgain (La : gz_L)  (x1 : Int32) (g : gz_S) : Option (Int32 × gz_S) :=
  (fX6_copy La  7 6 g).bind (fun q8 => fX2_sameAgain_13 La    gz_FU x1 1 q8)
set_option maxRecDepth 100000 in
set_option maxHeartbeats 4000000 in
theorem kX2_sameAgain {La : gz_L}  {x1 : Int32} {g : gz_S} {r : Int32 × gz_S}  (hf : fX2_sameAgain La  x1 g = some r) : gz_K La 6 mX2_sameAgain [.ref 10, .int x1] g (gz_Fi r) := by
  unfold fX2_sameAgain at hf
  refine gz_K.of 1 (by decide +kernel) rfl ?_
  show gz_J La 6 mX2_sameAgain 0 [some (.ref 10), some (.int x1), none] [] g (gz_Fi r)
  refine sz_aload_n dX2_sameAgain_0 rfl ?_
  refine sz_getR dX2_sameAgain_1 flX2_27 kd10 rfl rf10_3 ?_
  refine sz_aload_n dX2_sameAgain_4 rfl ?_
  refine sz_getR dX2_sameAgain_5 flX2_23 kd10 rfl rf10_2 ?_
  obtain ⟨q8, eq8, hf⟩ := gz_bd hf
  refine sz_callVv [.ref 6] [] dX2_sameAgain_8 mvX2_34 (Nat.le_of_ble_eq_true rfl) (by decide : 6 < 13) kd7 rfl (Nat.le_of_ble_eq_true rfl) (kX6_copy  (Or.inr (Or.inr rfl)) (Or.inr (Or.inl rfl)) eq8) ?_
  refine sz_iconst dX2_sameAgain_11 (cI1) ?_
  refine sz_istore_n dX2_sameAgain_12 rfl (Nat.le_of_ble_eq_true rfl) rfl ?_
  refine sz_ls (l2 := [some (.ref 10), some (.int x1), some (.int 1)]) rfl ?_
  exact tX2_sameAgain_13    _ _ _ _ _ hf
def fX2_layRock (La : gz_L)  (x1 : Int32) (g : gz_S) : Option (gz_S) :=
  if x1 = (-1) then some g else if gz_ok ((0 : Int32) + x1) 61 then gz_let (gz_wi g 23 (Int32.toNatClampNeg ((0 : Int32) + x1)) 1) (fun g16 => some g16) else none
set_option maxRecDepth 100000 in
set_option maxHeartbeats 4000000 in
theorem kX2_layRock {La : gz_L}  {x1 : Int32} {g : gz_S} {r : gz_S}  (hf : fX2_layRock La  x1 g = some r) : gz_K La 1 mX2_layRock [.ref 10, .int x1] g (gz_Fv r) := by
  unfold fX2_layRock at hf
  refine gz_K.of 0 (by decide +kernel) rfl ?_
  show gz_J La 1 mX2_layRock 0 [some (.ref 10), some (.int x1)] [] g (gz_Fv r)
  refine sz_iload_n dX2_layRock_0 rfl ?_
  refine sz_iconst dX2_layRock_1 (cIm1) ?_
  refine sz_icmp_eq 17 dX2_layRock_2 (by decide) (fun c2 => ?_) (fun c2 => ?_)
  · have hf := gz_ip c2 hf
    cases hf
    exact sz_ret dX2_layRock_17 rfl ⟨rfl, rfl⟩
  · have hf := gz_in1 c2 hf
    refine sz_aload_n dX2_layRock_5 rfl ?_
    refine sz_getR dX2_layRock_6 flX2_27 kd10 rfl rf10_3 ?_
    refine sz_getR dX2_layRock_9 flX2_44 kd7 rfl rf7_0 ?_
    refine sz_iconst dX2_layRock_12 (cI0) ?_
    refine sz_iload_n dX2_layRock_13 rfl ?_
    refine sz_iadd dX2_layRock_14 ?_
    refine sz_iconst dX2_layRock_15 (cI1) ?_
    obtain ⟨c16, hf⟩ := gz_gd hf
    obtain ⟨g16, eg16, hf⟩ := gz_lt hf
    refine sz_iastL dX2_layRock_16 kd23 c16 rfl eg16 ?_
    cases hf
    exact sz_ret dX2_layRock_17 rfl ⟨rfl, rfl⟩
def fX2_keepsApart_34 (La : gz_L)    : Nat → Int32 → Int32 → Int32 → Int32 → gz_S → Option (Int32 × gz_S)
  | 0, _, _, _, _, _ => none
  | n + 1, x1, x2, x3, x6, g => if x3 ≤ x6 then some (1, g) else (fX10_passHour La  7 g).bind (fun q48 => (fX6_together La  7 x1 x2 q48.2).bind (fun q58 => if q58.1 = 0 then gz_let (x6 + 1) (fun y66 => fX2_keepsApart_34 La    n x1 x2 x3 y66 q58.2) else some (0, q58.2)))
set_option maxRecDepth 100000 in
set_option maxHeartbeats 4000000 in
theorem tX2_keepsApart_34 {La : gz_L}      : ∀ (n : Nat) (x1 : Int32) (x2 : Int32) (x3 : Int32) (x6 : Int32) (g : gz_S) (r : Int32 × gz_S), fX2_keepsApart_34 La    n x1 x2 x3 x6 g = some r → gz_J La 6 mX2_keepsApart 34 [some (.ref 10), some (.int x1), some (.int x2), some (.int x3), none, none, some (.int x6)] [] g (gz_Fi r) := by
  intro n
  induction n with
  | zero => intro x1 x2 x3 x6 g r hf; exact nomatch (show (none : Option (Int32 × gz_S)) = some r from hf)
  | succ n ih =>
    intro x1 x2 x3 x6 g r hf
    unfold fX2_keepsApart_34 at hf
    refine sz_iload dX2_keepsApart_34 rfl ?_
    refine sz_iload_n dX2_keepsApart_36 rfl ?_
    refine sz_icmp_ge 72 dX2_keepsApart_37 (by decide) (fun c37 => ?_) (fun c37 => ?_)
    · have hf := gz_ip c37 hf
      refine sz_iconst dX2_keepsApart_72 (cI1) ?_
      cases hf
      exact sz_iret dX2_keepsApart_73 rfl rfl ⟨rfl, rfl⟩
    · have hf := gz_in1 c37 hf
      refine sz_aload_n dX2_keepsApart_40 rfl ?_
      refine sz_getR dX2_keepsApart_41 flX2_30 kd10 rfl rf10_4 ?_
      refine sz_aload_n dX2_keepsApart_44 rfl ?_
      refine sz_getR dX2_keepsApart_45 flX2_27 kd10 rfl rf10_3 ?_
      obtain ⟨q48, eq48, hf⟩ := gz_bd hf
      refine sz_callVi [.ref 7] [] dX2_keepsApart_48 mvX2_38 (Nat.le_of_ble_eq_true rfl) (by decide : 10 < 13) kd8 rfl (Nat.le_of_ble_eq_true rfl) (kX10_passHour  (Or.inr (Or.inr rfl)) eq48) ?_
      refine sz_pop dX2_keepsApart_51 rfl ?_
      refine sz_aload_n dX2_keepsApart_52 rfl ?_
      refine sz_getR dX2_keepsApart_53 flX2_27 kd10 rfl rf10_3 ?_
      refine sz_iload_n dX2_keepsApart_56 rfl ?_
      refine sz_iload_n dX2_keepsApart_57 rfl ?_
      obtain ⟨q58, eq58, hf⟩ := gz_bd hf
      refine sz_callVi [.int x1, .int x2] [] dX2_keepsApart_58 mvX2_47 (Nat.le_of_ble_eq_true rfl) (by decide : 6 < 13) kd7 rfl (Nat.le_of_ble_eq_true rfl) (kX6_together  (Or.inr (Or.inr rfl)) eq58) ?_
      refine sz_if_eq 66 dX2_keepsApart_61 (by decide) (fun c61 => ?_) (fun c61 => ?_)
      · have hf := gz_ip c61 hf
        obtain ⟨y66, ey66, hf⟩ := gz_lt hf
        refine sz_iinc (v := y66) dX2_keepsApart_66 rfl (by rw [ey66, cI1]) (Nat.le_of_ble_eq_true rfl) rfl ?_
        refine sz_ls (l2 := [some (.ref 10), some (.int x1), some (.int x2), some (.int x3), none, none, some (.int y66)]) rfl ?_
        refine sz_goto 34 dX2_keepsApart_69 (by decide) ?_
        exact ih _ _ _ _ _ _ hf
      · have hf := gz_in1 c61 hf
        refine sz_iconst dX2_keepsApart_64 (cI0) ?_
        cases hf
        exact sz_iret dX2_keepsApart_65 rfl rfl ⟨rfl, rfl⟩
def fX2_keepsApart (La : gz_L)  (x1 : Int32) (x2 : Int32) (x3 : Int32) (x4 : Int32) (x5 : Int32) (g : gz_S) : Option (Int32 × gz_S) :=
  (fX6_copy La  7 6 g).bind (fun q8 => (fX2_layRock La  x4 q8).bind (fun q14 => (fX2_layRock La  x5 q14).bind (fun q20 => gz_let (gz_wi q20 8 2 0) (fun g28 => fX2_keepsApart_34 La    gz_FU x1 x2 x3 0 g28))))
set_option maxRecDepth 100000 in
set_option maxHeartbeats 4000000 in
theorem kX2_keepsApart {La : gz_L}  {x1 : Int32} {x2 : Int32} {x3 : Int32} {x4 : Int32} {x5 : Int32} {g : gz_S} {r : Int32 × gz_S}  (hf : fX2_keepsApart La  x1 x2 x3 x4 x5 g = some r) : gz_K La 6 mX2_keepsApart [.ref 10, .int x1, .int x2, .int x3, .int x4, .int x5] g (gz_Fi r) := by
  unfold fX2_keepsApart at hf
  refine gz_K.of 1 (by decide +kernel) rfl ?_
  show gz_J La 6 mX2_keepsApart 0 [some (.ref 10), some (.int x1), some (.int x2), some (.int x3), some (.int x4), some (.int x5), none] [] g (gz_Fi r)
  refine sz_aload_n dX2_keepsApart_0 rfl ?_
  refine sz_getR dX2_keepsApart_1 flX2_27 kd10 rfl rf10_3 ?_
  refine sz_aload_n dX2_keepsApart_4 rfl ?_
  refine sz_getR dX2_keepsApart_5 flX2_23 kd10 rfl rf10_2 ?_
  obtain ⟨q8, eq8, hf⟩ := gz_bd hf
  refine sz_callVv [.ref 6] [] dX2_keepsApart_8 mvX2_34 (Nat.le_of_ble_eq_true rfl) (by decide : 6 < 13) kd7 rfl (Nat.le_of_ble_eq_true rfl) (kX6_copy  (Or.inr (Or.inr rfl)) (Or.inr (Or.inl rfl)) eq8) ?_
  refine sz_aload_n dX2_keepsApart_11 rfl ?_
  refine sz_iload dX2_keepsApart_12 rfl ?_
  obtain ⟨q14, eq14, hf⟩ := gz_bd hf
  refine sz_callVv [.int x4] [] dX2_keepsApart_14 mvX2_83 (Nat.le_of_ble_eq_true rfl) (by decide : 2 < 13) kd10 rfl (Nat.le_of_ble_eq_true rfl) (kX2_layRock   eq14) ?_
  refine sz_aload_n dX2_keepsApart_17 rfl ?_
  refine sz_iload dX2_keepsApart_18 rfl ?_
  obtain ⟨q20, eq20, hf⟩ := gz_bd hf
  refine sz_callVv [.int x5] [] dX2_keepsApart_20 mvX2_83 (Nat.le_of_ble_eq_true rfl) (by decide : 2 < 13) kd10 rfl (Nat.le_of_ble_eq_true rfl) (kX2_layRock   eq20) ?_
  refine sz_aload_n dX2_keepsApart_23 rfl ?_
  refine sz_getR dX2_keepsApart_24 flX2_30 kd10 rfl rf10_4 ?_
  refine sz_iconst dX2_keepsApart_27 (cI0) ?_
  obtain ⟨g28, eg28, hf⟩ := gz_lt hf
  refine sz_putI2 dX2_keepsApart_28 flX2_62 kd8 fi10_2 eg28 ?_
  refine sz_iconst dX2_keepsApart_31 (cI0) ?_
  refine sz_istore dX2_keepsApart_32 (Nat.le_of_ble_eq_true rfl) rfl ?_
  refine sz_ls (l2 := [some (.ref 10), some (.int x1), some (.int x2), some (.int x3), some (.int x4), some (.int x5), some (.int 0)]) rfl ?_
  refine sz_weak (l2 := [some (.ref 10), some (.int x1), some (.int x2), some (.int x3), none, none, some (.int 0)]) (gz_subk (gz_subk (gz_subk (gz_subk (gz_subn (gz_subn (gz_subk gz_sub0))))))) ?_
  exact tX2_keepsApart_34    _ _ _ _ _ _ _ hf
def fX2_apartAnyway (La : gz_L)  (x1 : Int32) (x2 : Int32) (x3 : Int32) (g : gz_S) : Option (Int32 × gz_S) :=
  (fX2_keepsApart La  x1 x2 x3 (-1) (-1) g).bind (fun q6 => gz_let (gz_wi q6.2 10 5 (q6.2.1 8 2)) (fun g19 => if q6.1 = 0 ∨ q6.1 = 1 then some (q6.1, g19) else none))
set_option maxRecDepth 100000 in
set_option maxHeartbeats 4000000 in
theorem kX2_apartAnyway {La : gz_L}  {x1 : Int32} {x2 : Int32} {x3 : Int32} {g : gz_S} {r : Int32 × gz_S}  (hf : fX2_apartAnyway La  x1 x2 x3 g = some r) : gz_K La 7 mX2_apartAnyway [.ref 10, .int x1, .int x2, .int x3] g (gz_Fi r) := by
  unfold fX2_apartAnyway at hf
  refine gz_K.of 1 (by decide +kernel) rfl ?_
  show gz_J La 7 mX2_apartAnyway 0 [some (.ref 10), some (.int x1), some (.int x2), some (.int x3), none] [] g (gz_Fi r)
  refine sz_aload_n dX2_apartAnyway_0 rfl ?_
  refine sz_iload_n dX2_apartAnyway_1 rfl ?_
  refine sz_iload_n dX2_apartAnyway_2 rfl ?_
  refine sz_iload_n dX2_apartAnyway_3 rfl ?_
  refine sz_iconst dX2_apartAnyway_4 (cIm1) ?_
  refine sz_iconst dX2_apartAnyway_5 (cIm1) ?_
  obtain ⟨q6, eq6, hf⟩ := gz_bd hf
  refine sz_callVi [.int x1, .int x2, .int x3, .int (-1), .int (-1)] [] dX2_apartAnyway_6 mvX2_58 (Nat.le_of_ble_eq_true rfl) (by decide : 2 < 13) kd10 rfl (Nat.le_of_ble_eq_true rfl) (kX2_keepsApart   eq6) ?_
  refine sz_istore dX2_apartAnyway_9 (Nat.le_of_ble_eq_true rfl) rfl ?_
  refine sz_ls (l2 := [some (.ref 10), some (.int x1), some (.int x2), some (.int x3), some (.int q6.1)]) rfl ?_
  refine sz_aload_n dX2_apartAnyway_11 rfl ?_
  refine sz_aload_n dX2_apartAnyway_12 rfl ?_
  refine sz_getR dX2_apartAnyway_13 flX2_30 kd10 rfl rf10_4 ?_
  refine sz_getI dX2_apartAnyway_16 flX2_62 kd8 rfl ?_
  obtain ⟨g19, eg19, hf⟩ := gz_lt hf
  refine sz_putI2 dX2_apartAnyway_19 flX2_66 kd10 fi2_5 eg19 ?_
  refine sz_iload dX2_apartAnyway_22 rfl ?_
  obtain ⟨c24, hf⟩ := gz_gd hf
  cases hf
  exact sz_iret dX2_apartAnyway_24 rfl (gz_nbx c24) ⟨rfl, rfl⟩
def fX2_isFree (La : gz_L)  (x1 : Int32) (g : gz_S) : Option (Int32 × gz_S) :=
  (fX6_kind La  6 x1 g).bind (fun q5 => if q5.1 = 0 then (fX6_goingOn La  6 x1 q5.2).bind (fun q16 => if q16.1 = 0 then some (1, q16.2) else some (0, q16.2)) else some (0, q5.2))
set_option maxRecDepth 100000 in
set_option maxHeartbeats 4000000 in
theorem kX2_isFree {La : gz_L}  {x1 : Int32} {g : gz_S} {r : Int32 × gz_S}  (hf : fX2_isFree La  x1 g = some r) : gz_K La 3 mX2_isFree [.ref 10, .int x1] g (gz_Fi r) := by
  unfold fX2_isFree at hf
  refine gz_K.of 0 (by decide +kernel) rfl ?_
  show gz_J La 3 mX2_isFree 0 [some (.ref 10), some (.int x1)] [] g (gz_Fi r)
  refine sz_aload_n dX2_isFree_0 rfl ?_
  refine sz_getR dX2_isFree_1 flX2_23 kd10 rfl rf10_2 ?_
  refine sz_iload_n dX2_isFree_4 rfl ?_
  obtain ⟨q5, eq5, hf⟩ := gz_bd hf
  refine sz_callVi [.int x1] [] dX2_isFree_5 mvX2_76 (Nat.le_of_ble_eq_true rfl) (by decide : 6 < 13) kd6 rfl (Nat.le_of_ble_eq_true rfl) (kX6_kind  (Or.inr (Or.inl rfl)) eq5) ?_
  refine sz_if_ne 26 dX2_isFree_8 (by decide) (fun c8 => ?_) (fun c8 => ?_)
  · have hf := gz_in1 c8 hf
    refine sz_iconst dX2_isFree_26 (cI0) ?_
    cases hf
    exact sz_iret dX2_isFree_27 rfl rfl ⟨rfl, rfl⟩
  · have hf := gz_ip c8 hf
    refine sz_aload_n dX2_isFree_11 rfl ?_
    refine sz_getR dX2_isFree_12 flX2_23 kd10 rfl rf10_2 ?_
    refine sz_iload_n dX2_isFree_15 rfl ?_
    obtain ⟨q16, eq16, hf⟩ := gz_bd hf
    refine sz_callVi [.int x1] [] dX2_isFree_16 mvX2_80 (Nat.le_of_ble_eq_true rfl) (by decide : 6 < 13) kd6 rfl (Nat.le_of_ble_eq_true rfl) (kX6_goingOn  (Or.inr (Or.inl rfl)) eq16) ?_
    refine sz_if_ne 26 dX2_isFree_19 (by decide) (fun c19 => ?_) (fun c19 => ?_)
    · have hf := gz_in1 c19 hf
      refine sz_iconst dX2_isFree_26 (cI0) ?_
      cases hf
      exact sz_iret dX2_isFree_27 rfl rfl ⟨rfl, rfl⟩
    · have hf := gz_ip c19 hf
      refine sz_iconst dX2_isFree_22 (cI1) ?_
      refine sz_goto 27 dX2_isFree_23 (by decide) ?_
      cases hf
      exact sz_iret dX2_isFree_27 rfl rfl ⟨rfl, rfl⟩
def fX2_oneStone_74 (La : gz_L)   (k3 : Int32 → Int32 → Int32 → Int32 → gz_S → Option (Int32 × gz_S)) (x1 : Int32) (x2 : Int32) (x3 : Int32) (x4 : Int32) (g : gz_S) : Option (Int32 × gz_S) := gz_let (x4 + 1) (fun y74 => k3 x1 x2 x3 y74 g)
set_option maxRecDepth 100000 in
set_option maxHeartbeats 4000000 in
theorem tX2_oneStone_74 {La : gz_L}   {k3 : Int32 → Int32 → Int32 → Int32 → gz_S → Option (Int32 × gz_S)}  (hk3 : ∀ (x1 : Int32) (x2 : Int32) (x3 : Int32) (x4 : Int32) (g : gz_S) (r : Int32 × gz_S), k3 x1 x2 x3 x4 g = some r → gz_J La 7 mX2_oneStone 3 [some (.ref 10), some (.int x1), some (.int x2), some (.int x3), some (.int x4)] [] g (gz_Fi r)) : ∀ (x1 : Int32) (x2 : Int32) (x3 : Int32) (x4 : Int32) (g : gz_S) (r : Int32 × gz_S), fX2_oneStone_74 La   k3 x1 x2 x3 x4 g = some r → gz_J La 7 mX2_oneStone 74 [some (.ref 10), some (.int x1), some (.int x2), some (.int x3), some (.int x4)] [] g (gz_Fi r) := by
  intro x1 x2 x3 x4 g r hf
  unfold fX2_oneStone_74 at hf
  obtain ⟨y74, ey74, hf⟩ := gz_lt hf
  refine sz_iinc (v := y74) dX2_oneStone_74 rfl (by rw [ey74, cI1]) (Nat.le_of_ble_eq_true rfl) rfl ?_
  refine sz_ls (l2 := [some (.ref 10), some (.int x1), some (.int x2), some (.int x3), some (.int y74)]) rfl ?_
  refine sz_goto 3 dX2_oneStone_77 (by decide) ?_
  exact hk3 _ _ _ _ _ _ hf
def fX2_oneStone_3 (La : gz_L)    : Nat → Int32 → Int32 → Int32 → Int32 → gz_S → Option (Int32 × gz_S)
  | 0, _, _, _, _, _ => none
  | n + 1, x1, x2, x3, x4, g => (fX6_cells La  6 g).bind (fun q9 => if q9.1 ≤ x4 then some ((-1), q9.2) else if gz_ok x4 30 then gz_let (gz_wi q9.2 30 (Int32.toNatClampNeg x4) (-1)) (fun g22 => if (((g22.1 10 5) >>> (x4 &&& 31)) &&& (1 : Int32)) = 0 then fX2_oneStone_74 La   (fX2_oneStone_3 La    n)  x1 x2 x3 x4 g22 else (fX2_isFree La  x4 g22).bind (fun q38 => if q38.1 = 0 then fX2_oneStone_74 La   (fX2_oneStone_3 La    n)  x1 x2 x3 x4 q38.2 else (fX2_keepsApart La  x1 x2 x3 x4 (-1) q38.2).bind (fun q51 => if q51.1 = 0 then if gz_ok x4 30 then gz_let (gz_wi q51.2 30 (Int32.toNatClampNeg x4) (q51.2.1 8 2)) (fun g73 => fX2_oneStone_74 La   (fX2_oneStone_3 La    n)  x1 x2 x3 x4 g73) else none else some (x4, q51.2)))) else none)
set_option maxRecDepth 100000 in
set_option maxHeartbeats 4000000 in
theorem tX2_oneStone_3 {La : gz_L}      : ∀ (n : Nat) (x1 : Int32) (x2 : Int32) (x3 : Int32) (x4 : Int32) (g : gz_S) (r : Int32 × gz_S), fX2_oneStone_3 La    n x1 x2 x3 x4 g = some r → gz_J La 7 mX2_oneStone 3 [some (.ref 10), some (.int x1), some (.int x2), some (.int x3), some (.int x4)] [] g (gz_Fi r) := by
  intro n
  induction n with
  | zero => intro x1 x2 x3 x4 g r hf; exact nomatch (show (none : Option (Int32 × gz_S)) = some r from hf)
  | succ n ih =>
    intro x1 x2 x3 x4 g r hf
    unfold fX2_oneStone_3 at hf
    refine sz_iload dX2_oneStone_3 rfl ?_
    refine sz_aload_n dX2_oneStone_5 rfl ?_
    refine sz_getR dX2_oneStone_6 flX2_23 kd10 rfl rf10_2 ?_
    obtain ⟨q9, eq9, hf⟩ := gz_bd hf
    refine sz_callVi [] [.int x4] dX2_oneStone_9 mvX2_69 (Nat.le_of_ble_eq_true rfl) (by decide : 6 < 13) kd6 rfl (Nat.le_of_ble_eq_true rfl) (kX6_cells  (Or.inr (Or.inl rfl)) eq9) ?_
    refine sz_icmp_ge 80 dX2_oneStone_12 (by decide) (fun c12 => ?_) (fun c12 => ?_)
    · have hf := gz_ip c12 hf
      refine sz_iconst dX2_oneStone_80 (cIm1) ?_
      cases hf
      exact sz_iret dX2_oneStone_81 rfl rfl ⟨rfl, rfl⟩
    · have hf := gz_in1 c12 hf
      refine sz_aload_n dX2_oneStone_15 rfl ?_
      refine sz_getR dX2_oneStone_16 flX2_11 kd10 rfl rf10_6 ?_
      refine sz_iload dX2_oneStone_19 rfl ?_
      refine sz_iconst dX2_oneStone_21 (cIm1) ?_
      obtain ⟨c22, hf⟩ := gz_gd hf
      obtain ⟨g22, eg22, hf⟩ := gz_lt hf
      refine sz_iastL dX2_oneStone_22 kd30 c22 rfl eg22 ?_
      refine sz_aload_n dX2_oneStone_23 rfl ?_
      refine sz_getI dX2_oneStone_24 flX2_66 kd10 rfl ?_
      refine sz_iload dX2_oneStone_27 rfl ?_
      refine sz_ishr dX2_oneStone_29 ?_
      refine sz_iconst dX2_oneStone_30 (cI1) ?_
      refine sz_iand dX2_oneStone_31 ?_
      refine sz_if_eq 74 dX2_oneStone_32 (by decide) (fun c32 => ?_) (fun c32 => ?_)
      · have hf := gz_ip c32 hf
        exact tX2_oneStone_74   ih _ _ _ _ _ _ hf
      · have hf := gz_in1 c32 hf
        refine sz_aload_n dX2_oneStone_35 rfl ?_
        refine sz_iload dX2_oneStone_36 rfl ?_
        obtain ⟨q38, eq38, hf⟩ := gz_bd hf
        refine sz_callVi [.int x4] [] dX2_oneStone_38 mvX2_73 (Nat.le_of_ble_eq_true rfl) (by decide : 2 < 13) kd10 rfl (Nat.le_of_ble_eq_true rfl) (kX2_isFree   eq38) ?_
        refine sz_if_eq 74 dX2_oneStone_41 (by decide) (fun c41 => ?_) (fun c41 => ?_)
        · have hf := gz_ip c41 hf
          exact tX2_oneStone_74   ih _ _ _ _ _ _ hf
        · have hf := gz_in1 c41 hf
          refine sz_aload_n dX2_oneStone_44 rfl ?_
          refine sz_iload_n dX2_oneStone_45 rfl ?_
          refine sz_iload_n dX2_oneStone_46 rfl ?_
          refine sz_iload_n dX2_oneStone_47 rfl ?_
          refine sz_iload dX2_oneStone_48 rfl ?_
          refine sz_iconst dX2_oneStone_50 (cIm1) ?_
          obtain ⟨q51, eq51, hf⟩ := gz_bd hf
          refine sz_callVi [.int x1, .int x2, .int x3, .int x4, .int (-1)] [] dX2_oneStone_51 mvX2_58 (Nat.le_of_ble_eq_true rfl) (by decide : 2 < 13) kd10 rfl (Nat.le_of_ble_eq_true rfl) (kX2_keepsApart   eq51) ?_
          refine sz_if_eq 60 dX2_oneStone_54 (by decide) (fun c54 => ?_) (fun c54 => ?_)
          · have hf := gz_ip c54 hf
            refine sz_aload_n dX2_oneStone_60 rfl ?_
            refine sz_getR dX2_oneStone_61 flX2_11 kd10 rfl rf10_6 ?_
            refine sz_iload dX2_oneStone_64 rfl ?_
            refine sz_aload_n dX2_oneStone_66 rfl ?_
            refine sz_getR dX2_oneStone_67 flX2_30 kd10 rfl rf10_4 ?_
            refine sz_getI dX2_oneStone_70 flX2_62 kd8 rfl ?_
            obtain ⟨c73, hf⟩ := gz_gd hf
            obtain ⟨g73, eg73, hf⟩ := gz_lt hf
            refine sz_iastL dX2_oneStone_73 kd30 c73 rfl eg73 ?_
            exact tX2_oneStone_74   ih _ _ _ _ _ _ hf
          · have hf := gz_in1 c54 hf
            refine sz_iload dX2_oneStone_57 rfl ?_
            cases hf
            exact sz_iret dX2_oneStone_59 rfl rfl ⟨rfl, rfl⟩
def fX2_oneStone (La : gz_L)  (x1 : Int32) (x2 : Int32) (x3 : Int32) (g : gz_S) : Option (Int32 × gz_S) :=
  fX2_oneStone_3 La    gz_FU x1 x2 x3 0 g
set_option maxRecDepth 100000 in
set_option maxHeartbeats 4000000 in
theorem kX2_oneStone {La : gz_L}  {x1 : Int32} {x2 : Int32} {x3 : Int32} {g : gz_S} {r : Int32 × gz_S}  (hf : fX2_oneStone La  x1 x2 x3 g = some r) : gz_K La 7 mX2_oneStone [.ref 10, .int x1, .int x2, .int x3] g (gz_Fi r) := by
  unfold fX2_oneStone at hf
  refine gz_K.of 1 (by decide +kernel) rfl ?_
  show gz_J La 7 mX2_oneStone 0 [some (.ref 10), some (.int x1), some (.int x2), some (.int x3), none] [] g (gz_Fi r)
  refine sz_iconst dX2_oneStone_0 (cI0) ?_
  refine sz_istore dX2_oneStone_1 (Nat.le_of_ble_eq_true rfl) rfl ?_
  refine sz_ls (l2 := [some (.ref 10), some (.int x1), some (.int x2), some (.int x3), some (.int 0)]) rfl ?_
  exact tX2_oneStone_3    _ _ _ _ _ _ _ hf
def fX2_twoStones_138 (La : gz_L)   (k21 : Int32 → Int32 → Int32 → Int32 → Int32 → gz_S → Option (Int32 × gz_S)) (x1 : Int32) (x2 : Int32) (x3 : Int32) (x4 : Int32) (x5 : Int32) (g : gz_S) : Option (Int32 × gz_S) := gz_let (x5 + 1) (fun y138 => k21 x1 x2 x3 x4 y138 g)
set_option maxRecDepth 100000 in
set_option maxHeartbeats 4000000 in
theorem tX2_twoStones_138 {La : gz_L}   {k21 : Int32 → Int32 → Int32 → Int32 → Int32 → gz_S → Option (Int32 × gz_S)}  (hk21 : ∀ (x1 : Int32) (x2 : Int32) (x3 : Int32) (x4 : Int32) (x5 : Int32) (g : gz_S) (r : Int32 × gz_S), k21 x1 x2 x3 x4 x5 g = some r → gz_J La 7 mX2_twoStones 21 [some (.ref 10), some (.int x1), some (.int x2), some (.int x3), some (.int x4), some (.int x5), none] [] g (gz_Fi r)) : ∀ (x1 : Int32) (x2 : Int32) (x3 : Int32) (x4 : Int32) (x5 : Int32) (g : gz_S) (r : Int32 × gz_S), fX2_twoStones_138 La   k21 x1 x2 x3 x4 x5 g = some r → gz_J La 7 mX2_twoStones 138 [some (.ref 10), some (.int x1), some (.int x2), some (.int x3), some (.int x4), some (.int x5), none] [] g (gz_Fi r) := by
  intro x1 x2 x3 x4 x5 g r hf
  unfold fX2_twoStones_138 at hf
  obtain ⟨y138, ey138, hf⟩ := gz_lt hf
  refine sz_iinc (v := y138) dX2_twoStones_138 rfl (by rw [ey138, cI1]) (Nat.le_of_ble_eq_true rfl) rfl ?_
  refine sz_ls (l2 := [some (.ref 10), some (.int x1), some (.int x2), some (.int x3), some (.int x4), some (.int y138), none]) rfl ?_
  refine sz_goto 21 dX2_twoStones_141 (by decide) ?_
  exact hk21 _ _ _ _ _ _ _ hf
def fX2_twoStones_90 (La : gz_L)   (k21 : Int32 → Int32 → Int32 → Int32 → Int32 → gz_S → Option (Int32 × gz_S)) (k129 : Int32 → Int32 → gz_S → Option (Int32 × gz_S)) (x1 : Int32) (x2 : Int32) (x3 : Int32) (x4 : Int32) (x5 : Int32) (s0 : Int32) (g : gz_S) : Option (Int32 × gz_S) := if s0 = 0 then fX2_twoStones_138 La   k21  x1 x2 x3 x4 x5 g else (fX2_isFree La  x4 g).bind (fun q100 => if q100.1 = 0 then fX2_twoStones_138 La   k21  x1 x2 x3 x4 x5 q100.2 else (fX2_isFree La  x5 q100.2).bind (fun q109 => if q109.1 = 0 then fX2_twoStones_138 La   k21  x1 x2 x3 x4 x5 q109.2 else (fX2_keepsApart La  x1 x2 x3 x4 x5 q109.2).bind (fun q123 => if q123.1 = 0 then fX2_twoStones_138 La   k21  x1 x2 x3 x4 x5 q123.2 else k129 x4 x5 q123.2)))
set_option maxRecDepth 100000 in
set_option maxHeartbeats 4000000 in
theorem tX2_twoStones_90 {La : gz_L}   {k21 : Int32 → Int32 → Int32 → Int32 → Int32 → gz_S → Option (Int32 × gz_S)} {k129 : Int32 → Int32 → gz_S → Option (Int32 × gz_S)}  (hk21 : ∀ (x1 : Int32) (x2 : Int32) (x3 : Int32) (x4 : Int32) (x5 : Int32) (g : gz_S) (r : Int32 × gz_S), k21 x1 x2 x3 x4 x5 g = some r → gz_J La 7 mX2_twoStones 21 [some (.ref 10), some (.int x1), some (.int x2), some (.int x3), some (.int x4), some (.int x5), none] [] g (gz_Fi r)) (hk129 : ∀ (x4 : Int32) (x5 : Int32) (g : gz_S) (r : Int32 × gz_S), k129 x4 x5 g = some r → gz_J La 7 mX2_twoStones 129 [none, none, none, none, some (.int x4), some (.int x5), none] [] g (gz_Fi r)) : ∀ (x1 : Int32) (x2 : Int32) (x3 : Int32) (x4 : Int32) (x5 : Int32) (s0 : Int32) (g : gz_S) (r : Int32 × gz_S), fX2_twoStones_90 La   k21 k129 x1 x2 x3 x4 x5 s0 g = some r → gz_J La 7 mX2_twoStones 90 [some (.ref 10), some (.int x1), some (.int x2), some (.int x3), some (.int x4), some (.int x5), none] [.int s0] g (gz_Fi r) := by
  intro x1 x2 x3 x4 x5 s0 g r hf
  unfold fX2_twoStones_90 at hf
  refine sz_istore dX2_twoStones_90 (Nat.le_of_ble_eq_true rfl) rfl ?_
  refine sz_ls (l2 := [some (.ref 10), some (.int x1), some (.int x2), some (.int x3), some (.int x4), some (.int x5), some (.int s0)]) rfl ?_
  refine sz_iload dX2_twoStones_92 rfl ?_
  refine sz_if_eq 138 dX2_twoStones_94 (by decide) (fun c94 => ?_) (fun c94 => ?_)
  · have hf := gz_ip c94 hf
    refine sz_weak (l2 := [some (.ref 10), some (.int x1), some (.int x2), some (.int x3), some (.int x4), some (.int x5), none]) (gz_subk (gz_subk (gz_subk (gz_subk (gz_subk (gz_subk (gz_subn gz_sub0))))))) ?_
    exact tX2_twoStones_138   hk21 _ _ _ _ _ _ _ hf
  · have hf := gz_in1 c94 hf
    refine sz_aload_n dX2_twoStones_97 rfl ?_
    refine sz_iload dX2_twoStones_98 rfl ?_
    obtain ⟨q100, eq100, hf⟩ := gz_bd hf
    refine sz_callVi [.int x4] [] dX2_twoStones_100 mvX2_73 (Nat.le_of_ble_eq_true rfl) (by decide : 2 < 13) kd10 rfl (Nat.le_of_ble_eq_true rfl) (kX2_isFree   eq100) ?_
    refine sz_if_eq 138 dX2_twoStones_103 (by decide) (fun c103 => ?_) (fun c103 => ?_)
    · have hf := gz_ip c103 hf
      refine sz_weak (l2 := [some (.ref 10), some (.int x1), some (.int x2), some (.int x3), some (.int x4), some (.int x5), none]) (gz_subk (gz_subk (gz_subk (gz_subk (gz_subk (gz_subk (gz_subn gz_sub0))))))) ?_
      exact tX2_twoStones_138   hk21 _ _ _ _ _ _ _ hf
    · have hf := gz_in1 c103 hf
      refine sz_aload_n dX2_twoStones_106 rfl ?_
      refine sz_iload dX2_twoStones_107 rfl ?_
      obtain ⟨q109, eq109, hf⟩ := gz_bd hf
      refine sz_callVi [.int x5] [] dX2_twoStones_109 mvX2_73 (Nat.le_of_ble_eq_true rfl) (by decide : 2 < 13) kd10 rfl (Nat.le_of_ble_eq_true rfl) (kX2_isFree   eq109) ?_
      refine sz_if_eq 138 dX2_twoStones_112 (by decide) (fun c112 => ?_) (fun c112 => ?_)
      · have hf := gz_ip c112 hf
        refine sz_weak (l2 := [some (.ref 10), some (.int x1), some (.int x2), some (.int x3), some (.int x4), some (.int x5), none]) (gz_subk (gz_subk (gz_subk (gz_subk (gz_subk (gz_subk (gz_subn gz_sub0))))))) ?_
        exact tX2_twoStones_138   hk21 _ _ _ _ _ _ _ hf
      · have hf := gz_in1 c112 hf
        refine sz_aload_n dX2_twoStones_115 rfl ?_
        refine sz_iload_n dX2_twoStones_116 rfl ?_
        refine sz_iload_n dX2_twoStones_117 rfl ?_
        refine sz_iload_n dX2_twoStones_118 rfl ?_
        refine sz_iload dX2_twoStones_119 rfl ?_
        refine sz_iload dX2_twoStones_121 rfl ?_
        obtain ⟨q123, eq123, hf⟩ := gz_bd hf
        refine sz_callVi [.int x1, .int x2, .int x3, .int x4, .int x5] [] dX2_twoStones_123 mvX2_58 (Nat.le_of_ble_eq_true rfl) (by decide : 2 < 13) kd10 rfl (Nat.le_of_ble_eq_true rfl) (kX2_keepsApart   eq123) ?_
        refine sz_if_eq 138 dX2_twoStones_126 (by decide) (fun c126 => ?_) (fun c126 => ?_)
        · have hf := gz_ip c126 hf
          refine sz_weak (l2 := [some (.ref 10), some (.int x1), some (.int x2), some (.int x3), some (.int x4), some (.int x5), none]) (gz_subk (gz_subk (gz_subk (gz_subk (gz_subk (gz_subk (gz_subn gz_sub0))))))) ?_
          exact tX2_twoStones_138   hk21 _ _ _ _ _ _ _ hf
        · have hf := gz_in1 c126 hf
          refine sz_weak (l2 := [none, none, none, none, some (.int x4), some (.int x5), none]) (gz_subn (gz_subn (gz_subn (gz_subn (gz_subk (gz_subk (gz_subn gz_sub0))))))) ?_
          exact hk129 _ _ _ _ hf
def fX2_twoStones_89 (La : gz_L)   (k21 : Int32 → Int32 → Int32 → Int32 → Int32 → gz_S → Option (Int32 × gz_S)) (k129 : Int32 → Int32 → gz_S → Option (Int32 × gz_S)) (x1 : Int32) (x2 : Int32) (x3 : Int32) (x4 : Int32) (x5 : Int32) (g : gz_S) : Option (Int32 × gz_S) := fX2_twoStones_90 La   k21 k129  x1 x2 x3 x4 x5 0 g
set_option maxRecDepth 100000 in
set_option maxHeartbeats 4000000 in
theorem tX2_twoStones_89 {La : gz_L}   {k21 : Int32 → Int32 → Int32 → Int32 → Int32 → gz_S → Option (Int32 × gz_S)} {k129 : Int32 → Int32 → gz_S → Option (Int32 × gz_S)}  (hk21 : ∀ (x1 : Int32) (x2 : Int32) (x3 : Int32) (x4 : Int32) (x5 : Int32) (g : gz_S) (r : Int32 × gz_S), k21 x1 x2 x3 x4 x5 g = some r → gz_J La 7 mX2_twoStones 21 [some (.ref 10), some (.int x1), some (.int x2), some (.int x3), some (.int x4), some (.int x5), none] [] g (gz_Fi r)) (hk129 : ∀ (x4 : Int32) (x5 : Int32) (g : gz_S) (r : Int32 × gz_S), k129 x4 x5 g = some r → gz_J La 7 mX2_twoStones 129 [none, none, none, none, some (.int x4), some (.int x5), none] [] g (gz_Fi r)) : ∀ (x1 : Int32) (x2 : Int32) (x3 : Int32) (x4 : Int32) (x5 : Int32) (g : gz_S) (r : Int32 × gz_S), fX2_twoStones_89 La   k21 k129 x1 x2 x3 x4 x5 g = some r → gz_J La 7 mX2_twoStones 89 [some (.ref 10), some (.int x1), some (.int x2), some (.int x3), some (.int x4), some (.int x5), none] [] g (gz_Fi r) := by
  intro x1 x2 x3 x4 x5 g r hf
  unfold fX2_twoStones_89 at hf
  refine sz_iconst dX2_twoStones_89 (cI0) ?_
  exact tX2_twoStones_90   hk21 hk129 _ _ _ _ _ _ _ _ hf
def fX2_twoStones_21 (La : gz_L)   (k144 : Int32 → Int32 → Int32 → Int32 → gz_S → Option (Int32 × gz_S)) (k129 : Int32 → Int32 → gz_S → Option (Int32 × gz_S)) : Nat → Int32 → Int32 → Int32 → Int32 → Int32 → gz_S → Option (Int32 × gz_S)
  | 0, _, _, _, _, _, _ => none
  | n + 1, x1, x2, x3, x4, x5, g => (fX6_cells La  6 g).bind (fun q27 => if q27.1 ≤ x5 then k144 x1 x2 x3 x4 q27.2 else if ((((q27.2.1 10 5) >>> (x4 &&& 31)) &&& (1 : Int32)) ||| (((q27.2.1 10 5) >>> (x5 &&& 31)) &&& (1 : Int32))) = 0 then fX2_twoStones_89 La   (fX2_twoStones_21 La   k144 k129 n) k129  x1 x2 x3 x4 x5 q27.2 else if gz_ok x4 30 then if (((q27.2.1 30 (Int32.toNatClampNeg x4)) >>> (x5 &&& 31)) &&& (1 : Int32)) = 0 then fX2_twoStones_89 La   (fX2_twoStones_21 La   k144 k129 n) k129  x1 x2 x3 x4 x5 q27.2 else if gz_ok x5 30 then if (((q27.2.1 30 (Int32.toNatClampNeg x5)) >>> (x4 &&& 31)) &&& (1 : Int32)) = 0 then fX2_twoStones_89 La   (fX2_twoStones_21 La   k144 k129 n) k129  x1 x2 x3 x4 x5 q27.2 else fX2_twoStones_90 La   (fX2_twoStones_21 La   k144 k129 n) k129  x1 x2 x3 x4 x5 1 q27.2 else none else none)
set_option maxRecDepth 100000 in
set_option maxHeartbeats 4000000 in
theorem tX2_twoStones_21 {La : gz_L}   {k144 : Int32 → Int32 → Int32 → Int32 → gz_S → Option (Int32 × gz_S)} {k129 : Int32 → Int32 → gz_S → Option (Int32 × gz_S)}  (hk144 : ∀ (x1 : Int32) (x2 : Int32) (x3 : Int32) (x4 : Int32) (g : gz_S) (r : Int32 × gz_S), k144 x1 x2 x3 x4 g = some r → gz_J La 7 mX2_twoStones 144 [some (.ref 10), some (.int x1), some (.int x2), some (.int x3), some (.int x4), none, none] [] g (gz_Fi r)) (hk129 : ∀ (x4 : Int32) (x5 : Int32) (g : gz_S) (r : Int32 × gz_S), k129 x4 x5 g = some r → gz_J La 7 mX2_twoStones 129 [none, none, none, none, some (.int x4), some (.int x5), none] [] g (gz_Fi r)) : ∀ (n : Nat) (x1 : Int32) (x2 : Int32) (x3 : Int32) (x4 : Int32) (x5 : Int32) (g : gz_S) (r : Int32 × gz_S), fX2_twoStones_21 La   k144 k129 n x1 x2 x3 x4 x5 g = some r → gz_J La 7 mX2_twoStones 21 [some (.ref 10), some (.int x1), some (.int x2), some (.int x3), some (.int x4), some (.int x5), none] [] g (gz_Fi r) := by
  intro n
  induction n with
  | zero => intro x1 x2 x3 x4 x5 g r hf; exact nomatch (show (none : Option (Int32 × gz_S)) = some r from hf)
  | succ n ih =>
    intro x1 x2 x3 x4 x5 g r hf
    unfold fX2_twoStones_21 at hf
    refine sz_iload dX2_twoStones_21 rfl ?_
    refine sz_aload_n dX2_twoStones_23 rfl ?_
    refine sz_getR dX2_twoStones_24 flX2_23 kd10 rfl rf10_2 ?_
    obtain ⟨q27, eq27, hf⟩ := gz_bd hf
    refine sz_callVi [] [.int x5] dX2_twoStones_27 mvX2_69 (Nat.le_of_ble_eq_true rfl) (by decide : 6 < 13) kd6 rfl (Nat.le_of_ble_eq_true rfl) (kX6_cells  (Or.inr (Or.inl rfl)) eq27) ?_
    refine sz_icmp_ge 144 dX2_twoStones_30 (by decide) (fun c30 => ?_) (fun c30 => ?_)
    · have hf := gz_ip c30 hf
      refine sz_weak (l2 := [some (.ref 10), some (.int x1), some (.int x2), some (.int x3), some (.int x4), none, none]) (gz_subk (gz_subk (gz_subk (gz_subk (gz_subk (gz_subn (gz_subk gz_sub0))))))) ?_
      exact hk144 _ _ _ _ _ _ hf
    · have hf := gz_in1 c30 hf
      refine sz_aload_n dX2_twoStones_33 rfl ?_
      refine sz_getI dX2_twoStones_34 flX2_66 kd10 rfl ?_
      refine sz_iload dX2_twoStones_37 rfl ?_
      refine sz_ishr dX2_twoStones_39 ?_
      refine sz_iconst dX2_twoStones_40 (cI1) ?_
      refine sz_iand dX2_twoStones_41 ?_
      refine sz_aload_n dX2_twoStones_42 rfl ?_
      refine sz_getI dX2_twoStones_43 flX2_66 kd10 rfl ?_
      refine sz_iload dX2_twoStones_46 rfl ?_
      refine sz_ishr dX2_twoStones_48 ?_
      refine sz_iconst dX2_twoStones_49 (cI1) ?_
      refine sz_iand dX2_twoStones_50 ?_
      refine sz_ior dX2_twoStones_51 ?_
      refine sz_if_eq 89 dX2_twoStones_52 (by decide) (fun c52 => ?_) (fun c52 => ?_)
      · have hf := gz_ip c52 hf
        exact tX2_twoStones_89   ih hk129 _ _ _ _ _ _ _ hf
      · have hf := gz_in1 c52 hf
        refine sz_aload_n dX2_twoStones_55 rfl ?_
        refine sz_getR dX2_twoStones_56 flX2_11 kd10 rfl rf10_6 ?_
        refine sz_iload dX2_twoStones_59 rfl ?_
        obtain ⟨c61, hf⟩ := gz_gd hf
        refine sz_ialdL dX2_twoStones_61 kd30 c61 rfl ?_
        refine sz_iload dX2_twoStones_62 rfl ?_
        refine sz_ishr dX2_twoStones_64 ?_
        refine sz_iconst dX2_twoStones_65 (cI1) ?_
        refine sz_iand dX2_twoStones_66 ?_
        refine sz_if_eq 89 dX2_twoStones_67 (by decide) (fun c67 => ?_) (fun c67 => ?_)
        · have hf := gz_ip c67 hf
          exact tX2_twoStones_89   ih hk129 _ _ _ _ _ _ _ hf
        · have hf := gz_in1 c67 hf
          refine sz_aload_n dX2_twoStones_70 rfl ?_
          refine sz_getR dX2_twoStones_71 flX2_11 kd10 rfl rf10_6 ?_
          refine sz_iload dX2_twoStones_74 rfl ?_
          obtain ⟨c76, hf⟩ := gz_gd hf
          refine sz_ialdL dX2_twoStones_76 kd30 c76 rfl ?_
          refine sz_iload dX2_twoStones_77 rfl ?_
          refine sz_ishr dX2_twoStones_79 ?_
          refine sz_iconst dX2_twoStones_80 (cI1) ?_
          refine sz_iand dX2_twoStones_81 ?_
          refine sz_if_eq 89 dX2_twoStones_82 (by decide) (fun c82 => ?_) (fun c82 => ?_)
          · have hf := gz_ip c82 hf
            exact tX2_twoStones_89   ih hk129 _ _ _ _ _ _ _ hf
          · have hf := gz_in1 c82 hf
            refine sz_iconst dX2_twoStones_85 (cI1) ?_
            refine sz_goto 90 dX2_twoStones_86 (by decide) ?_
            exact tX2_twoStones_90   ih hk129 _ _ _ _ _ _ _ _ hf
def fX2_twoStones_3 (La : gz_L)   (k129 : Int32 → Int32 → gz_S → Option (Int32 × gz_S)) : Nat → Int32 → Int32 → Int32 → Int32 → gz_S → Option (Int32 × gz_S)
  | 0, _, _, _, _, _ => none
  | n + 1, x1, x2, x3, x4, g => (fX6_cells La  6 g).bind (fun q9 => if q9.1 ≤ x4 then some ((-1), q9.2) else gz_let (x4 + 1) (fun y19 => fX2_twoStones_21 La   (fun (x1 : Int32) (x2 : Int32) (x3 : Int32) (x4 : Int32) g => gz_let (x4 + 1) (fun y144 => fX2_twoStones_3 La   k129 n x1 x2 x3 y144 g)) k129 gz_FU x1 x2 x3 x4 y19 q9.2))
set_option maxRecDepth 100000 in
set_option maxHeartbeats 4000000 in
theorem tX2_twoStones_3 {La : gz_L}   {k129 : Int32 → Int32 → gz_S → Option (Int32 × gz_S)}  (hk129 : ∀ (x4 : Int32) (x5 : Int32) (g : gz_S) (r : Int32 × gz_S), k129 x4 x5 g = some r → gz_J La 7 mX2_twoStones 129 [none, none, none, none, some (.int x4), some (.int x5), none] [] g (gz_Fi r)) : ∀ (n : Nat) (x1 : Int32) (x2 : Int32) (x3 : Int32) (x4 : Int32) (g : gz_S) (r : Int32 × gz_S), fX2_twoStones_3 La   k129 n x1 x2 x3 x4 g = some r → gz_J La 7 mX2_twoStones 3 [some (.ref 10), some (.int x1), some (.int x2), some (.int x3), some (.int x4), none, none] [] g (gz_Fi r) := by
  intro n
  induction n with
  | zero => intro x1 x2 x3 x4 g r hf; exact nomatch (show (none : Option (Int32 × gz_S)) = some r from hf)
  | succ n ih =>
    intro x1 x2 x3 x4 g r hf
    unfold fX2_twoStones_3 at hf
    refine sz_iload dX2_twoStones_3 rfl ?_
    refine sz_aload_n dX2_twoStones_5 rfl ?_
    refine sz_getR dX2_twoStones_6 flX2_23 kd10 rfl rf10_2 ?_
    obtain ⟨q9, eq9, hf⟩ := gz_bd hf
    refine sz_callVi [] [.int x4] dX2_twoStones_9 mvX2_69 (Nat.le_of_ble_eq_true rfl) (by decide : 6 < 13) kd6 rfl (Nat.le_of_ble_eq_true rfl) (kX6_cells  (Or.inr (Or.inl rfl)) eq9) ?_
    refine sz_icmp_ge 150 dX2_twoStones_12 (by decide) (fun c12 => ?_) (fun c12 => ?_)
    · have hf := gz_ip c12 hf
      refine sz_iconst dX2_twoStones_150 (cIm1) ?_
      cases hf
      exact sz_iret dX2_twoStones_151 rfl rfl ⟨rfl, rfl⟩
    · have hf := gz_in1 c12 hf
      refine sz_iload dX2_twoStones_15 rfl ?_
      refine sz_iconst dX2_twoStones_17 (cI1) ?_
      refine sz_iadd dX2_twoStones_18 ?_
      obtain ⟨y19, ey19, hf⟩ := gz_lt hf
      refine sz_topi ey19 ?_
      refine sz_istore dX2_twoStones_19 (Nat.le_of_ble_eq_true rfl) rfl ?_
      refine sz_ls (l2 := [some (.ref 10), some (.int x1), some (.int x2), some (.int x3), some (.int x4), some (.int y19), none]) rfl ?_
      have hk144 : ∀ (x1 : Int32) (x2 : Int32) (x3 : Int32) (x4 : Int32) (g : gz_S) (r : Int32 × gz_S), (fun (x1 : Int32) (x2 : Int32) (x3 : Int32) (x4 : Int32) g => gz_let (x4 + 1) (fun y144 => fX2_twoStones_3 La   k129 n x1 x2 x3 y144 g)) x1 x2 x3 x4 g = some r → gz_J La 7 mX2_twoStones 144 [some (.ref 10), some (.int x1), some (.int x2), some (.int x3), some (.int x4), none, none] [] g (gz_Fi r) := by
        intro x1 x2 x3 x4 g r hf
        obtain ⟨y144, ey144, hf⟩ := gz_lt hf
        refine sz_iinc (v := y144) dX2_twoStones_144 rfl (by rw [ey144, cI1]) (Nat.le_of_ble_eq_true rfl) rfl ?_
        refine sz_ls (l2 := [some (.ref 10), some (.int x1), some (.int x2), some (.int x3), some (.int y144), none, none]) rfl ?_
        refine sz_goto 3 dX2_twoStones_147 (by decide) ?_
        exact ih _ _ _ _ _ _ hf
      exact tX2_twoStones_21   hk144 hk129 _ _ _ _ _ _ _ _ hf
def fX2_twoStones (La : gz_L)  (x1 : Int32) (x2 : Int32) (x3 : Int32) (g : gz_S) : Option (Int32 × gz_S) :=
  fX2_twoStones_3 La   (fun (x4 : Int32) (x5 : Int32) g => some ((x4 * 100) + x5, g)) gz_FU x1 x2 x3 0 g
set_option maxRecDepth 100000 in
set_option maxHeartbeats 4000000 in
theorem kX2_twoStones {La : gz_L}  {x1 : Int32} {x2 : Int32} {x3 : Int32} {g : gz_S} {r : Int32 × gz_S}  (hf : fX2_twoStones La  x1 x2 x3 g = some r) : gz_K La 7 mX2_twoStones [.ref 10, .int x1, .int x2, .int x3] g (gz_Fi r) := by
  unfold fX2_twoStones at hf
  refine gz_K.of 3 (by decide +kernel) rfl ?_
  show gz_J La 7 mX2_twoStones 0 [some (.ref 10), some (.int x1), some (.int x2), some (.int x3), none, none, none] [] g (gz_Fi r)
  refine sz_iconst dX2_twoStones_0 (cI0) ?_
  refine sz_istore dX2_twoStones_1 (Nat.le_of_ble_eq_true rfl) rfl ?_
  refine sz_ls (l2 := [some (.ref 10), some (.int x1), some (.int x2), some (.int x3), some (.int 0), none, none]) rfl ?_
  have hk129 : ∀ (x4 : Int32) (x5 : Int32) (g : gz_S) (r : Int32 × gz_S), (fun (x4 : Int32) (x5 : Int32) g => some ((x4 * 100) + x5, g)) x4 x5 g = some r → gz_J La 7 mX2_twoStones 129 [none, none, none, none, some (.int x4), some (.int x5), none] [] g (gz_Fi r) := by
    intro x4 x5 g r hf
    refine sz_iload dX2_twoStones_129 rfl ?_
    refine sz_bipush dX2_twoStones_131 (cB100) ?_
    refine sz_imul dX2_twoStones_133 ?_
    refine sz_iload dX2_twoStones_134 rfl ?_
    refine sz_iadd dX2_twoStones_136 ?_
    cases hf
    exact sz_iret dX2_twoStones_137 rfl rfl ⟨rfl, rfl⟩
  exact tX2_twoStones_3   hk129 _ _ _ _ _ _ _ hf
def fX2_play_122 (La : gz_L)   (k50 : Int32 → Int32 → Int32 → Int32 → Int32 → Int32 → gz_S → Option (gz_S)) (x1 : Int32) (x2 : Int32) (x5 : Int32) (x6 : Int32) (x7 : Int32) (x8 : Int32) (g : gz_S) : Option (gz_S) := gz_let (x8 + 1) (fun y122 => k50 x1 x2 x5 x6 x7 y122 g)
set_option maxRecDepth 100000 in
set_option maxHeartbeats 4000000 in
theorem tX2_play_122 {La : gz_L}   {k50 : Int32 → Int32 → Int32 → Int32 → Int32 → Int32 → gz_S → Option (gz_S)}  (hk50 : ∀ (x1 : Int32) (x2 : Int32) (x5 : Int32) (x6 : Int32) (x7 : Int32) (x8 : Int32) (g : gz_S) (r : gz_S), k50 x1 x2 x5 x6 x7 x8 g = some r → gz_J La 6 mX2_play 50 [some (.ref 10), some (.int x1), some (.int x2), none, none, some (.int x5), some (.int x6), some (.int x7), some (.int x8)] [] g (gz_Fv r)) : ∀ (x1 : Int32) (x2 : Int32) (x5 : Int32) (x6 : Int32) (x7 : Int32) (x8 : Int32) (g : gz_S) (r : gz_S), fX2_play_122 La   k50 x1 x2 x5 x6 x7 x8 g = some r → gz_J La 6 mX2_play 122 [some (.ref 10), some (.int x1), some (.int x2), none, none, some (.int x5), some (.int x6), some (.int x7), some (.int x8)] [] g (gz_Fv r) := by
  intro x1 x2 x5 x6 x7 x8 g r hf
  unfold fX2_play_122 at hf
  obtain ⟨y122, ey122, hf⟩ := gz_lt hf
  refine sz_iinc (v := y122) dX2_play_122 rfl (by rw [ey122, cI1]) (Nat.le_of_ble_eq_true rfl) rfl ?_
  refine sz_ls (l2 := [some (.ref 10), some (.int x1), some (.int x2), none, none, some (.int x5), some (.int x6), some (.int x7), some (.int y122)]) rfl ?_
  refine sz_goto 50 dX2_play_125 (by decide) ?_
  exact hk50 _ _ _ _ _ _ _ _ hf
def fX2_play_50 (La : gz_L)   (k128 : Int32 → Int32 → Int32 → Int32 → Int32 → gz_S → Option (gz_S)) : Nat → Int32 → Int32 → Int32 → Int32 → Int32 → Int32 → gz_S → Option (gz_S)
  | 0, _, _, _, _, _, _, _ => none
  | n + 1, x1, x2, x5, x6, x7, x8, g => if 6 ≤ x8 then k128 x1 x2 x5 x6 x7 g else (fX10_passHour La  7 g).bind (fun q65 => if gz_ok ((30 : Int32) + x1) 61 then gz_let (x5 ||| ((1 : Int32) <<< ((q65.2.1 23 (Int32.toNatClampNeg ((30 : Int32) + x1))) &&& 31))) (fun y86 => if gz_ok ((30 : Int32) + x2) 61 then gz_let (x6 ||| ((1 : Int32) <<< ((q65.2.1 23 (Int32.toNatClampNeg ((30 : Int32) + x2))) &&& 31))) (fun y105 => (fX6_together La  7 x1 x2 q65.2).bind (fun q113 => if q113.1 = 0 then fX2_play_122 La   (fX2_play_50 La   k128 n)  x1 x2 y86 y105 x7 x8 q113.2 else fX2_play_122 La   (fX2_play_50 La   k128 n)  x1 x2 y86 y105 3 x8 q113.2)) else none) else none)
set_option maxRecDepth 100000 in
set_option maxHeartbeats 4000000 in
theorem tX2_play_50 {La : gz_L}   {k128 : Int32 → Int32 → Int32 → Int32 → Int32 → gz_S → Option (gz_S)}  (hk128 : ∀ (x1 : Int32) (x2 : Int32) (x5 : Int32) (x6 : Int32) (x7 : Int32) (g : gz_S) (r : gz_S), k128 x1 x2 x5 x6 x7 g = some r → gz_J La 6 mX2_play 128 [some (.ref 10), some (.int x1), some (.int x2), none, none, some (.int x5), some (.int x6), some (.int x7), none] [] g (gz_Fv r)) : ∀ (n : Nat) (x1 : Int32) (x2 : Int32) (x5 : Int32) (x6 : Int32) (x7 : Int32) (x8 : Int32) (g : gz_S) (r : gz_S), fX2_play_50 La   k128 n x1 x2 x5 x6 x7 x8 g = some r → gz_J La 6 mX2_play 50 [some (.ref 10), some (.int x1), some (.int x2), none, none, some (.int x5), some (.int x6), some (.int x7), some (.int x8)] [] g (gz_Fv r) := by
  intro n
  induction n with
  | zero => intro x1 x2 x5 x6 x7 x8 g r hf; exact nomatch (show (none : Option (gz_S)) = some r from hf)
  | succ n ih =>
    intro x1 x2 x5 x6 x7 x8 g r hf
    unfold fX2_play_50 at hf
    refine sz_iload dX2_play_50 rfl ?_
    refine sz_bipush dX2_play_52 (cB6) ?_
    refine sz_icmp_ge 128 dX2_play_54 (by decide) (fun c54 => ?_) (fun c54 => ?_)
    · have hf := gz_ip c54 hf
      refine sz_weak (l2 := [some (.ref 10), some (.int x1), some (.int x2), none, none, some (.int x5), some (.int x6), some (.int x7), none]) (gz_subk (gz_subk (gz_subk (gz_subk (gz_subk (gz_subk (gz_subk (gz_subk (gz_subn gz_sub0))))))))) ?_
      exact hk128 _ _ _ _ _ _ _ hf
    · have hf := gz_in1 c54 hf
      refine sz_aload_n dX2_play_57 rfl ?_
      refine sz_getR dX2_play_58 flX2_30 kd10 rfl rf10_4 ?_
      refine sz_aload_n dX2_play_61 rfl ?_
      refine sz_getR dX2_play_62 flX2_27 kd10 rfl rf10_3 ?_
      obtain ⟨q65, eq65, hf⟩ := gz_bd hf
      refine sz_callVi [.ref 7] [] dX2_play_65 mvX2_38 (Nat.le_of_ble_eq_true rfl) (by decide : 10 < 13) kd8 rfl (Nat.le_of_ble_eq_true rfl) (kX10_passHour  (Or.inr (Or.inr rfl)) eq65) ?_
      refine sz_pop dX2_play_68 rfl ?_
      refine sz_iload dX2_play_69 rfl ?_
      refine sz_iconst dX2_play_71 (cI1) ?_
      refine sz_aload_n dX2_play_72 rfl ?_
      refine sz_getR dX2_play_73 flX2_27 kd10 rfl rf10_3 ?_
      refine sz_getR dX2_play_76 flX2_44 kd7 rfl rf7_0 ?_
      refine sz_bipush dX2_play_79 (cB30) ?_
      refine sz_iload_n dX2_play_81 rfl ?_
      refine sz_iadd dX2_play_82 ?_
      obtain ⟨c83, hf⟩ := gz_gd hf
      refine sz_ialdL dX2_play_83 kd23 c83 rfl ?_
      refine sz_ishl dX2_play_84 ?_
      refine sz_ior dX2_play_85 ?_
      obtain ⟨y86, ey86, hf⟩ := gz_lt hf
      refine sz_topi ey86 ?_
      refine sz_istore dX2_play_86 (Nat.le_of_ble_eq_true rfl) rfl ?_
      refine sz_ls (l2 := [some (.ref 10), some (.int x1), some (.int x2), none, none, some (.int y86), some (.int x6), some (.int x7), some (.int x8)]) rfl ?_
      refine sz_iload dX2_play_88 rfl ?_
      refine sz_iconst dX2_play_90 (cI1) ?_
      refine sz_aload_n dX2_play_91 rfl ?_
      refine sz_getR dX2_play_92 flX2_27 kd10 rfl rf10_3 ?_
      refine sz_getR dX2_play_95 flX2_44 kd7 rfl rf7_0 ?_
      refine sz_bipush dX2_play_98 (cB30) ?_
      refine sz_iload_n dX2_play_100 rfl ?_
      refine sz_iadd dX2_play_101 ?_
      obtain ⟨c102, hf⟩ := gz_gd hf
      refine sz_ialdL dX2_play_102 kd23 c102 rfl ?_
      refine sz_ishl dX2_play_103 ?_
      refine sz_ior dX2_play_104 ?_
      obtain ⟨y105, ey105, hf⟩ := gz_lt hf
      refine sz_topi ey105 ?_
      refine sz_istore dX2_play_105 (Nat.le_of_ble_eq_true rfl) rfl ?_
      refine sz_ls (l2 := [some (.ref 10), some (.int x1), some (.int x2), none, none, some (.int y86), some (.int y105), some (.int x7), some (.int x8)]) rfl ?_
      refine sz_aload_n dX2_play_107 rfl ?_
      refine sz_getR dX2_play_108 flX2_27 kd10 rfl rf10_3 ?_
      refine sz_iload_n dX2_play_111 rfl ?_
      refine sz_iload_n dX2_play_112 rfl ?_
      obtain ⟨q113, eq113, hf⟩ := gz_bd hf
      refine sz_callVi [.int x1, .int x2] [] dX2_play_113 mvX2_47 (Nat.le_of_ble_eq_true rfl) (by decide : 6 < 13) kd7 rfl (Nat.le_of_ble_eq_true rfl) (kX6_together  (Or.inr (Or.inr rfl)) eq113) ?_
      refine sz_if_eq 122 dX2_play_116 (by decide) (fun c116 => ?_) (fun c116 => ?_)
      · have hf := gz_ip c116 hf
        exact tX2_play_122   ih _ _ _ _ _ _ _ _ hf
      · have hf := gz_in1 c116 hf
        refine sz_iconst dX2_play_119 (cI3) ?_
        refine sz_istore dX2_play_120 (Nat.le_of_ble_eq_true rfl) rfl ?_
        refine sz_ls (l2 := [some (.ref 10), some (.int x1), some (.int x2), none, none, some (.int y86), some (.int y105), some (.int 3), some (.int x8)]) rfl ?_
        exact tX2_play_122   ih _ _ _ _ _ _ _ _ hf
def fX2_play (La : gz_L)  (x1 : Int32) (x2 : Int32) (x3 : Int32) (x4 : Int32) (g : gz_S) : Option (gz_S) :=
  (fX6_copy La  7 6 g).bind (fun q8 => if gz_ok ((34 : Int32) + x1) 61 then gz_let (gz_wi q8 23 (Int32.toNatClampNeg ((34 : Int32) + x1)) x3) (fun g23 => if gz_ok ((34 : Int32) + x2) 61 then gz_let (gz_wi g23 23 (Int32.toNatClampNeg ((34 : Int32) + x2)) x4) (fun g37 => fX2_play_50 La   (fun (x1 : Int32) (x2 : Int32) (x5 : Int32) (x6 : Int32) (x7 : Int32) g => if gz_ok ((30 : Int32) + x1) 61 then (fJ6_bitCount_0f7a4 La  (x5 &&& (((1 : Int32) <<< ((g.1 22 (Int32.toNatClampNeg ((30 : Int32) + x1))) &&& 31)) ^^^ ((-1) : Int32))) g).bind (fun q148 => gz_let (gz_wi q148.2 10 0 (q148.1 - x7)) (fun g154 => if gz_ok ((30 : Int32) + x2) 61 then (fJ6_bitCount_0f7a4 La  (x6 &&& (((1 : Int32) <<< ((g154.1 22 (Int32.toNatClampNeg ((30 : Int32) + x2))) &&& 31)) ^^^ ((-1) : Int32))) g154).bind (fun q177 => gz_let (gz_wi q177.2 10 1 (q177.1 - x7)) (fun g183 => some g183)) else none)) else none) gz_FU x1 x2 0 0 0 0 g37) else none) else none)
set_option maxRecDepth 100000 in
set_option maxHeartbeats 4000000 in
theorem kX2_play {La : gz_L}  {x1 : Int32} {x2 : Int32} {x3 : Int32} {x4 : Int32} {g : gz_S} {r : gz_S}  (hf : fX2_play La  x1 x2 x3 x4 g = some r) : gz_K La 6 mX2_play [.ref 10, .int x1, .int x2, .int x3, .int x4] g (gz_Fv r) := by
  unfold fX2_play at hf
  refine gz_K.of 4 (by decide +kernel) rfl ?_
  show gz_J La 6 mX2_play 0 [some (.ref 10), some (.int x1), some (.int x2), some (.int x3), some (.int x4), none, none, none, none] [] g (gz_Fv r)
  refine sz_aload_n dX2_play_0 rfl ?_
  refine sz_getR dX2_play_1 flX2_27 kd10 rfl rf10_3 ?_
  refine sz_aload_n dX2_play_4 rfl ?_
  refine sz_getR dX2_play_5 flX2_23 kd10 rfl rf10_2 ?_
  obtain ⟨q8, eq8, hf⟩ := gz_bd hf
  refine sz_callVv [.ref 6] [] dX2_play_8 mvX2_34 (Nat.le_of_ble_eq_true rfl) (by decide : 6 < 13) kd7 rfl (Nat.le_of_ble_eq_true rfl) (kX6_copy  (Or.inr (Or.inr rfl)) (Or.inr (Or.inl rfl)) eq8) ?_
  refine sz_aload_n dX2_play_11 rfl ?_
  refine sz_getR dX2_play_12 flX2_27 kd10 rfl rf10_3 ?_
  refine sz_getR dX2_play_15 flX2_44 kd7 rfl rf7_0 ?_
  refine sz_bipush dX2_play_18 (cB34) ?_
  refine sz_iload_n dX2_play_20 rfl ?_
  refine sz_iadd dX2_play_21 ?_
  refine sz_iload_n dX2_play_22 rfl ?_
  obtain ⟨c23, hf⟩ := gz_gd hf
  obtain ⟨g23, eg23, hf⟩ := gz_lt hf
  refine sz_iastL dX2_play_23 kd23 c23 rfl eg23 ?_
  refine sz_aload_n dX2_play_24 rfl ?_
  refine sz_getR dX2_play_25 flX2_27 kd10 rfl rf10_3 ?_
  refine sz_getR dX2_play_28 flX2_44 kd7 rfl rf7_0 ?_
  refine sz_bipush dX2_play_31 (cB34) ?_
  refine sz_iload_n dX2_play_33 rfl ?_
  refine sz_iadd dX2_play_34 ?_
  refine sz_iload dX2_play_35 rfl ?_
  obtain ⟨c37, hf⟩ := gz_gd hf
  obtain ⟨g37, eg37, hf⟩ := gz_lt hf
  refine sz_iastL dX2_play_37 kd23 c37 rfl eg37 ?_
  refine sz_iconst dX2_play_38 (cI0) ?_
  refine sz_istore dX2_play_39 (Nat.le_of_ble_eq_true rfl) rfl ?_
  refine sz_ls (l2 := [some (.ref 10), some (.int x1), some (.int x2), some (.int x3), some (.int x4), some (.int 0), none, none, none]) rfl ?_
  refine sz_iconst dX2_play_41 (cI0) ?_
  refine sz_istore dX2_play_42 (Nat.le_of_ble_eq_true rfl) rfl ?_
  refine sz_ls (l2 := [some (.ref 10), some (.int x1), some (.int x2), some (.int x3), some (.int x4), some (.int 0), some (.int 0), none, none]) rfl ?_
  refine sz_iconst dX2_play_44 (cI0) ?_
  refine sz_istore dX2_play_45 (Nat.le_of_ble_eq_true rfl) rfl ?_
  refine sz_ls (l2 := [some (.ref 10), some (.int x1), some (.int x2), some (.int x3), some (.int x4), some (.int 0), some (.int 0), some (.int 0), none]) rfl ?_
  refine sz_iconst dX2_play_47 (cI0) ?_
  refine sz_istore dX2_play_48 (Nat.le_of_ble_eq_true rfl) rfl ?_
  refine sz_ls (l2 := [some (.ref 10), some (.int x1), some (.int x2), some (.int x3), some (.int x4), some (.int 0), some (.int 0), some (.int 0), some (.int 0)]) rfl ?_
  have hk128 : ∀ (x1 : Int32) (x2 : Int32) (x5 : Int32) (x6 : Int32) (x7 : Int32) (g : gz_S) (r : gz_S), (fun (x1 : Int32) (x2 : Int32) (x5 : Int32) (x6 : Int32) (x7 : Int32) g => if gz_ok ((30 : Int32) + x1) 61 then (fJ6_bitCount_0f7a4 La  (x5 &&& (((1 : Int32) <<< ((g.1 22 (Int32.toNatClampNeg ((30 : Int32) + x1))) &&& 31)) ^^^ ((-1) : Int32))) g).bind (fun q148 => gz_let (gz_wi q148.2 10 0 (q148.1 - x7)) (fun g154 => if gz_ok ((30 : Int32) + x2) 61 then (fJ6_bitCount_0f7a4 La  (x6 &&& (((1 : Int32) <<< ((g154.1 22 (Int32.toNatClampNeg ((30 : Int32) + x2))) &&& 31)) ^^^ ((-1) : Int32))) g154).bind (fun q177 => gz_let (gz_wi q177.2 10 1 (q177.1 - x7)) (fun g183 => some g183)) else none)) else none) x1 x2 x5 x6 x7 g = some r → gz_J La 6 mX2_play 128 [some (.ref 10), some (.int x1), some (.int x2), none, none, some (.int x5), some (.int x6), some (.int x7), none] [] g (gz_Fv r) := by
    intro x1 x2 x5 x6 x7 g r hf
    refine sz_aload_n dX2_play_128 rfl ?_
    refine sz_iload dX2_play_129 rfl ?_
    refine sz_iconst dX2_play_131 (cI1) ?_
    refine sz_aload_n dX2_play_132 rfl ?_
    refine sz_getR dX2_play_133 flX2_23 kd10 rfl rf10_2 ?_
    refine sz_getR dX2_play_136 flX2_44 kd6 rfl rf6_0 ?_
    refine sz_bipush dX2_play_139 (cB30) ?_
    refine sz_iload_n dX2_play_141 rfl ?_
    refine sz_iadd dX2_play_142 ?_
    obtain ⟨c143, hf⟩ := gz_gd hf
    refine sz_ialdL dX2_play_143 kd22 c143 rfl ?_
    refine sz_ishl dX2_play_144 ?_
    refine sz_iconst dX2_play_145 (cIm1) ?_
    refine sz_ixor dX2_play_146 ?_
    refine sz_iand dX2_play_147 ?_
    obtain ⟨q148, eq148, hf⟩ := gz_bd hf
    refine sz_callSi [.int (x5 &&& (((1 : Int32) <<< ((g.1 22 (Int32.toNatClampNeg ((30 : Int32) + x1))) &&& 31)) ^^^ ((-1) : Int32)))] [.ref 10] dX2_play_148 msX2_87 (Nat.le_of_ble_eq_true rfl) (Nat.le_of_ble_eq_true rfl) (kJ6_bitCount_0f7a4   eq148) ?_
    refine sz_iload dX2_play_151 rfl ?_
    refine sz_isub dX2_play_153 ?_
    obtain ⟨g154, eg154, hf⟩ := gz_lt hf
    refine sz_putI2 dX2_play_154 flX2_92 kd10 fi2_0 eg154 ?_
    refine sz_aload_n dX2_play_157 rfl ?_
    refine sz_iload dX2_play_158 rfl ?_
    refine sz_iconst dX2_play_160 (cI1) ?_
    refine sz_aload_n dX2_play_161 rfl ?_
    refine sz_getR dX2_play_162 flX2_23 kd10 rfl rf10_2 ?_
    refine sz_getR dX2_play_165 flX2_44 kd6 rfl rf6_0 ?_
    refine sz_bipush dX2_play_168 (cB30) ?_
    refine sz_iload_n dX2_play_170 rfl ?_
    refine sz_iadd dX2_play_171 ?_
    obtain ⟨c172, hf⟩ := gz_gd hf
    refine sz_ialdL dX2_play_172 kd22 c172 rfl ?_
    refine sz_ishl dX2_play_173 ?_
    refine sz_iconst dX2_play_174 (cIm1) ?_
    refine sz_ixor dX2_play_175 ?_
    refine sz_iand dX2_play_176 ?_
    obtain ⟨q177, eq177, hf⟩ := gz_bd hf
    refine sz_callSi [.int (x6 &&& (((1 : Int32) <<< ((g154.1 22 (Int32.toNatClampNeg ((30 : Int32) + x2))) &&& 31)) ^^^ ((-1) : Int32)))] [.ref 10] dX2_play_177 msX2_87 (Nat.le_of_ble_eq_true rfl) (Nat.le_of_ble_eq_true rfl) (kJ6_bitCount_0f7a4   eq177) ?_
    refine sz_iload dX2_play_180 rfl ?_
    refine sz_isub dX2_play_182 ?_
    obtain ⟨g183, eg183, hf⟩ := gz_lt hf
    refine sz_putI2 dX2_play_183 flX2_95 kd10 fi2_1 eg183 ?_
    cases hf
    exact sz_ret dX2_play_186 rfl ⟨rfl, rfl⟩
  refine sz_weak (l2 := [some (.ref 10), some (.int x1), some (.int x2), none, none, some (.int 0), some (.int 0), some (.int 0), some (.int 0)]) (gz_subk (gz_subk (gz_subk (gz_subn (gz_subn (gz_subk (gz_subk (gz_subk (gz_subk gz_sub0))))))))) ?_
  exact tX2_play_50   hk128 _ _ _ _ _ _ _ _ _ hf
def fX2_isRest_2 (La : gz_L)    : Nat → Int32 → Int32 → Int32 → gz_S → Option (Int32 × gz_S)
  | 0, _, _, _, _ => none
  | n + 1, x1, x2, x3, g => if 4 ≤ x3 then some (1, g) else if gz_ok ((x3 * 4) + x2) 16 then if gz_ok ((x1 * 4) + x2) 16 then if (g.1 31 (Int32.toNatClampNeg ((x1 * 4) + x2))) < (g.1 31 (Int32.toNatClampNeg ((x3 * 4) + x2))) then some (0, g) else if gz_ok ((x1 * 4) + x3) 16 then if gz_ok ((x1 * 4) + x2) 16 then if (g.1 32 (Int32.toNatClampNeg ((x1 * 4) + x3))) ≤ (g.1 32 (Int32.toNatClampNeg ((x1 * 4) + x2))) then gz_let (x3 + 1) (fun y55 => fX2_isRest_2 La    n x1 x2 y55 g) else some (0, g) else none else none else none else none
set_option maxRecDepth 100000 in
set_option maxHeartbeats 4000000 in
theorem tX2_isRest_2 {La : gz_L}      : ∀ (n : Nat) (x1 : Int32) (x2 : Int32) (x3 : Int32) (g : gz_S) (r : Int32 × gz_S), fX2_isRest_2 La    n x1 x2 x3 g = some r → gz_J La 1 mX2_isRest 2 [some (.ref 10), some (.int x1), some (.int x2), some (.int x3)] [] g (gz_Fi r) := by
  intro n
  induction n with
  | zero => intro x1 x2 x3 g r hf; exact nomatch (show (none : Option (Int32 × gz_S)) = some r from hf)
  | succ n ih =>
    intro x1 x2 x3 g r hf
    unfold fX2_isRest_2 at hf
    refine sz_iload_n dX2_isRest_2 rfl ?_
    refine sz_iconst dX2_isRest_3 (cI4) ?_
    refine sz_icmp_ge 61 dX2_isRest_4 (by decide) (fun c4 => ?_) (fun c4 => ?_)
    · have hf := gz_ip c4 hf
      refine sz_iconst dX2_isRest_61 (cI1) ?_
      cases hf
      exact sz_iret dX2_isRest_62 rfl rfl ⟨rfl, rfl⟩
    · have hf := gz_in1 c4 hf
      refine sz_aload_n dX2_isRest_7 rfl ?_
      refine sz_getR dX2_isRest_8 flX2_17 kd10 rfl rf10_7 ?_
      refine sz_iload_n dX2_isRest_11 rfl ?_
      refine sz_iconst dX2_isRest_12 (cI4) ?_
      refine sz_imul dX2_isRest_13 ?_
      refine sz_iload_n dX2_isRest_14 rfl ?_
      refine sz_iadd dX2_isRest_15 ?_
      obtain ⟨c16, hf⟩ := gz_gd hf
      refine sz_ialdL dX2_isRest_16 kd31 c16 rfl ?_
      refine sz_aload_n dX2_isRest_17 rfl ?_
      refine sz_getR dX2_isRest_18 flX2_17 kd10 rfl rf10_7 ?_
      refine sz_iload_n dX2_isRest_21 rfl ?_
      refine sz_iconst dX2_isRest_22 (cI4) ?_
      refine sz_imul dX2_isRest_23 ?_
      refine sz_iload_n dX2_isRest_24 rfl ?_
      refine sz_iadd dX2_isRest_25 ?_
      obtain ⟨c26, hf⟩ := gz_gd hf
      refine sz_ialdL dX2_isRest_26 kd31 c26 rfl ?_
      refine sz_icmp_gt 53 dX2_isRest_27 (by decide) (fun c27 => ?_) (fun c27 => ?_)
      · have hf := gz_ip c27 hf
        refine sz_iconst dX2_isRest_53 (cI0) ?_
        cases hf
        exact sz_iret dX2_isRest_54 rfl rfl ⟨rfl, rfl⟩
      · have hf := gz_in1 c27 hf
        refine sz_aload_n dX2_isRest_30 rfl ?_
        refine sz_getR dX2_isRest_31 flX2_20 kd10 rfl rf10_8 ?_
        refine sz_iload_n dX2_isRest_34 rfl ?_
        refine sz_iconst dX2_isRest_35 (cI4) ?_
        refine sz_imul dX2_isRest_36 ?_
        refine sz_iload_n dX2_isRest_37 rfl ?_
        refine sz_iadd dX2_isRest_38 ?_
        obtain ⟨c39, hf⟩ := gz_gd hf
        refine sz_ialdL dX2_isRest_39 kd32 c39 rfl ?_
        refine sz_aload_n dX2_isRest_40 rfl ?_
        refine sz_getR dX2_isRest_41 flX2_20 kd10 rfl rf10_8 ?_
        refine sz_iload_n dX2_isRest_44 rfl ?_
        refine sz_iconst dX2_isRest_45 (cI4) ?_
        refine sz_imul dX2_isRest_46 ?_
        refine sz_iload_n dX2_isRest_47 rfl ?_
        refine sz_iadd dX2_isRest_48 ?_
        obtain ⟨c49, hf⟩ := gz_gd hf
        refine sz_ialdL dX2_isRest_49 kd32 c49 rfl ?_
        refine sz_icmp_le 55 dX2_isRest_50 (by decide) (fun c50 => ?_) (fun c50 => ?_)
        · have hf := gz_ip c50 hf
          obtain ⟨y55, ey55, hf⟩ := gz_lt hf
          refine sz_iinc (v := y55) dX2_isRest_55 rfl (by rw [ey55, cI1]) (Nat.le_of_ble_eq_true rfl) rfl ?_
          refine sz_ls (l2 := [some (.ref 10), some (.int x1), some (.int x2), some (.int y55)]) rfl ?_
          refine sz_goto 2 dX2_isRest_58 (by decide) ?_
          exact ih _ _ _ _ _ hf
        · have hf := gz_in1 c50 hf
          refine sz_iconst dX2_isRest_53 (cI0) ?_
          cases hf
          exact sz_iret dX2_isRest_54 rfl rfl ⟨rfl, rfl⟩
def fX2_isRest (La : gz_L)  (x1 : Int32) (x2 : Int32) (g : gz_S) : Option (Int32 × gz_S) :=
  fX2_isRest_2 La    gz_FU x1 x2 0 g
set_option maxRecDepth 100000 in
set_option maxHeartbeats 4000000 in
theorem kX2_isRest {La : gz_L}  {x1 : Int32} {x2 : Int32} {g : gz_S} {r : Int32 × gz_S}  (hf : fX2_isRest La  x1 x2 g = some r) : gz_K La 1 mX2_isRest [.ref 10, .int x1, .int x2] g (gz_Fi r) := by
  unfold fX2_isRest at hf
  refine gz_K.of 1 (by decide +kernel) rfl ?_
  show gz_J La 1 mX2_isRest 0 [some (.ref 10), some (.int x1), some (.int x2), none] [] g (gz_Fi r)
  refine sz_iconst dX2_isRest_0 (cI0) ?_
  refine sz_istore_n dX2_isRest_1 rfl (Nat.le_of_ble_eq_true rfl) rfl ?_
  refine sz_ls (l2 := [some (.ref 10), some (.int x1), some (.int x2), some (.int 0)]) rfl ?_
  exact tX2_isRest_2    _ _ _ _ _ _ hf
def fX2_restsOf_2 (La : gz_L)   (k46 : gz_S → Option (Int32 × gz_S)) : Nat → Int32 → Int32 → Int32 → gz_S → Option (Int32 × gz_S)
  | 0, _, _, _, _ => none
  | n + 1, x1, x2, x3, g => if 16 ≤ x3 then k46  g else (fX2_play La  x1 x2 (x3 / 4) (x3 - x3 / 4 * 4) g).bind (fun q17 => if gz_ok x3 16 then gz_let (gz_wi q17 31 (Int32.toNatClampNeg x3) (q17.1 10 0)) (fun g29 => if gz_ok x3 16 then gz_let (gz_wi g29 32 (Int32.toNatClampNeg x3) (g29.1 10 1)) (fun g39 => gz_let (x3 + 1) (fun y40 => fX2_restsOf_2 La   k46 n x1 x2 y40 g39)) else none) else none)
set_option maxRecDepth 100000 in
set_option maxHeartbeats 4000000 in
theorem tX2_restsOf_2 {La : gz_L}   {k46 : gz_S → Option (Int32 × gz_S)}  (hk46 : ∀  (g : gz_S) (r : Int32 × gz_S), k46  g = some r → gz_J La 7 mX2_restsOf 46 [some (.ref 10), none, none, none, none] [] g (gz_Fi r)) : ∀ (n : Nat) (x1 : Int32) (x2 : Int32) (x3 : Int32) (g : gz_S) (r : Int32 × gz_S), fX2_restsOf_2 La   k46 n x1 x2 x3 g = some r → gz_J La 7 mX2_restsOf 2 [some (.ref 10), some (.int x1), some (.int x2), some (.int x3), none] [] g (gz_Fi r) := by
  intro n
  induction n with
  | zero => intro x1 x2 x3 g r hf; exact nomatch (show (none : Option (Int32 × gz_S)) = some r from hf)
  | succ n ih =>
    intro x1 x2 x3 g r hf
    unfold fX2_restsOf_2 at hf
    refine sz_iload_n dX2_restsOf_2 rfl ?_
    refine sz_bipush dX2_restsOf_3 (cB16) ?_
    refine sz_icmp_ge 46 dX2_restsOf_5 (by decide) (fun c5 => ?_) (fun c5 => ?_)
    · have hf := gz_ip c5 hf
      refine sz_weak (l2 := [some (.ref 10), none, none, none, none]) (gz_subk (gz_subn (gz_subn (gz_subn (gz_subk gz_sub0))))) ?_
      exact hk46  _ _ hf
    · have hf := gz_in1 c5 hf
      refine sz_aload_n dX2_restsOf_8 rfl ?_
      refine sz_iload_n dX2_restsOf_9 rfl ?_
      refine sz_iload_n dX2_restsOf_10 rfl ?_
      refine sz_iload_n dX2_restsOf_11 rfl ?_
      refine sz_iconst dX2_restsOf_12 (cI4) ?_
      refine sz_idiv dX2_restsOf_13 (by decide) ?_
      refine sz_iload_n dX2_restsOf_14 rfl ?_
      refine sz_iconst dX2_restsOf_15 (cI4) ?_
      refine sz_irem dX2_restsOf_16 (by decide) ?_
      obtain ⟨q17, eq17, hf⟩ := gz_bd hf
      refine sz_callVv [.int x1, .int x2, .int (x3 / 4), .int (x3 - x3 / 4 * 4)] [] dX2_restsOf_17 mvX2_98 (Nat.le_of_ble_eq_true rfl) (by decide : 2 < 13) kd10 rfl (Nat.le_of_ble_eq_true rfl) (kX2_play   eq17) ?_
      refine sz_aload_n dX2_restsOf_20 rfl ?_
      refine sz_getR dX2_restsOf_21 flX2_17 kd10 rfl rf10_7 ?_
      refine sz_iload_n dX2_restsOf_24 rfl ?_
      refine sz_aload_n dX2_restsOf_25 rfl ?_
      refine sz_getI dX2_restsOf_26 flX2_92 kd10 rfl ?_
      obtain ⟨c29, hf⟩ := gz_gd hf
      obtain ⟨g29, eg29, hf⟩ := gz_lt hf
      refine sz_iastL dX2_restsOf_29 kd31 c29 rfl eg29 ?_
      refine sz_aload_n dX2_restsOf_30 rfl ?_
      refine sz_getR dX2_restsOf_31 flX2_20 kd10 rfl rf10_8 ?_
      refine sz_iload_n dX2_restsOf_34 rfl ?_
      refine sz_aload_n dX2_restsOf_35 rfl ?_
      refine sz_getI dX2_restsOf_36 flX2_95 kd10 rfl ?_
      obtain ⟨c39, hf⟩ := gz_gd hf
      obtain ⟨g39, eg39, hf⟩ := gz_lt hf
      refine sz_iastL dX2_restsOf_39 kd32 c39 rfl eg39 ?_
      obtain ⟨y40, ey40, hf⟩ := gz_lt hf
      refine sz_iinc (v := y40) dX2_restsOf_40 rfl (by rw [ey40, cI1]) (Nat.le_of_ble_eq_true rfl) rfl ?_
      refine sz_ls (l2 := [some (.ref 10), some (.int x1), some (.int x2), some (.int y40), none]) rfl ?_
      refine sz_goto 2 dX2_restsOf_43 (by decide) ?_
      exact ih _ _ _ _ _ hf
def fX2_restsOf_80 (La : gz_L)   (k51 : Int32 → Int32 → gz_S → Option (Int32 × gz_S)) (x3 : Int32) (x4 : Int32) (g : gz_S) : Option (Int32 × gz_S) := gz_let (x4 + 1) (fun y80 => k51 x3 y80 g)
set_option maxRecDepth 100000 in
set_option maxHeartbeats 4000000 in
theorem tX2_restsOf_80 {La : gz_L}   {k51 : Int32 → Int32 → gz_S → Option (Int32 × gz_S)}  (hk51 : ∀ (x3 : Int32) (x4 : Int32) (g : gz_S) (r : Int32 × gz_S), k51 x3 x4 g = some r → gz_J La 7 mX2_restsOf 51 [some (.ref 10), none, none, some (.int x3), some (.int x4)] [] g (gz_Fi r)) : ∀ (x3 : Int32) (x4 : Int32) (g : gz_S) (r : Int32 × gz_S), fX2_restsOf_80 La   k51 x3 x4 g = some r → gz_J La 7 mX2_restsOf 80 [some (.ref 10), none, none, some (.int x3), some (.int x4)] [] g (gz_Fi r) := by
  intro x3 x4 g r hf
  unfold fX2_restsOf_80 at hf
  obtain ⟨y80, ey80, hf⟩ := gz_lt hf
  refine sz_iinc (v := y80) dX2_restsOf_80 rfl (by rw [ey80, cI1]) (Nat.le_of_ble_eq_true rfl) rfl ?_
  refine sz_ls (l2 := [some (.ref 10), none, none, some (.int x3), some (.int y80)]) rfl ?_
  refine sz_goto 51 dX2_restsOf_83 (by decide) ?_
  exact hk51 _ _ _ _ hf
def fX2_restsOf_51 (La : gz_L)    : Nat → Int32 → Int32 → gz_S → Option (Int32 × gz_S)
  | 0, _, _, _ => none
  | n + 1, x3, x4, g => if 16 ≤ x4 then some (x3, g) else (fX2_isRest La  (x4 / 4) (x4 - x4 / 4 * 4) g).bind (fun q67 => if q67.1 = 0 then fX2_restsOf_80 La   (fX2_restsOf_51 La    n)  x3 x4 q67.2 else gz_let (x3 ||| ((1 : Int32) <<< (x4 &&& 31))) (fun y79 => fX2_restsOf_80 La   (fX2_restsOf_51 La    n)  y79 x4 q67.2))
set_option maxRecDepth 100000 in
set_option maxHeartbeats 4000000 in
theorem tX2_restsOf_51 {La : gz_L}      : ∀ (n : Nat) (x3 : Int32) (x4 : Int32) (g : gz_S) (r : Int32 × gz_S), fX2_restsOf_51 La    n x3 x4 g = some r → gz_J La 7 mX2_restsOf 51 [some (.ref 10), none, none, some (.int x3), some (.int x4)] [] g (gz_Fi r) := by
  intro n
  induction n with
  | zero => intro x3 x4 g r hf; exact nomatch (show (none : Option (Int32 × gz_S)) = some r from hf)
  | succ n ih =>
    intro x3 x4 g r hf
    unfold fX2_restsOf_51 at hf
    refine sz_iload dX2_restsOf_51 rfl ?_
    refine sz_bipush dX2_restsOf_53 (cB16) ?_
    refine sz_icmp_ge 86 dX2_restsOf_55 (by decide) (fun c55 => ?_) (fun c55 => ?_)
    · have hf := gz_ip c55 hf
      refine sz_iload_n dX2_restsOf_86 rfl ?_
      cases hf
      exact sz_iret dX2_restsOf_87 rfl rfl ⟨rfl, rfl⟩
    · have hf := gz_in1 c55 hf
      refine sz_aload_n dX2_restsOf_58 rfl ?_
      refine sz_iload dX2_restsOf_59 rfl ?_
      refine sz_iconst dX2_restsOf_61 (cI4) ?_
      refine sz_idiv dX2_restsOf_62 (by decide) ?_
      refine sz_iload dX2_restsOf_63 rfl ?_
      refine sz_iconst dX2_restsOf_65 (cI4) ?_
      refine sz_irem dX2_restsOf_66 (by decide) ?_
      obtain ⟨q67, eq67, hf⟩ := gz_bd hf
      refine sz_callVi [.int (x4 / 4), .int (x4 - x4 / 4 * 4)] [] dX2_restsOf_67 mvX2_102 (Nat.le_of_ble_eq_true rfl) (by decide : 2 < 13) kd10 rfl (Nat.le_of_ble_eq_true rfl) (kX2_isRest   eq67) ?_
      refine sz_if_eq 80 dX2_restsOf_70 (by decide) (fun c70 => ?_) (fun c70 => ?_)
      · have hf := gz_ip c70 hf
        exact tX2_restsOf_80   ih _ _ _ _ hf
      · have hf := gz_in1 c70 hf
        refine sz_iload_n dX2_restsOf_73 rfl ?_
        refine sz_iconst dX2_restsOf_74 (cI1) ?_
        refine sz_iload dX2_restsOf_75 rfl ?_
        refine sz_ishl dX2_restsOf_77 ?_
        refine sz_ior dX2_restsOf_78 ?_
        obtain ⟨y79, ey79, hf⟩ := gz_lt hf
        refine sz_topi ey79 ?_
        refine sz_istore_n dX2_restsOf_79 rfl (Nat.le_of_ble_eq_true rfl) rfl ?_
        refine sz_ls (l2 := [some (.ref 10), none, none, some (.int y79), some (.int x4)]) rfl ?_
        exact tX2_restsOf_80   ih _ _ _ _ hf
def fX2_restsOf (La : gz_L)  (x1 : Int32) (x2 : Int32) (g : gz_S) : Option (Int32 × gz_S) :=
  fX2_restsOf_2 La   (fun  g => fX2_restsOf_51 La    gz_FU 0 0 g) gz_FU x1 x2 0 g
set_option maxRecDepth 100000 in
set_option maxHeartbeats 4000000 in
theorem kX2_restsOf {La : gz_L}  {x1 : Int32} {x2 : Int32} {g : gz_S} {r : Int32 × gz_S}  (hf : fX2_restsOf La  x1 x2 g = some r) : gz_K La 7 mX2_restsOf [.ref 10, .int x1, .int x2] g (gz_Fi r) := by
  unfold fX2_restsOf at hf
  refine gz_K.of 2 (by decide +kernel) rfl ?_
  show gz_J La 7 mX2_restsOf 0 [some (.ref 10), some (.int x1), some (.int x2), none, none] [] g (gz_Fi r)
  refine sz_iconst dX2_restsOf_0 (cI0) ?_
  refine sz_istore_n dX2_restsOf_1 rfl (Nat.le_of_ble_eq_true rfl) rfl ?_
  refine sz_ls (l2 := [some (.ref 10), some (.int x1), some (.int x2), some (.int 0), none]) rfl ?_
  have hk46 : ∀  (g : gz_S) (r : Int32 × gz_S), (fun  g => fX2_restsOf_51 La    gz_FU 0 0 g)  g = some r → gz_J La 7 mX2_restsOf 46 [some (.ref 10), none, none, none, none] [] g (gz_Fi r) := by
    intro  g r hf
    refine sz_iconst dX2_restsOf_46 (cI0) ?_
    refine sz_istore_n dX2_restsOf_47 rfl (Nat.le_of_ble_eq_true rfl) rfl ?_
    refine sz_ls (l2 := [some (.ref 10), none, none, some (.int 0), none]) rfl ?_
    refine sz_iconst dX2_restsOf_48 (cI0) ?_
    refine sz_istore dX2_restsOf_49 (Nat.le_of_ble_eq_true rfl) rfl ?_
    refine sz_ls (l2 := [some (.ref 10), none, none, some (.int 0), some (.int 0)]) rfl ?_
    exact tX2_restsOf_51    _ _ _ _ _ hf
  exact tX2_restsOf_2   hk46 _ _ _ _ _ _ hf
def fX2_nthBit_31 (La : gz_L)   (k4 : Int32 → Int32 → Int32 → gz_S → Option (Int32 × gz_S)) (x0 : Int32) (x2 : Int32) (x3 : Int32) (g : gz_S) : Option (Int32 × gz_S) := gz_let (x3 + 1) (fun y31 => k4 x0 x2 y31 g)
set_option maxRecDepth 100000 in
set_option maxHeartbeats 4000000 in
theorem tX2_nthBit_31 {La : gz_L}   {k4 : Int32 → Int32 → Int32 → gz_S → Option (Int32 × gz_S)}  (hk4 : ∀ (x0 : Int32) (x2 : Int32) (x3 : Int32) (g : gz_S) (r : Int32 × gz_S), k4 x0 x2 x3 g = some r → gz_J La 1 mX2_nthBit 4 [some (.int x0), none, some (.int x2), some (.int x3)] [] g (gz_Fi r)) : ∀ (x0 : Int32) (x2 : Int32) (x3 : Int32) (g : gz_S) (r : Int32 × gz_S), fX2_nthBit_31 La   k4 x0 x2 x3 g = some r → gz_J La 1 mX2_nthBit 31 [some (.int x0), none, some (.int x2), some (.int x3)] [] g (gz_Fi r) := by
  intro x0 x2 x3 g r hf
  unfold fX2_nthBit_31 at hf
  obtain ⟨y31, ey31, hf⟩ := gz_lt hf
  refine sz_iinc (v := y31) dX2_nthBit_31 rfl (by rw [ey31, cI1]) (Nat.le_of_ble_eq_true rfl) rfl ?_
  refine sz_ls (l2 := [some (.int x0), none, some (.int x2), some (.int y31)]) rfl ?_
  refine sz_goto 4 dX2_nthBit_34 (by decide) ?_
  exact hk4 _ _ _ _ _ hf
def fX2_nthBit_4 (La : gz_L)    : Nat → Int32 → Int32 → Int32 → gz_S → Option (Int32 × gz_S)
  | 0, _, _, _, _ => none
  | n + 1, x0, x2, x3, g => if 16 ≤ x3 then some ((-1), g) else if x2 < 0 then some ((-1), g) else if ((x0 >>> (x3 &&& 31)) &&& (1 : Int32)) = 0 then fX2_nthBit_31 La   (fX2_nthBit_4 La    n)  x0 x2 x3 g else if x2 = 0 then some (x3, g) else gz_let (x2 + (-1)) (fun y28 => fX2_nthBit_31 La   (fX2_nthBit_4 La    n)  x0 y28 x3 g)
set_option maxRecDepth 100000 in
set_option maxHeartbeats 4000000 in
theorem tX2_nthBit_4 {La : gz_L}      : ∀ (n : Nat) (x0 : Int32) (x2 : Int32) (x3 : Int32) (g : gz_S) (r : Int32 × gz_S), fX2_nthBit_4 La    n x0 x2 x3 g = some r → gz_J La 1 mX2_nthBit 4 [some (.int x0), none, some (.int x2), some (.int x3)] [] g (gz_Fi r) := by
  intro n
  induction n with
  | zero => intro x0 x2 x3 g r hf; exact nomatch (show (none : Option (Int32 × gz_S)) = some r from hf)
  | succ n ih =>
    intro x0 x2 x3 g r hf
    unfold fX2_nthBit_4 at hf
    refine sz_iload_n dX2_nthBit_4 rfl ?_
    refine sz_bipush dX2_nthBit_5 (cB16) ?_
    refine sz_icmp_ge 37 dX2_nthBit_7 (by decide) (fun c7 => ?_) (fun c7 => ?_)
    · have hf := gz_ip c7 hf
      refine sz_iconst dX2_nthBit_37 (cIm1) ?_
      cases hf
      exact sz_iret dX2_nthBit_38 rfl rfl ⟨rfl, rfl⟩
    · have hf := gz_in1 c7 hf
      refine sz_iload_n dX2_nthBit_10 rfl ?_
      refine sz_if_lt 37 dX2_nthBit_11 (by decide) (fun c11 => ?_) (fun c11 => ?_)
      · have hf := gz_ip c11 hf
        refine sz_iconst dX2_nthBit_37 (cIm1) ?_
        cases hf
        exact sz_iret dX2_nthBit_38 rfl rfl ⟨rfl, rfl⟩
      · have hf := gz_in1 c11 hf
        refine sz_iload_n dX2_nthBit_14 rfl ?_
        refine sz_iload_n dX2_nthBit_15 rfl ?_
        refine sz_ishr dX2_nthBit_16 ?_
        refine sz_iconst dX2_nthBit_17 (cI1) ?_
        refine sz_iand dX2_nthBit_18 ?_
        refine sz_if_eq 31 dX2_nthBit_19 (by decide) (fun c19 => ?_) (fun c19 => ?_)
        · have hf := gz_ip c19 hf
          exact tX2_nthBit_31   ih _ _ _ _ _ hf
        · have hf := gz_in1 c19 hf
          refine sz_iload_n dX2_nthBit_22 rfl ?_
          refine sz_if_ne 28 dX2_nthBit_23 (by decide) (fun c23 => ?_) (fun c23 => ?_)
          · have hf := gz_in1 c23 hf
            obtain ⟨y28, ey28, hf⟩ := gz_lt hf
            refine sz_iinc (v := y28) dX2_nthBit_28 rfl (by rw [ey28, cIm1]) (Nat.le_of_ble_eq_true rfl) rfl ?_
            refine sz_ls (l2 := [some (.int x0), none, some (.int y28), some (.int x3)]) rfl ?_
            exact tX2_nthBit_31   ih _ _ _ _ _ hf
          · have hf := gz_ip c23 hf
            refine sz_iload_n dX2_nthBit_26 rfl ?_
            cases hf
            exact sz_iret dX2_nthBit_27 rfl rfl ⟨rfl, rfl⟩
def fX2_nthBit (La : gz_L)  (x0 : Int32) (x1 : Int32) (g : gz_S) : Option (Int32 × gz_S) :=
  fX2_nthBit_4 La    gz_FU x0 x1 0 g
set_option maxRecDepth 100000 in
set_option maxHeartbeats 4000000 in
theorem kX2_nthBit {La : gz_L}  {x0 : Int32} {x1 : Int32} {g : gz_S} {r : Int32 × gz_S}  (hf : fX2_nthBit La  x0 x1 g = some r) : gz_K La 1 mX2_nthBit [.int x0, .int x1] g (gz_Fi r) := by
  unfold fX2_nthBit at hf
  refine gz_K.of 2 (by decide +kernel) rfl ?_
  show gz_J La 1 mX2_nthBit 0 [some (.int x0), some (.int x1), none, none] [] g (gz_Fi r)
  refine sz_iload_n dX2_nthBit_0 rfl ?_
  refine sz_istore_n dX2_nthBit_1 rfl (Nat.le_of_ble_eq_true rfl) rfl ?_
  refine sz_ls (l2 := [some (.int x0), some (.int x1), some (.int x1), none]) rfl ?_
  refine sz_iconst dX2_nthBit_2 (cI0) ?_
  refine sz_istore_n dX2_nthBit_3 rfl (Nat.le_of_ble_eq_true rfl) rfl ?_
  refine sz_ls (l2 := [some (.int x0), some (.int x1), some (.int x1), some (.int 0)]) rfl ?_
  refine sz_weak (l2 := [some (.int x0), none, some (.int x1), some (.int 0)]) (gz_subk (gz_subn (gz_subk (gz_subk gz_sub0)))) ?_
  exact tX2_nthBit_4    _ _ _ _ _ _ hf
def fX2_rest (La : gz_L)  (x1 : Int32) (x2 : Int32) (g : gz_S) : Option (Int32 × gz_S) :=
  (fX2_nthBit La  x1 x2 g).bind (fun q2 => if q2.1 = (-1) then some ((-1), q2.2) else some (((q2.1 / 4) * 10) + (q2.1 - q2.1 / 4 * 4), q2.2))
set_option maxRecDepth 100000 in
set_option maxHeartbeats 4000000 in
theorem kX2_rest {La : gz_L}  {x1 : Int32} {x2 : Int32} {g : gz_S} {r : Int32 × gz_S}  (hf : fX2_rest La  x1 x2 g = some r) : gz_K La 2 mX2_rest [.ref 10, .int x1, .int x2] g (gz_Fi r) := by
  unfold fX2_rest at hf
  refine gz_K.of 1 (by decide +kernel) rfl ?_
  show gz_J La 2 mX2_rest 0 [some (.ref 10), some (.int x1), some (.int x2), none] [] g (gz_Fi r)
  refine sz_iload_n dX2_rest_0 rfl ?_
  refine sz_iload_n dX2_rest_1 rfl ?_
  obtain ⟨q2, eq2, hf⟩ := gz_bd hf
  refine sz_callSi [.int x1, .int x2] [] dX2_rest_2 msX2_105 (Nat.le_of_ble_eq_true rfl) (Nat.le_of_ble_eq_true rfl) (kX2_nthBit   eq2) ?_
  refine sz_istore_n dX2_rest_5 rfl (Nat.le_of_ble_eq_true rfl) rfl ?_
  refine sz_ls (l2 := [some (.ref 10), some (.int x1), some (.int x2), some (.int q2.1)]) rfl ?_
  refine sz_iload_n dX2_rest_6 rfl ?_
  refine sz_iconst dX2_rest_7 (cIm1) ?_
  refine sz_icmp_ne 15 dX2_rest_8 (by decide) (fun c8 => ?_) (fun c8 => ?_)
  · have hf := gz_in1 c8 hf
    refine sz_iload_n dX2_rest_15 rfl ?_
    refine sz_iconst dX2_rest_16 (cI4) ?_
    refine sz_idiv dX2_rest_17 (by decide) ?_
    refine sz_bipush dX2_rest_18 (cB10) ?_
    refine sz_imul dX2_rest_20 ?_
    refine sz_iload_n dX2_rest_21 rfl ?_
    refine sz_iconst dX2_rest_22 (cI4) ?_
    refine sz_irem dX2_rest_23 (by decide) ?_
    refine sz_iadd dX2_rest_24 ?_
    cases hf
    exact sz_iret dX2_rest_25 rfl rfl ⟨rfl, rfl⟩
  · have hf := gz_ip c8 hf
    refine sz_iconst dX2_rest_11 (cIm1) ?_
    refine sz_goto 25 dX2_rest_12 (by decide) ?_
    cases hf
    exact sz_iret dX2_rest_25 rfl rfl ⟨rfl, rfl⟩
def fX2_partsOf_109 (La : gz_L)   (k18 : Int32 → Int32 → Int32 → Int32 → Int32 → Int32 → gz_S → Option (Int32 × gz_S)) (x1 : Int32) (x2 : Int32) (x3 : Int32) (x4 : Int32) (x5 : Int32) (x6 : Int32) (g : gz_S) : Option (Int32 × gz_S) := (fX10_passHour La  7 g).bind (fun q117 => gz_let (x6 + 1) (fun y121 => k18 x1 x2 x3 x4 x5 y121 q117.2))
set_option maxRecDepth 100000 in
set_option maxHeartbeats 4000000 in
theorem tX2_partsOf_109 {La : gz_L}   {k18 : Int32 → Int32 → Int32 → Int32 → Int32 → Int32 → gz_S → Option (Int32 × gz_S)}  (hk18 : ∀ (x1 : Int32) (x2 : Int32) (x3 : Int32) (x4 : Int32) (x5 : Int32) (x6 : Int32) (g : gz_S) (r : Int32 × gz_S), k18 x1 x2 x3 x4 x5 x6 g = some r → gz_J La 6 mX2_partsOf 18 [some (.ref 10), some (.int x1), some (.int x2), some (.int x3), some (.int x4), some (.int x5), some (.int x6), none] [] g (gz_Fi r)) : ∀ (x1 : Int32) (x2 : Int32) (x3 : Int32) (x4 : Int32) (x5 : Int32) (x6 : Int32) (g : gz_S) (r : Int32 × gz_S), fX2_partsOf_109 La   k18 x1 x2 x3 x4 x5 x6 g = some r → gz_J La 6 mX2_partsOf 109 [some (.ref 10), some (.int x1), some (.int x2), some (.int x3), some (.int x4), some (.int x5), some (.int x6), none] [] g (gz_Fi r) := by
  intro x1 x2 x3 x4 x5 x6 g r hf
  unfold fX2_partsOf_109 at hf
  refine sz_aload_n dX2_partsOf_109 rfl ?_
  refine sz_getR dX2_partsOf_110 flX2_30 kd10 rfl rf10_4 ?_
  refine sz_aload_n dX2_partsOf_113 rfl ?_
  refine sz_getR dX2_partsOf_114 flX2_27 kd10 rfl rf10_3 ?_
  obtain ⟨q117, eq117, hf⟩ := gz_bd hf
  refine sz_callVi [.ref 7] [] dX2_partsOf_117 mvX2_38 (Nat.le_of_ble_eq_true rfl) (by decide : 10 < 13) kd8 rfl (Nat.le_of_ble_eq_true rfl) (kX10_passHour  (Or.inr (Or.inr rfl)) eq117) ?_
  refine sz_pop dX2_partsOf_120 rfl ?_
  obtain ⟨y121, ey121, hf⟩ := gz_lt hf
  refine sz_iinc (v := y121) dX2_partsOf_121 rfl (by rw [ey121, cI1]) (Nat.le_of_ble_eq_true rfl) rfl ?_
  refine sz_ls (l2 := [some (.ref 10), some (.int x1), some (.int x2), some (.int x3), some (.int x4), some (.int x5), some (.int y121), none]) rfl ?_
  refine sz_goto 18 dX2_partsOf_124 (by decide) ?_
  exact hk18 _ _ _ _ _ _ _ _ hf
def fX2_partsOf_56 (La : gz_L)   (k18 : Int32 → Int32 → Int32 → Int32 → Int32 → Int32 → gz_S → Option (Int32 × gz_S)) (x1 : Int32) (x2 : Int32) (x3 : Int32) (x4 : Int32) (x5 : Int32) (x6 : Int32) (s0 : Int32) (g : gz_S) : Option (Int32 × gz_S) := if ((x1 >>> (x6 &&& 31)) &&& (1 : Int32)) = 0 then gz_let (x5 - s0) (fun y107 => fX2_partsOf_109 La   k18  x1 x2 x3 x4 y107 x6 g) else if gz_ok ((34 : Int32) + x2) 61 then if gz_ok ((34 : Int32) + x2) 61 then gz_let (gz_wi g 23 (Int32.toNatClampNeg ((34 : Int32) + x2)) (((g.1 23 (Int32.toNatClampNeg ((34 : Int32) + x2))) + 1) &&& (3 : Int32))) (fun g98 => fX2_partsOf_109 La   k18  x1 x2 x3 x4 s0 x6 g98) else none else none
set_option maxRecDepth 100000 in
set_option maxHeartbeats 4000000 in
theorem tX2_partsOf_56 {La : gz_L}   {k18 : Int32 → Int32 → Int32 → Int32 → Int32 → Int32 → gz_S → Option (Int32 × gz_S)}  (hk18 : ∀ (x1 : Int32) (x2 : Int32) (x3 : Int32) (x4 : Int32) (x5 : Int32) (x6 : Int32) (g : gz_S) (r : Int32 × gz_S), k18 x1 x2 x3 x4 x5 x6 g = some r → gz_J La 6 mX2_partsOf 18 [some (.ref 10), some (.int x1), some (.int x2), some (.int x3), some (.int x4), some (.int x5), some (.int x6), none] [] g (gz_Fi r)) : ∀ (x1 : Int32) (x2 : Int32) (x3 : Int32) (x4 : Int32) (x5 : Int32) (x6 : Int32) (s0 : Int32) (g : gz_S) (r : Int32 × gz_S), fX2_partsOf_56 La   k18 x1 x2 x3 x4 x5 x6 s0 g = some r → gz_J La 6 mX2_partsOf 56 [some (.ref 10), some (.int x1), some (.int x2), some (.int x3), some (.int x4), some (.int x5), some (.int x6), none] [.int s0] g (gz_Fi r) := by
  intro x1 x2 x3 x4 x5 x6 s0 g r hf
  unfold fX2_partsOf_56 at hf
  refine sz_istore dX2_partsOf_56 (Nat.le_of_ble_eq_true rfl) rfl ?_
  refine sz_ls (l2 := [some (.ref 10), some (.int x1), some (.int x2), some (.int x3), some (.int x4), some (.int x5), some (.int x6), some (.int s0)]) rfl ?_
  refine sz_iload_n dX2_partsOf_58 rfl ?_
  refine sz_iload dX2_partsOf_59 rfl ?_
  refine sz_ishr dX2_partsOf_61 ?_
  refine sz_iconst dX2_partsOf_62 (cI1) ?_
  refine sz_iand dX2_partsOf_63 ?_
  refine sz_if_eq 102 dX2_partsOf_64 (by decide) (fun c64 => ?_) (fun c64 => ?_)
  · have hf := gz_ip c64 hf
    refine sz_iload dX2_partsOf_102 rfl ?_
    refine sz_iload dX2_partsOf_104 rfl ?_
    refine sz_isub dX2_partsOf_106 ?_
    obtain ⟨y107, ey107, hf⟩ := gz_lt hf
    refine sz_topi ey107 ?_
    refine sz_istore dX2_partsOf_107 (Nat.le_of_ble_eq_true rfl) rfl ?_
    refine sz_ls (l2 := [some (.ref 10), some (.int x1), some (.int x2), some (.int x3), some (.int x4), some (.int y107), some (.int x6), some (.int s0)]) rfl ?_
    refine sz_weak (l2 := [some (.ref 10), some (.int x1), some (.int x2), some (.int x3), some (.int x4), some (.int y107), some (.int x6), none]) (gz_subk (gz_subk (gz_subk (gz_subk (gz_subk (gz_subk (gz_subk (gz_subn gz_sub0)))))))) ?_
    exact tX2_partsOf_109   hk18 _ _ _ _ _ _ _ _ hf
  · have hf := gz_in1 c64 hf
    refine sz_iload dX2_partsOf_67 rfl ?_
    refine sz_istore dX2_partsOf_69 (Nat.le_of_ble_eq_true rfl) rfl ?_
    refine sz_ls (l2 := [some (.ref 10), some (.int x1), some (.int x2), some (.int x3), some (.int x4), some (.int s0), some (.int x6), some (.int s0)]) rfl ?_
    refine sz_aload_n dX2_partsOf_71 rfl ?_
    refine sz_getR dX2_partsOf_72 flX2_27 kd10 rfl rf10_3 ?_
    refine sz_getR dX2_partsOf_75 flX2_44 kd7 rfl rf7_0 ?_
    refine sz_bipush dX2_partsOf_78 (cB34) ?_
    refine sz_iload_n dX2_partsOf_80 rfl ?_
    refine sz_iadd dX2_partsOf_81 ?_
    refine sz_aload_n dX2_partsOf_82 rfl ?_
    refine sz_getR dX2_partsOf_83 flX2_27 kd10 rfl rf10_3 ?_
    refine sz_getR dX2_partsOf_86 flX2_44 kd7 rfl rf7_0 ?_
    refine sz_bipush dX2_partsOf_89 (cB34) ?_
    refine sz_iload_n dX2_partsOf_91 rfl ?_
    refine sz_iadd dX2_partsOf_92 ?_
    obtain ⟨c93, hf⟩ := gz_gd hf
    refine sz_ialdL dX2_partsOf_93 kd23 c93 rfl ?_
    refine sz_iconst dX2_partsOf_94 (cI1) ?_
    refine sz_iadd dX2_partsOf_95 ?_
    refine sz_iconst dX2_partsOf_96 (cI3) ?_
    refine sz_iand dX2_partsOf_97 ?_
    obtain ⟨c98, hf⟩ := gz_gd hf
    obtain ⟨g98, eg98, hf⟩ := gz_lt hf
    refine sz_iastL dX2_partsOf_98 kd23 c98 rfl eg98 ?_
    refine sz_goto 109 dX2_partsOf_99 (by decide) ?_
    refine sz_weak (l2 := [some (.ref 10), some (.int x1), some (.int x2), some (.int x3), some (.int x4), some (.int s0), some (.int x6), none]) (gz_subk (gz_subk (gz_subk (gz_subk (gz_subk (gz_subk (gz_subk (gz_subn gz_sub0)))))))) ?_
    exact tX2_partsOf_109   hk18 _ _ _ _ _ _ _ _ hf
def fX2_partsOf_18 (La : gz_L)    : Nat → Int32 → Int32 → Int32 → Int32 → Int32 → Int32 → gz_S → Option (Int32 × gz_S)
  | 0, _, _, _, _, _, _, _ => none
  | n + 1, x1, x2, x3, x4, x5, x6, g => if x3 ≤ x6 then some (x5, g) else if x5 ≤ 0 then some (x5, g) else (fX6_goes La  7 x2 g).bind (fun q34 => if q34.1 = 0 then fX2_partsOf_56 La   (fX2_partsOf_18 La    n)  x1 x2 x3 x4 x5 x6 0 q34.2 else fX2_partsOf_56 La   (fX2_partsOf_18 La    n)  x1 x2 x3 x4 x5 x6 (Int64.toInt32 (((Int32.toInt64 x5) * (Int32.toInt64 x4)) / 100)) q34.2)
set_option maxRecDepth 100000 in
set_option maxHeartbeats 4000000 in
theorem tX2_partsOf_18 {La : gz_L}      : ∀ (n : Nat) (x1 : Int32) (x2 : Int32) (x3 : Int32) (x4 : Int32) (x5 : Int32) (x6 : Int32) (g : gz_S) (r : Int32 × gz_S), fX2_partsOf_18 La    n x1 x2 x3 x4 x5 x6 g = some r → gz_J La 6 mX2_partsOf 18 [some (.ref 10), some (.int x1), some (.int x2), some (.int x3), some (.int x4), some (.int x5), some (.int x6), none] [] g (gz_Fi r) := by
  intro n
  induction n with
  | zero => intro x1 x2 x3 x4 x5 x6 g r hf; exact nomatch (show (none : Option (Int32 × gz_S)) = some r from hf)
  | succ n ih =>
    intro x1 x2 x3 x4 x5 x6 g r hf
    unfold fX2_partsOf_18 at hf
    refine sz_iload dX2_partsOf_18 rfl ?_
    refine sz_iload_n dX2_partsOf_20 rfl ?_
    refine sz_icmp_ge 127 dX2_partsOf_21 (by decide) (fun c21 => ?_) (fun c21 => ?_)
    · have hf := gz_ip c21 hf
      refine sz_iload dX2_partsOf_127 rfl ?_
      cases hf
      exact sz_iret dX2_partsOf_129 rfl rfl ⟨rfl, rfl⟩
    · have hf := gz_in1 c21 hf
      refine sz_iload dX2_partsOf_24 rfl ?_
      refine sz_if_le 127 dX2_partsOf_26 (by decide) (fun c26 => ?_) (fun c26 => ?_)
      · have hf := gz_ip c26 hf
        refine sz_iload dX2_partsOf_127 rfl ?_
        cases hf
        exact sz_iret dX2_partsOf_129 rfl rfl ⟨rfl, rfl⟩
      · have hf := gz_in1 c26 hf
        refine sz_aload_n dX2_partsOf_29 rfl ?_
        refine sz_getR dX2_partsOf_30 flX2_27 kd10 rfl rf10_3 ?_
        refine sz_iload_n dX2_partsOf_33 rfl ?_
        obtain ⟨q34, eq34, hf⟩ := gz_bd hf
        refine sz_callVi [.int x2] [] dX2_partsOf_34 mvX2_51 (Nat.le_of_ble_eq_true rfl) (by decide : 6 < 13) kd7 rfl (Nat.le_of_ble_eq_true rfl) (kX6_goes  (Or.inr (Or.inr rfl)) eq34) ?_
        refine sz_if_eq 55 dX2_partsOf_37 (by decide) (fun c37 => ?_) (fun c37 => ?_)
        · have hf := gz_ip c37 hf
          refine sz_iconst dX2_partsOf_55 (cI0) ?_
          exact tX2_partsOf_56   ih _ _ _ _ _ _ _ _ _ hf
        · have hf := gz_in1 c37 hf
          refine sz_iload dX2_partsOf_40 rfl ?_
          refine sz_i2l dX2_partsOf_42 ?_
          refine sz_iload dX2_partsOf_43 rfl ?_
          refine sz_i2l dX2_partsOf_45 ?_
          refine sz_lmul dX2_partsOf_46 ?_
          refine sz_ldc2 dX2_partsOf_47 cstlX2_114 ?_
          refine sz_ldiv dX2_partsOf_50 (by decide) ?_
          refine sz_l2i dX2_partsOf_51 ?_
          refine sz_goto 56 dX2_partsOf_52 (by decide) ?_
          exact tX2_partsOf_56   ih _ _ _ _ _ _ _ _ _ hf
def fX2_partsOf (La : gz_L)  (x1 : Int32) (x2 : Int32) (x3 : Int32) (x4 : Int32) (g : gz_S) : Option (Int32 × gz_S) :=
  (fX6_copy La  7 6 g).bind (fun q8 => fX2_partsOf_18 La    gz_FU x1 x2 x3 x4 1000000000 0 q8)
set_option maxRecDepth 100000 in
set_option maxHeartbeats 4000000 in
theorem kX2_partsOf {La : gz_L}  {x1 : Int32} {x2 : Int32} {x3 : Int32} {x4 : Int32} {g : gz_S} {r : Int32 × gz_S}  (hf : fX2_partsOf La  x1 x2 x3 x4 g = some r) : gz_K La 6 mX2_partsOf [.ref 10, .int x1, .int x2, .int x3, .int x4] g (gz_Fi r) := by
  unfold fX2_partsOf at hf
  refine gz_K.of 3 (by decide +kernel) rfl ?_
  show gz_J La 6 mX2_partsOf 0 [some (.ref 10), some (.int x1), some (.int x2), some (.int x3), some (.int x4), none, none, none] [] g (gz_Fi r)
  refine sz_aload_n dX2_partsOf_0 rfl ?_
  refine sz_getR dX2_partsOf_1 flX2_27 kd10 rfl rf10_3 ?_
  refine sz_aload_n dX2_partsOf_4 rfl ?_
  refine sz_getR dX2_partsOf_5 flX2_23 kd10 rfl rf10_2 ?_
  obtain ⟨q8, eq8, hf⟩ := gz_bd hf
  refine sz_callVv [.ref 6] [] dX2_partsOf_8 mvX2_34 (Nat.le_of_ble_eq_true rfl) (by decide : 6 < 13) kd7 rfl (Nat.le_of_ble_eq_true rfl) (kX6_copy  (Or.inr (Or.inr rfl)) (Or.inr (Or.inl rfl)) eq8) ?_
  refine sz_ldc dX2_partsOf_11 cstX2_113 ?_
  refine sz_istore dX2_partsOf_13 (Nat.le_of_ble_eq_true rfl) rfl ?_
  refine sz_ls (l2 := [some (.ref 10), some (.int x1), some (.int x2), some (.int x3), some (.int x4), some (.int 1000000000), none, none]) rfl ?_
  refine sz_iconst dX2_partsOf_15 (cI0) ?_
  refine sz_istore dX2_partsOf_16 (Nat.le_of_ble_eq_true rfl) rfl ?_
  refine sz_ls (l2 := [some (.ref 10), some (.int x1), some (.int x2), some (.int x3), some (.int x4), some (.int 1000000000), some (.int 0), none]) rfl ?_
  exact tX2_partsOf_18    _ _ _ _ _ _ _ _ _ hf
def fX2_partsOn_49 (La : gz_L)   (k6 : Int32 → Int32 → Int32 → Int32 → Int32 → Int32 → gz_S → Option (Int32 × gz_S)) (x1 : Int32) (x2 : Int32) (x3 : Int32) (x4 : Int32) (x5 : Int32) (x6 : Int32) (g : gz_S) : Option (Int32 × gz_S) := gz_let (x6 + 1) (fun y49 => k6 x1 x2 x3 x4 x5 y49 g)
set_option maxRecDepth 100000 in
set_option maxHeartbeats 4000000 in
theorem tX2_partsOn_49 {La : gz_L}   {k6 : Int32 → Int32 → Int32 → Int32 → Int32 → Int32 → gz_S → Option (Int32 × gz_S)}  (hk6 : ∀ (x1 : Int32) (x2 : Int32) (x3 : Int32) (x4 : Int32) (x5 : Int32) (x6 : Int32) (g : gz_S) (r : Int32 × gz_S), k6 x1 x2 x3 x4 x5 x6 g = some r → gz_J La 7 mX2_partsOn 6 [some (.ref 10), some (.int x1), some (.int x2), some (.int x3), some (.int x4), some (.int x5), some (.int x6), none] [] g (gz_Fi r)) : ∀ (x1 : Int32) (x2 : Int32) (x3 : Int32) (x4 : Int32) (x5 : Int32) (x6 : Int32) (g : gz_S) (r : Int32 × gz_S), fX2_partsOn_49 La   k6 x1 x2 x3 x4 x5 x6 g = some r → gz_J La 7 mX2_partsOn 49 [some (.ref 10), some (.int x1), some (.int x2), some (.int x3), some (.int x4), some (.int x5), some (.int x6), none] [] g (gz_Fi r) := by
  intro x1 x2 x3 x4 x5 x6 g r hf
  unfold fX2_partsOn_49 at hf
  obtain ⟨y49, ey49, hf⟩ := gz_lt hf
  refine sz_iinc (v := y49) dX2_partsOn_49 rfl (by rw [ey49, cI1]) (Nat.le_of_ble_eq_true rfl) rfl ?_
  refine sz_ls (l2 := [some (.ref 10), some (.int x1), some (.int x2), some (.int x3), some (.int x4), some (.int x5), some (.int y49), none]) rfl ?_
  refine sz_goto 6 dX2_partsOn_52 (by decide) ?_
  exact hk6 _ _ _ _ _ _ _ _ hf
def fX2_partsOn_6 (La : gz_L)    : Nat → Int32 → Int32 → Int32 → Int32 → Int32 → Int32 → gz_S → Option (Int32 × gz_S)
  | 0, _, _, _, _, _, _, _ => none
  | n + 1, x1, x2, x3, x4, x5, x6, g => if ((1 : Int32) <<< (x3 &&& 31)) ≤ x6 then some (x5, g) else (fX2_partsOf La  x6 x1 x3 x4 g).bind (fun q21 => if gz_ok ((30 : Int32) + x1) 61 then if (q21.2.1 23 (Int32.toNatClampNeg ((30 : Int32) + x1))) = x2 then gz_let (x5 + q21.1) (fun y47 => fX2_partsOn_49 La   (fX2_partsOn_6 La    n)  x1 x2 x3 x4 y47 x6 q21.2) else fX2_partsOn_49 La   (fX2_partsOn_6 La    n)  x1 x2 x3 x4 x5 x6 q21.2 else none)
set_option maxRecDepth 100000 in
set_option maxHeartbeats 4000000 in
theorem tX2_partsOn_6 {La : gz_L}      : ∀ (n : Nat) (x1 : Int32) (x2 : Int32) (x3 : Int32) (x4 : Int32) (x5 : Int32) (x6 : Int32) (g : gz_S) (r : Int32 × gz_S), fX2_partsOn_6 La    n x1 x2 x3 x4 x5 x6 g = some r → gz_J La 7 mX2_partsOn 6 [some (.ref 10), some (.int x1), some (.int x2), some (.int x3), some (.int x4), some (.int x5), some (.int x6), none] [] g (gz_Fi r) := by
  intro n
  induction n with
  | zero => intro x1 x2 x3 x4 x5 x6 g r hf; exact nomatch (show (none : Option (Int32 × gz_S)) = some r from hf)
  | succ n ih =>
    intro x1 x2 x3 x4 x5 x6 g r hf
    unfold fX2_partsOn_6 at hf
    refine sz_iload dX2_partsOn_6 rfl ?_
    refine sz_iconst dX2_partsOn_8 (cI1) ?_
    refine sz_iload_n dX2_partsOn_9 rfl ?_
    refine sz_ishl dX2_partsOn_10 ?_
    refine sz_icmp_ge 55 dX2_partsOn_11 (by decide) (fun c11 => ?_) (fun c11 => ?_)
    · have hf := gz_ip c11 hf
      refine sz_iload dX2_partsOn_55 rfl ?_
      cases hf
      exact sz_iret dX2_partsOn_57 rfl rfl ⟨rfl, rfl⟩
    · have hf := gz_in1 c11 hf
      refine sz_aload_n dX2_partsOn_14 rfl ?_
      refine sz_iload dX2_partsOn_15 rfl ?_
      refine sz_iload_n dX2_partsOn_17 rfl ?_
      refine sz_iload_n dX2_partsOn_18 rfl ?_
      refine sz_iload dX2_partsOn_19 rfl ?_
      obtain ⟨q21, eq21, hf⟩ := gz_bd hf
      refine sz_callVi [.int x6, .int x1, .int x3, .int x4] [] dX2_partsOn_21 mvX2_109 (Nat.le_of_ble_eq_true rfl) (by decide : 2 < 13) kd10 rfl (Nat.le_of_ble_eq_true rfl) (kX2_partsOf   eq21) ?_
      refine sz_istore dX2_partsOn_24 (Nat.le_of_ble_eq_true rfl) rfl ?_
      refine sz_ls (l2 := [some (.ref 10), some (.int x1), some (.int x2), some (.int x3), some (.int x4), some (.int x5), some (.int x6), some (.int q21.1)]) rfl ?_
      refine sz_aload_n dX2_partsOn_26 rfl ?_
      refine sz_getR dX2_partsOn_27 flX2_27 kd10 rfl rf10_3 ?_
      refine sz_getR dX2_partsOn_30 flX2_44 kd7 rfl rf7_0 ?_
      refine sz_bipush dX2_partsOn_33 (cB30) ?_
      refine sz_iload_n dX2_partsOn_35 rfl ?_
      refine sz_iadd dX2_partsOn_36 ?_
      obtain ⟨c37, hf⟩ := gz_gd hf
      refine sz_ialdL dX2_partsOn_37 kd23 c37 rfl ?_
      refine sz_iload_n dX2_partsOn_38 rfl ?_
      refine sz_icmp_ne 49 dX2_partsOn_39 (by decide) (fun c39 => ?_) (fun c39 => ?_)
      · have hf := gz_in1 c39 hf
        refine sz_weak (l2 := [some (.ref 10), some (.int x1), some (.int x2), some (.int x3), some (.int x4), some (.int x5), some (.int x6), none]) (gz_subk (gz_subk (gz_subk (gz_subk (gz_subk (gz_subk (gz_subk (gz_subn gz_sub0)))))))) ?_
        exact tX2_partsOn_49   ih _ _ _ _ _ _ _ _ hf
      · have hf := gz_ip c39 hf
        refine sz_iload dX2_partsOn_42 rfl ?_
        refine sz_iload dX2_partsOn_44 rfl ?_
        refine sz_iadd dX2_partsOn_46 ?_
        obtain ⟨y47, ey47, hf⟩ := gz_lt hf
        refine sz_topi ey47 ?_
        refine sz_istore dX2_partsOn_47 (Nat.le_of_ble_eq_true rfl) rfl ?_
        refine sz_ls (l2 := [some (.ref 10), some (.int x1), some (.int x2), some (.int x3), some (.int x4), some (.int y47), some (.int x6), some (.int q21.1)]) rfl ?_
        refine sz_weak (l2 := [some (.ref 10), some (.int x1), some (.int x2), some (.int x3), some (.int x4), some (.int y47), some (.int x6), none]) (gz_subk (gz_subk (gz_subk (gz_subk (gz_subk (gz_subk (gz_subk (gz_subn gz_sub0)))))))) ?_
        exact tX2_partsOn_49   ih _ _ _ _ _ _ _ _ hf
def fX2_partsOn (La : gz_L)  (x1 : Int32) (x2 : Int32) (x3 : Int32) (x4 : Int32) (g : gz_S) : Option (Int32 × gz_S) :=
  fX2_partsOn_6 La    gz_FU x1 x2 x3 x4 0 0 g
set_option maxRecDepth 100000 in
set_option maxHeartbeats 4000000 in
theorem kX2_partsOn {La : gz_L}  {x1 : Int32} {x2 : Int32} {x3 : Int32} {x4 : Int32} {g : gz_S} {r : Int32 × gz_S}  (hf : fX2_partsOn La  x1 x2 x3 x4 g = some r) : gz_K La 7 mX2_partsOn [.ref 10, .int x1, .int x2, .int x3, .int x4] g (gz_Fi r) := by
  unfold fX2_partsOn at hf
  refine gz_K.of 3 (by decide +kernel) rfl ?_
  show gz_J La 7 mX2_partsOn 0 [some (.ref 10), some (.int x1), some (.int x2), some (.int x3), some (.int x4), none, none, none] [] g (gz_Fi r)
  refine sz_iconst dX2_partsOn_0 (cI0) ?_
  refine sz_istore dX2_partsOn_1 (Nat.le_of_ble_eq_true rfl) rfl ?_
  refine sz_ls (l2 := [some (.ref 10), some (.int x1), some (.int x2), some (.int x3), some (.int x4), some (.int 0), none, none]) rfl ?_
  refine sz_iconst dX2_partsOn_3 (cI0) ?_
  refine sz_istore dX2_partsOn_4 (Nat.le_of_ble_eq_true rfl) rfl ?_
  refine sz_ls (l2 := [some (.ref 10), some (.int x1), some (.int x2), some (.int x3), some (.int x4), some (.int 0), some (.int 0), none]) rfl ?_
  exact tX2_partsOn_6    _ _ _ _ _ _ _ _ _ hf
def fX8_forget (La : gz_L)   (g : gz_S) : Option (gz_S) :=
  gz_let (gz_wi g 11 0 0) (fun g2 => some g2)
set_option maxRecDepth 100000 in
set_option maxHeartbeats 4000000 in
theorem kX8_forget {La : gz_L}   {g : gz_S} {r : gz_S}  (hf : fX8_forget La   g = some r) : gz_K La 1 mX8_forget [.ref 11] g (gz_Fv r) := by
  unfold fX8_forget at hf
  refine gz_K.of 0 (by decide +kernel) rfl ?_
  show gz_J La 1 mX8_forget 0 [some (.ref 11)] [] g (gz_Fv r)
  refine sz_aload_n dX8_forget_0 rfl ?_
  refine sz_iconst dX8_forget_1 (cI0) ?_
  obtain ⟨g2, eg2, hf⟩ := gz_lt hf
  refine sz_putI2 dX8_forget_2 flX8_40 kd11 fi8_0 eg2 ?_
  cases hf
  exact sz_ret dX8_forget_5 rfl ⟨rfl, rfl⟩
def fX8_add (La : gz_L)  (x1 : Int32) (x2 : Int32) (x3 : Int32) (g : gz_S) : Option (Int32 × gz_S) :=
  if (g.1 11 0) < 10 then if gz_ok (g.1 11 0) 10 then gz_let (gz_wi g 33 (Int32.toNatClampNeg (g.1 11 0)) x1) (fun g20 => if gz_ok (g20.1 11 0) 10 then gz_let (gz_wi g20 34 (Int32.toNatClampNeg (g20.1 11 0)) x2) (fun g30 => if gz_ok (g30.1 11 0) 10 then gz_let (gz_wi g30 35 (Int32.toNatClampNeg (g30.1 11 0)) x3) (fun g40 => gz_let (gz_wi g40 11 0 ((g40.1 11 0) + 1)) (fun g48 => some (1, g48))) else none) else none) else none else some (0, g)
set_option maxRecDepth 100000 in
set_option maxHeartbeats 4000000 in
theorem kX8_add {La : gz_L}  {x1 : Int32} {x2 : Int32} {x3 : Int32} {g : gz_S} {r : Int32 × gz_S}  (hf : fX8_add La  x1 x2 x3 g = some r) : gz_K La 1 mX8_add [.ref 11, .int x1, .int x2, .int x3] g (gz_Fi r) := by
  unfold fX8_add at hf
  refine gz_K.of 0 (by decide +kernel) rfl ?_
  show gz_J La 1 mX8_add 0 [some (.ref 11), some (.int x1), some (.int x2), some (.int x3)] [] g (gz_Fi r)
  refine sz_aload_n dX8_add_0 rfl ?_
  refine sz_getI dX8_add_1 flX8_40 kd11 rfl ?_
  refine sz_bipush dX8_add_4 (cB10) ?_
  refine sz_icmp_lt 11 dX8_add_6 (by decide) (fun c6 => ?_) (fun c6 => ?_)
  · have hf := gz_ip c6 hf
    refine sz_aload_n dX8_add_11 rfl ?_
    refine sz_getR dX8_add_12 flX8_11 kd11 rfl rf11_4 ?_
    refine sz_aload_n dX8_add_15 rfl ?_
    refine sz_getI dX8_add_16 flX8_40 kd11 rfl ?_
    refine sz_iload_n dX8_add_19 rfl ?_
    obtain ⟨c20, hf⟩ := gz_gd hf
    obtain ⟨g20, eg20, hf⟩ := gz_lt hf
    refine sz_iastL dX8_add_20 kd33 c20 rfl eg20 ?_
    refine sz_aload_n dX8_add_21 rfl ?_
    refine sz_getR dX8_add_22 flX8_15 kd11 rfl rf11_5 ?_
    refine sz_aload_n dX8_add_25 rfl ?_
    refine sz_getI dX8_add_26 flX8_40 kd11 rfl ?_
    refine sz_iload_n dX8_add_29 rfl ?_
    obtain ⟨c30, hf⟩ := gz_gd hf
    obtain ⟨g30, eg30, hf⟩ := gz_lt hf
    refine sz_iastL dX8_add_30 kd34 c30 rfl eg30 ?_
    refine sz_aload_n dX8_add_31 rfl ?_
    refine sz_getR dX8_add_32 flX8_18 kd11 rfl rf11_6 ?_
    refine sz_aload_n dX8_add_35 rfl ?_
    refine sz_getI dX8_add_36 flX8_40 kd11 rfl ?_
    refine sz_iload_n dX8_add_39 rfl ?_
    obtain ⟨c40, hf⟩ := gz_gd hf
    obtain ⟨g40, eg40, hf⟩ := gz_lt hf
    refine sz_iastL dX8_add_40 kd35 c40 rfl eg40 ?_
    refine sz_aload_n dX8_add_41 rfl ?_
    refine sz_dup dX8_add_42 rfl ?_
    refine sz_getI dX8_add_43 flX8_40 kd11 rfl ?_
    refine sz_iconst dX8_add_46 (cI1) ?_
    refine sz_iadd dX8_add_47 ?_
    obtain ⟨g48, eg48, hf⟩ := gz_lt hf
    refine sz_putI2 dX8_add_48 flX8_40 kd11 fi8_0 eg48 ?_
    refine sz_iconst dX8_add_51 (cI1) ?_
    cases hf
    exact sz_iret dX8_add_52 rfl rfl ⟨rfl, rfl⟩
  · have hf := gz_in1 c6 hf
    refine sz_iconst dX8_add_9 (cI0) ?_
    cases hf
    exact sz_iret dX8_add_10 rfl rfl ⟨rfl, rfl⟩
def fX8_trace_48 (La : gz_L)   (k13 : Int32 → Int32 → Int32 → gz_S → Option (gz_S)) (x1 : Int32) (x2 : Int32) (x3 : Int32) (s0 : Int32) (s1 : Int32) (g : gz_S) : Option (gz_S) := if gz_ok s1 61 then gz_let (gz_wi g 23 (Int32.toNatClampNeg s1) s0) (fun g48 => gz_let (x3 + 1) (fun y49 => k13 x1 x2 y49 g48)) else none
set_option maxRecDepth 100000 in
set_option maxHeartbeats 4000000 in
theorem tX8_trace_48 {La : gz_L}   {k13 : Int32 → Int32 → Int32 → gz_S → Option (gz_S)}  (hk13 : ∀ (x1 : Int32) (x2 : Int32) (x3 : Int32) (g : gz_S) (r : gz_S), k13 x1 x2 x3 g = some r → gz_J La 6 mX8_trace 13 [some (.ref 11), some (.int x1), some (.int x2), some (.int x3)] [] g (gz_Fv r)) : ∀ (x1 : Int32) (x2 : Int32) (x3 : Int32) (s0 : Int32) (s1 : Int32) (g : gz_S) (r : gz_S), fX8_trace_48 La   k13 x1 x2 x3 s0 s1 g = some r → gz_J La 6 mX8_trace 48 [some (.ref 11), some (.int x1), some (.int x2), some (.int x3)] [.int s0, .int s1, .ref 23] g (gz_Fv r) := by
  intro x1 x2 x3 s0 s1 g r hf
  unfold fX8_trace_48 at hf
  obtain ⟨c48, hf⟩ := gz_gd hf
  obtain ⟨g48, eg48, hf⟩ := gz_lt hf
  refine sz_iastL dX8_trace_48 kd23 c48 rfl eg48 ?_
  obtain ⟨y49, ey49, hf⟩ := gz_lt hf
  refine sz_iinc (v := y49) dX8_trace_49 rfl (by rw [ey49, cI1]) (Nat.le_of_ble_eq_true rfl) rfl ?_
  refine sz_ls (l2 := [some (.ref 11), some (.int x1), some (.int x2), some (.int y49)]) rfl ?_
  refine sz_goto 13 dX8_trace_52 (by decide) ?_
  exact hk13 _ _ _ _ _ hf
def fX8_trace_13 (La : gz_L)   (k55 : Int32 → Int32 → gz_S → Option (gz_S)) : Nat → Int32 → Int32 → Int32 → gz_S → Option (gz_S)
  | 0, _, _, _, _ => none
  | n + 1, x1, x2, x3, g => if (g.1 23 60) ≤ x3 then k55 x1 x2 g else if x3 = x1 then fX8_trace_48 La   (fX8_trace_13 La   k55 n)  x1 x2 x3 0 ((42 : Int32) + x3) g else fX8_trace_48 La   (fX8_trace_13 La   k55 n)  x1 x2 x3 2 ((42 : Int32) + x3) g
set_option maxRecDepth 100000 in
set_option maxHeartbeats 4000000 in
theorem tX8_trace_13 {La : gz_L}   {k55 : Int32 → Int32 → gz_S → Option (gz_S)}  (hk55 : ∀ (x1 : Int32) (x2 : Int32) (g : gz_S) (r : gz_S), k55 x1 x2 g = some r → gz_J La 6 mX8_trace 55 [some (.ref 11), some (.int x1), some (.int x2), none] [] g (gz_Fv r)) : ∀ (n : Nat) (x1 : Int32) (x2 : Int32) (x3 : Int32) (g : gz_S) (r : gz_S), fX8_trace_13 La   k55 n x1 x2 x3 g = some r → gz_J La 6 mX8_trace 13 [some (.ref 11), some (.int x1), some (.int x2), some (.int x3)] [] g (gz_Fv r) := by
  intro n
  induction n with
  | zero => intro x1 x2 x3 g r hf; exact nomatch (show (none : Option (gz_S)) = some r from hf)
  | succ n ih =>
    intro x1 x2 x3 g r hf
    unfold fX8_trace_13 at hf
    refine sz_iload_n dX8_trace_13 rfl ?_
    refine sz_aload_n dX8_trace_14 rfl ?_
    refine sz_getR dX8_trace_15 flX8_33 kd11 rfl rf11_2 ?_
    refine sz_getR dX8_trace_18 flX8_56 kd7 rfl rf7_0 ?_
    refine sz_bipush dX8_trace_21 (cB60) ?_
    refine sz_ialdL dX8_trace_23 kd23 vi60_61 tn60 ?_
    refine sz_icmp_ge 55 dX8_trace_24 (by decide) (fun c24 => ?_) (fun c24 => ?_)
    · have hf := gz_ip c24 hf
      refine sz_weak (l2 := [some (.ref 11), some (.int x1), some (.int x2), none]) (gz_subk (gz_subk (gz_subk (gz_subn gz_sub0)))) ?_
      exact hk55 _ _ _ _ hf
    · have hf := gz_in1 c24 hf
      refine sz_aload_n dX8_trace_27 rfl ?_
      refine sz_getR dX8_trace_28 flX8_33 kd11 rfl rf11_2 ?_
      refine sz_getR dX8_trace_31 flX8_56 kd7 rfl rf7_0 ?_
      refine sz_bipush dX8_trace_34 (cB42) ?_
      refine sz_iload_n dX8_trace_36 rfl ?_
      refine sz_iadd dX8_trace_37 ?_
      refine sz_iload_n dX8_trace_38 rfl ?_
      refine sz_iload_n dX8_trace_39 rfl ?_
      refine sz_icmp_ne 47 dX8_trace_40 (by decide) (fun c40 => ?_) (fun c40 => ?_)
      · have hf := gz_in1 c40 hf
        refine sz_iconst dX8_trace_47 (cI2) ?_
        exact tX8_trace_48   ih _ _ _ _ _ _ _ hf
      · have hf := gz_ip c40 hf
        refine sz_iconst dX8_trace_43 (cI0) ?_
        refine sz_goto 48 dX8_trace_44 (by decide) ?_
        exact tX8_trace_48   ih _ _ _ _ _ _ _ hf
def fX8_trace_89 (La : gz_L)    : Nat → Int32 → Int32 → Int32 → gz_S → Option (gz_S)
  | 0, _, _, _, _ => none
  | n + 1, x1, x2, x3, g => if 31 ≤ x3 then some g else if gz_ok ((30 : Int32) + x1) 61 then if gz_ok ((x2 * 31) + x3) 496 then gz_let (gz_wi g 36 (Int32.toNatClampNeg ((x2 * 31) + x3)) (g.1 23 (Int32.toNatClampNeg ((30 : Int32) + x1)))) (fun g117 => (fX10_passHour La  7 g117).bind (fun q126 => gz_let (x3 + 1) (fun y130 => fX8_trace_89 La    n x1 x2 y130 q126.2))) else none else none
set_option maxRecDepth 100000 in
set_option maxHeartbeats 4000000 in
theorem tX8_trace_89 {La : gz_L}      : ∀ (n : Nat) (x1 : Int32) (x2 : Int32) (x3 : Int32) (g : gz_S) (r : gz_S), fX8_trace_89 La    n x1 x2 x3 g = some r → gz_J La 6 mX8_trace 89 [some (.ref 11), some (.int x1), some (.int x2), some (.int x3)] [] g (gz_Fv r) := by
  intro n
  induction n with
  | zero => intro x1 x2 x3 g r hf; exact nomatch (show (none : Option (gz_S)) = some r from hf)
  | succ n ih =>
    intro x1 x2 x3 g r hf
    unfold fX8_trace_89 at hf
    refine sz_iload_n dX8_trace_89 rfl ?_
    refine sz_bipush dX8_trace_90 (cB31) ?_
    refine sz_icmp_ge 136 dX8_trace_92 (by decide) (fun c92 => ?_) (fun c92 => ?_)
    · have hf := gz_ip c92 hf
      cases hf
      exact sz_ret dX8_trace_136 rfl ⟨rfl, rfl⟩
    · have hf := gz_in1 c92 hf
      refine sz_aload_n dX8_trace_95 rfl ?_
      refine sz_getR dX8_trace_96 flX8_21 kd11 rfl rf11_7 ?_
      refine sz_iload_n dX8_trace_99 rfl ?_
      refine sz_bipush dX8_trace_100 (cB31) ?_
      refine sz_imul dX8_trace_102 ?_
      refine sz_iload_n dX8_trace_103 rfl ?_
      refine sz_iadd dX8_trace_104 ?_
      refine sz_aload_n dX8_trace_105 rfl ?_
      refine sz_getR dX8_trace_106 flX8_33 kd11 rfl rf11_2 ?_
      refine sz_getR dX8_trace_109 flX8_56 kd7 rfl rf7_0 ?_
      refine sz_bipush dX8_trace_112 (cB30) ?_
      refine sz_iload_n dX8_trace_114 rfl ?_
      refine sz_iadd dX8_trace_115 ?_
      obtain ⟨c116, hf⟩ := gz_gd hf
      refine sz_ialdL dX8_trace_116 kd23 c116 rfl ?_
      obtain ⟨c117, hf⟩ := gz_gd hf
      obtain ⟨g117, eg117, hf⟩ := gz_lt hf
      refine sz_iastL dX8_trace_117 kd36 c117 rfl eg117 ?_
      refine sz_aload_n dX8_trace_118 rfl ?_
      refine sz_getR dX8_trace_119 flX8_36 kd11 rfl rf11_3 ?_
      refine sz_aload_n dX8_trace_122 rfl ?_
      refine sz_getR dX8_trace_123 flX8_33 kd11 rfl rf11_2 ?_
      obtain ⟨q126, eq126, hf⟩ := gz_bd hf
      refine sz_callVi [.ref 7] [] dX8_trace_126 mvX8_59 (Nat.le_of_ble_eq_true rfl) (by decide : 10 < 13) kd8 rfl (Nat.le_of_ble_eq_true rfl) (kX10_passHour  (Or.inr (Or.inr rfl)) eq126) ?_
      refine sz_pop dX8_trace_129 rfl ?_
      obtain ⟨y130, ey130, hf⟩ := gz_lt hf
      refine sz_iinc (v := y130) dX8_trace_130 rfl (by rw [ey130, cI1]) (Nat.le_of_ble_eq_true rfl) rfl ?_
      refine sz_ls (l2 := [some (.ref 11), some (.int x1), some (.int x2), some (.int y130)]) rfl ?_
      refine sz_goto 89 dX8_trace_133 (by decide) ?_
      exact ih _ _ _ _ _ hf
def fX8_trace (La : gz_L)  (x1 : Int32) (x2 : Int32) (g : gz_S) : Option (gz_S) :=
  (fX6_copy La  7 5 g).bind (fun q8 => fX8_trace_13 La   (fun (x1 : Int32) (x2 : Int32) g => if gz_ok ((34 : Int32) + x1) 61 then gz_let (gz_wi g 23 (Int32.toNatClampNeg ((34 : Int32) + x1)) (x2 - x2 / 4 * 4)) (fun g69 => if gz_ok ((50 : Int32) + x1) 61 then gz_let (gz_wi g69 23 (Int32.toNatClampNeg ((50 : Int32) + x1)) ((x2 / 4) + 1)) (fun g86 => fX8_trace_89 La    gz_FU x1 x2 0 g86) else none) else none) gz_FU x1 x2 0 q8)
set_option maxRecDepth 100000 in
set_option maxHeartbeats 4000000 in
theorem kX8_trace {La : gz_L}  {x1 : Int32} {x2 : Int32} {g : gz_S} {r : gz_S}  (hf : fX8_trace La  x1 x2 g = some r) : gz_K La 6 mX8_trace [.ref 11, .int x1, .int x2] g (gz_Fv r) := by
  unfold fX8_trace at hf
  refine gz_K.of 1 (by decide +kernel) rfl ?_
  show gz_J La 6 mX8_trace 0 [some (.ref 11), some (.int x1), some (.int x2), none] [] g (gz_Fv r)
  refine sz_aload_n dX8_trace_0 rfl ?_
  refine sz_getR dX8_trace_1 flX8_33 kd11 rfl rf11_2 ?_
  refine sz_aload_n dX8_trace_4 rfl ?_
  refine sz_getR dX8_trace_5 flX8_29 kd11 rfl rf11_1 ?_
  obtain ⟨q8, eq8, hf⟩ := gz_bd hf
  refine sz_callVv [.ref 5] [] dX8_trace_8 mvX8_52 (Nat.le_of_ble_eq_true rfl) (by decide : 6 < 13) kd7 rfl (Nat.le_of_ble_eq_true rfl) (kX6_copy  (Or.inr (Or.inr rfl)) (Or.inl rfl) eq8) ?_
  refine sz_iconst dX8_trace_11 (cI0) ?_
  refine sz_istore_n dX8_trace_12 rfl (Nat.le_of_ble_eq_true rfl) rfl ?_
  refine sz_ls (l2 := [some (.ref 11), some (.int x1), some (.int x2), some (.int 0)]) rfl ?_
  have hk55 : ∀ (x1 : Int32) (x2 : Int32) (g : gz_S) (r : gz_S), (fun (x1 : Int32) (x2 : Int32) g => if gz_ok ((34 : Int32) + x1) 61 then gz_let (gz_wi g 23 (Int32.toNatClampNeg ((34 : Int32) + x1)) (x2 - x2 / 4 * 4)) (fun g69 => if gz_ok ((50 : Int32) + x1) 61 then gz_let (gz_wi g69 23 (Int32.toNatClampNeg ((50 : Int32) + x1)) ((x2 / 4) + 1)) (fun g86 => fX8_trace_89 La    gz_FU x1 x2 0 g86) else none) else none) x1 x2 g = some r → gz_J La 6 mX8_trace 55 [some (.ref 11), some (.int x1), some (.int x2), none] [] g (gz_Fv r) := by
    intro x1 x2 g r hf
    refine sz_aload_n dX8_trace_55 rfl ?_
    refine sz_getR dX8_trace_56 flX8_33 kd11 rfl rf11_2 ?_
    refine sz_getR dX8_trace_59 flX8_56 kd7 rfl rf7_0 ?_
    refine sz_bipush dX8_trace_62 (cB34) ?_
    refine sz_iload_n dX8_trace_64 rfl ?_
    refine sz_iadd dX8_trace_65 ?_
    refine sz_iload_n dX8_trace_66 rfl ?_
    refine sz_iconst dX8_trace_67 (cI4) ?_
    refine sz_irem dX8_trace_68 (by decide) ?_
    obtain ⟨c69, hf⟩ := gz_gd hf
    obtain ⟨g69, eg69, hf⟩ := gz_lt hf
    refine sz_iastL dX8_trace_69 kd23 c69 rfl eg69 ?_
    refine sz_aload_n dX8_trace_70 rfl ?_
    refine sz_getR dX8_trace_71 flX8_33 kd11 rfl rf11_2 ?_
    refine sz_getR dX8_trace_74 flX8_56 kd7 rfl rf7_0 ?_
    refine sz_bipush dX8_trace_77 (cB50) ?_
    refine sz_iload_n dX8_trace_79 rfl ?_
    refine sz_iadd dX8_trace_80 ?_
    refine sz_iload_n dX8_trace_81 rfl ?_
    refine sz_iconst dX8_trace_82 (cI4) ?_
    refine sz_idiv dX8_trace_83 (by decide) ?_
    refine sz_iconst dX8_trace_84 (cI1) ?_
    refine sz_iadd dX8_trace_85 ?_
    obtain ⟨c86, hf⟩ := gz_gd hf
    obtain ⟨g86, eg86, hf⟩ := gz_lt hf
    refine sz_iastL dX8_trace_86 kd23 c86 rfl eg86 ?_
    refine sz_iconst dX8_trace_87 (cI0) ?_
    refine sz_istore_n dX8_trace_88 rfl (Nat.le_of_ble_eq_true rfl) rfl ?_
    refine sz_ls (l2 := [some (.ref 11), some (.int x1), some (.int x2), some (.int 0)]) rfl ?_
    exact tX8_trace_89    _ _ _ _ _ _ hf
  exact tX8_trace_13   hk55 _ _ _ _ _ _ hf
def fX8_agrees_47 (La : gz_L)   (k2 : Int32 → Int32 → Int32 → gz_S → Option (Int32 × gz_S)) (x1 : Int32) (x2 : Int32) (x3 : Int32) (g : gz_S) : Option (Int32 × gz_S) := gz_let (x3 + 1) (fun y47 => k2 x1 x2 y47 g)
set_option maxRecDepth 100000 in
set_option maxHeartbeats 4000000 in
theorem tX8_agrees_47 {La : gz_L}   {k2 : Int32 → Int32 → Int32 → gz_S → Option (Int32 × gz_S)}  (hk2 : ∀ (x1 : Int32) (x2 : Int32) (x3 : Int32) (g : gz_S) (r : Int32 × gz_S), k2 x1 x2 x3 g = some r → gz_J La 1 mX8_agrees 2 [some (.ref 11), some (.int x1), some (.int x2), some (.int x3)] [] g (gz_Fi r)) : ∀ (x1 : Int32) (x2 : Int32) (x3 : Int32) (g : gz_S) (r : Int32 × gz_S), fX8_agrees_47 La   k2 x1 x2 x3 g = some r → gz_J La 1 mX8_agrees 47 [some (.ref 11), some (.int x1), some (.int x2), some (.int x3)] [] g (gz_Fi r) := by
  intro x1 x2 x3 g r hf
  unfold fX8_agrees_47 at hf
  obtain ⟨y47, ey47, hf⟩ := gz_lt hf
  refine sz_iinc (v := y47) dX8_agrees_47 rfl (by rw [ey47, cI1]) (Nat.le_of_ble_eq_true rfl) rfl ?_
  refine sz_ls (l2 := [some (.ref 11), some (.int x1), some (.int x2), some (.int y47)]) rfl ?_
  refine sz_goto 2 dX8_agrees_50 (by decide) ?_
  exact hk2 _ _ _ _ _ hf
def fX8_agrees_2 (La : gz_L)    : Nat → Int32 → Int32 → Int32 → gz_S → Option (Int32 × gz_S)
  | 0, _, _, _, _ => none
  | n + 1, x1, x2, x3, g => if (g.1 11 0) ≤ x3 then some (1, g) else if gz_ok x3 10 then if (g.1 33 (Int32.toNatClampNeg x3)) = x1 then if gz_ok x3 10 then if gz_ok ((x2 * 31) + (g.1 34 (Int32.toNatClampNeg x3))) 496 then if gz_ok x3 10 then if (g.1 36 (Int32.toNatClampNeg ((x2 * 31) + (g.1 34 (Int32.toNatClampNeg x3))))) = (g.1 35 (Int32.toNatClampNeg x3)) then fX8_agrees_47 La   (fX8_agrees_2 La    n)  x1 x2 x3 g else some (0, g) else none else none else none else fX8_agrees_47 La   (fX8_agrees_2 La    n)  x1 x2 x3 g else none
set_option maxRecDepth 100000 in
set_option maxHeartbeats 4000000 in
theorem tX8_agrees_2 {La : gz_L}      : ∀ (n : Nat) (x1 : Int32) (x2 : Int32) (x3 : Int32) (g : gz_S) (r : Int32 × gz_S), fX8_agrees_2 La    n x1 x2 x3 g = some r → gz_J La 1 mX8_agrees 2 [some (.ref 11), some (.int x1), some (.int x2), some (.int x3)] [] g (gz_Fi r) := by
  intro n
  induction n with
  | zero => intro x1 x2 x3 g r hf; exact nomatch (show (none : Option (Int32 × gz_S)) = some r from hf)
  | succ n ih =>
    intro x1 x2 x3 g r hf
    unfold fX8_agrees_2 at hf
    refine sz_iload_n dX8_agrees_2 rfl ?_
    refine sz_aload_n dX8_agrees_3 rfl ?_
    refine sz_getI dX8_agrees_4 flX8_40 kd11 rfl ?_
    refine sz_icmp_ge 53 dX8_agrees_7 (by decide) (fun c7 => ?_) (fun c7 => ?_)
    · have hf := gz_ip c7 hf
      refine sz_iconst dX8_agrees_53 (cI1) ?_
      cases hf
      exact sz_iret dX8_agrees_54 rfl rfl ⟨rfl, rfl⟩
    · have hf := gz_in1 c7 hf
      refine sz_aload_n dX8_agrees_10 rfl ?_
      refine sz_getR dX8_agrees_11 flX8_11 kd11 rfl rf11_4 ?_
      refine sz_iload_n dX8_agrees_14 rfl ?_
      obtain ⟨c15, hf⟩ := gz_gd hf
      refine sz_ialdL dX8_agrees_15 kd33 c15 rfl ?_
      refine sz_iload_n dX8_agrees_16 rfl ?_
      refine sz_icmp_ne 47 dX8_agrees_17 (by decide) (fun c17 => ?_) (fun c17 => ?_)
      · have hf := gz_in1 c17 hf
        exact tX8_agrees_47   ih _ _ _ _ _ hf
      · have hf := gz_ip c17 hf
        refine sz_aload_n dX8_agrees_20 rfl ?_
        refine sz_getR dX8_agrees_21 flX8_21 kd11 rfl rf11_7 ?_
        refine sz_iload_n dX8_agrees_24 rfl ?_
        refine sz_bipush dX8_agrees_25 (cB31) ?_
        refine sz_imul dX8_agrees_27 ?_
        refine sz_aload_n dX8_agrees_28 rfl ?_
        refine sz_getR dX8_agrees_29 flX8_15 kd11 rfl rf11_5 ?_
        refine sz_iload_n dX8_agrees_32 rfl ?_
        obtain ⟨c33, hf⟩ := gz_gd hf
        refine sz_ialdL dX8_agrees_33 kd34 c33 rfl ?_
        refine sz_iadd dX8_agrees_34 ?_
        obtain ⟨c35, hf⟩ := gz_gd hf
        refine sz_ialdL dX8_agrees_35 kd36 c35 rfl ?_
        refine sz_aload_n dX8_agrees_36 rfl ?_
        refine sz_getR dX8_agrees_37 flX8_18 kd11 rfl rf11_6 ?_
        refine sz_iload_n dX8_agrees_40 rfl ?_
        obtain ⟨c41, hf⟩ := gz_gd hf
        refine sz_ialdL dX8_agrees_41 kd35 c41 rfl ?_
        refine sz_icmp_eq 47 dX8_agrees_42 (by decide) (fun c42 => ?_) (fun c42 => ?_)
        · have hf := gz_ip c42 hf
          exact tX8_agrees_47   ih _ _ _ _ _ hf
        · have hf := gz_in1 c42 hf
          refine sz_iconst dX8_agrees_45 (cI0) ?_
          cases hf
          exact sz_iret dX8_agrees_46 rfl rfl ⟨rfl, rfl⟩
def fX8_agrees (La : gz_L)  (x1 : Int32) (x2 : Int32) (g : gz_S) : Option (Int32 × gz_S) :=
  fX8_agrees_2 La    gz_FU x1 x2 0 g
set_option maxRecDepth 100000 in
set_option maxHeartbeats 4000000 in
theorem kX8_agrees {La : gz_L}  {x1 : Int32} {x2 : Int32} {g : gz_S} {r : Int32 × gz_S}  (hf : fX8_agrees La  x1 x2 g = some r) : gz_K La 1 mX8_agrees [.ref 11, .int x1, .int x2] g (gz_Fi r) := by
  unfold fX8_agrees at hf
  refine gz_K.of 1 (by decide +kernel) rfl ?_
  show gz_J La 1 mX8_agrees 0 [some (.ref 11), some (.int x1), some (.int x2), none] [] g (gz_Fi r)
  refine sz_iconst dX8_agrees_0 (cI0) ?_
  refine sz_istore_n dX8_agrees_1 rfl (Nat.le_of_ble_eq_true rfl) rfl ?_
  refine sz_ls (l2 := [some (.ref 11), some (.int x1), some (.int x2), some (.int 0)]) rfl ?_
  exact tX8_agrees_2    _ _ _ _ _ _ hf
def fX8_fitting_31 (La : gz_L)   (k4 : Int32 → Int32 → Int32 → gz_S → Option (Int32 × gz_S)) (x1 : Int32) (x2 : Int32) (x3 : Int32) (g : gz_S) : Option (Int32 × gz_S) := gz_let (x3 + 1) (fun y31 => k4 x1 x2 y31 g)
set_option maxRecDepth 100000 in
set_option maxHeartbeats 4000000 in
theorem tX8_fitting_31 {La : gz_L}   {k4 : Int32 → Int32 → Int32 → gz_S → Option (Int32 × gz_S)}  (hk4 : ∀ (x1 : Int32) (x2 : Int32) (x3 : Int32) (g : gz_S) (r : Int32 × gz_S), k4 x1 x2 x3 g = some r → gz_J La 7 mX8_fitting 4 [some (.ref 11), some (.int x1), some (.int x2), some (.int x3)] [] g (gz_Fi r)) : ∀ (x1 : Int32) (x2 : Int32) (x3 : Int32) (g : gz_S) (r : Int32 × gz_S), fX8_fitting_31 La   k4 x1 x2 x3 g = some r → gz_J La 7 mX8_fitting 31 [some (.ref 11), some (.int x1), some (.int x2), some (.int x3)] [] g (gz_Fi r) := by
  intro x1 x2 x3 g r hf
  unfold fX8_fitting_31 at hf
  obtain ⟨y31, ey31, hf⟩ := gz_lt hf
  refine sz_iinc (v := y31) dX8_fitting_31 rfl (by rw [ey31, cI1]) (Nat.le_of_ble_eq_true rfl) rfl ?_
  refine sz_ls (l2 := [some (.ref 11), some (.int x1), some (.int x2), some (.int y31)]) rfl ?_
  refine sz_goto 4 dX8_fitting_34 (by decide) ?_
  exact hk4 _ _ _ _ _ hf
def fX8_fitting_4 (La : gz_L)    : Nat → Int32 → Int32 → Int32 → gz_S → Option (Int32 × gz_S)
  | 0, _, _, _, _ => none
  | n + 1, x1, x2, x3, g => if 16 ≤ x3 then some (x2, g) else (fX8_trace La  x1 x3 g).bind (fun q13 => (fX8_agrees La  x1 x3 q13).bind (fun q19 => if q19.1 = 0 then fX8_fitting_31 La   (fX8_fitting_4 La    n)  x1 x2 x3 q19.2 else gz_let (x2 ||| ((1 : Int32) <<< (x3 &&& 31))) (fun y30 => fX8_fitting_31 La   (fX8_fitting_4 La    n)  x1 y30 x3 q19.2)))
set_option maxRecDepth 100000 in
set_option maxHeartbeats 4000000 in
theorem tX8_fitting_4 {La : gz_L}      : ∀ (n : Nat) (x1 : Int32) (x2 : Int32) (x3 : Int32) (g : gz_S) (r : Int32 × gz_S), fX8_fitting_4 La    n x1 x2 x3 g = some r → gz_J La 7 mX8_fitting 4 [some (.ref 11), some (.int x1), some (.int x2), some (.int x3)] [] g (gz_Fi r) := by
  intro n
  induction n with
  | zero => intro x1 x2 x3 g r hf; exact nomatch (show (none : Option (Int32 × gz_S)) = some r from hf)
  | succ n ih =>
    intro x1 x2 x3 g r hf
    unfold fX8_fitting_4 at hf
    refine sz_iload_n dX8_fitting_4 rfl ?_
    refine sz_bipush dX8_fitting_5 (cB16) ?_
    refine sz_icmp_ge 37 dX8_fitting_7 (by decide) (fun c7 => ?_) (fun c7 => ?_)
    · have hf := gz_ip c7 hf
      refine sz_iload_n dX8_fitting_37 rfl ?_
      cases hf
      exact sz_iret dX8_fitting_38 rfl rfl ⟨rfl, rfl⟩
    · have hf := gz_in1 c7 hf
      refine sz_aload_n dX8_fitting_10 rfl ?_
      refine sz_iload_n dX8_fitting_11 rfl ?_
      refine sz_iload_n dX8_fitting_12 rfl ?_
      obtain ⟨q13, eq13, hf⟩ := gz_bd hf
      refine sz_callVv [.int x1, .int x3] [] dX8_fitting_13 mvX8_44 (Nat.le_of_ble_eq_true rfl) (by decide : 8 < 13) kd11 rfl (Nat.le_of_ble_eq_true rfl) (kX8_trace   eq13) ?_
      refine sz_aload_n dX8_fitting_16 rfl ?_
      refine sz_iload_n dX8_fitting_17 rfl ?_
      refine sz_iload_n dX8_fitting_18 rfl ?_
      obtain ⟨q19, eq19, hf⟩ := gz_bd hf
      refine sz_callVi [.int x1, .int x3] [] dX8_fitting_19 mvX8_48 (Nat.le_of_ble_eq_true rfl) (by decide : 8 < 13) kd11 rfl (Nat.le_of_ble_eq_true rfl) (kX8_agrees   eq19) ?_
      refine sz_if_eq 31 dX8_fitting_22 (by decide) (fun c22 => ?_) (fun c22 => ?_)
      · have hf := gz_ip c22 hf
        exact tX8_fitting_31   ih _ _ _ _ _ hf
      · have hf := gz_in1 c22 hf
        refine sz_iload_n dX8_fitting_25 rfl ?_
        refine sz_iconst dX8_fitting_26 (cI1) ?_
        refine sz_iload_n dX8_fitting_27 rfl ?_
        refine sz_ishl dX8_fitting_28 ?_
        refine sz_ior dX8_fitting_29 ?_
        obtain ⟨y30, ey30, hf⟩ := gz_lt hf
        refine sz_topi ey30 ?_
        refine sz_istore_n dX8_fitting_30 rfl (Nat.le_of_ble_eq_true rfl) rfl ?_
        refine sz_ls (l2 := [some (.ref 11), some (.int x1), some (.int y30), some (.int x3)]) rfl ?_
        exact tX8_fitting_31   ih _ _ _ _ _ hf
def fX8_fitting (La : gz_L)  (x1 : Int32) (g : gz_S) : Option (Int32 × gz_S) :=
  fX8_fitting_4 La    gz_FU x1 0 0 g
set_option maxRecDepth 100000 in
set_option maxHeartbeats 4000000 in
theorem kX8_fitting {La : gz_L}  {x1 : Int32} {g : gz_S} {r : Int32 × gz_S}  (hf : fX8_fitting La  x1 g = some r) : gz_K La 7 mX8_fitting [.ref 11, .int x1] g (gz_Fi r) := by
  unfold fX8_fitting at hf
  refine gz_K.of 2 (by decide +kernel) rfl ?_
  show gz_J La 7 mX8_fitting 0 [some (.ref 11), some (.int x1), none, none] [] g (gz_Fi r)
  refine sz_iconst dX8_fitting_0 (cI0) ?_
  refine sz_istore_n dX8_fitting_1 rfl (Nat.le_of_ble_eq_true rfl) rfl ?_
  refine sz_ls (l2 := [some (.ref 11), some (.int x1), some (.int 0), none]) rfl ?_
  refine sz_iconst dX8_fitting_2 (cI0) ?_
  refine sz_istore_n dX8_fitting_3 rfl (Nat.le_of_ble_eq_true rfl) rfl ?_
  refine sz_ls (l2 := [some (.ref 11), some (.int x1), some (.int 0), some (.int 0)]) rfl ?_
  exact tX8_fitting_4    _ _ _ _ _ _ hf
def fX8_fit (La : gz_L)  (x1 : Int32) (x2 : Int32) (g : gz_S) : Option (Int32 × gz_S) :=
  (fX2_nthBit La  x1 x2 g).bind (fun q2 => if q2.1 = (-1) then some ((-1), q2.2) else some ((((q2.1 / 4) + 1) * 10) + (q2.1 - q2.1 / 4 * 4), q2.2))
set_option maxRecDepth 100000 in
set_option maxHeartbeats 4000000 in
theorem kX8_fit {La : gz_L}  {x1 : Int32} {x2 : Int32} {g : gz_S} {r : Int32 × gz_S}  (hf : fX8_fit La  x1 x2 g = some r) : gz_K La 2 mX8_fit [.ref 11, .int x1, .int x2] g (gz_Fi r) := by
  unfold fX8_fit at hf
  refine gz_K.of 1 (by decide +kernel) rfl ?_
  show gz_J La 2 mX8_fit 0 [some (.ref 11), some (.int x1), some (.int x2), none] [] g (gz_Fi r)
  refine sz_iload_n dX8_fit_0 rfl ?_
  refine sz_iload_n dX8_fit_1 rfl ?_
  obtain ⟨q2, eq2, hf⟩ := gz_bd hf
  refine sz_callSi [.int x1, .int x2] [] dX8_fit_2 msX8_65 (Nat.le_of_ble_eq_true rfl) (Nat.le_of_ble_eq_true rfl) (kX2_nthBit   eq2) ?_
  refine sz_istore_n dX8_fit_5 rfl (Nat.le_of_ble_eq_true rfl) rfl ?_
  refine sz_ls (l2 := [some (.ref 11), some (.int x1), some (.int x2), some (.int q2.1)]) rfl ?_
  refine sz_iload_n dX8_fit_6 rfl ?_
  refine sz_iconst dX8_fit_7 (cIm1) ?_
  refine sz_icmp_ne 15 dX8_fit_8 (by decide) (fun c8 => ?_) (fun c8 => ?_)
  · have hf := gz_in1 c8 hf
    refine sz_iload_n dX8_fit_15 rfl ?_
    refine sz_iconst dX8_fit_16 (cI4) ?_
    refine sz_idiv dX8_fit_17 (by decide) ?_
    refine sz_iconst dX8_fit_18 (cI1) ?_
    refine sz_iadd dX8_fit_19 ?_
    refine sz_bipush dX8_fit_20 (cB10) ?_
    refine sz_imul dX8_fit_22 ?_
    refine sz_iload_n dX8_fit_23 rfl ?_
    refine sz_iconst dX8_fit_24 (cI4) ?_
    refine sz_irem dX8_fit_25 (by decide) ?_
    refine sz_iadd dX8_fit_26 ?_
    cases hf
    exact sz_iret dX8_fit_27 rfl rfl ⟨rfl, rfl⟩
  · have hf := gz_ip c8 hf
    refine sz_iconst dX8_fit_11 (cIm1) ?_
    refine sz_goto 27 dX8_fit_12 (by decide) ?_
    cases hf
    exact sz_iret dX8_fit_27 rfl rfl ⟨rfl, rfl⟩
def fX8_mostAlike_66 (La : gz_L)   (k13 : Int32 → Int32 → Int32 → Int32 → gz_S → Option (Int32 × gz_S)) (x1 : Int32) (x2 : Int32) (x3 : Int32) (x4 : Int32) (g : gz_S) : Option (Int32 × gz_S) := gz_let (x4 + 1) (fun y66 => k13 x1 x2 x3 y66 g)
set_option maxRecDepth 100000 in
set_option maxHeartbeats 4000000 in
theorem tX8_mostAlike_66 {La : gz_L}   {k13 : Int32 → Int32 → Int32 → Int32 → gz_S → Option (Int32 × gz_S)}  (hk13 : ∀ (x1 : Int32) (x2 : Int32) (x3 : Int32) (x4 : Int32) (g : gz_S) (r : Int32 × gz_S), k13 x1 x2 x3 x4 g = some r → gz_J La 2 mX8_mostAlike 13 [some (.ref 11), some (.int x1), some (.int x2), some (.int x3), some (.int x4), none] [] g (gz_Fi r)) : ∀ (x1 : Int32) (x2 : Int32) (x3 : Int32) (x4 : Int32) (g : gz_S) (r : Int32 × gz_S), fX8_mostAlike_66 La   k13 x1 x2 x3 x4 g = some r → gz_J La 2 mX8_mostAlike 66 [some (.ref 11), some (.int x1), some (.int x2), some (.int x3), some (.int x4), none] [] g (gz_Fi r) := by
  intro x1 x2 x3 x4 g r hf
  unfold fX8_mostAlike_66 at hf
  obtain ⟨y66, ey66, hf⟩ := gz_lt hf
  refine sz_iinc (v := y66) dX8_mostAlike_66 rfl (by rw [ey66, cI1]) (Nat.le_of_ble_eq_true rfl) rfl ?_
  refine sz_ls (l2 := [some (.ref 11), some (.int x1), some (.int x2), some (.int x3), some (.int y66), none]) rfl ?_
  refine sz_goto 13 dX8_mostAlike_69 (by decide) ?_
  exact hk13 _ _ _ _ _ _ hf
def fX8_mostAlike_13 (La : gz_L)    : Nat → Int32 → Int32 → Int32 → Int32 → gz_S → Option (Int32 × gz_S)
  | 0, _, _, _, _, _ => none
  | n + 1, x1, x2, x3, x4, g => if 16 ≤ x4 then some (x3, g) else if ((x1 >>> (x4 &&& 31)) &&& (1 : Int32)) = 0 then fX8_mostAlike_66 La   (fX8_mostAlike_13 La    n)  x1 x2 x3 x4 g else if gz_ok ((x4 * 31) + x2) 496 then gz_let (g.1 36 (Int32.toNatClampNeg ((x4 * 31) + x2))) (fun y41 => if gz_ok y41 30 then if gz_ok y41 30 then gz_let (gz_wi g 37 (Int32.toNatClampNeg y41) ((g.1 37 (Int32.toNatClampNeg y41)) + 1)) (fun g53 => if gz_ok y41 30 then (fJ9_max_7cf53 La  x3 (g53.1 37 (Int32.toNatClampNeg y41)) g53).bind (fun q62 => fX8_mostAlike_66 La   (fX8_mostAlike_13 La    n)  x1 x2 q62.1 x4 q62.2) else none) else none else none) else none
set_option maxRecDepth 100000 in
set_option maxHeartbeats 4000000 in
theorem tX8_mostAlike_13 {La : gz_L}      : ∀ (n : Nat) (x1 : Int32) (x2 : Int32) (x3 : Int32) (x4 : Int32) (g : gz_S) (r : Int32 × gz_S), fX8_mostAlike_13 La    n x1 x2 x3 x4 g = some r → gz_J La 2 mX8_mostAlike 13 [some (.ref 11), some (.int x1), some (.int x2), some (.int x3), some (.int x4), none] [] g (gz_Fi r) := by
  intro n
  induction n with
  | zero => intro x1 x2 x3 x4 g r hf; exact nomatch (show (none : Option (Int32 × gz_S)) = some r from hf)
  | succ n ih =>
    intro x1 x2 x3 x4 g r hf
    unfold fX8_mostAlike_13 at hf
    refine sz_iload dX8_mostAlike_13 rfl ?_
    refine sz_bipush dX8_mostAlike_15 (cB16) ?_
    refine sz_icmp_ge 72 dX8_mostAlike_17 (by decide) (fun c17 => ?_) (fun c17 => ?_)
    · have hf := gz_ip c17 hf
      refine sz_iload_n dX8_mostAlike_72 rfl ?_
      cases hf
      exact sz_iret dX8_mostAlike_73 rfl rfl ⟨rfl, rfl⟩
    · have hf := gz_in1 c17 hf
      refine sz_iload_n dX8_mostAlike_20 rfl ?_
      refine sz_iload dX8_mostAlike_21 rfl ?_
      refine sz_ishr dX8_mostAlike_23 ?_
      refine sz_iconst dX8_mostAlike_24 (cI1) ?_
      refine sz_iand dX8_mostAlike_25 ?_
      refine sz_if_eq 66 dX8_mostAlike_26 (by decide) (fun c26 => ?_) (fun c26 => ?_)
      · have hf := gz_ip c26 hf
        exact tX8_mostAlike_66   ih _ _ _ _ _ _ hf
      · have hf := gz_in1 c26 hf
        refine sz_aload_n dX8_mostAlike_29 rfl ?_
        refine sz_getR dX8_mostAlike_30 flX8_21 kd11 rfl rf11_7 ?_
        refine sz_iload dX8_mostAlike_33 rfl ?_
        refine sz_bipush dX8_mostAlike_35 (cB31) ?_
        refine sz_imul dX8_mostAlike_37 ?_
        refine sz_iload_n dX8_mostAlike_38 rfl ?_
        refine sz_iadd dX8_mostAlike_39 ?_
        obtain ⟨c40, hf⟩ := gz_gd hf
        refine sz_ialdL dX8_mostAlike_40 kd36 c40 rfl ?_
        obtain ⟨y41, ey41, hf⟩ := gz_lt hf
        refine sz_topi ey41 ?_
        refine sz_istore dX8_mostAlike_41 (Nat.le_of_ble_eq_true rfl) rfl ?_
        refine sz_ls (l2 := [some (.ref 11), some (.int x1), some (.int x2), some (.int x3), some (.int x4), some (.int y41)]) rfl ?_
        refine sz_aload_n dX8_mostAlike_43 rfl ?_
        refine sz_getR dX8_mostAlike_44 flX8_26 kd11 rfl rf11_8 ?_
        refine sz_iload dX8_mostAlike_47 rfl ?_
        refine sz_dup2 dX8_mostAlike_49 rfl rfl ?_
        obtain ⟨c50, hf⟩ := gz_gd hf
        refine sz_ialdL dX8_mostAlike_50 kd37 c50 rfl ?_
        refine sz_iconst dX8_mostAlike_51 (cI1) ?_
        refine sz_iadd dX8_mostAlike_52 ?_
        obtain ⟨c53, hf⟩ := gz_gd hf
        obtain ⟨g53, eg53, hf⟩ := gz_lt hf
        refine sz_iastL dX8_mostAlike_53 kd37 c53 rfl eg53 ?_
        refine sz_iload_n dX8_mostAlike_54 rfl ?_
        refine sz_aload_n dX8_mostAlike_55 rfl ?_
        refine sz_getR dX8_mostAlike_56 flX8_26 kd11 rfl rf11_8 ?_
        refine sz_iload dX8_mostAlike_59 rfl ?_
        obtain ⟨c61, hf⟩ := gz_gd hf
        refine sz_ialdL dX8_mostAlike_61 kd37 c61 rfl ?_
        obtain ⟨q62, eq62, hf⟩ := gz_bd hf
        refine sz_callSi [.int x3, .int (g53.1 37 (Int32.toNatClampNeg y41))] [] dX8_mostAlike_62 msX8_80 (Nat.le_of_ble_eq_true rfl) (Nat.le_of_ble_eq_true rfl) (kJ9_max_7cf53   eq62) ?_
        refine sz_istore_n dX8_mostAlike_65 rfl (Nat.le_of_ble_eq_true rfl) rfl ?_
        refine sz_ls (l2 := [some (.ref 11), some (.int x1), some (.int x2), some (.int q62.1), some (.int x4), some (.int y41)]) rfl ?_
        refine sz_weak (l2 := [some (.ref 11), some (.int x1), some (.int x2), some (.int q62.1), some (.int x4), none]) (gz_subk (gz_subk (gz_subk (gz_subk (gz_subk (gz_subn gz_sub0)))))) ?_
        exact tX8_mostAlike_66   ih _ _ _ _ _ _ hf
def fX8_mostAlike (La : gz_L)  (x1 : Int32) (x2 : Int32) (g : gz_S) : Option (Int32 × gz_S) :=
  (fJ7_fill_53178 La  37 0 g).bind (fun q5 => fX8_mostAlike_13 La    gz_FU x1 x2 0 0 q5)
set_option maxRecDepth 100000 in
set_option maxHeartbeats 4000000 in
theorem kX8_mostAlike {La : gz_L}  {x1 : Int32} {x2 : Int32} {g : gz_S} {r : Int32 × gz_S}  (hf : fX8_mostAlike La  x1 x2 g = some r) : gz_K La 2 mX8_mostAlike [.ref 11, .int x1, .int x2] g (gz_Fi r) := by
  unfold fX8_mostAlike at hf
  refine gz_K.of 3 (by decide +kernel) rfl ?_
  show gz_J La 2 mX8_mostAlike 0 [some (.ref 11), some (.int x1), some (.int x2), none, none, none] [] g (gz_Fi r)
  refine sz_aload_n dX8_mostAlike_0 rfl ?_
  refine sz_getR dX8_mostAlike_1 flX8_26 kd11 rfl rf11_8 ?_
  refine sz_iconst dX8_mostAlike_4 (cI0) ?_
  obtain ⟨q5, eq5, hf⟩ := gz_bd hf
  refine sz_callSv [.ref 37, .int 0] [] dX8_mostAlike_5 msX8_74 (Nat.le_of_ble_eq_true rfl) (Nat.le_of_ble_eq_true rfl) (kJ7_fill_53178  (Or.inr (Or.inr (Or.inr rfl))) eq5) ?_
  refine sz_iconst dX8_mostAlike_8 (cI0) ?_
  refine sz_istore_n dX8_mostAlike_9 rfl (Nat.le_of_ble_eq_true rfl) rfl ?_
  refine sz_ls (l2 := [some (.ref 11), some (.int x1), some (.int x2), some (.int 0), none, none]) rfl ?_
  refine sz_iconst dX8_mostAlike_10 (cI0) ?_
  refine sz_istore dX8_mostAlike_11 (Nat.le_of_ble_eq_true rfl) rfl ?_
  refine sz_ls (l2 := [some (.ref 11), some (.int x1), some (.int x2), some (.int 0), some (.int 0), none]) rfl ?_
  exact tX8_mostAlike_13    _ _ _ _ _ _ _ hf
def fX8_bestHour_40 (La : gz_L)   (k8 : Int32 → Int32 → Int32 → Int32 → gz_S → Option (Int32 × gz_S)) (x1 : Int32) (x2 : Int32) (x3 : Int32) (x4 : Int32) (g : gz_S) : Option (Int32 × gz_S) := gz_let (x4 + 1) (fun y40 => k8 x1 x2 x3 y40 g)
set_option maxRecDepth 100000 in
set_option maxHeartbeats 4000000 in
theorem tX8_bestHour_40 {La : gz_L}   {k8 : Int32 → Int32 → Int32 → Int32 → gz_S → Option (Int32 × gz_S)}  (hk8 : ∀ (x1 : Int32) (x2 : Int32) (x3 : Int32) (x4 : Int32) (g : gz_S) (r : Int32 × gz_S), k8 x1 x2 x3 x4 g = some r → gz_J La 3 mX8_bestHour 8 [some (.ref 11), some (.int x1), some (.int x2), some (.int x3), some (.int x4), none] [] g (gz_Fi r)) : ∀ (x1 : Int32) (x2 : Int32) (x3 : Int32) (x4 : Int32) (g : gz_S) (r : Int32 × gz_S), fX8_bestHour_40 La   k8 x1 x2 x3 x4 g = some r → gz_J La 3 mX8_bestHour 40 [some (.ref 11), some (.int x1), some (.int x2), some (.int x3), some (.int x4), none] [] g (gz_Fi r) := by
  intro x1 x2 x3 x4 g r hf
  unfold fX8_bestHour_40 at hf
  obtain ⟨y40, ey40, hf⟩ := gz_lt hf
  refine sz_iinc (v := y40) dX8_bestHour_40 rfl (by rw [ey40, cI1]) (Nat.le_of_ble_eq_true rfl) rfl ?_
  refine sz_ls (l2 := [some (.ref 11), some (.int x1), some (.int x2), some (.int x3), some (.int y40), none]) rfl ?_
  refine sz_goto 8 dX8_bestHour_43 (by decide) ?_
  exact hk8 _ _ _ _ _ _ hf
def fX8_bestHour_8 (La : gz_L)    : Nat → Int32 → Int32 → Int32 → Int32 → gz_S → Option (Int32 × gz_S)
  | 0, _, _, _, _, _ => none
  | n + 1, x1, x2, x3, x4, g => if x1 = 0 then some (x2, g) else if 30 < x4 then some (x2, g) else (fX8_mostAlike La  x1 x4 g).bind (fun q23 => if x3 ≤ q23.1 then fX8_bestHour_40 La   (fX8_bestHour_8 La    n)  x1 x2 x3 x4 q23.2 else fX8_bestHour_40 La   (fX8_bestHour_8 La    n)  x1 x4 q23.1 x4 q23.2)
set_option maxRecDepth 100000 in
set_option maxHeartbeats 4000000 in
theorem tX8_bestHour_8 {La : gz_L}      : ∀ (n : Nat) (x1 : Int32) (x2 : Int32) (x3 : Int32) (x4 : Int32) (g : gz_S) (r : Int32 × gz_S), fX8_bestHour_8 La    n x1 x2 x3 x4 g = some r → gz_J La 3 mX8_bestHour 8 [some (.ref 11), some (.int x1), some (.int x2), some (.int x3), some (.int x4), none] [] g (gz_Fi r) := by
  intro n
  induction n with
  | zero => intro x1 x2 x3 x4 g r hf; exact nomatch (show (none : Option (Int32 × gz_S)) = some r from hf)
  | succ n ih =>
    intro x1 x2 x3 x4 g r hf
    unfold fX8_bestHour_8 at hf
    refine sz_iload_n dX8_bestHour_8 rfl ?_
    refine sz_if_eq 46 dX8_bestHour_9 (by decide) (fun c9 => ?_) (fun c9 => ?_)
    · have hf := gz_ip c9 hf
      refine sz_iload_n dX8_bestHour_46 rfl ?_
      cases hf
      exact sz_iret dX8_bestHour_47 rfl rfl ⟨rfl, rfl⟩
    · have hf := gz_in1 c9 hf
      refine sz_iload dX8_bestHour_12 rfl ?_
      refine sz_bipush dX8_bestHour_14 (cB30) ?_
      refine sz_icmp_gt 46 dX8_bestHour_16 (by decide) (fun c16 => ?_) (fun c16 => ?_)
      · have hf := gz_ip c16 hf
        refine sz_iload_n dX8_bestHour_46 rfl ?_
        cases hf
        exact sz_iret dX8_bestHour_47 rfl rfl ⟨rfl, rfl⟩
      · have hf := gz_in1 c16 hf
        refine sz_aload_n dX8_bestHour_19 rfl ?_
        refine sz_iload_n dX8_bestHour_20 rfl ?_
        refine sz_iload dX8_bestHour_21 rfl ?_
        obtain ⟨q23, eq23, hf⟩ := gz_bd hf
        refine sz_callVi [.int x1, .int x4] [] dX8_bestHour_23 mvX8_71 (Nat.le_of_ble_eq_true rfl) (by decide : 8 < 13) kd11 rfl (Nat.le_of_ble_eq_true rfl) (kX8_mostAlike   eq23) ?_
        refine sz_istore dX8_bestHour_26 (Nat.le_of_ble_eq_true rfl) rfl ?_
        refine sz_ls (l2 := [some (.ref 11), some (.int x1), some (.int x2), some (.int x3), some (.int x4), some (.int q23.1)]) rfl ?_
        refine sz_iload dX8_bestHour_28 rfl ?_
        refine sz_iload_n dX8_bestHour_30 rfl ?_
        refine sz_icmp_ge 40 dX8_bestHour_31 (by decide) (fun c31 => ?_) (fun c31 => ?_)
        · have hf := gz_ip c31 hf
          refine sz_weak (l2 := [some (.ref 11), some (.int x1), some (.int x2), some (.int x3), some (.int x4), none]) (gz_subk (gz_subk (gz_subk (gz_subk (gz_subk (gz_subn gz_sub0)))))) ?_
          exact tX8_bestHour_40   ih _ _ _ _ _ _ hf
        · have hf := gz_in1 c31 hf
          refine sz_iload dX8_bestHour_34 rfl ?_
          refine sz_istore_n dX8_bestHour_36 rfl (Nat.le_of_ble_eq_true rfl) rfl ?_
          refine sz_ls (l2 := [some (.ref 11), some (.int x1), some (.int x2), some (.int q23.1), some (.int x4), some (.int q23.1)]) rfl ?_
          refine sz_iload dX8_bestHour_37 rfl ?_
          refine sz_istore_n dX8_bestHour_39 rfl (Nat.le_of_ble_eq_true rfl) rfl ?_
          refine sz_ls (l2 := [some (.ref 11), some (.int x1), some (.int x4), some (.int q23.1), some (.int x4), some (.int q23.1)]) rfl ?_
          refine sz_weak (l2 := [some (.ref 11), some (.int x1), some (.int x4), some (.int q23.1), some (.int x4), none]) (gz_subk (gz_subk (gz_subk (gz_subk (gz_subk (gz_subn gz_sub0)))))) ?_
          exact tX8_bestHour_40   ih _ _ _ _ _ _ hf
def fX8_bestHour (La : gz_L)  (x1 : Int32) (g : gz_S) : Option (Int32 × gz_S) :=
  fX8_bestHour_8 La    gz_FU x1 (-1) 17 1 g
set_option maxRecDepth 100000 in
set_option maxHeartbeats 4000000 in
theorem kX8_bestHour {La : gz_L}  {x1 : Int32} {g : gz_S} {r : Int32 × gz_S}  (hf : fX8_bestHour La  x1 g = some r) : gz_K La 3 mX8_bestHour [.ref 11, .int x1] g (gz_Fi r) := by
  unfold fX8_bestHour at hf
  refine gz_K.of 4 (by decide +kernel) rfl ?_
  show gz_J La 3 mX8_bestHour 0 [some (.ref 11), some (.int x1), none, none, none, none] [] g (gz_Fi r)
  refine sz_iconst dX8_bestHour_0 (cIm1) ?_
  refine sz_istore_n dX8_bestHour_1 rfl (Nat.le_of_ble_eq_true rfl) rfl ?_
  refine sz_ls (l2 := [some (.ref 11), some (.int x1), some (.int (-1)), none, none, none]) rfl ?_
  refine sz_bipush dX8_bestHour_2 (cB17) ?_
  refine sz_istore_n dX8_bestHour_4 rfl (Nat.le_of_ble_eq_true rfl) rfl ?_
  refine sz_ls (l2 := [some (.ref 11), some (.int x1), some (.int (-1)), some (.int 17), none, none]) rfl ?_
  refine sz_iconst dX8_bestHour_5 (cI1) ?_
  refine sz_istore dX8_bestHour_6 (Nat.le_of_ble_eq_true rfl) rfl ?_
  refine sz_ls (l2 := [some (.ref 11), some (.int x1), some (.int (-1)), some (.int 17), some (.int 1), none]) rfl ?_
  exact tX8_bestHour_8    _ _ _ _ _ _ _ hf
