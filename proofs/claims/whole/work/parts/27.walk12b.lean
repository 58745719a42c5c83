def fX12_paceOf (La : gz_L)  (x1 : Int32) (g : gz_S) : Option (Int32 × gz_S) :=
  if gz_ok (((4 : Int32) * x1) + 3) 16 then some (g.1 46 (Int32.toNatClampNeg (((4 : Int32) * x1) + 3)), g) else none
set_option maxRecDepth 100000 in
set_option maxHeartbeats 4000000 in
theorem kX12_paceOf {La : gz_L}  {x1 : Int32} {g : gz_S} {r : Int32 × gz_S}  (hf : fX12_paceOf La  x1 g = some r) : gz_K La 1 mX12_paceOf [.ref 39, .int x1] g (gz_Fi r) := by
  unfold fX12_paceOf at hf
  refine gz_K.of 0 (by decide +kernel) rfl ?_
  show gz_J La 1 mX12_paceOf 0 [some (.ref 39), some (.int x1)] [] g (gz_Fi r)
  refine sz_aload_n dX12_paceOf_0 rfl ?_
  refine sz_getR dX12_paceOf_1 flX12_43 kd39 rfl rf39_20 ?_
  refine sz_iconst dX12_paceOf_4 (cI4) ?_
  refine sz_iload_n dX12_paceOf_5 rfl ?_
  refine sz_imul dX12_paceOf_6 ?_
  refine sz_iconst dX12_paceOf_7 (cI3) ?_
  refine sz_iadd dX12_paceOf_8 ?_
  obtain ⟨c9, hf⟩ := gz_gd hf
  refine sz_ialdL dX12_paceOf_9 kd46 c9 rfl ?_
  cases hf
  exact sz_iret dX12_paceOf_10 rfl rfl ⟨rfl, rfl⟩
def fX12_copy_2 (La : gz_L)   (k20 : gz_S → Option (gz_S)) : Nat → Int32 → gz_S → Option (gz_S)
  | 0, _, _ => none
  | n + 1, x2, g => if 50 ≤ x2 then k20  g else if gz_ok x2 231 then if gz_ok x2 231 then gz_let (gz_wi g 54 (Int32.toNatClampNeg x2) (g.1 53 (Int32.toNatClampNeg x2))) (fun g13 => gz_let (x2 + 1) (fun y14 => fX12_copy_2 La   k20 n y14 g13)) else none else none
set_option maxRecDepth 100000 in
set_option maxHeartbeats 4000000 in
theorem tX12_copy_2 {La : gz_L}   {k20 : gz_S → Option (gz_S)}  (hk20 : ∀  (g : gz_S) (r : gz_S), k20  g = some r → gz_J La 1 mX12_copy 20 [none, some (.ref 54), none] [] g (gz_Fv r)) : ∀ (n : Nat) (x2 : Int32) (g : gz_S) (r : gz_S), fX12_copy_2 La   k20 n x2 g = some r → gz_J La 1 mX12_copy 2 [some (.ref 53), some (.ref 54), some (.int x2)] [] g (gz_Fv r) := by
  intro n
  induction n with
  | zero => intro x2 g r hf; exact nomatch (show (none : Option (gz_S)) = some r from hf)
  | succ n ih =>
    intro x2 g r hf
    unfold fX12_copy_2 at hf
    refine sz_iload_n dX12_copy_2 rfl ?_
    refine sz_bipush dX12_copy_3 (cB50) ?_
    refine sz_icmp_ge 20 dX12_copy_5 (by decide) (fun c5 => ?_) (fun c5 => ?_)
    · have hf := gz_ip c5 hf
      refine sz_weak (l2 := [none, some (.ref 54), none]) (gz_subn (gz_subk (gz_subn gz_sub0))) ?_
      exact hk20  _ _ hf
    · have hf := gz_in1 c5 hf
      refine sz_aload_n dX12_copy_8 rfl ?_
      refine sz_iload_n dX12_copy_9 rfl ?_
      refine sz_aload_n dX12_copy_10 rfl ?_
      refine sz_iload_n dX12_copy_11 rfl ?_
      obtain ⟨c12, hf⟩ := gz_gd hf
      refine sz_ialdL dX12_copy_12 kd53 c12 rfl ?_
      obtain ⟨c13, hf⟩ := gz_gd hf
      obtain ⟨g13, eg13, hf⟩ := gz_lt hf
      refine sz_iastL dX12_copy_13 kd54 c13 rfl eg13 ?_
      obtain ⟨y14, ey14, hf⟩ := gz_lt hf
      refine sz_iinc (v := y14) dX12_copy_14 rfl (by rw [ey14, cI1]) (Nat.le_of_ble_eq_true rfl) rfl ?_
      refine sz_ls (l2 := [some (.ref 53), some (.ref 54), some (.int y14)]) rfl ?_
      refine sz_goto 2 dX12_copy_17 (by decide) ?_
      exact ih _ _ _ hf
def fX12_copy (La : gz_L)   (g : gz_S) : Option (gz_S) :=
  fX12_copy_2 La   (fun  g => gz_let (gz_wi g 54 50 0) (fun g24 => some g24)) gz_FU 0 g
set_option maxRecDepth 100000 in
set_option maxHeartbeats 4000000 in
theorem kX12_copy {La : gz_L}   {g : gz_S} {r : gz_S}  (hf : fX12_copy La   g = some r) : gz_K La 1 mX12_copy [.ref 53, .ref 54] g (gz_Fv r) := by
  unfold fX12_copy at hf
  refine gz_K.of 1 (by decide +kernel) rfl ?_
  show gz_J La 1 mX12_copy 0 [some (.ref 53), some (.ref 54), none] [] g (gz_Fv r)
  refine sz_iconst dX12_copy_0 (cI0) ?_
  refine sz_istore_n dX12_copy_1 rfl (Nat.le_of_ble_eq_true rfl) rfl ?_
  refine sz_ls (l2 := [some (.ref 53), some (.ref 54), some (.int 0)]) rfl ?_
  have hk20 : ∀  (g : gz_S) (r : gz_S), (fun  g => gz_let (gz_wi g 54 50 0) (fun g24 => some g24))  g = some r → gz_J La 1 mX12_copy 20 [none, some (.ref 54), none] [] g (gz_Fv r) := by
    intro  g r hf
    refine sz_aload_n dX12_copy_20 rfl ?_
    refine sz_bipush dX12_copy_21 (cB50) ?_
    refine sz_iconst dX12_copy_23 (cI0) ?_
    obtain ⟨g24, eg24, hf⟩ := gz_lt hf
    refine sz_iastL dX12_copy_24 kd54 vi50_231 tn50 eg24 ?_
    cases hf
    exact sz_ret dX12_copy_25 rfl ⟨rfl, rfl⟩
  exact tX12_copy_2   hk20 _ _ _ _ hf
def fX12_isCell (La : gz_L)  (x1 : Int32) (g : gz_S) : Option (Int32 × gz_S) :=
  if x1 < 0 then some (0, g) else (fX12_cells La   g).bind (fun q6 => if q6.1 ≤ x1 then some (0, q6.2) else some (1, q6.2))
set_option maxRecDepth 100000 in
set_option maxHeartbeats 4000000 in
theorem kX12_isCell {La : gz_L}  {x1 : Int32} {g : gz_S} {r : Int32 × gz_S}  (hf : fX12_isCell La  x1 g = some r) : gz_K La 2 mX12_isCell [.ref 39, .int x1] g (gz_Fi r) := by
  unfold fX12_isCell at hf
  refine gz_K.of 0 (by decide +kernel) rfl ?_
  show gz_J La 2 mX12_isCell 0 [some (.ref 39), some (.int x1)] [] g (gz_Fi r)
  refine sz_iload_n dX12_isCell_0 rfl ?_
  refine sz_if_lt 16 dX12_isCell_1 (by decide) (fun c1 => ?_) (fun c1 => ?_)
  · have hf := gz_ip c1 hf
    refine sz_iconst dX12_isCell_16 (cI0) ?_
    cases hf
    exact sz_iret dX12_isCell_17 rfl rfl ⟨rfl, rfl⟩
  · have hf := gz_in1 c1 hf
    refine sz_iload_n dX12_isCell_4 rfl ?_
    refine sz_aload_n dX12_isCell_5 rfl ?_
    obtain ⟨q6, eq6, hf⟩ := gz_bd hf
    refine sz_callVi [] [.int x1] dX12_isCell_6 mvX12_319 (Nat.le_of_ble_eq_true rfl) (by decide : 12 < 13) kd39 rfl (Nat.le_of_ble_eq_true rfl) (kX12_cells   eq6) ?_
    refine sz_icmp_ge 16 dX12_isCell_9 (by decide) (fun c9 => ?_) (fun c9 => ?_)
    · have hf := gz_ip c9 hf
      refine sz_iconst dX12_isCell_16 (cI0) ?_
      cases hf
      exact sz_iret dX12_isCell_17 rfl rfl ⟨rfl, rfl⟩
    · have hf := gz_in1 c9 hf
      refine sz_iconst dX12_isCell_12 (cI1) ?_
      refine sz_goto 17 dX12_isCell_13 (by decide) ?_
      cases hf
      exact sz_iret dX12_isCell_17 rfl rfl ⟨rfl, rfl⟩
def fX12_isGoer (La : gz_L)  (x1 : Int32) (g : gz_S) : Option (Int32 × gz_S) :=
  if x1 < 0 then some (0, g) else if (g.1 39 27) ≤ x1 then some (0, g) else some (1, g)
set_option maxRecDepth 100000 in
set_option maxHeartbeats 4000000 in
theorem kX12_isGoer {La : gz_L}  {x1 : Int32} {g : gz_S} {r : Int32 × gz_S}  (hf : fX12_isGoer La  x1 g = some r) : gz_K La 1 mX12_isGoer [.ref 39, .int x1] g (gz_Fi r) := by
  unfold fX12_isGoer at hf
  refine gz_K.of 0 (by decide +kernel) rfl ?_
  show gz_J La 1 mX12_isGoer 0 [some (.ref 39), some (.int x1)] [] g (gz_Fi r)
  refine sz_iload_n dX12_isGoer_0 rfl ?_
  refine sz_if_lt 16 dX12_isGoer_1 (by decide) (fun c1 => ?_) (fun c1 => ?_)
  · have hf := gz_ip c1 hf
    refine sz_iconst dX12_isGoer_16 (cI0) ?_
    cases hf
    exact sz_iret dX12_isGoer_17 rfl rfl ⟨rfl, rfl⟩
  · have hf := gz_in1 c1 hf
    refine sz_iload_n dX12_isGoer_4 rfl ?_
    refine sz_aload_n dX12_isGoer_5 rfl ?_
    refine sz_getI dX12_isGoer_6 flX12_303 kd39 rfl ?_
    refine sz_icmp_ge 16 dX12_isGoer_9 (by decide) (fun c9 => ?_) (fun c9 => ?_)
    · have hf := gz_ip c9 hf
      refine sz_iconst dX12_isGoer_16 (cI0) ?_
      cases hf
      exact sz_iret dX12_isGoer_17 rfl rfl ⟨rfl, rfl⟩
    · have hf := gz_in1 c9 hf
      refine sz_iconst dX12_isGoer_12 (cI1) ?_
      refine sz_goto 17 dX12_isGoer_13 (by decide) ?_
      cases hf
      exact sz_iret dX12_isGoer_17 rfl rfl ⟨rfl, rfl⟩
def fX12_areTwo (La : gz_L)  (x1 : Int32) (x2 : Int32) (g : gz_S) : Option (Int32 × gz_S) :=
  (fX12_isGoer La  x1 g).bind (fun q2 => if q2.1 = 0 then some (0, q2.2) else (fX12_isGoer La  x2 q2.2).bind (fun q10 => if q10.1 = 0 then some (0, q10.2) else if x1 = x2 then some (0, q10.2) else some (1, q10.2)))
set_option maxRecDepth 100000 in
set_option maxHeartbeats 4000000 in
theorem kX12_areTwo {La : gz_L}  {x1 : Int32} {x2 : Int32} {g : gz_S} {r : Int32 × gz_S}  (hf : fX12_areTwo La  x1 x2 g = some r) : gz_K La 2 mX12_areTwo [.ref 39, .int x1, .int x2] g (gz_Fi r) := by
  unfold fX12_areTwo at hf
  refine gz_K.of 0 (by decide +kernel) rfl ?_
  show gz_J La 2 mX12_areTwo 0 [some (.ref 39), some (.int x1), some (.int x2)] [] g (gz_Fi r)
  refine sz_aload_n dX12_areTwo_0 rfl ?_
  refine sz_iload_n dX12_areTwo_1 rfl ?_
  obtain ⟨q2, eq2, hf⟩ := gz_bd hf
  refine sz_callVi [.int x1] [] dX12_areTwo_2 mvX12_325 (Nat.le_of_ble_eq_true rfl) (by decide : 12 < 13) kd39 rfl (Nat.le_of_ble_eq_true rfl) (kX12_isGoer   eq2) ?_
  refine sz_if_eq 25 dX12_areTwo_5 (by decide) (fun c5 => ?_) (fun c5 => ?_)
  · have hf := gz_ip c5 hf
    refine sz_iconst dX12_areTwo_25 (cI0) ?_
    cases hf
    exact sz_iret dX12_areTwo_26 rfl rfl ⟨rfl, rfl⟩
  · have hf := gz_in1 c5 hf
    refine sz_aload_n dX12_areTwo_8 rfl ?_
    refine sz_iload_n dX12_areTwo_9 rfl ?_
    obtain ⟨q10, eq10, hf⟩ := gz_bd hf
    refine sz_callVi [.int x2] [] dX12_areTwo_10 mvX12_325 (Nat.le_of_ble_eq_true rfl) (by decide : 12 < 13) kd39 rfl (Nat.le_of_ble_eq_true rfl) (kX12_isGoer   eq10) ?_
    refine sz_if_eq 25 dX12_areTwo_13 (by decide) (fun c13 => ?_) (fun c13 => ?_)
    · have hf := gz_ip c13 hf
      refine sz_iconst dX12_areTwo_25 (cI0) ?_
      cases hf
      exact sz_iret dX12_areTwo_26 rfl rfl ⟨rfl, rfl⟩
    · have hf := gz_in1 c13 hf
      refine sz_iload_n dX12_areTwo_16 rfl ?_
      refine sz_iload_n dX12_areTwo_17 rfl ?_
      refine sz_icmp_eq 25 dX12_areTwo_18 (by decide) (fun c18 => ?_) (fun c18 => ?_)
      · have hf := gz_ip c18 hf
        refine sz_iconst dX12_areTwo_25 (cI0) ?_
        cases hf
        exact sz_iret dX12_areTwo_26 rfl rfl ⟨rfl, rfl⟩
      · have hf := gz_in1 c18 hf
        refine sz_iconst dX12_areTwo_21 (cI1) ?_
        refine sz_goto 26 dX12_areTwo_22 (by decide) ?_
        cases hf
        exact sz_iret dX12_areTwo_26 rfl rfl ⟨rfl, rfl⟩
def fX12_does (La : gz_L)  (w0 : Nat) (x1 : Int32) (g : gz_S) : Option (Int32 × gz_S) :=
  if gz_ok (((30 : Int32) + ((4 : Int32) * x1)) + 3) 231 then if (g.1 w0 (Int32.toNatClampNeg (((30 : Int32) + ((4 : Int32) * x1)) + 3))) = 0 then some (1, g) else some (0, g) else none
set_option maxRecDepth 100000 in
set_option maxHeartbeats 4000000 in
theorem kX12_does {La : gz_L}  {w0 : Nat} {x1 : Int32} {g : gz_S} {r : Int32 × gz_S} (hw0 : w0 = 53 ∨ w0 = 54) (hf : fX12_does La  w0 x1 g = some r) : gz_K La 1 mX12_does [.ref w0, .int x1] g (gz_Fi r) := by
  unfold fX12_does at hf
  refine gz_K.of 0 (by decide +kernel) rfl ?_
  show gz_J La 1 mX12_does 0 [some (.ref w0), some (.int x1)] [] g (gz_Fi r)
  refine sz_aload_n dX12_does_0 rfl ?_
  refine sz_bipush dX12_does_1 (cB30) ?_
  refine sz_iconst dX12_does_3 (cI4) ?_
  refine sz_iload_n dX12_does_4 rfl ?_
  refine sz_imul dX12_does_5 ?_
  refine sz_iadd dX12_does_6 ?_
  refine sz_iconst dX12_does_7 (cI3) ?_
  refine sz_iadd dX12_does_8 ?_
  obtain ⟨c9, hf⟩ := gz_gd hf
  refine sz_ialdL dX12_does_9 (kds_nt hw0) c9 rfl ?_
  refine sz_if_ne 17 dX12_does_10 (by decide) (fun c10 => ?_) (fun c10 => ?_)
  · have hf := gz_in1 c10 hf
    refine sz_iconst dX12_does_17 (cI0) ?_
    cases hf
    exact sz_iret dX12_does_18 rfl rfl ⟨rfl, rfl⟩
  · have hf := gz_ip c10 hf
    refine sz_iconst dX12_does_13 (cI1) ?_
    refine sz_goto 18 dX12_does_14 (by decide) ?_
    cases hf
    exact sz_iret dX12_does_18 rfl rfl ⟨rfl, rfl⟩
def fX12_isUnder (La : gz_L)  (w1 : Nat) (x2 : Int32) (g : gz_S) : Option (Int32 × gz_S) :=
  if gz_ok x2 231 then if (g.1 w1 (Int32.toNatClampNeg x2)) = 2 then some (1, g) else if ¬ (g.1 44 0) = 0 then if (x2 / (g.1 44 0)) < ((g.1 44 1) - (g.1 w1 46)) then some (0, g) else some (1, g) else none else none
set_option maxRecDepth 100000 in
set_option maxHeartbeats 4000000 in
theorem kX12_isUnder {La : gz_L}  {w1 : Nat} {x2 : Int32} {g : gz_S} {r : Int32 × gz_S} (hw1 : w1 = 53 ∨ w1 = 54) (hf : fX12_isUnder La  w1 x2 g = some r) : gz_K La 1 mX12_isUnder [.ref 39, .ref w1, .int x2] g (gz_Fi r) := by
  unfold fX12_isUnder at hf
  refine gz_K.of 0 (by decide +kernel) rfl ?_
  show gz_J La 1 mX12_isUnder 0 [some (.ref 39), some (.ref w1), some (.int x2)] [] g (gz_Fi r)
  refine sz_aload_n dX12_isUnder_0 rfl ?_
  refine sz_iload_n dX12_isUnder_1 rfl ?_
  obtain ⟨c2, hf⟩ := gz_gd hf
  refine sz_ialdL dX12_isUnder_2 (kds_nt hw1) c2 rfl ?_
  refine sz_iconst dX12_isUnder_3 (cI2) ?_
  refine sz_icmp_eq 29 dX12_isUnder_4 (by decide) (fun c4 => ?_) (fun c4 => ?_)
  · have hf := gz_ip c4 hf
    refine sz_iconst dX12_isUnder_29 (cI1) ?_
    refine sz_goto 34 dX12_isUnder_30 (by decide) ?_
    cases hf
    exact sz_iret dX12_isUnder_34 rfl rfl ⟨rfl, rfl⟩
  · have hf := gz_in1 c4 hf
    refine sz_iload_n dX12_isUnder_7 rfl ?_
    refine sz_aload_n dX12_isUnder_8 rfl ?_
    refine sz_getR dX12_isUnder_9 flX12_37 kd39 rfl rf39_18 ?_
    refine sz_iconst dX12_isUnder_12 (cI0) ?_
    refine sz_ialdL dX12_isUnder_13 kd44 vi0_4 tn0 ?_
    obtain ⟨c14, hf⟩ := gz_gd hf
    refine sz_idiv dX12_isUnder_14 c14 ?_
    refine sz_aload_n dX12_isUnder_15 rfl ?_
    refine sz_getR dX12_isUnder_16 flX12_37 kd39 rfl rf39_18 ?_
    refine sz_iconst dX12_isUnder_19 (cI1) ?_
    refine sz_ialdL dX12_isUnder_20 kd44 vi1_4 tn1 ?_
    refine sz_aload_n dX12_isUnder_21 rfl ?_
    refine sz_bipush dX12_isUnder_22 (cB46) ?_
    refine sz_ialdL dX12_isUnder_24 (kds_nt hw1) vi46_231 tn46 ?_
    refine sz_isub dX12_isUnder_25 ?_
    refine sz_icmp_lt 33 dX12_isUnder_26 (by decide) (fun c26 => ?_) (fun c26 => ?_)
    · have hf := gz_ip c26 hf
      refine sz_iconst dX12_isUnder_33 (cI0) ?_
      cases hf
      exact sz_iret dX12_isUnder_34 rfl rfl ⟨rfl, rfl⟩
    · have hf := gz_in1 c26 hf
      refine sz_iconst dX12_isUnder_29 (cI1) ?_
      refine sz_goto 34 dX12_isUnder_30 (by decide) ?_
      cases hf
      exact sz_iret dX12_isUnder_34 rfl rfl ⟨rfl, rfl⟩
def fX12_nextCell (La : gz_L)  (x1 : Int32) (x2 : Int32) (g : gz_S) : Option (Int32 × gz_S) :=
  if ¬ (g.1 44 0) = 0 then gz_let (x1 - x1 / (g.1 44 0) * (g.1 44 0)) (fun y8 => if ¬ (g.1 44 0) = 0 then gz_let (x1 / (g.1 44 0)) (fun y17 => if x2 = 0 then if y17 = 0 then some ((-1), g) else some (x1 - (g.1 44 0), g) else if x2 = 1 then if y8 = ((g.1 44 0) - 1) then some ((-1), g) else some (x1 + 1, g) else if x2 = 2 then if y17 = ((g.1 44 1) - 1) then some ((-1), g) else some (x1 + (g.1 44 0), g) else if y8 = 0 then some ((-1), g) else some (x1 - 1, g)) else none) else none
set_option maxRecDepth 100000 in
set_option maxHeartbeats 4000000 in
theorem kX12_nextCell {La : gz_L}  {x1 : Int32} {x2 : Int32} {g : gz_S} {r : Int32 × gz_S}  (hf : fX12_nextCell La  x1 x2 g = some r) : gz_K La 1 mX12_nextCell [.ref 39, .int x1, .int x2] g (gz_Fi r) := by
  unfold fX12_nextCell at hf
  refine gz_K.of 2 (by decide +kernel) rfl ?_
  show gz_J La 1 mX12_nextCell 0 [some (.ref 39), some (.int x1), some (.int x2), none, none] [] g (gz_Fi r)
  refine sz_iload_n dX12_nextCell_0 rfl ?_
  refine sz_aload_n dX12_nextCell_1 rfl ?_
  refine sz_getR dX12_nextCell_2 flX12_37 kd39 rfl rf39_18 ?_
  refine sz_iconst dX12_nextCell_5 (cI0) ?_
  refine sz_ialdL dX12_nextCell_6 kd44 vi0_4 tn0 ?_
  obtain ⟨c7, hf⟩ := gz_gd hf
  refine sz_irem dX12_nextCell_7 c7 ?_
  obtain ⟨y8, ey8, hf⟩ := gz_lt hf
  refine sz_topi ey8 ?_
  refine sz_istore_n dX12_nextCell_8 rfl (Nat.le_of_ble_eq_true rfl) rfl ?_
  refine sz_ls (l2 := [some (.ref 39), some (.int x1), some (.int x2), some (.int y8), none]) rfl ?_
  refine sz_iload_n dX12_nextCell_9 rfl ?_
  refine sz_aload_n dX12_nextCell_10 rfl ?_
  refine sz_getR dX12_nextCell_11 flX12_37 kd39 rfl rf39_18 ?_
  refine sz_iconst dX12_nextCell_14 (cI0) ?_
  refine sz_ialdL dX12_nextCell_15 kd44 vi0_4 tn0 ?_
  obtain ⟨c16, hf⟩ := gz_gd hf
  refine sz_idiv dX12_nextCell_16 c16 ?_
  obtain ⟨y17, ey17, hf⟩ := gz_lt hf
  refine sz_topi ey17 ?_
  refine sz_istore dX12_nextCell_17 (Nat.le_of_ble_eq_true rfl) rfl ?_
  refine sz_ls (l2 := [some (.ref 39), some (.int x1), some (.int x2), some (.int y8), some (.int y17)]) rfl ?_
  refine sz_iload_n dX12_nextCell_19 rfl ?_
  refine sz_if_ne 41 dX12_nextCell_20 (by decide) (fun c20 => ?_) (fun c20 => ?_)
  · have hf := gz_in1 c20 hf
    refine sz_iload_n dX12_nextCell_41 rfl ?_
    refine sz_iconst dX12_nextCell_42 (cI1) ?_
    refine sz_icmp_ne 66 dX12_nextCell_43 (by decide) (fun c43 => ?_) (fun c43 => ?_)
    · have hf := gz_in1 c43 hf
      refine sz_iload_n dX12_nextCell_66 rfl ?_
      refine sz_iconst dX12_nextCell_67 (cI2) ?_
      refine sz_icmp_ne 97 dX12_nextCell_68 (by decide) (fun c68 => ?_) (fun c68 => ?_)
      · have hf := gz_in1 c68 hf
        refine sz_iload_n dX12_nextCell_97 rfl ?_
        refine sz_if_ne 105 dX12_nextCell_98 (by decide) (fun c98 => ?_) (fun c98 => ?_)
        · have hf := gz_in1 c98 hf
          refine sz_iload_n dX12_nextCell_105 rfl ?_
          refine sz_iconst dX12_nextCell_106 (cI1) ?_
          refine sz_isub dX12_nextCell_107 ?_
          cases hf
          exact sz_iret dX12_nextCell_108 rfl rfl ⟨rfl, rfl⟩
        · have hf := gz_ip c98 hf
          refine sz_iconst dX12_nextCell_101 (cIm1) ?_
          refine sz_goto 108 dX12_nextCell_102 (by decide) ?_
          cases hf
          exact sz_iret dX12_nextCell_108 rfl rfl ⟨rfl, rfl⟩
      · have hf := gz_ip c68 hf
        refine sz_iload dX12_nextCell_71 rfl ?_
        refine sz_aload_n dX12_nextCell_73 rfl ?_
        refine sz_getR dX12_nextCell_74 flX12_37 kd39 rfl rf39_18 ?_
        refine sz_iconst dX12_nextCell_77 (cI1) ?_
        refine sz_ialdL dX12_nextCell_78 kd44 vi1_4 tn1 ?_
        refine sz_iconst dX12_nextCell_79 (cI1) ?_
        refine sz_isub dX12_nextCell_80 ?_
        refine sz_icmp_ne 88 dX12_nextCell_81 (by decide) (fun c81 => ?_) (fun c81 => ?_)
        · have hf := gz_in1 c81 hf
          refine sz_iload_n dX12_nextCell_88 rfl ?_
          refine sz_aload_n dX12_nextCell_89 rfl ?_
          refine sz_getR dX12_nextCell_90 flX12_37 kd39 rfl rf39_18 ?_
          refine sz_iconst dX12_nextCell_93 (cI0) ?_
          refine sz_ialdL dX12_nextCell_94 kd44 vi0_4 tn0 ?_
          refine sz_iadd dX12_nextCell_95 ?_
          cases hf
          exact sz_iret dX12_nextCell_96 rfl rfl ⟨rfl, rfl⟩
        · have hf := gz_ip c81 hf
          refine sz_iconst dX12_nextCell_84 (cIm1) ?_
          refine sz_goto 96 dX12_nextCell_85 (by decide) ?_
          cases hf
          exact sz_iret dX12_nextCell_96 rfl rfl ⟨rfl, rfl⟩
    · have hf := gz_ip c43 hf
      refine sz_iload_n dX12_nextCell_46 rfl ?_
      refine sz_aload_n dX12_nextCell_47 rfl ?_
      refine sz_getR dX12_nextCell_48 flX12_37 kd39 rfl rf39_18 ?_
      refine sz_iconst dX12_nextCell_51 (cI0) ?_
      refine sz_ialdL dX12_nextCell_52 kd44 vi0_4 tn0 ?_
      refine sz_iconst dX12_nextCell_53 (cI1) ?_
      refine sz_isub dX12_nextCell_54 ?_
      refine sz_icmp_ne 62 dX12_nextCell_55 (by decide) (fun c55 => ?_) (fun c55 => ?_)
      · have hf := gz_in1 c55 hf
        refine sz_iload_n dX12_nextCell_62 rfl ?_
        refine sz_iconst dX12_nextCell_63 (cI1) ?_
        refine sz_iadd dX12_nextCell_64 ?_
        cases hf
        exact sz_iret dX12_nextCell_65 rfl rfl ⟨rfl, rfl⟩
      · have hf := gz_ip c55 hf
        refine sz_iconst dX12_nextCell_58 (cIm1) ?_
        refine sz_goto 65 dX12_nextCell_59 (by decide) ?_
        cases hf
        exact sz_iret dX12_nextCell_65 rfl rfl ⟨rfl, rfl⟩
  · have hf := gz_ip c20 hf
    refine sz_iload dX12_nextCell_23 rfl ?_
    refine sz_if_ne 32 dX12_nextCell_25 (by decide) (fun c25 => ?_) (fun c25 => ?_)
    · have hf := gz_in1 c25 hf
      refine sz_iload_n dX12_nextCell_32 rfl ?_
      refine sz_aload_n dX12_nextCell_33 rfl ?_
      refine sz_getR dX12_nextCell_34 flX12_37 kd39 rfl rf39_18 ?_
      refine sz_iconst dX12_nextCell_37 (cI0) ?_
      refine sz_ialdL dX12_nextCell_38 kd44 vi0_4 tn0 ?_
      refine sz_isub dX12_nextCell_39 ?_
      cases hf
      exact sz_iret dX12_nextCell_40 rfl rfl ⟨rfl, rfl⟩
    · have hf := gz_ip c25 hf
      refine sz_iconst dX12_nextCell_28 (cIm1) ?_
      refine sz_goto 40 dX12_nextCell_29 (by decide) ?_
      cases hf
      exact sz_iret dX12_nextCell_40 rfl rfl ⟨rfl, rfl⟩
def fX12_aheadOf (La : gz_L)  (w1 : Nat) (x2 : Int32) (x3 : Int32) (g : gz_S) : Option (Int32 × gz_S) :=
  (fX12_nextCell La  x2 x3 g).bind (fun q3 => if q3.1 = (-1) then some (1, q3.2) else if gz_ok q3.1 231 then if (q3.2.1 w1 (Int32.toNatClampNeg q3.1)) = 1 then some (1, q3.2) else (fX12_isUnder La  w1 q3.1 q3.2).bind (fun q28 => if q28.1 = 0 then if gz_ok q3.1 231 then if (q28.2.1 w1 (Int32.toNatClampNeg q3.1)) = 3 then some (3, q28.2) else some (0, q28.2) else none else some (2, q28.2)) else none)
set_option maxRecDepth 100000 in
set_option maxHeartbeats 4000000 in
theorem kX12_aheadOf {La : gz_L}  {w1 : Nat} {x2 : Int32} {x3 : Int32} {g : gz_S} {r : Int32 × gz_S} (hw1 : w1 = 53 ∨ w1 = 54) (hf : fX12_aheadOf La  w1 x2 x3 g = some r) : gz_K La 2 mX12_aheadOf [.ref 39, .ref w1, .int x2, .int x3] g (gz_Fi r) := by
  unfold fX12_aheadOf at hf
  refine gz_K.of 1 (by decide +kernel) rfl ?_
  show gz_J La 2 mX12_aheadOf 0 [some (.ref 39), some (.ref w1), some (.int x2), some (.int x3), none] [] g (gz_Fi r)
  refine sz_aload_n dX12_aheadOf_0 rfl ?_
  refine sz_iload_n dX12_aheadOf_1 rfl ?_
  refine sz_iload_n dX12_aheadOf_2 rfl ?_
  obtain ⟨q3, eq3, hf⟩ := gz_bd hf
  refine sz_callVi [.int x2, .int x3] [] dX12_aheadOf_3 mvX12_328 (Nat.le_of_ble_eq_true rfl) (by decide : 12 < 13) kd39 rfl (Nat.le_of_ble_eq_true rfl) (kX12_nextCell   eq3) ?_
  refine sz_istore dX12_aheadOf_6 (Nat.le_of_ble_eq_true rfl) rfl ?_
  refine sz_ls (l2 := [some (.ref 39), some (.ref w1), some (.int x2), some (.int x3), some (.int q3.1)]) rfl ?_
  refine sz_iload dX12_aheadOf_8 rfl ?_
  refine sz_iconst dX12_aheadOf_10 (cIm1) ?_
  refine sz_icmp_eq 22 dX12_aheadOf_11 (by decide) (fun c11 => ?_) (fun c11 => ?_)
  · have hf := gz_ip c11 hf
    refine sz_iconst dX12_aheadOf_22 (cI1) ?_
    cases hf
    exact sz_iret dX12_aheadOf_23 rfl rfl ⟨rfl, rfl⟩
  · have hf := gz_in1 c11 hf
    refine sz_aload_n dX12_aheadOf_14 rfl ?_
    refine sz_iload dX12_aheadOf_15 rfl ?_
    obtain ⟨c17, hf⟩ := gz_gd hf
    refine sz_ialdL dX12_aheadOf_17 (kds_nt hw1) c17 rfl ?_
    refine sz_iconst dX12_aheadOf_18 (cI1) ?_
    refine sz_icmp_ne 24 dX12_aheadOf_19 (by decide) (fun c19 => ?_) (fun c19 => ?_)
    · have hf := gz_in1 c19 hf
      refine sz_aload_n dX12_aheadOf_24 rfl ?_
      refine sz_aload_n dX12_aheadOf_25 rfl ?_
      refine sz_iload dX12_aheadOf_26 rfl ?_
      obtain ⟨q28, eq28, hf⟩ := gz_bd hf
      refine sz_callVi [.ref w1, .int q3.1] [] dX12_aheadOf_28 mvX12_331 (Nat.le_of_ble_eq_true rfl) (by decide : 12 < 13) kd39 rfl (Nat.le_of_ble_eq_true rfl) (kX12_isUnder  hw1 eq28) ?_
      refine sz_if_eq 38 dX12_aheadOf_31 (by decide) (fun c31 => ?_) (fun c31 => ?_)
      · have hf := gz_ip c31 hf
        refine sz_aload_n dX12_aheadOf_38 rfl ?_
        refine sz_iload dX12_aheadOf_39 rfl ?_
        obtain ⟨c41, hf⟩ := gz_gd hf
        refine sz_ialdL dX12_aheadOf_41 (kds_nt hw1) c41 rfl ?_
        refine sz_iconst dX12_aheadOf_42 (cI3) ?_
        refine sz_icmp_ne 50 dX12_aheadOf_43 (by decide) (fun c43 => ?_) (fun c43 => ?_)
        · have hf := gz_in1 c43 hf
          refine sz_iconst dX12_aheadOf_50 (cI0) ?_
          cases hf
          exact sz_iret dX12_aheadOf_51 rfl rfl ⟨rfl, rfl⟩
        · have hf := gz_ip c43 hf
          refine sz_iconst dX12_aheadOf_46 (cI3) ?_
          refine sz_goto 51 dX12_aheadOf_47 (by decide) ?_
          cases hf
          exact sz_iret dX12_aheadOf_51 rfl rfl ⟨rfl, rfl⟩
      · have hf := gz_in1 c31 hf
        refine sz_iconst dX12_aheadOf_34 (cI2) ?_
        refine sz_goto 51 dX12_aheadOf_35 (by decide) ?_
        cases hf
        exact sz_iret dX12_aheadOf_51 rfl rfl ⟨rfl, rfl⟩
    · have hf := gz_ip c19 hf
      refine sz_iconst dX12_aheadOf_22 (cI1) ?_
      cases hf
      exact sz_iret dX12_aheadOf_23 rfl rfl ⟨rfl, rfl⟩
def fX12_worthOf (La : gz_L)  (x1 : Int32) (x2 : Int32) (x3 : Int32) (x4 : Int32) (x5 : Int32) (x6 : Int32) (g : gz_S) : Option (Int32 × gz_S) :=
  gz_let ((1 : Int32) + (g.1 39 34)) (fun y6 => gz_let (((4 : Int32) * y6) + x1) (fun y14 => gz_let (((4 : Int32) * y14) + x2) (fun y22 => gz_let (((4 : Int32) * y22) + x3) (fun y30 => gz_let (((5 : Int32) * y30) + x4) (fun y39 => gz_let (((100 : Int32) * y39) + x5) (fun y49 => gz_let (((24 : Int32) * y49) + x6) (fun y59 => gz_let (y59 - y59 / 8191 * 8191) (fun y67 => if gz_ok y67 8191 then if (g.1 55 (Int32.toNatClampNeg y67)) = y59 then if gz_ok y67 8191 then some (g.1 56 (Int32.toNatClampNeg y67), g) else none else gz_let (gz_wi g 43 98 x1) (fun g96 => gz_let (gz_wi g96 43 97 x2) (fun g104 => gz_let (gz_wi g104 43 114 x3) (fun g112 => gz_let (gz_wi g112 43 112 x4) (fun g121 => gz_let (gz_wi g121 43 110 x5) (fun g130 => gz_let (gz_wi g130 43 116 x6) (fun g139 => if gz_ok (g139.1 39 34) 4 then (fX12_goThrough La  41 ((240 : Int32) * (g139.1 39 34)) (g139.1 42 (Int32.toNatClampNeg (g139.1 39 34))) g139).bind (fun q162 => if gz_ok y67 8191 then gz_let (gz_wi q162 55 (Int32.toNatClampNeg y67) y59) (fun g173 => if gz_ok y67 8191 then gz_let (gz_wi g173 56 (Int32.toNatClampNeg y67) ((((g173.1 39 14) - (g173.1 39 14) / 4 * 4) + 4) - (((g173.1 39 14) - (g173.1 39 14) / 4 * 4) + 4) / 4 * 4)) (fun g190 => if gz_ok y67 8191 then some (g190.1 56 (Int32.toNatClampNeg y67), g190) else none) else none) else none) else none)))))) else none))))))))
set_option maxRecDepth 100000 in
set_option maxHeartbeats 4000000 in
theorem kX12_worthOf {La : gz_L}  {x1 : Int32} {x2 : Int32} {x3 : Int32} {x4 : Int32} {x5 : Int32} {x6 : Int32} {g : gz_S} {r : Int32 × gz_S}  (hf : fX12_worthOf La  x1 x2 x3 x4 x5 x6 g = some r) : gz_K La 141 mX12_worthOf [.ref 39, .int x1, .int x2, .int x3, .int x4, .int x5, .int x6] g (gz_Fi r) := by
  unfold fX12_worthOf at hf
  refine gz_K.of 2 (by decide +kernel) rfl ?_
  show gz_J La 141 mX12_worthOf 0 [some (.ref 39), some (.int x1), some (.int x2), some (.int x3), some (.int x4), some (.int x5), some (.int x6), none, none] [] g (gz_Fi r)
  refine sz_iconst dX12_worthOf_0 (cI1) ?_
  refine sz_aload_n dX12_worthOf_1 rfl ?_
  refine sz_getI dX12_worthOf_2 flX12_70 kd39 rfl ?_
  refine sz_iadd dX12_worthOf_5 ?_
  obtain ⟨y6, ey6, hf⟩ := gz_lt hf
  refine sz_topi ey6 ?_
  refine sz_istore dX12_worthOf_6 (Nat.le_of_ble_eq_true rfl) rfl ?_
  refine sz_ls (l2 := [some (.ref 39), some (.int x1), some (.int x2), some (.int x3), some (.int x4), some (.int x5), some (.int x6), some (.int y6), none]) rfl ?_
  refine sz_iconst dX12_worthOf_8 (cI4) ?_
  refine sz_iload dX12_worthOf_9 rfl ?_
  refine sz_imul dX12_worthOf_11 ?_
  refine sz_iload_n dX12_worthOf_12 rfl ?_
  refine sz_iadd dX12_worthOf_13 ?_
  obtain ⟨y14, ey14, hf⟩ := gz_lt hf
  refine sz_topi ey14 ?_
  refine sz_istore dX12_worthOf_14 (Nat.le_of_ble_eq_true rfl) rfl ?_
  refine sz_ls (l2 := [some (.ref 39), some (.int x1), some (.int x2), some (.int x3), some (.int x4), some (.int x5), some (.int x6), some (.int y14), none]) rfl ?_
  refine sz_iconst dX12_worthOf_16 (cI4) ?_
  refine sz_iload dX12_worthOf_17 rfl ?_
  refine sz_imul dX12_worthOf_19 ?_
  refine sz_iload_n dX12_worthOf_20 rfl ?_
  refine sz_iadd dX12_worthOf_21 ?_
  obtain ⟨y22, ey22, hf⟩ := gz_lt hf
  refine sz_topi ey22 ?_
  refine sz_istore dX12_worthOf_22 (Nat.le_of_ble_eq_true rfl) rfl ?_
  refine sz_ls (l2 := [some (.ref 39), some (.int x1), some (.int x2), some (.int x3), some (.int x4), some (.int x5), some (.int x6), some (.int y22), none]) rfl ?_
  refine sz_iconst dX12_worthOf_24 (cI4) ?_
  refine sz_iload dX12_worthOf_25 rfl ?_
  refine sz_imul dX12_worthOf_27 ?_
  refine sz_iload_n dX12_worthOf_28 rfl ?_
  refine sz_iadd dX12_worthOf_29 ?_
  obtain ⟨y30, ey30, hf⟩ := gz_lt hf
  refine sz_topi ey30 ?_
  refine sz_istore dX12_worthOf_30 (Nat.le_of_ble_eq_true rfl) rfl ?_
  refine sz_ls (l2 := [some (.ref 39), some (.int x1), some (.int x2), some (.int x3), some (.int x4), some (.int x5), some (.int x6), some (.int y30), none]) rfl ?_
  refine sz_iconst dX12_worthOf_32 (cI5) ?_
  refine sz_iload dX12_worthOf_33 rfl ?_
  refine sz_imul dX12_worthOf_35 ?_
  refine sz_iload dX12_worthOf_36 rfl ?_
  refine sz_iadd dX12_worthOf_38 ?_
  obtain ⟨y39, ey39, hf⟩ := gz_lt hf
  refine sz_topi ey39 ?_
  refine sz_istore dX12_worthOf_39 (Nat.le_of_ble_eq_true rfl) rfl ?_
  refine sz_ls (l2 := [some (.ref 39), some (.int x1), some (.int x2), some (.int x3), some (.int x4), some (.int x5), some (.int x6), some (.int y39), none]) rfl ?_
  refine sz_bipush dX12_worthOf_41 (cB100) ?_
  refine sz_iload dX12_worthOf_43 rfl ?_
  refine sz_imul dX12_worthOf_45 ?_
  refine sz_iload dX12_worthOf_46 rfl ?_
  refine sz_iadd dX12_worthOf_48 ?_
  obtain ⟨y49, ey49, hf⟩ := gz_lt hf
  refine sz_topi ey49 ?_
  refine sz_istore dX12_worthOf_49 (Nat.le_of_ble_eq_true rfl) rfl ?_
  refine sz_ls (l2 := [some (.ref 39), some (.int x1), some (.int x2), some (.int x3), some (.int x4), some (.int x5), some (.int x6), some (.int y49), none]) rfl ?_
  refine sz_bipush dX12_worthOf_51 (cB24) ?_
  refine sz_iload dX12_worthOf_53 rfl ?_
  refine sz_imul dX12_worthOf_55 ?_
  refine sz_iload dX12_worthOf_56 rfl ?_
  refine sz_iadd dX12_worthOf_58 ?_
  obtain ⟨y59, ey59, hf⟩ := gz_lt hf
  refine sz_topi ey59 ?_
  refine sz_istore dX12_worthOf_59 (Nat.le_of_ble_eq_true rfl) rfl ?_
  refine sz_ls (l2 := [some (.ref 39), some (.int x1), some (.int x2), some (.int x3), some (.int x4), some (.int x5), some (.int x6), some (.int y59), none]) rfl ?_
  refine sz_iload dX12_worthOf_61 rfl ?_
  refine sz_sipush dX12_worthOf_63 (cH8191) ?_
  refine sz_irem dX12_worthOf_66 (by decide) ?_
  obtain ⟨y67, ey67, hf⟩ := gz_lt hf
  refine sz_topi ey67 ?_
  refine sz_istore dX12_worthOf_67 (Nat.le_of_ble_eq_true rfl) rfl ?_
  refine sz_ls (l2 := [some (.ref 39), some (.int x1), some (.int x2), some (.int x3), some (.int x4), some (.int x5), some (.int x6), some (.int y59), some (.int y67)]) rfl ?_
  refine sz_aload_n dX12_worthOf_69 rfl ?_
  refine sz_getR dX12_worthOf_70 flX12_77 kd39 rfl rf39_36 ?_
  refine sz_iload dX12_worthOf_73 rfl ?_
  obtain ⟨c75, hf⟩ := gz_gd hf
  refine sz_ialdL dX12_worthOf_75 kd55 c75 rfl ?_
  refine sz_iload dX12_worthOf_76 rfl ?_
  refine sz_icmp_ne 89 dX12_worthOf_78 (by decide) (fun c78 => ?_) (fun c78 => ?_)
  · have hf := gz_in1 c78 hf
    refine sz_aload_n dX12_worthOf_89 rfl ?_
    refine sz_getR dX12_worthOf_90 flX12_20 kd39 rfl rf39_4 ?_
    refine sz_bipush dX12_worthOf_93 (cB98) ?_
    refine sz_iload_n dX12_worthOf_95 rfl ?_
    obtain ⟨g96, eg96, hf⟩ := gz_lt hf
    refine sz_iastL dX12_worthOf_96 kd43 vi98_128 tn98 eg96 ?_
    refine sz_aload_n dX12_worthOf_97 rfl ?_
    refine sz_getR dX12_worthOf_98 flX12_20 kd39 rfl rf39_4 ?_
    refine sz_bipush dX12_worthOf_101 (cB97) ?_
    refine sz_iload_n dX12_worthOf_103 rfl ?_
    obtain ⟨g104, eg104, hf⟩ := gz_lt hf
    refine sz_iastL dX12_worthOf_104 kd43 vi97_128 tn97 eg104 ?_
    refine sz_aload_n dX12_worthOf_105 rfl ?_
    refine sz_getR dX12_worthOf_106 flX12_20 kd39 rfl rf39_4 ?_
    refine sz_bipush dX12_worthOf_109 (cB114) ?_
    refine sz_iload_n dX12_worthOf_111 rfl ?_
    obtain ⟨g112, eg112, hf⟩ := gz_lt hf
    refine sz_iastL dX12_worthOf_112 kd43 vi114_128 tn114 eg112 ?_
    refine sz_aload_n dX12_worthOf_113 rfl ?_
    refine sz_getR dX12_worthOf_114 flX12_20 kd39 rfl rf39_4 ?_
    refine sz_bipush dX12_worthOf_117 (cB112) ?_
    refine sz_iload dX12_worthOf_119 rfl ?_
    obtain ⟨g121, eg121, hf⟩ := gz_lt hf
    refine sz_iastL dX12_worthOf_121 kd43 vi112_128 tn112 eg121 ?_
    refine sz_aload_n dX12_worthOf_122 rfl ?_
    refine sz_getR dX12_worthOf_123 flX12_20 kd39 rfl rf39_4 ?_
    refine sz_bipush dX12_worthOf_126 (cB110) ?_
    refine sz_iload dX12_worthOf_128 rfl ?_
    obtain ⟨g130, eg130, hf⟩ := gz_lt hf
    refine sz_iastL dX12_worthOf_130 kd43 vi110_128 tn110 eg130 ?_
    refine sz_aload_n dX12_worthOf_131 rfl ?_
    refine sz_getR dX12_worthOf_132 flX12_20 kd39 rfl rf39_4 ?_
    refine sz_bipush dX12_worthOf_135 (cB116) ?_
    refine sz_iload dX12_worthOf_137 rfl ?_
    obtain ⟨g139, eg139, hf⟩ := gz_lt hf
    refine sz_iastL dX12_worthOf_139 kd43 vi116_128 tn116 eg139 ?_
    refine sz_aload_n dX12_worthOf_140 rfl ?_
    refine sz_aload_n dX12_worthOf_141 rfl ?_
    refine sz_getR dX12_worthOf_142 flX12_13 kd39 rfl rf39_2 ?_
    refine sz_sipush dX12_worthOf_145 (cH240) ?_
    refine sz_aload_n dX12_worthOf_148 rfl ?_
    refine sz_getI dX12_worthOf_149 flX12_70 kd39 rfl ?_
    refine sz_imul dX12_worthOf_152 ?_
    refine sz_aload_n dX12_worthOf_153 rfl ?_
    refine sz_getR dX12_worthOf_154 flX12_16 kd39 rfl rf39_3 ?_
    refine sz_aload_n dX12_worthOf_157 rfl ?_
    refine sz_getI dX12_worthOf_158 flX12_70 kd39 rfl ?_
    obtain ⟨c161, hf⟩ := gz_gd hf
    refine sz_ialdL dX12_worthOf_161 kd42 c161 rfl ?_
    obtain ⟨q162, eq162, hf⟩ := gz_bd hf
    refine sz_callVv [.ref 41, .int ((240 : Int32) * (g139.1 39 34)), .int (g139.1 42 (Int32.toNatClampNeg (g139.1 39 34)))] [] dX12_worthOf_162 mvX12_289 (Nat.le_of_ble_eq_true rfl) (by decide : 12 < 13) kd39 rfl (Nat.le_of_ble_eq_true rfl) (kX12_goThrough  (Or.inr rfl) eq162) ?_
    refine sz_aload_n dX12_worthOf_165 rfl ?_
    refine sz_getR dX12_worthOf_166 flX12_77 kd39 rfl rf39_36 ?_
    refine sz_iload dX12_worthOf_169 rfl ?_
    refine sz_iload dX12_worthOf_171 rfl ?_
    obtain ⟨c173, hf⟩ := gz_gd hf
    obtain ⟨g173, eg173, hf⟩ := gz_lt hf
    refine sz_iastL dX12_worthOf_173 kd55 c173 rfl eg173 ?_
    refine sz_aload_n dX12_worthOf_174 rfl ?_
    refine sz_getR dX12_worthOf_175 flX12_80 kd39 rfl rf39_37 ?_
    refine sz_iload dX12_worthOf_178 rfl ?_
    refine sz_aload_n dX12_worthOf_180 rfl ?_
    refine sz_getI dX12_worthOf_181 flX12_212 kd39 rfl ?_
    refine sz_iconst dX12_worthOf_184 (cI4) ?_
    refine sz_irem dX12_worthOf_185 (by decide) ?_
    refine sz_iconst dX12_worthOf_186 (cI4) ?_
    refine sz_iadd dX12_worthOf_187 ?_
    refine sz_iconst dX12_worthOf_188 (cI4) ?_
    refine sz_irem dX12_worthOf_189 (by decide) ?_
    obtain ⟨c190, hf⟩ := gz_gd hf
    obtain ⟨g190, eg190, hf⟩ := gz_lt hf
    refine sz_iastL dX12_worthOf_190 kd56 c190 rfl eg190 ?_
    refine sz_aload_n dX12_worthOf_191 rfl ?_
    refine sz_getR dX12_worthOf_192 flX12_80 kd39 rfl rf39_37 ?_
    refine sz_iload dX12_worthOf_195 rfl ?_
    obtain ⟨c197, hf⟩ := gz_gd hf
    refine sz_ialdL dX12_worthOf_197 kd56 c197 rfl ?_
    cases hf
    exact sz_iret dX12_worthOf_198 rfl rfl ⟨rfl, rfl⟩
  · have hf := gz_ip c78 hf
    refine sz_aload_n dX12_worthOf_81 rfl ?_
    refine sz_getR dX12_worthOf_82 flX12_80 kd39 rfl rf39_37 ?_
    refine sz_iload dX12_worthOf_85 rfl ?_
    obtain ⟨c87, hf⟩ := gz_gd hf
    refine sz_ialdL dX12_worthOf_87 kd56 c87 rfl ?_
    cases hf
    exact sz_iret dX12_worthOf_88 rfl rfl ⟨rfl, rfl⟩
def fX12_turnOf (La : gz_L)  (w1 : Nat) (x2 : Int32) (x3 : Int32) (g : gz_S) : Option (Int32 × gz_S) :=
  gz_let ((30 : Int32) + ((4 : Int32) * x2)) (fun y6 => if gz_ok (y6 + 0) 231 then if gz_ok (y6 + 1) 231 then (fX12_aheadOf La  w1 (g.1 w1 (Int32.toNatClampNeg (y6 + 0))) (g.1 w1 (Int32.toNatClampNeg (y6 + 1))) g).bind (fun q22 => if gz_ok (y6 + 1) 231 then gz_let (((q22.2.1 w1 (Int32.toNatClampNeg (y6 + 1))) + 1) - ((q22.2.1 w1 (Int32.toNatClampNeg (y6 + 1))) + 1) / 4 * 4) (fun y37 => if (q22.2.1 39 34) = (-1) then if q22.1 = 1 then some (y37, q22.2) else if gz_ok (y6 + 1) 231 then some (q22.2.1 w1 (Int32.toNatClampNeg (y6 + 1)), q22.2) else none else if gz_ok (y6 + 1) 231 then if gz_ok (y6 + 0) 231 then (fX12_aheadOf La  w1 (q22.2.1 w1 (Int32.toNatClampNeg (y6 + 0))) y37 q22.2).bind (fun q84 => if gz_ok (y6 + 2) 231 then (fX12_worthOf La  (q22.2.1 w1 (Int32.toNatClampNeg (y6 + 1))) q22.1 q84.1 x3 ((q84.2.1 w1 (Int32.toNatClampNeg (y6 + 2))) - (q84.2.1 w1 (Int32.toNatClampNeg (y6 + 2))) / 100 * 100) ((q84.2.1 w1 49) - (q84.2.1 w1 49) / 24 * 24) q84.2).bind (fun q104 => some (q104.1, q104.2)) else none) else none else none) else none) else none else none)
set_option maxRecDepth 100000 in
set_option maxHeartbeats 4000000 in
theorem kX12_turnOf {La : gz_L}  {w1 : Nat} {x2 : Int32} {x3 : Int32} {g : gz_S} {r : Int32 × gz_S} (hw1 : w1 = 53 ∨ w1 = 54) (hf : fX12_turnOf La  w1 x2 x3 g = some r) : gz_K La 142 mX12_turnOf [.ref 39, .ref w1, .int x2, .int x3] g (gz_Fi r) := by
  unfold fX12_turnOf at hf
  refine gz_K.of 3 (by decide +kernel) rfl ?_
  show gz_J La 142 mX12_turnOf 0 [some (.ref 39), some (.ref w1), some (.int x2), some (.int x3), none, none, none] [] g (gz_Fi r)
  refine sz_bipush dX12_turnOf_0 (cB30) ?_
  refine sz_iconst dX12_turnOf_2 (cI4) ?_
  refine sz_iload_n dX12_turnOf_3 rfl ?_
  refine sz_imul dX12_turnOf_4 ?_
  refine sz_iadd dX12_turnOf_5 ?_
  obtain ⟨y6, ey6, hf⟩ := gz_lt hf
  refine sz_topi ey6 ?_
  refine sz_istore dX12_turnOf_6 (Nat.le_of_ble_eq_true rfl) rfl ?_
  refine sz_ls (l2 := [some (.ref 39), some (.ref w1), some (.int x2), some (.int x3), some (.int y6), none, none]) rfl ?_
  refine sz_aload_n dX12_turnOf_8 rfl ?_
  refine sz_aload_n dX12_turnOf_9 rfl ?_
  refine sz_aload_n dX12_turnOf_10 rfl ?_
  refine sz_iload dX12_turnOf_11 rfl ?_
  refine sz_iconst dX12_turnOf_13 (cI0) ?_
  refine sz_iadd dX12_turnOf_14 ?_
  obtain ⟨c15, hf⟩ := gz_gd hf
  refine sz_ialdL dX12_turnOf_15 (kds_nt hw1) c15 rfl ?_
  refine sz_aload_n dX12_turnOf_16 rfl ?_
  refine sz_iload dX12_turnOf_17 rfl ?_
  refine sz_iconst dX12_turnOf_19 (cI1) ?_
  refine sz_iadd dX12_turnOf_20 ?_
  obtain ⟨c21, hf⟩ := gz_gd hf
  refine sz_ialdL dX12_turnOf_21 (kds_nt hw1) c21 rfl ?_
  obtain ⟨q22, eq22, hf⟩ := gz_bd hf
  refine sz_callVi [.ref w1, .int (g.1 w1 (Int32.toNatClampNeg (y6 + 0))), .int (g.1 w1 (Int32.toNatClampNeg (y6 + 1)))] [] dX12_turnOf_22 mvX12_335 (Nat.le_of_ble_eq_true rfl) (by decide : 12 < 13) kd39 rfl (Nat.le_of_ble_eq_true rfl) (kX12_aheadOf  hw1 eq22) ?_
  refine sz_istore dX12_turnOf_25 (Nat.le_of_ble_eq_true rfl) rfl ?_
  refine sz_ls (l2 := [some (.ref 39), some (.ref w1), some (.int x2), some (.int x3), some (.int y6), some (.int q22.1), none]) rfl ?_
  refine sz_aload_n dX12_turnOf_27 rfl ?_
  refine sz_iload dX12_turnOf_28 rfl ?_
  refine sz_iconst dX12_turnOf_30 (cI1) ?_
  refine sz_iadd dX12_turnOf_31 ?_
  obtain ⟨c32, hf⟩ := gz_gd hf
  refine sz_ialdL dX12_turnOf_32 (kds_nt hw1) c32 rfl ?_
  refine sz_iconst dX12_turnOf_33 (cI1) ?_
  refine sz_iadd dX12_turnOf_34 ?_
  refine sz_iconst dX12_turnOf_35 (cI4) ?_
  refine sz_irem dX12_turnOf_36 (by decide) ?_
  obtain ⟨y37, ey37, hf⟩ := gz_lt hf
  refine sz_topi ey37 ?_
  refine sz_istore dX12_turnOf_37 (Nat.le_of_ble_eq_true rfl) rfl ?_
  refine sz_ls (l2 := [some (.ref 39), some (.ref w1), some (.int x2), some (.int x3), some (.int y6), some (.int q22.1), some (.int y37)]) rfl ?_
  refine sz_aload_n dX12_turnOf_39 rfl ?_
  refine sz_getI dX12_turnOf_40 flX12_70 kd39 rfl ?_
  refine sz_iconst dX12_turnOf_43 (cIm1) ?_
  refine sz_icmp_ne 65 dX12_turnOf_44 (by decide) (fun c44 => ?_) (fun c44 => ?_)
  · have hf := gz_in1 c44 hf
    refine sz_aload_n dX12_turnOf_65 rfl ?_
    refine sz_aload_n dX12_turnOf_66 rfl ?_
    refine sz_iload dX12_turnOf_67 rfl ?_
    refine sz_iconst dX12_turnOf_69 (cI1) ?_
    refine sz_iadd dX12_turnOf_70 ?_
    obtain ⟨c71, hf⟩ := gz_gd hf
    refine sz_ialdL dX12_turnOf_71 (kds_nt hw1) c71 rfl ?_
    refine sz_iload dX12_turnOf_72 rfl ?_
    refine sz_aload_n dX12_turnOf_74 rfl ?_
    refine sz_aload_n dX12_turnOf_75 rfl ?_
    refine sz_aload_n dX12_turnOf_76 rfl ?_
    refine sz_iload dX12_turnOf_77 rfl ?_
    refine sz_iconst dX12_turnOf_79 (cI0) ?_
    refine sz_iadd dX12_turnOf_80 ?_
    obtain ⟨c81, hf⟩ := gz_gd hf
    refine sz_ialdL dX12_turnOf_81 (kds_nt hw1) c81 rfl ?_
    refine sz_iload dX12_turnOf_82 rfl ?_
    obtain ⟨q84, eq84, hf⟩ := gz_bd hf
    refine sz_callVi [.ref w1, .int (q22.2.1 w1 (Int32.toNatClampNeg (y6 + 0))), .int y37] [.int q22.1, .int (q22.2.1 w1 (Int32.toNatClampNeg (y6 + 1))), .ref 39] dX12_turnOf_84 mvX12_335 (Nat.le_of_ble_eq_true rfl) (by decide : 12 < 13) kd39 rfl (Nat.le_of_ble_eq_true rfl) (kX12_aheadOf  hw1 eq84) ?_
    refine sz_iload_n dX12_turnOf_87 rfl ?_
    refine sz_aload_n dX12_turnOf_88 rfl ?_
    refine sz_iload dX12_turnOf_89 rfl ?_
    refine sz_iconst dX12_turnOf_91 (cI2) ?_
    refine sz_iadd dX12_turnOf_92 ?_
    obtain ⟨c93, hf⟩ := gz_gd hf
    refine sz_ialdL dX12_turnOf_93 (kds_nt hw1) c93 rfl ?_
    refine sz_bipush dX12_turnOf_94 (cB100) ?_
    refine sz_irem dX12_turnOf_96 (by decide) ?_
    refine sz_aload_n dX12_turnOf_97 rfl ?_
    refine sz_bipush dX12_turnOf_98 (cB49) ?_
    refine sz_ialdL dX12_turnOf_100 (kds_nt hw1) vi49_231 tn49 ?_
    refine sz_bipush dX12_turnOf_101 (cB24) ?_
    refine sz_irem dX12_turnOf_103 (by decide) ?_
    obtain ⟨q104, eq104, hf⟩ := gz_bd hf
    refine sz_callVi [.int (q22.2.1 w1 (Int32.toNatClampNeg (y6 + 1))), .int q22.1, .int q84.1, .int x3, .int ((q84.2.1 w1 (Int32.toNatClampNeg (y6 + 2))) - (q84.2.1 w1 (Int32.toNatClampNeg (y6 + 2))) / 100 * 100), .int ((q84.2.1 w1 49) - (q84.2.1 w1 49) / 24 * 24)] [] dX12_turnOf_104 mvX12_339 (Nat.le_of_ble_eq_true rfl) (by decide : 12 < 13) kd39 rfl (Nat.le_of_ble_eq_true rfl) (kX12_worthOf   eq104) ?_
    cases hf
    exact sz_iret dX12_turnOf_107 rfl rfl ⟨rfl, rfl⟩
  · have hf := gz_ip c44 hf
    refine sz_iload dX12_turnOf_47 rfl ?_
    refine sz_iconst dX12_turnOf_49 (cI1) ?_
    refine sz_icmp_ne 58 dX12_turnOf_50 (by decide) (fun c50 => ?_) (fun c50 => ?_)
    · have hf := gz_in1 c50 hf
      refine sz_aload_n dX12_turnOf_58 rfl ?_
      refine sz_iload dX12_turnOf_59 rfl ?_
      refine sz_iconst dX12_turnOf_61 (cI1) ?_
      refine sz_iadd dX12_turnOf_62 ?_
      obtain ⟨c63, hf⟩ := gz_gd hf
      refine sz_ialdL dX12_turnOf_63 (kds_nt hw1) c63 rfl ?_
      cases hf
      exact sz_iret dX12_turnOf_64 rfl rfl ⟨rfl, rfl⟩
    · have hf := gz_ip c50 hf
      refine sz_iload dX12_turnOf_53 rfl ?_
      refine sz_goto 64 dX12_turnOf_55 (by decide) ?_
      cases hf
      exact sz_iret dX12_turnOf_64 rfl rfl ⟨rfl, rfl⟩
def fX12_goStep_92 (La : gz_L)  (w1 : Nat)  (x4 : Int32) (x5 : Int32) (g : gz_S) : Option (gz_S) := if x5 = 3 then if gz_ok (x4 + 3) 231 then gz_let (gz_wi g w1 (Int32.toNatClampNeg (x4 + 3)) 1) (fun g104 => some g104) else none else some g
set_option maxRecDepth 100000 in
set_option maxHeartbeats 4000000 in
theorem tX12_goStep_92 {La : gz_L}  {w1 : Nat}  (hw1 : w1 = 53 ∨ w1 = 54)  : ∀ (x4 : Int32) (x5 : Int32) (g : gz_S) (r : gz_S), fX12_goStep_92 La  w1  x4 x5 g = some r → gz_J La 143 mX12_goStep 92 [none, some (.ref w1), none, none, some (.int x4), some (.int x5)] [] g (gz_Fv r) := by
  intro x4 x5 g r hf
  unfold fX12_goStep_92 at hf
  refine sz_iload dX12_goStep_92 rfl ?_
  refine sz_iconst dX12_goStep_94 (cI3) ?_
  refine sz_icmp_ne 105 dX12_goStep_95 (by decide) (fun c95 => ?_) (fun c95 => ?_)
  · have hf := gz_in1 c95 hf
    cases hf
    exact sz_ret dX12_goStep_105 rfl ⟨rfl, rfl⟩
  · have hf := gz_ip c95 hf
    refine sz_aload_n dX12_goStep_98 rfl ?_
    refine sz_iload dX12_goStep_99 rfl ?_
    refine sz_iconst dX12_goStep_101 (cI3) ?_
    refine sz_iadd dX12_goStep_102 ?_
    refine sz_iconst dX12_goStep_103 (cI1) ?_
    obtain ⟨c104, hf⟩ := gz_gd hf
    obtain ⟨g104, eg104, hf⟩ := gz_lt hf
    refine sz_iastL dX12_goStep_104 (kds_nt hw1) c104 rfl eg104 ?_
    cases hf
    exact sz_ret dX12_goStep_105 rfl ⟨rfl, rfl⟩
def fX12_goStep (La : gz_L)  (w1 : Nat) (x2 : Int32) (x3 : Int32) (g : gz_S) : Option (gz_S) :=
  gz_let ((30 : Int32) + ((4 : Int32) * x2)) (fun y6 => (fX12_turnOf La  w1 x2 x3 g).bind (fun q17 => if gz_ok (y6 + 1) 231 then gz_let (gz_wi q17.2 w1 (Int32.toNatClampNeg (y6 + 1)) q17.1) (fun g20 => if gz_ok (y6 + 0) 231 then if gz_ok (y6 + 1) 231 then (fX12_aheadOf La  w1 (g20.1 w1 (Int32.toNatClampNeg (y6 + 0))) (g20.1 w1 (Int32.toNatClampNeg (y6 + 1))) g20).bind (fun q35 => if q35.1 = 1 then some q35.2 else if gz_ok (y6 + 0) 231 then if gz_ok (y6 + 1) 231 then (fX12_nextCell La  (q35.2.1 w1 (Int32.toNatClampNeg (y6 + 0))) (q35.2.1 w1 (Int32.toNatClampNeg (y6 + 1))) q35.2).bind (fun q65 => if gz_ok (y6 + 0) 231 then gz_let (gz_wi q65.2 w1 (Int32.toNatClampNeg (y6 + 0)) q65.1) (fun g68 => if gz_ok (y6 + 2) 231 then if gz_ok (y6 + 2) 231 then gz_let (gz_wi g68 w1 (Int32.toNatClampNeg (y6 + 2)) ((g68.1 w1 (Int32.toNatClampNeg (y6 + 2))) + 1)) (fun g78 => if q35.1 = 2 then if gz_ok (y6 + 3) 231 then gz_let (gz_wi g78 w1 (Int32.toNatClampNeg (y6 + 3)) 2) (fun g91 => fX12_goStep_92 La  w1   y6 q35.1 g91) else none else fX12_goStep_92 La  w1   y6 q35.1 g78) else none else none) else none) else none else none) else none else none) else none))
set_option maxRecDepth 100000 in
set_option maxHeartbeats 4000000 in
theorem kX12_goStep {La : gz_L}  {w1 : Nat} {x2 : Int32} {x3 : Int32} {g : gz_S} {r : gz_S} (hw1 : w1 = 53 ∨ w1 = 54) (hf : fX12_goStep La  w1 x2 x3 g = some r) : gz_K La 143 mX12_goStep [.ref 39, .ref w1, .int x2, .int x3] g (gz_Fv r) := by
  unfold fX12_goStep at hf
  refine gz_K.of 2 (by decide +kernel) rfl ?_
  show gz_J La 143 mX12_goStep 0 [some (.ref 39), some (.ref w1), some (.int x2), some (.int x3), none, none] [] g (gz_Fv r)
  refine sz_bipush dX12_goStep_0 (cB30) ?_
  refine sz_iconst dX12_goStep_2 (cI4) ?_
  refine sz_iload_n dX12_goStep_3 rfl ?_
  refine sz_imul dX12_goStep_4 ?_
  refine sz_iadd dX12_goStep_5 ?_
  obtain ⟨y6, ey6, hf⟩ := gz_lt hf
  refine sz_topi ey6 ?_
  refine sz_istore dX12_goStep_6 (Nat.le_of_ble_eq_true rfl) rfl ?_
  refine sz_ls (l2 := [some (.ref 39), some (.ref w1), some (.int x2), some (.int x3), some (.int y6), none]) rfl ?_
  refine sz_aload_n dX12_goStep_8 rfl ?_
  refine sz_iload dX12_goStep_9 rfl ?_
  refine sz_iconst dX12_goStep_11 (cI1) ?_
  refine sz_iadd dX12_goStep_12 ?_
  refine sz_aload_n dX12_goStep_13 rfl ?_
  refine sz_aload_n dX12_goStep_14 rfl ?_
  refine sz_iload_n dX12_goStep_15 rfl ?_
  refine sz_iload_n dX12_goStep_16 rfl ?_
  obtain ⟨q17, eq17, hf⟩ := gz_bd hf
  refine sz_callVi [.ref w1, .int x2, .int x3] [.int (y6 + 1), .ref w1] dX12_goStep_17 mvX12_343 (Nat.le_of_ble_eq_true rfl) (by decide : 12 < 13) kd39 rfl (Nat.le_of_ble_eq_true rfl) (kX12_turnOf  hw1 eq17) ?_
  obtain ⟨c20, hf⟩ := gz_gd hf
  obtain ⟨g20, eg20, hf⟩ := gz_lt hf
  refine sz_iastL dX12_goStep_20 (kds_nt hw1) c20 rfl eg20 ?_
  refine sz_aload_n dX12_goStep_21 rfl ?_
  refine sz_aload_n dX12_goStep_22 rfl ?_
  refine sz_aload_n dX12_goStep_23 rfl ?_
  refine sz_iload dX12_goStep_24 rfl ?_
  refine sz_iconst dX12_goStep_26 (cI0) ?_
  refine sz_iadd dX12_goStep_27 ?_
  obtain ⟨c28, hf⟩ := gz_gd hf
  refine sz_ialdL dX12_goStep_28 (kds_nt hw1) c28 rfl ?_
  refine sz_aload_n dX12_goStep_29 rfl ?_
  refine sz_iload dX12_goStep_30 rfl ?_
  refine sz_iconst dX12_goStep_32 (cI1) ?_
  refine sz_iadd dX12_goStep_33 ?_
  obtain ⟨c34, hf⟩ := gz_gd hf
  refine sz_ialdL dX12_goStep_34 (kds_nt hw1) c34 rfl ?_
  obtain ⟨q35, eq35, hf⟩ := gz_bd hf
  refine sz_callVi [.ref w1, .int (g20.1 w1 (Int32.toNatClampNeg (y6 + 0))), .int (g20.1 w1 (Int32.toNatClampNeg (y6 + 1)))] [] dX12_goStep_35 mvX12_335 (Nat.le_of_ble_eq_true rfl) (by decide : 12 < 13) kd39 rfl (Nat.le_of_ble_eq_true rfl) (kX12_aheadOf  hw1 eq35) ?_
  refine sz_istore dX12_goStep_38 (Nat.le_of_ble_eq_true rfl) rfl ?_
  refine sz_ls (l2 := [some (.ref 39), some (.ref w1), some (.int x2), some (.int x3), some (.int y6), some (.int q35.1)]) rfl ?_
  refine sz_iload dX12_goStep_40 rfl ?_
  refine sz_iconst dX12_goStep_42 (cI1) ?_
  refine sz_icmp_ne 47 dX12_goStep_43 (by decide) (fun c43 => ?_) (fun c43 => ?_)
  · have hf := gz_in1 c43 hf
    refine sz_aload_n dX12_goStep_47 rfl ?_
    refine sz_iload dX12_goStep_48 rfl ?_
    refine sz_iconst dX12_goStep_50 (cI0) ?_
    refine sz_iadd dX12_goStep_51 ?_
    refine sz_aload_n dX12_goStep_52 rfl ?_
    refine sz_aload_n dX12_goStep_53 rfl ?_
    refine sz_iload dX12_goStep_54 rfl ?_
    refine sz_iconst dX12_goStep_56 (cI0) ?_
    refine sz_iadd dX12_goStep_57 ?_
    obtain ⟨c58, hf⟩ := gz_gd hf
    refine sz_ialdL dX12_goStep_58 (kds_nt hw1) c58 rfl ?_
    refine sz_aload_n dX12_goStep_59 rfl ?_
    refine sz_iload dX12_goStep_60 rfl ?_
    refine sz_iconst dX12_goStep_62 (cI1) ?_
    refine sz_iadd dX12_goStep_63 ?_
    obtain ⟨c64, hf⟩ := gz_gd hf
    refine sz_ialdL dX12_goStep_64 (kds_nt hw1) c64 rfl ?_
    obtain ⟨q65, eq65, hf⟩ := gz_bd hf
    refine sz_callVi [.int (q35.2.1 w1 (Int32.toNatClampNeg (y6 + 0))), .int (q35.2.1 w1 (Int32.toNatClampNeg (y6 + 1)))] [.int (y6 + 0), .ref w1] dX12_goStep_65 mvX12_328 (Nat.le_of_ble_eq_true rfl) (by decide : 12 < 13) kd39 rfl (Nat.le_of_ble_eq_true rfl) (kX12_nextCell   eq65) ?_
    obtain ⟨c68, hf⟩ := gz_gd hf
    obtain ⟨g68, eg68, hf⟩ := gz_lt hf
    refine sz_iastL dX12_goStep_68 (kds_nt hw1) c68 rfl eg68 ?_
    refine sz_aload_n dX12_goStep_69 rfl ?_
    refine sz_iload dX12_goStep_70 rfl ?_
    refine sz_iconst dX12_goStep_72 (cI2) ?_
    refine sz_iadd dX12_goStep_73 ?_
    refine sz_dup2 dX12_goStep_74 rfl rfl ?_
    obtain ⟨c75, hf⟩ := gz_gd hf
    refine sz_ialdL dX12_goStep_75 (kds_nt hw1) c75 rfl ?_
    refine sz_iconst dX12_goStep_76 (cI1) ?_
    refine sz_iadd dX12_goStep_77 ?_
    obtain ⟨c78, hf⟩ := gz_gd hf
    obtain ⟨g78, eg78, hf⟩ := gz_lt hf
    refine sz_iastL dX12_goStep_78 (kds_nt hw1) c78 rfl eg78 ?_
    refine sz_iload dX12_goStep_79 rfl ?_
    refine sz_iconst dX12_goStep_81 (cI2) ?_
    refine sz_icmp_ne 92 dX12_goStep_82 (by decide) (fun c82 => ?_) (fun c82 => ?_)
    · have hf := gz_in1 c82 hf
      refine sz_weak (l2 := [none, some (.ref w1), none, none, some (.int y6), some (.int q35.1)]) (gz_subn (gz_subk (gz_subn (gz_subn (gz_subk (gz_subk gz_sub0)))))) ?_
      exact tX12_goStep_92  hw1  _ _ _ _ hf
    · have hf := gz_ip c82 hf
      refine sz_aload_n dX12_goStep_85 rfl ?_
      refine sz_iload dX12_goStep_86 rfl ?_
      refine sz_iconst dX12_goStep_88 (cI3) ?_
      refine sz_iadd dX12_goStep_89 ?_
      refine sz_iconst dX12_goStep_90 (cI2) ?_
      obtain ⟨c91, hf⟩ := gz_gd hf
      obtain ⟨g91, eg91, hf⟩ := gz_lt hf
      refine sz_iastL dX12_goStep_91 (kds_nt hw1) c91 rfl eg91 ?_
      refine sz_weak (l2 := [none, some (.ref w1), none, none, some (.int y6), some (.int q35.1)]) (gz_subn (gz_subk (gz_subn (gz_subn (gz_subk (gz_subk gz_sub0)))))) ?_
      exact tX12_goStep_92  hw1  _ _ _ _ hf
  · have hf := gz_ip c43 hf
    cases hf
    exact sz_ret dX12_goStep_46 rfl ⟨rfl, rfl⟩
def fX12_goesOn_40 (La : gz_L)  (w1 : Nat)  : Nat → Int32 → Int32 → Int32 → gz_S → Option (gz_S)
  | 0, _, _, _, _ => none
  | n + 1, x2, x3, x4, g => if x3 ≤ x4 then some g else (fX12_does La  w1 x2 g).bind (fun q48 => if q48.1 = 0 then some q48.2 else (fX12_goStep La  w1 x2 x3 q48.2).bind (fun q58 => gz_let (x4 + 1) (fun y61 => fX12_goesOn_40 La  w1  n x2 x3 y61 q58)))
set_option maxRecDepth 100000 in
set_option maxHeartbeats 4000000 in
theorem tX12_goesOn_40 {La : gz_L}  {w1 : Nat}  (hw1 : w1 = 53 ∨ w1 = 54)  : ∀ (n : Nat) (x2 : Int32) (x3 : Int32) (x4 : Int32) (g : gz_S) (r : gz_S), fX12_goesOn_40 La  w1  n x2 x3 x4 g = some r → gz_J La 144 mX12_goesOn 40 [some (.ref 39), some (.ref w1), some (.int x2), some (.int x3), some (.int x4)] [] g (gz_Fv r) := by
  intro n
  induction n with
  | zero => intro x2 x3 x4 g r hf; exact nomatch (show (none : Option (gz_S)) = some r from hf)
  | succ n ih =>
    intro x2 x3 x4 g r hf
    unfold fX12_goesOn_40 at hf
    refine sz_iload dX12_goesOn_40 rfl ?_
    refine sz_iload_n dX12_goesOn_42 rfl ?_
    refine sz_icmp_ge 67 dX12_goesOn_43 (by decide) (fun c43 => ?_) (fun c43 => ?_)
    · have hf := gz_ip c43 hf
      cases hf
      exact sz_ret dX12_goesOn_67 rfl ⟨rfl, rfl⟩
    · have hf := gz_in1 c43 hf
      refine sz_aload_n dX12_goesOn_46 rfl ?_
      refine sz_iload_n dX12_goesOn_47 rfl ?_
      obtain ⟨q48, eq48, hf⟩ := gz_bd hf
      refine sz_callSi [.ref w1, .int x2] [] dX12_goesOn_48 msX12_346 (Nat.le_of_ble_eq_true rfl) (Nat.le_of_ble_eq_true rfl) (kX12_does  hw1 eq48) ?_
      refine sz_if_eq 67 dX12_goesOn_51 (by decide) (fun c51 => ?_) (fun c51 => ?_)
      · have hf := gz_ip c51 hf
        cases hf
        exact sz_ret dX12_goesOn_67 rfl ⟨rfl, rfl⟩
      · have hf := gz_in1 c51 hf
        refine sz_aload_n dX12_goesOn_54 rfl ?_
        refine sz_aload_n dX12_goesOn_55 rfl ?_
        refine sz_iload_n dX12_goesOn_56 rfl ?_
        refine sz_iload_n dX12_goesOn_57 rfl ?_
        obtain ⟨q58, eq58, hf⟩ := gz_bd hf
        refine sz_callVv [.ref w1, .int x2, .int x3] [] dX12_goesOn_58 mvX12_349 (Nat.le_of_ble_eq_true rfl) (by decide : 12 < 13) kd39 rfl (Nat.le_of_ble_eq_true rfl) (kX12_goStep  hw1 eq58) ?_
        obtain ⟨y61, ey61, hf⟩ := gz_lt hf
        refine sz_iinc (v := y61) dX12_goesOn_61 rfl (by rw [ey61, cI1]) (Nat.le_of_ble_eq_true rfl) rfl ?_
        refine sz_ls (l2 := [some (.ref 39), some (.ref w1), some (.int x2), some (.int x3), some (.int y61)]) rfl ?_
        refine sz_goto 40 dX12_goesOn_64 (by decide) ?_
        exact ih _ _ _ _ _ hf
def fX12_goesOn (La : gz_L)  (w1 : Nat) (x2 : Int32) (x3 : Int32) (g : gz_S) : Option (gz_S) :=
  (fX12_does La  w1 x2 g).bind (fun q2 => if q2.1 = 0 then some q2.2 else if gz_ok ((30 : Int32) + ((4 : Int32) * x2)) 231 then (fX12_isUnder La  w1 (q2.2.1 w1 (Int32.toNatClampNeg ((30 : Int32) + ((4 : Int32) * x2)))) q2.2).bind (fun q19 => if q19.1 = 0 then fX12_goesOn_40 La  w1  gz_FU x2 x3 0 q19.2 else if gz_ok (((30 : Int32) + ((4 : Int32) * x2)) + 3) 231 then gz_let (gz_wi q19.2 w1 (Int32.toNatClampNeg (((30 : Int32) + ((4 : Int32) * x2)) + 3)) 2) (fun g35 => some g35) else none) else none)
set_option maxRecDepth 100000 in
set_option maxHeartbeats 4000000 in
theorem kX12_goesOn {La : gz_L}  {w1 : Nat} {x2 : Int32} {x3 : Int32} {g : gz_S} {r : gz_S} (hw1 : w1 = 53 ∨ w1 = 54) (hf : fX12_goesOn La  w1 x2 x3 g = some r) : gz_K La 144 mX12_goesOn [.ref 39, .ref w1, .int x2, .int x3] g (gz_Fv r) := by
  unfold fX12_goesOn at hf
  refine gz_K.of 1 (by decide +kernel) rfl ?_
  show gz_J La 144 mX12_goesOn 0 [some (.ref 39), some (.ref w1), some (.int x2), some (.int x3), none] [] g (gz_Fv r)
  refine sz_aload_n dX12_goesOn_0 rfl ?_
  refine sz_iload_n dX12_goesOn_1 rfl ?_
  obtain ⟨q2, eq2, hf⟩ := gz_bd hf
  refine sz_callSi [.ref w1, .int x2] [] dX12_goesOn_2 msX12_346 (Nat.le_of_ble_eq_true rfl) (Nat.le_of_ble_eq_true rfl) (kX12_does  hw1 eq2) ?_
  refine sz_if_ne 9 dX12_goesOn_5 (by decide) (fun c5 => ?_) (fun c5 => ?_)
  · have hf := gz_in1 c5 hf
    refine sz_aload_n dX12_goesOn_9 rfl ?_
    refine sz_aload_n dX12_goesOn_10 rfl ?_
    refine sz_aload_n dX12_goesOn_11 rfl ?_
    refine sz_bipush dX12_goesOn_12 (cB30) ?_
    refine sz_iconst dX12_goesOn_14 (cI4) ?_
    refine sz_iload_n dX12_goesOn_15 rfl ?_
    refine sz_imul dX12_goesOn_16 ?_
    refine sz_iadd dX12_goesOn_17 ?_
    obtain ⟨c18, hf⟩ := gz_gd hf
    refine sz_ialdL dX12_goesOn_18 (kds_nt hw1) c18 rfl ?_
    obtain ⟨q19, eq19, hf⟩ := gz_bd hf
    refine sz_callVi [.ref w1, .int (q2.2.1 w1 (Int32.toNatClampNeg ((30 : Int32) + ((4 : Int32) * x2))))] [] dX12_goesOn_19 mvX12_331 (Nat.le_of_ble_eq_true rfl) (by decide : 12 < 13) kd39 rfl (Nat.le_of_ble_eq_true rfl) (kX12_isUnder  hw1 eq19) ?_
    refine sz_if_eq 37 dX12_goesOn_22 (by decide) (fun c22 => ?_) (fun c22 => ?_)
    · have hf := gz_ip c22 hf
      refine sz_iconst dX12_goesOn_37 (cI0) ?_
      refine sz_istore dX12_goesOn_38 (Nat.le_of_ble_eq_true rfl) rfl ?_
      refine sz_ls (l2 := [some (.ref 39), some (.ref w1), some (.int x2), some (.int x3), some (.int 0)]) rfl ?_
      exact tX12_goesOn_40  hw1  _ _ _ _ _ _ hf
    · have hf := gz_in1 c22 hf
      refine sz_aload_n dX12_goesOn_25 rfl ?_
      refine sz_bipush dX12_goesOn_26 (cB30) ?_
      refine sz_iconst dX12_goesOn_28 (cI4) ?_
      refine sz_iload_n dX12_goesOn_29 rfl ?_
      refine sz_imul dX12_goesOn_30 ?_
      refine sz_iadd dX12_goesOn_31 ?_
      refine sz_iconst dX12_goesOn_32 (cI3) ?_
      refine sz_iadd dX12_goesOn_33 ?_
      refine sz_iconst dX12_goesOn_34 (cI2) ?_
      obtain ⟨c35, hf⟩ := gz_gd hf
      obtain ⟨g35, eg35, hf⟩ := gz_lt hf
      refine sz_iastL dX12_goesOn_35 (kds_nt hw1) c35 rfl eg35 ?_
      cases hf
      exact sz_ret dX12_goesOn_36 rfl ⟨rfl, rfl⟩
  · have hf := gz_ip c5 hf
    cases hf
    exact sz_ret dX12_goesOn_8 rfl ⟨rfl, rfl⟩
def fX12_passes_74 (La : gz_L)  (w1 : Nat) (k17 : Int32 → Int32 → Int32 → gz_S → Option (Int32 × gz_S)) (x2 : Int32) (x3 : Int32) (x4 : Int32) (g : gz_S) : Option (Int32 × gz_S) := gz_let (x4 + 1) (fun y74 => k17 x2 x3 y74 g)
set_option maxRecDepth 100000 in
set_option maxHeartbeats 4000000 in
theorem tX12_passes_74 {La : gz_L}  {w1 : Nat} {k17 : Int32 → Int32 → Int32 → gz_S → Option (Int32 × gz_S)} (hw1 : w1 = 53 ∨ w1 = 54) (hk17 : ∀ (x2 : Int32) (x3 : Int32) (x4 : Int32) (g : gz_S) (r : Int32 × gz_S), k17 x2 x3 x4 g = some r → gz_J La 145 mX12_passes 17 [some (.ref 39), some (.ref w1), some (.int x2), some (.int x3), some (.int x4), none] [] g (gz_Fi r)) : ∀ (x2 : Int32) (x3 : Int32) (x4 : Int32) (g : gz_S) (r : Int32 × gz_S), fX12_passes_74 La  w1 k17 x2 x3 x4 g = some r → gz_J La 145 mX12_passes 74 [some (.ref 39), some (.ref w1), some (.int x2), some (.int x3), some (.int x4), none] [] g (gz_Fi r) := by
  intro x2 x3 x4 g r hf
  unfold fX12_passes_74 at hf
  obtain ⟨y74, ey74, hf⟩ := gz_lt hf
  refine sz_iinc (v := y74) dX12_passes_74 rfl (by rw [ey74, cI1]) (Nat.le_of_ble_eq_true rfl) rfl ?_
  refine sz_ls (l2 := [some (.ref 39), some (.ref w1), some (.int x2), some (.int x3), some (.int y74), none]) rfl ?_
  refine sz_goto 17 dX12_passes_77 (by decide) ?_
  exact hk17 _ _ _ _ _ hf
def fX12_passes_17 (La : gz_L)  (w1 : Nat) (k80 : Int32 → Int32 → gz_S → Option (Int32 × gz_S)) : Nat → Int32 → Int32 → Int32 → gz_S → Option (Int32 × gz_S)
  | 0, _, _, _, _ => none
  | n + 1, x2, x3, x4, g => if (g.1 39 27) ≤ x4 then k80 x2 x3 g else (fX12_does La  w1 x4 g).bind (fun q29 => (fX12_paceOf La  x4 q29.2).bind (fun q41 => (fX12_goesOn La  w1 x4 q41.1 q41.2).bind (fun q44 => if q29.1 = 0 then fX12_passes_74 La  w1 (fX12_passes_17 La  w1 k80 n)  x2 x3 x4 q44 else (fX12_does La  w1 x4 q44).bind (fun q55 => if q55.1 = 0 then gz_let (gz_wi q55.2 39 39 ((q55.2.1 39 39) ||| ((1 : Int32) <<< (x4 &&& 31)))) (fun g71 => fX12_passes_74 La  w1 (fX12_passes_17 La  w1 k80 n)  x2 x3 x4 g71) else fX12_passes_74 La  w1 (fX12_passes_17 La  w1 k80 n)  x2 x3 x4 q55.2))))
set_option maxRecDepth 100000 in
set_option maxHeartbeats 4000000 in
theorem tX12_passes_17 {La : gz_L}  {w1 : Nat} {k80 : Int32 → Int32 → gz_S → Option (Int32 × gz_S)} (hw1 : w1 = 53 ∨ w1 = 54) (hk80 : ∀ (x2 : Int32) (x3 : Int32) (g : gz_S) (r : Int32 × gz_S), k80 x2 x3 g = some r → gz_J La 145 mX12_passes 80 [some (.ref 39), some (.ref w1), some (.int x2), some (.int x3), none, none] [] g (gz_Fi r)) : ∀ (n : Nat) (x2 : Int32) (x3 : Int32) (x4 : Int32) (g : gz_S) (r : Int32 × gz_S), fX12_passes_17 La  w1 k80 n x2 x3 x4 g = some r → gz_J La 145 mX12_passes 17 [some (.ref 39), some (.ref w1), some (.int x2), some (.int x3), some (.int x4), none] [] g (gz_Fi r) := by
  intro n
  induction n with
  | zero => intro x2 x3 x4 g r hf; exact nomatch (show (none : Option (Int32 × gz_S)) = some r from hf)
  | succ n ih =>
    intro x2 x3 x4 g r hf
    unfold fX12_passes_17 at hf
    refine sz_iload dX12_passes_17 rfl ?_
    refine sz_aload_n dX12_passes_19 rfl ?_
    refine sz_getI dX12_passes_20 flX12_303 kd39 rfl ?_
    refine sz_icmp_ge 80 dX12_passes_23 (by decide) (fun c23 => ?_) (fun c23 => ?_)
    · have hf := gz_ip c23 hf
      refine sz_weak (l2 := [some (.ref 39), some (.ref w1), some (.int x2), some (.int x3), none, none]) (gz_subk (gz_subk (gz_subk (gz_subk (gz_subn (gz_subk gz_sub0)))))) ?_
      exact hk80 _ _ _ _ hf
    · have hf := gz_in1 c23 hf
      refine sz_aload_n dX12_passes_26 rfl ?_
      refine sz_iload dX12_passes_27 rfl ?_
      obtain ⟨q29, eq29, hf⟩ := gz_bd hf
      refine sz_callSi [.ref w1, .int x4] [] dX12_passes_29 msX12_346 (Nat.le_of_ble_eq_true rfl) (Nat.le_of_ble_eq_true rfl) (kX12_does  hw1 eq29) ?_
      refine sz_istore dX12_passes_32 (Nat.le_of_ble_eq_true rfl) rfl ?_
      refine sz_ls (l2 := [some (.ref 39), some (.ref w1), some (.int x2), some (.int x3), some (.int x4), some (.int q29.1)]) rfl ?_
      refine sz_aload_n dX12_passes_34 rfl ?_
      refine sz_aload_n dX12_passes_35 rfl ?_
      refine sz_iload dX12_passes_36 rfl ?_
      refine sz_aload_n dX12_passes_38 rfl ?_
      refine sz_iload dX12_passes_39 rfl ?_
      obtain ⟨q41, eq41, hf⟩ := gz_bd hf
      refine sz_callVi [.int x4] [.int x4, .ref w1, .ref 39] dX12_passes_41 mvX12_359 (Nat.le_of_ble_eq_true rfl) (by decide : 12 < 13) kd39 rfl (Nat.le_of_ble_eq_true rfl) (kX12_paceOf   eq41) ?_
      obtain ⟨q44, eq44, hf⟩ := gz_bd hf
      refine sz_callVv [.ref w1, .int x4, .int q41.1] [] dX12_passes_44 mvX12_362 (Nat.le_of_ble_eq_true rfl) (by decide : 12 < 13) kd39 rfl (Nat.le_of_ble_eq_true rfl) (kX12_goesOn  hw1 eq44) ?_
      refine sz_iload dX12_passes_47 rfl ?_
      refine sz_if_eq 74 dX12_passes_49 (by decide) (fun c49 => ?_) (fun c49 => ?_)
      · have hf := gz_ip c49 hf
        refine sz_weak (l2 := [some (.ref 39), some (.ref w1), some (.int x2), some (.int x3), some (.int x4), none]) (gz_subk (gz_subk (gz_subk (gz_subk (gz_subk (gz_subn gz_sub0)))))) ?_
        exact tX12_passes_74  hw1 ih _ _ _ _ _ hf
      · have hf := gz_in1 c49 hf
        refine sz_aload_n dX12_passes_52 rfl ?_
        refine sz_iload dX12_passes_53 rfl ?_
        obtain ⟨q55, eq55, hf⟩ := gz_bd hf
        refine sz_callSi [.ref w1, .int x4] [] dX12_passes_55 msX12_346 (Nat.le_of_ble_eq_true rfl) (Nat.le_of_ble_eq_true rfl) (kX12_does  hw1 eq55) ?_
        refine sz_if_ne 74 dX12_passes_58 (by decide) (fun c58 => ?_) (fun c58 => ?_)
        · have hf := gz_in1 c58 hf
          refine sz_weak (l2 := [some (.ref 39), some (.ref w1), some (.int x2), some (.int x3), some (.int x4), none]) (gz_subk (gz_subk (gz_subk (gz_subk (gz_subk (gz_subn gz_sub0)))))) ?_
          exact tX12_passes_74  hw1 ih _ _ _ _ _ hf
        · have hf := gz_ip c58 hf
          refine sz_aload_n dX12_passes_61 rfl ?_
          refine sz_dup dX12_passes_62 rfl ?_
          refine sz_getI dX12_passes_63 flX12_356 kd39 rfl ?_
          refine sz_iconst dX12_passes_66 (cI1) ?_
          refine sz_iload dX12_passes_67 rfl ?_
          refine sz_ishl dX12_passes_69 ?_
          refine sz_ior dX12_passes_70 ?_
          obtain ⟨g71, eg71, hf⟩ := gz_lt hf
          refine sz_putI2 dX12_passes_71 flX12_356 kd39 fi12_39 eg71 ?_
          refine sz_weak (l2 := [some (.ref 39), some (.ref w1), some (.int x2), some (.int x3), some (.int x4), none]) (gz_subk (gz_subk (gz_subk (gz_subk (gz_subk (gz_subn gz_sub0)))))) ?_
          exact tX12_passes_74  hw1 ih _ _ _ _ _ hf
def fX12_passes_182 (La : gz_L)  (w1 : Nat) (k98 : Int32 → Int32 → Int32 → Int32 → gz_S → Option (Int32 × gz_S)) (x2 : Int32) (x3 : Int32) (x4 : Int32) (x5 : Int32) (g : gz_S) : Option (Int32 × gz_S) := gz_let (x5 + 1) (fun y182 => k98 x2 x3 x4 y182 g)
set_option maxRecDepth 100000 in
set_option maxHeartbeats 4000000 in
theorem tX12_passes_182 {La : gz_L}  {w1 : Nat} {k98 : Int32 → Int32 → Int32 → Int32 → gz_S → Option (Int32 × gz_S)} (hw1 : w1 = 53 ∨ w1 = 54) (hk98 : ∀ (x2 : Int32) (x3 : Int32) (x4 : Int32) (x5 : Int32) (g : gz_S) (r : Int32 × gz_S), k98 x2 x3 x4 x5 g = some r → gz_J La 145 mX12_passes 98 [some (.ref 39), some (.ref w1), some (.int x2), some (.int x3), some (.int x4), some (.int x5)] [] g (gz_Fi r)) : ∀ (x2 : Int32) (x3 : Int32) (x4 : Int32) (x5 : Int32) (g : gz_S) (r : Int32 × gz_S), fX12_passes_182 La  w1 k98 x2 x3 x4 x5 g = some r → gz_J La 145 mX12_passes 182 [some (.ref 39), some (.ref w1), some (.int x2), some (.int x3), some (.int x4), some (.int x5)] [] g (gz_Fi r) := by
  intro x2 x3 x4 x5 g r hf
  unfold fX12_passes_182 at hf
  obtain ⟨y182, ey182, hf⟩ := gz_lt hf
  refine sz_iinc (v := y182) dX12_passes_182 rfl (by rw [ey182, cI1]) (Nat.le_of_ble_eq_true rfl) rfl ?_
  refine sz_ls (l2 := [some (.ref 39), some (.ref w1), some (.int x2), some (.int x3), some (.int x4), some (.int y182)]) rfl ?_
  refine sz_goto 98 dX12_passes_185 (by decide) ?_
  exact hk98 _ _ _ _ _ _ hf
def fX12_passes_98 (La : gz_L)  (w1 : Nat) (k188 : Int32 → Int32 → Int32 → gz_S → Option (Int32 × gz_S)) : Nat → Int32 → Int32 → Int32 → Int32 → gz_S → Option (Int32 × gz_S)
  | 0, _, _, _, _, _ => none
  | n + 1, x2, x3, x4, x5, g => if (g.1 39 27) ≤ x5 then k188 x2 x3 x4 g else (fX12_does La  w1 x4 g).bind (fun q110 => if q110.1 = 0 then fX12_passes_182 La  w1 (fX12_passes_98 La  w1 k188 n)  x2 x3 x4 x5 q110.2 else (fX12_does La  w1 x5 q110.2).bind (fun q119 => if q119.1 = 0 then fX12_passes_182 La  w1 (fX12_passes_98 La  w1 k188 n)  x2 x3 x4 x5 q119.2 else if gz_ok ((30 : Int32) + ((4 : Int32) * x4)) 231 then if gz_ok ((30 : Int32) + ((4 : Int32) * x5)) 231 then if (q119.2.1 w1 (Int32.toNatClampNeg ((30 : Int32) + ((4 : Int32) * x4)))) = (q119.2.1 w1 (Int32.toNatClampNeg ((30 : Int32) + ((4 : Int32) * x5)))) then gz_let (gz_wi q119.2 39 38 ((q119.2.1 39 38) ||| ((1 : Int32) <<< ((((4 : Int32) * x4) + x5) &&& 31)))) (fun g164 => gz_let (x2 ||| (((1 : Int32) <<< (x4 &&& 31)) ||| ((1 : Int32) <<< (x5 &&& 31)))) (fun y178 => gz_let (x3 + 1) (fun y179 => fX12_passes_182 La  w1 (fX12_passes_98 La  w1 k188 n)  y178 y179 x4 x5 g164))) else fX12_passes_182 La  w1 (fX12_passes_98 La  w1 k188 n)  x2 x3 x4 x5 q119.2 else none else none))
set_option maxRecDepth 100000 in
set_option maxHeartbeats 4000000 in
theorem tX12_passes_98 {La : gz_L}  {w1 : Nat} {k188 : Int32 → Int32 → Int32 → gz_S → Option (Int32 × gz_S)} (hw1 : w1 = 53 ∨ w1 = 54) (hk188 : ∀ (x2 : Int32) (x3 : Int32) (x4 : Int32) (g : gz_S) (r : Int32 × gz_S), k188 x2 x3 x4 g = some r → gz_J La 145 mX12_passes 188 [some (.ref 39), some (.ref w1), some (.int x2), some (.int x3), some (.int x4), none] [] g (gz_Fi r)) : ∀ (n : Nat) (x2 : Int32) (x3 : Int32) (x4 : Int32) (x5 : Int32) (g : gz_S) (r : Int32 × gz_S), fX12_passes_98 La  w1 k188 n x2 x3 x4 x5 g = some r → gz_J La 145 mX12_passes 98 [some (.ref 39), some (.ref w1), some (.int x2), some (.int x3), some (.int x4), some (.int x5)] [] g (gz_Fi r) := by
  intro n
  induction n with
  | zero => intro x2 x3 x4 x5 g r hf; exact nomatch (show (none : Option (Int32 × gz_S)) = some r from hf)
  | succ n ih =>
    intro x2 x3 x4 x5 g r hf
    unfold fX12_passes_98 at hf
    refine sz_iload dX12_passes_98 rfl ?_
    refine sz_aload_n dX12_passes_100 rfl ?_
    refine sz_getI dX12_passes_101 flX12_303 kd39 rfl ?_
    refine sz_icmp_ge 188 dX12_passes_104 (by decide) (fun c104 => ?_) (fun c104 => ?_)
    · have hf := gz_ip c104 hf
      refine sz_weak (l2 := [some (.ref 39), some (.ref w1), some (.int x2), some (.int x3), some (.int x4), none]) (gz_subk (gz_subk (gz_subk (gz_subk (gz_subk (gz_subn gz_sub0)))))) ?_
      exact hk188 _ _ _ _ _ hf
    · have hf := gz_in1 c104 hf
      refine sz_aload_n dX12_passes_107 rfl ?_
      refine sz_iload dX12_passes_108 rfl ?_
      obtain ⟨q110, eq110, hf⟩ := gz_bd hf
      refine sz_callSi [.ref w1, .int x4] [] dX12_passes_110 msX12_346 (Nat.le_of_ble_eq_true rfl) (Nat.le_of_ble_eq_true rfl) (kX12_does  hw1 eq110) ?_
      refine sz_if_eq 182 dX12_passes_113 (by decide) (fun c113 => ?_) (fun c113 => ?_)
      · have hf := gz_ip c113 hf
        exact tX12_passes_182  hw1 ih _ _ _ _ _ _ hf
      · have hf := gz_in1 c113 hf
        refine sz_aload_n dX12_passes_116 rfl ?_
        refine sz_iload dX12_passes_117 rfl ?_
        obtain ⟨q119, eq119, hf⟩ := gz_bd hf
        refine sz_callSi [.ref w1, .int x5] [] dX12_passes_119 msX12_346 (Nat.le_of_ble_eq_true rfl) (Nat.le_of_ble_eq_true rfl) (kX12_does  hw1 eq119) ?_
        refine sz_if_eq 182 dX12_passes_122 (by decide) (fun c122 => ?_) (fun c122 => ?_)
        · have hf := gz_ip c122 hf
          exact tX12_passes_182  hw1 ih _ _ _ _ _ _ hf
        · have hf := gz_in1 c122 hf
          refine sz_aload_n dX12_passes_125 rfl ?_
          refine sz_bipush dX12_passes_126 (cB30) ?_
          refine sz_iconst dX12_passes_128 (cI4) ?_
          refine sz_iload dX12_passes_129 rfl ?_
          refine sz_imul dX12_passes_131 ?_
          refine sz_iadd dX12_passes_132 ?_
          obtain ⟨c133, hf⟩ := gz_gd hf
          refine sz_ialdL dX12_passes_133 (kds_nt hw1) c133 rfl ?_
          refine sz_aload_n dX12_passes_134 rfl ?_
          refine sz_bipush dX12_passes_135 (cB30) ?_
          refine sz_iconst dX12_passes_137 (cI4) ?_
          refine sz_iload dX12_passes_138 rfl ?_
          refine sz_imul dX12_passes_140 ?_
          refine sz_iadd dX12_passes_141 ?_
          obtain ⟨c142, hf⟩ := gz_gd hf
          refine sz_ialdL dX12_passes_142 (kds_nt hw1) c142 rfl ?_
          refine sz_icmp_eq 149 dX12_passes_143 (by decide) (fun c143 => ?_) (fun c143 => ?_)
          · have hf := gz_ip c143 hf
            refine sz_aload_n dX12_passes_149 rfl ?_
            refine sz_dup dX12_passes_150 rfl ?_
            refine sz_getI dX12_passes_151 flX12_353 kd39 rfl ?_
            refine sz_iconst dX12_passes_154 (cI1) ?_
            refine sz_iconst dX12_passes_155 (cI4) ?_
            refine sz_iload dX12_passes_156 rfl ?_
            refine sz_imul dX12_passes_158 ?_
            refine sz_iload dX12_passes_159 rfl ?_
            refine sz_iadd dX12_passes_161 ?_
            refine sz_ishl dX12_passes_162 ?_
            refine sz_ior dX12_passes_163 ?_
            obtain ⟨g164, eg164, hf⟩ := gz_lt hf
            refine sz_putI2 dX12_passes_164 flX12_353 kd39 fi12_38 eg164 ?_
            refine sz_iload_n dX12_passes_167 rfl ?_
            refine sz_iconst dX12_passes_168 (cI1) ?_
            refine sz_iload dX12_passes_169 rfl ?_
            refine sz_ishl dX12_passes_171 ?_
            refine sz_iconst dX12_passes_172 (cI1) ?_
            refine sz_iload dX12_passes_173 rfl ?_
            refine sz_ishl dX12_passes_175 ?_
            refine sz_ior dX12_passes_176 ?_
            refine sz_ior dX12_passes_177 ?_
            obtain ⟨y178, ey178, hf⟩ := gz_lt hf
            refine sz_topi ey178 ?_
            refine sz_istore_n dX12_passes_178 rfl (Nat.le_of_ble_eq_true rfl) rfl ?_
            refine sz_ls (l2 := [some (.ref 39), some (.ref w1), some (.int y178), some (.int x3), some (.int x4), some (.int x5)]) rfl ?_
            obtain ⟨y179, ey179, hf⟩ := gz_lt hf
            refine sz_iinc (v := y179) dX12_passes_179 rfl (by rw [ey179, cI1]) (Nat.le_of_ble_eq_true rfl) rfl ?_
            refine sz_ls (l2 := [some (.ref 39), some (.ref w1), some (.int y178), some (.int y179), some (.int x4), some (.int x5)]) rfl ?_
            exact tX12_passes_182  hw1 ih _ _ _ _ _ _ hf
          · have hf := gz_in1 c143 hf
            refine sz_goto 182 dX12_passes_146 (by decide) ?_
            exact tX12_passes_182  hw1 ih _ _ _ _ _ _ hf
def fX12_passes_83 (La : gz_L)  (w1 : Nat) (k194 : Int32 → Int32 → gz_S → Option (Int32 × gz_S)) : Nat → Int32 → Int32 → Int32 → gz_S → Option (Int32 × gz_S)
  | 0, _, _, _, _ => none
  | n + 1, x2, x3, x4, g => if (g.1 39 27) ≤ x4 then k194 x2 x3 g else gz_let (x4 + 1) (fun y96 => fX12_passes_98 La  w1 (fun (x2 : Int32) (x3 : Int32) (x4 : Int32) g => gz_let (x4 + 1) (fun y188 => fX12_passes_83 La  w1 k194 n x2 x3 y188 g)) gz_FU x2 x3 x4 y96 g)
set_option maxRecDepth 100000 in
set_option maxHeartbeats 4000000 in
theorem tX12_passes_83 {La : gz_L}  {w1 : Nat} {k194 : Int32 → Int32 → gz_S → Option (Int32 × gz_S)} (hw1 : w1 = 53 ∨ w1 = 54) (hk194 : ∀ (x2 : Int32) (x3 : Int32) (g : gz_S) (r : Int32 × gz_S), k194 x2 x3 g = some r → gz_J La 145 mX12_passes 194 [some (.ref 39), some (.ref w1), some (.int x2), some (.int x3), none, none] [] g (gz_Fi r)) : ∀ (n : Nat) (x2 : Int32) (x3 : Int32) (x4 : Int32) (g : gz_S) (r : Int32 × gz_S), fX12_passes_83 La  w1 k194 n x2 x3 x4 g = some r → gz_J La 145 mX12_passes 83 [some (.ref 39), some (.ref w1), some (.int x2), some (.int x3), some (.int x4), none] [] g (gz_Fi r) := by
  intro n
  induction n with
  | zero => intro x2 x3 x4 g r hf; exact nomatch (show (none : Option (Int32 × gz_S)) = some r from hf)
  | succ n ih =>
    intro x2 x3 x4 g r hf
    unfold fX12_passes_83 at hf
    refine sz_iload dX12_passes_83 rfl ?_
    refine sz_aload_n dX12_passes_85 rfl ?_
    refine sz_getI dX12_passes_86 flX12_303 kd39 rfl ?_
    refine sz_icmp_ge 194 dX12_passes_89 (by decide) (fun c89 => ?_) (fun c89 => ?_)
    · have hf := gz_ip c89 hf
      refine sz_weak (l2 := [some (.ref 39), some (.ref w1), some (.int x2), some (.int x3), none, none]) (gz_subk (gz_subk (gz_subk (gz_subk (gz_subn (gz_subk gz_sub0)))))) ?_
      exact hk194 _ _ _ _ hf
    · have hf := gz_in1 c89 hf
      refine sz_iload dX12_passes_92 rfl ?_
      refine sz_iconst dX12_passes_94 (cI1) ?_
      refine sz_iadd dX12_passes_95 ?_
      obtain ⟨y96, ey96, hf⟩ := gz_lt hf
      refine sz_topi ey96 ?_
      refine sz_istore dX12_passes_96 (Nat.le_of_ble_eq_true rfl) rfl ?_
      refine sz_ls (l2 := [some (.ref 39), some (.ref w1), some (.int x2), some (.int x3), some (.int x4), some (.int y96)]) rfl ?_
      have hk188 : ∀ (x2 : Int32) (x3 : Int32) (x4 : Int32) (g : gz_S) (r : Int32 × gz_S), (fun (x2 : Int32) (x3 : Int32) (x4 : Int32) g => gz_let (x4 + 1) (fun y188 => fX12_passes_83 La  w1 k194 n x2 x3 y188 g)) x2 x3 x4 g = some r → gz_J La 145 mX12_passes 188 [some (.ref 39), some (.ref w1), some (.int x2), some (.int x3), some (.int x4), none] [] g (gz_Fi r) := by
        intro x2 x3 x4 g r hf
        obtain ⟨y188, ey188, hf⟩ := gz_lt hf
        refine sz_iinc (v := y188) dX12_passes_188 rfl (by rw [ey188, cI1]) (Nat.le_of_ble_eq_true rfl) rfl ?_
        refine sz_ls (l2 := [some (.ref 39), some (.ref w1), some (.int x2), some (.int x3), some (.int y188), none]) rfl ?_
        refine sz_goto 83 dX12_passes_191 (by decide) ?_
        exact ih _ _ _ _ _ hf
      exact tX12_passes_98  hw1 hk188 _ _ _ _ _ _ _ hf
def fX12_passes_241 (La : gz_L)  (w1 : Nat) (k197 : Int32 → Int32 → Int32 → gz_S → Option (Int32 × gz_S)) (x2 : Int32) (x3 : Int32) (x4 : Int32) (g : gz_S) : Option (Int32 × gz_S) := gz_let (x4 + 1) (fun y241 => k197 x2 x3 y241 g)
set_option maxRecDepth 100000 in
set_option maxHeartbeats 4000000 in
theorem tX12_passes_241 {La : gz_L}  {w1 : Nat} {k197 : Int32 → Int32 → Int32 → gz_S → Option (Int32 × gz_S)} (hw1 : w1 = 53 ∨ w1 = 54) (hk197 : ∀ (x2 : Int32) (x3 : Int32) (x4 : Int32) (g : gz_S) (r : Int32 × gz_S), k197 x2 x3 x4 g = some r → gz_J La 145 mX12_passes 197 [some (.ref 39), some (.ref w1), some (.int x2), some (.int x3), some (.int x4), none] [] g (gz_Fi r)) : ∀ (x2 : Int32) (x3 : Int32) (x4 : Int32) (g : gz_S) (r : Int32 × gz_S), fX12_passes_241 La  w1 k197 x2 x3 x4 g = some r → gz_J La 145 mX12_passes 241 [some (.ref 39), some (.ref w1), some (.int x2), some (.int x3), some (.int x4), none] [] g (gz_Fi r) := by
  intro x2 x3 x4 g r hf
  unfold fX12_passes_241 at hf
  obtain ⟨y241, ey241, hf⟩ := gz_lt hf
  refine sz_iinc (v := y241) dX12_passes_241 rfl (by rw [ey241, cI1]) (Nat.le_of_ble_eq_true rfl) rfl ?_
  refine sz_ls (l2 := [some (.ref 39), some (.ref w1), some (.int x2), some (.int x3), some (.int y241), none]) rfl ?_
  refine sz_goto 197 dX12_passes_244 (by decide) ?_
  exact hk197 _ _ _ _ _ hf
def fX12_passes_197 (La : gz_L)  (w1 : Nat) (k247 : Int32 → gz_S → Option (Int32 × gz_S)) : Nat → Int32 → Int32 → Int32 → gz_S → Option (Int32 × gz_S)
  | 0, _, _, _, _ => none
  | n + 1, x2, x3, x4, g => if (g.1 39 27) ≤ x4 then k247 x3 g else (fX12_has La  x2 x4 g).bind (fun q209 => if q209.1 = 0 then fX12_passes_241 La  w1 (fX12_passes_197 La  w1 k247 n)  x2 x3 x4 q209.2 else if gz_ok (((30 : Int32) + ((4 : Int32) * x4)) + 1) 231 then if gz_ok (((30 : Int32) + ((4 : Int32) * x4)) + 1) 231 then gz_let (gz_wi q209.2 w1 (Int32.toNatClampNeg (((30 : Int32) + ((4 : Int32) * x4)) + 1)) (((q209.2.1 w1 (Int32.toNatClampNeg (((30 : Int32) + ((4 : Int32) * x4)) + 1))) + 2) - ((q209.2.1 w1 (Int32.toNatClampNeg (((30 : Int32) + ((4 : Int32) * x4)) + 1))) + 2) / 4 * 4)) (fun g240 => fX12_passes_241 La  w1 (fX12_passes_197 La  w1 k247 n)  x2 x3 x4 g240) else none else none)
set_option maxRecDepth 100000 in
set_option maxHeartbeats 4000000 in
theorem tX12_passes_197 {La : gz_L}  {w1 : Nat} {k247 : Int32 → gz_S → Option (Int32 × gz_S)} (hw1 : w1 = 53 ∨ w1 = 54) (hk247 : ∀ (x3 : Int32) (g : gz_S) (r : Int32 × gz_S), k247 x3 g = some r → gz_J La 145 mX12_passes 247 [none, some (.ref w1), none, some (.int x3), none, none] [] g (gz_Fi r)) : ∀ (n : Nat) (x2 : Int32) (x3 : Int32) (x4 : Int32) (g : gz_S) (r : Int32 × gz_S), fX12_passes_197 La  w1 k247 n x2 x3 x4 g = some r → gz_J La 145 mX12_passes 197 [some (.ref 39), some (.ref w1), some (.int x2), some (.int x3), some (.int x4), none] [] g (gz_Fi r) := by
  intro n
  induction n with
  | zero => intro x2 x3 x4 g r hf; exact nomatch (show (none : Option (Int32 × gz_S)) = some r from hf)
  | succ n ih =>
    intro x2 x3 x4 g r hf
    unfold fX12_passes_197 at hf
    refine sz_iload dX12_passes_197 rfl ?_
    refine sz_aload_n dX12_passes_199 rfl ?_
    refine sz_getI dX12_passes_200 flX12_303 kd39 rfl ?_
    refine sz_icmp_ge 247 dX12_passes_203 (by decide) (fun c203 => ?_) (fun c203 => ?_)
    · have hf := gz_ip c203 hf
      refine sz_weak (l2 := [none, some (.ref w1), none, some (.int x3), none, none]) (gz_subn (gz_subk (gz_subn (gz_subk (gz_subn (gz_subk gz_sub0)))))) ?_
      exact hk247 _ _ _ hf
    · have hf := gz_in1 c203 hf
      refine sz_iload_n dX12_passes_206 rfl ?_
      refine sz_iload dX12_passes_207 rfl ?_
      obtain ⟨q209, eq209, hf⟩ := gz_bd hf
      refine sz_callSi [.int x2, .int x4] [] dX12_passes_209 msX12_237 (Nat.le_of_ble_eq_true rfl) (Nat.le_of_ble_eq_true rfl) (kX12_has   eq209) ?_
      refine sz_if_eq 241 dX12_passes_212 (by decide) (fun c212 => ?_) (fun c212 => ?_)
      · have hf := gz_ip c212 hf
        exact tX12_passes_241  hw1 ih _ _ _ _ _ hf
      · have hf := gz_in1 c212 hf
        refine sz_aload_n dX12_passes_215 rfl ?_
        refine sz_bipush dX12_passes_216 (cB30) ?_
        refine sz_iconst dX12_passes_218 (cI4) ?_
        refine sz_iload dX12_passes_219 rfl ?_
        refine sz_imul dX12_passes_221 ?_
        refine sz_iadd dX12_passes_222 ?_
        refine sz_iconst dX12_passes_223 (cI1) ?_
        refine sz_iadd dX12_passes_224 ?_
        refine sz_aload_n dX12_passes_225 rfl ?_
        refine sz_bipush dX12_passes_226 (cB30) ?_
        refine sz_iconst dX12_passes_228 (cI4) ?_
        refine sz_iload dX12_passes_229 rfl ?_
        refine sz_imul dX12_passes_231 ?_
        refine sz_iadd dX12_passes_232 ?_
        refine sz_iconst dX12_passes_233 (cI1) ?_
        refine sz_iadd dX12_passes_234 ?_
        obtain ⟨c235, hf⟩ := gz_gd hf
        refine sz_ialdL dX12_passes_235 (kds_nt hw1) c235 rfl ?_
        refine sz_iconst dX12_passes_236 (cI2) ?_
        refine sz_iadd dX12_passes_237 ?_
        refine sz_iconst dX12_passes_238 (cI4) ?_
        refine sz_irem dX12_passes_239 (by decide) ?_
        obtain ⟨c240, hf⟩ := gz_gd hf
        obtain ⟨g240, eg240, hf⟩ := gz_lt hf
        refine sz_iastL dX12_passes_240 (kds_nt hw1) c240 rfl eg240 ?_
        exact tX12_passes_241  hw1 ih _ _ _ _ _ hf
def fX12_passes (La : gz_L)  (w1 : Nat) (g : gz_S) : Option (Int32 × gz_S) :=
  gz_let (gz_wi g 39 38 0) (fun g2 => gz_let (gz_wi g2 39 39 0) (fun g7 => fX12_passes_17 La  w1 (fun (x2 : Int32) (x3 : Int32) g => fX12_passes_83 La  w1 (fun (x2 : Int32) (x3 : Int32) g => fX12_passes_197 La  w1 (fun (x3 : Int32) g => (fJ9_min_7cf53 La  9999 ((g.1 w1 47) + x3) g).bind (fun q259 => gz_let (gz_wi q259.2 w1 47 q259.1) (fun g262 => gz_let (gz_wi g262 w1 49 ((g262.1 w1 49) + 1)) (fun g270 => some (x3, g270))))) gz_FU x2 x3 0 g) gz_FU x2 x3 0 g) gz_FU 0 0 0 g7))
set_option maxRecDepth 100000 in
set_option maxHeartbeats 4000000 in
theorem kX12_passes {La : gz_L}  {w1 : Nat} {g : gz_S} {r : Int32 × gz_S} (hw1 : w1 = 53 ∨ w1 = 54) (hf : fX12_passes La  w1 g = some r) : gz_K La 145 mX12_passes [.ref 39, .ref w1] g (gz_Fi r) := by
  unfold fX12_passes at hf
  refine gz_K.of 4 (by decide +kernel) rfl ?_
  show gz_J La 145 mX12_passes 0 [some (.ref 39), some (.ref w1), none, none, none, none] [] g (gz_Fi r)
  refine sz_aload_n dX12_passes_0 rfl ?_
  refine sz_iconst dX12_passes_1 (cI0) ?_
  obtain ⟨g2, eg2, hf⟩ := gz_lt hf
  refine sz_putI2 dX12_passes_2 flX12_353 kd39 fi12_38 eg2 ?_
  refine sz_aload_n dX12_passes_5 rfl ?_
  refine sz_iconst dX12_passes_6 (cI0) ?_
  obtain ⟨g7, eg7, hf⟩ := gz_lt hf
  refine sz_putI2 dX12_passes_7 flX12_356 kd39 fi12_39 eg7 ?_
  refine sz_iconst dX12_passes_10 (cI0) ?_
  refine sz_istore_n dX12_passes_11 rfl (Nat.le_of_ble_eq_true rfl) rfl ?_
  refine sz_ls (l2 := [some (.ref 39), some (.ref w1), some (.int 0), none, none, none]) rfl ?_
  refine sz_iconst dX12_passes_12 (cI0) ?_
  refine sz_istore_n dX12_passes_13 rfl (Nat.le_of_ble_eq_true rfl) rfl ?_
  refine sz_ls (l2 := [some (.ref 39), some (.ref w1), some (.int 0), some (.int 0), none, none]) rfl ?_
  refine sz_iconst dX12_passes_14 (cI0) ?_
  refine sz_istore dX12_passes_15 (Nat.le_of_ble_eq_true rfl) rfl ?_
  refine sz_ls (l2 := [some (.ref 39), some (.ref w1), some (.int 0), some (.int 0), some (.int 0), none]) rfl ?_
  have hk80 : ∀ (x2 : Int32) (x3 : Int32) (g : gz_S) (r : Int32 × gz_S), (fun (x2 : Int32) (x3 : Int32) g => fX12_passes_83 La  w1 (fun (x2 : Int32) (x3 : Int32) g => fX12_passes_197 La  w1 (fun (x3 : Int32) g => (fJ9_min_7cf53 La  9999 ((g.1 w1 47) + x3) g).bind (fun q259 => gz_let (gz_wi q259.2 w1 47 q259.1) (fun g262 => gz_let (gz_wi g262 w1 49 ((g262.1 w1 49) + 1)) (fun g270 => some (x3, g270))))) gz_FU x2 x3 0 g) gz_FU x2 x3 0 g) x2 x3 g = some r → gz_J La 145 mX12_passes 80 [some (.ref 39), some (.ref w1), some (.int x2), some (.int x3), none, none] [] g (gz_Fi r) := by
    intro x2 x3 g r hf
    refine sz_iconst dX12_passes_80 (cI0) ?_
    refine sz_istore dX12_passes_81 (Nat.le_of_ble_eq_true rfl) rfl ?_
    refine sz_ls (l2 := [some (.ref 39), some (.ref w1), some (.int x2), some (.int x3), some (.int 0), none]) rfl ?_
    have hk194 : ∀ (x2 : Int32) (x3 : Int32) (g : gz_S) (r : Int32 × gz_S), (fun (x2 : Int32) (x3 : Int32) g => fX12_passes_197 La  w1 (fun (x3 : Int32) g => (fJ9_min_7cf53 La  9999 ((g.1 w1 47) + x3) g).bind (fun q259 => gz_let (gz_wi q259.2 w1 47 q259.1) (fun g262 => gz_let (gz_wi g262 w1 49 ((g262.1 w1 49) + 1)) (fun g270 => some (x3, g270))))) gz_FU x2 x3 0 g) x2 x3 g = some r → gz_J La 145 mX12_passes 194 [some (.ref 39), some (.ref w1), some (.int x2), some (.int x3), none, none] [] g (gz_Fi r) := by
      intro x2 x3 g r hf
      refine sz_iconst dX12_passes_194 (cI0) ?_
      refine sz_istore dX12_passes_195 (Nat.le_of_ble_eq_true rfl) rfl ?_
      refine sz_ls (l2 := [some (.ref 39), some (.ref w1), some (.int x2), some (.int x3), some (.int 0), none]) rfl ?_
      have hk247 : ∀ (x3 : Int32) (g : gz_S) (r : Int32 × gz_S), (fun (x3 : Int32) g => (fJ9_min_7cf53 La  9999 ((g.1 w1 47) + x3) g).bind (fun q259 => gz_let (gz_wi q259.2 w1 47 q259.1) (fun g262 => gz_let (gz_wi g262 w1 49 ((g262.1 w1 49) + 1)) (fun g270 => some (x3, g270))))) x3 g = some r → gz_J La 145 mX12_passes 247 [none, some (.ref w1), none, some (.int x3), none, none] [] g (gz_Fi r) := by
        intro x3 g r hf
        refine sz_aload_n dX12_passes_247 rfl ?_
        refine sz_bipush dX12_passes_248 (cB47) ?_
        refine sz_sipush dX12_passes_250 (cH9999) ?_
        refine sz_aload_n dX12_passes_253 rfl ?_
        refine sz_bipush dX12_passes_254 (cB47) ?_
        refine sz_ialdL dX12_passes_256 (kds_nt hw1) vi47_231 tn47 ?_
        refine sz_iload_n dX12_passes_257 rfl ?_
        refine sz_iadd dX12_passes_258 ?_
        obtain ⟨q259, eq259, hf⟩ := gz_bd hf
        refine sz_callSi [.int 9999, .int ((g.1 w1 47) + x3)] [.int 47, .ref w1] dX12_passes_259 msX12_365 (Nat.le_of_ble_eq_true rfl) (Nat.le_of_ble_eq_true rfl) (kJ9_min_7cf53   eq259) ?_
        obtain ⟨g262, eg262, hf⟩ := gz_lt hf
        refine sz_iastL dX12_passes_262 (kds_nt hw1) vi47_231 tn47 eg262 ?_
        refine sz_aload_n dX12_passes_263 rfl ?_
        refine sz_bipush dX12_passes_264 (cB49) ?_
        refine sz_dup2 dX12_passes_266 rfl rfl ?_
        refine sz_ialdL dX12_passes_267 (kds_nt hw1) vi49_231 tn49 ?_
        refine sz_iconst dX12_passes_268 (cI1) ?_
        refine sz_iadd dX12_passes_269 ?_
        obtain ⟨g270, eg270, hf⟩ := gz_lt hf
        refine sz_iastL dX12_passes_270 (kds_nt hw1) vi49_231 tn49 eg270 ?_
        refine sz_iload_n dX12_passes_271 rfl ?_
        cases hf
        exact sz_iret dX12_passes_272 rfl rfl ⟨rfl, rfl⟩
      exact tX12_passes_197  hw1 hk247 _ _ _ _ _ _ hf
    exact tX12_passes_83  hw1 hk194 _ _ _ _ _ _ hf
  exact tX12_passes_17  hw1 hk80 _ _ _ _ _ _ hf
def fX12_goHour_52 (La : gz_L)  (w1 : Nat)  (x2 : Int32) (g : gz_S) : Option (Int32 × gz_S) := gz_let ((51 : Int32) + ((3 : Int32) * (g.1 w1 50))) (fun y61 => if gz_ok y61 231 then gz_let (gz_wi g w1 (Int32.toNatClampNeg y61) x2) (fun g65 => if gz_ok (y61 + 1) 231 then gz_let (gz_wi g65 w1 (Int32.toNatClampNeg (y61 + 1)) (g65.1 39 39)) (fun g74 => if gz_ok (y61 + 2) 231 then gz_let (gz_wi g74 w1 (Int32.toNatClampNeg (y61 + 2)) (g74.1 w1 46)) (fun g83 => gz_let (gz_wi g83 w1 50 ((g83.1 w1 50) + 1)) (fun g91 => some (x2, g91))) else none) else none) else none)
set_option maxRecDepth 100000 in
set_option maxHeartbeats 4000000 in
theorem tX12_goHour_52 {La : gz_L}  {w1 : Nat}  (hw1 : w1 = 53 ∨ w1 = 54)  : ∀ (x2 : Int32) (g : gz_S) (r : Int32 × gz_S), fX12_goHour_52 La  w1  x2 g = some r → gz_J La 146 mX12_goHour 52 [some (.ref 39), some (.ref w1), some (.int x2), none] [] g (gz_Fi r) := by
  intro x2 g r hf
  unfold fX12_goHour_52 at hf
  refine sz_bipush dX12_goHour_52 (cB51) ?_
  refine sz_iconst dX12_goHour_54 (cI3) ?_
  refine sz_aload_n dX12_goHour_55 rfl ?_
  refine sz_bipush dX12_goHour_56 (cB50) ?_
  refine sz_ialdL dX12_goHour_58 (kds_nt hw1) vi50_231 tn50 ?_
  refine sz_imul dX12_goHour_59 ?_
  refine sz_iadd dX12_goHour_60 ?_
  obtain ⟨y61, ey61, hf⟩ := gz_lt hf
  refine sz_topi ey61 ?_
  refine sz_istore_n dX12_goHour_61 rfl (Nat.le_of_ble_eq_true rfl) rfl ?_
  refine sz_ls (l2 := [some (.ref 39), some (.ref w1), some (.int x2), some (.int y61)]) rfl ?_
  refine sz_aload_n dX12_goHour_62 rfl ?_
  refine sz_iload_n dX12_goHour_63 rfl ?_
  refine sz_iload_n dX12_goHour_64 rfl ?_
  obtain ⟨c65, hf⟩ := gz_gd hf
  obtain ⟨g65, eg65, hf⟩ := gz_lt hf
  refine sz_iastL dX12_goHour_65 (kds_nt hw1) c65 rfl eg65 ?_
  refine sz_aload_n dX12_goHour_66 rfl ?_
  refine sz_iload_n dX12_goHour_67 rfl ?_
  refine sz_iconst dX12_goHour_68 (cI1) ?_
  refine sz_iadd dX12_goHour_69 ?_
  refine sz_aload_n dX12_goHour_70 rfl ?_
  refine sz_getI dX12_goHour_71 flX12_356 kd39 rfl ?_
  obtain ⟨c74, hf⟩ := gz_gd hf
  obtain ⟨g74, eg74, hf⟩ := gz_lt hf
  refine sz_iastL dX12_goHour_74 (kds_nt hw1) c74 rfl eg74 ?_
  refine sz_aload_n dX12_goHour_75 rfl ?_
  refine sz_iload_n dX12_goHour_76 rfl ?_
  refine sz_iconst dX12_goHour_77 (cI2) ?_
  refine sz_iadd dX12_goHour_78 ?_
  refine sz_aload_n dX12_goHour_79 rfl ?_
  refine sz_bipush dX12_goHour_80 (cB46) ?_
  refine sz_ialdL dX12_goHour_82 (kds_nt hw1) vi46_231 tn46 ?_
  obtain ⟨c83, hf⟩ := gz_gd hf
  obtain ⟨g83, eg83, hf⟩ := gz_lt hf
  refine sz_iastL dX12_goHour_83 (kds_nt hw1) c83 rfl eg83 ?_
  refine sz_aload_n dX12_goHour_84 rfl ?_
  refine sz_bipush dX12_goHour_85 (cB50) ?_
  refine sz_dup2 dX12_goHour_87 rfl rfl ?_
  refine sz_ialdL dX12_goHour_88 (kds_nt hw1) vi50_231 tn50 ?_
  refine sz_iconst dX12_goHour_89 (cI1) ?_
  refine sz_iadd dX12_goHour_90 ?_
  obtain ⟨g91, eg91, hf⟩ := gz_lt hf
  refine sz_iastL dX12_goHour_91 (kds_nt hw1) vi50_231 tn50 eg91 ?_
  refine sz_iload_n dX12_goHour_92 rfl ?_
  cases hf
  exact sz_iret dX12_goHour_93 rfl rfl ⟨rfl, rfl⟩
def fX12_goHour_17 (La : gz_L)  (w1 : Nat) (k44 : Int32 → gz_S → Option (Int32 × gz_S)) : Nat → Int32 → Int32 → gz_S → Option (Int32 × gz_S)
  | 0, _, _, _ => none
  | n + 1, x2, x3, g => if 177 < x3 then k44 x2 g else if gz_ok (((50 : Int32) + x3) + 3) 231 then if gz_ok ((50 : Int32) + x3) 231 then gz_let (gz_wi g w1 (Int32.toNatClampNeg ((50 : Int32) + x3)) (g.1 w1 (Int32.toNatClampNeg (((50 : Int32) + x3) + 3)))) (fun g37 => gz_let (x3 + 1) (fun y38 => fX12_goHour_17 La  w1 k44 n x2 y38 g37)) else none else none
set_option maxRecDepth 100000 in
set_option maxHeartbeats 4000000 in
theorem tX12_goHour_17 {La : gz_L}  {w1 : Nat} {k44 : Int32 → gz_S → Option (Int32 × gz_S)} (hw1 : w1 = 53 ∨ w1 = 54) (hk44 : ∀ (x2 : Int32) (g : gz_S) (r : Int32 × gz_S), k44 x2 g = some r → gz_J La 146 mX12_goHour 44 [some (.ref 39), some (.ref w1), some (.int x2), none] [] g (gz_Fi r)) : ∀ (n : Nat) (x2 : Int32) (x3 : Int32) (g : gz_S) (r : Int32 × gz_S), fX12_goHour_17 La  w1 k44 n x2 x3 g = some r → gz_J La 146 mX12_goHour 17 [some (.ref 39), some (.ref w1), some (.int x2), some (.int x3)] [] g (gz_Fi r) := by
  intro n
  induction n with
  | zero => intro x2 x3 g r hf; exact nomatch (show (none : Option (Int32 × gz_S)) = some r from hf)
  | succ n ih =>
    intro x2 x3 g r hf
    unfold fX12_goHour_17 at hf
    refine sz_iload_n dX12_goHour_17 rfl ?_
    refine sz_sipush dX12_goHour_18 (cH177) ?_
    refine sz_icmp_gt 44 dX12_goHour_21 (by decide) (fun c21 => ?_) (fun c21 => ?_)
    · have hf := gz_ip c21 hf
      refine sz_weak (l2 := [some (.ref 39), some (.ref w1), some (.int x2), none]) (gz_subk (gz_subk (gz_subk (gz_subn gz_sub0)))) ?_
      exact hk44 _ _ _ hf
    · have hf := gz_in1 c21 hf
      refine sz_aload_n dX12_goHour_24 rfl ?_
      refine sz_bipush dX12_goHour_25 (cB50) ?_
      refine sz_iload_n dX12_goHour_27 rfl ?_
      refine sz_iadd dX12_goHour_28 ?_
      refine sz_aload_n dX12_goHour_29 rfl ?_
      refine sz_bipush dX12_goHour_30 (cB50) ?_
      refine sz_iload_n dX12_goHour_32 rfl ?_
      refine sz_iadd dX12_goHour_33 ?_
      refine sz_iconst dX12_goHour_34 (cI3) ?_
      refine sz_iadd dX12_goHour_35 ?_
      obtain ⟨c36, hf⟩ := gz_gd hf
      refine sz_ialdL dX12_goHour_36 (kds_nt hw1) c36 rfl ?_
      obtain ⟨c37, hf⟩ := gz_gd hf
      obtain ⟨g37, eg37, hf⟩ := gz_lt hf
      refine sz_iastL dX12_goHour_37 (kds_nt hw1) c37 rfl eg37 ?_
      obtain ⟨y38, ey38, hf⟩ := gz_lt hf
      refine sz_iinc (v := y38) dX12_goHour_38 rfl (by rw [ey38, cI1]) (Nat.le_of_ble_eq_true rfl) rfl ?_
      refine sz_ls (l2 := [some (.ref 39), some (.ref w1), some (.int x2), some (.int y38)]) rfl ?_
      refine sz_goto 17 dX12_goHour_41 (by decide) ?_
      exact ih _ _ _ _ hf
def fX12_goHour (La : gz_L)  (w1 : Nat) (g : gz_S) : Option (Int32 × gz_S) :=
  (fX12_passes La  w1 g).bind (fun q2 => if (q2.2.1 w1 50) = 60 then fX12_goHour_17 La  w1 (fun (x2 : Int32) g => gz_let (gz_wi g w1 50 ((g.1 w1 50) - 1)) (fun g51 => fX12_goHour_52 La  w1   x2 g51)) gz_FU q2.1 1 q2.2 else fX12_goHour_52 La  w1   q2.1 q2.2)
set_option maxRecDepth 100000 in
set_option maxHeartbeats 4000000 in
theorem kX12_goHour {La : gz_L}  {w1 : Nat} {g : gz_S} {r : Int32 × gz_S} (hw1 : w1 = 53 ∨ w1 = 54) (hf : fX12_goHour La  w1 g = some r) : gz_K La 146 mX12_goHour [.ref 39, .ref w1] g (gz_Fi r) := by
  unfold fX12_goHour at hf
  refine gz_K.of 2 (by decide +kernel) rfl ?_
  show gz_J La 146 mX12_goHour 0 [some (.ref 39), some (.ref w1), none, none] [] g (gz_Fi r)
  refine sz_aload_n dX12_goHour_0 rfl ?_
  refine sz_aload_n dX12_goHour_1 rfl ?_
  obtain ⟨q2, eq2, hf⟩ := gz_bd hf
  refine sz_callVi [.ref w1] [] dX12_goHour_2 mvX12_367 (Nat.le_of_ble_eq_true rfl) (by decide : 12 < 13) kd39 rfl (Nat.le_of_ble_eq_true rfl) (kX12_passes  hw1 eq2) ?_
  refine sz_istore_n dX12_goHour_5 rfl (Nat.le_of_ble_eq_true rfl) rfl ?_
  refine sz_ls (l2 := [some (.ref 39), some (.ref w1), some (.int q2.1), none]) rfl ?_
  refine sz_aload_n dX12_goHour_6 rfl ?_
  refine sz_bipush dX12_goHour_7 (cB50) ?_
  refine sz_ialdL dX12_goHour_9 (kds_nt hw1) vi50_231 tn50 ?_
  refine sz_bipush dX12_goHour_10 (cB60) ?_
  refine sz_icmp_ne 52 dX12_goHour_12 (by decide) (fun c12 => ?_) (fun c12 => ?_)
  · have hf := gz_in1 c12 hf
    exact tX12_goHour_52  hw1  _ _ _ hf
  · have hf := gz_ip c12 hf
    refine sz_iconst dX12_goHour_15 (cI1) ?_
    refine sz_istore_n dX12_goHour_16 rfl (Nat.le_of_ble_eq_true rfl) rfl ?_
    refine sz_ls (l2 := [some (.ref 39), some (.ref w1), some (.int q2.1), some (.int 1)]) rfl ?_
    have hk44 : ∀ (x2 : Int32) (g : gz_S) (r : Int32 × gz_S), (fun (x2 : Int32) g => gz_let (gz_wi g w1 50 ((g.1 w1 50) - 1)) (fun g51 => fX12_goHour_52 La  w1   x2 g51)) x2 g = some r → gz_J La 146 mX12_goHour 44 [some (.ref 39), some (.ref w1), some (.int x2), none] [] g (gz_Fi r) := by
      intro x2 g r hf
      refine sz_aload_n dX12_goHour_44 rfl ?_
      refine sz_bipush dX12_goHour_45 (cB50) ?_
      refine sz_dup2 dX12_goHour_47 rfl rfl ?_
      refine sz_ialdL dX12_goHour_48 (kds_nt hw1) vi50_231 tn50 ?_
      refine sz_iconst dX12_goHour_49 (cI1) ?_
      refine sz_isub dX12_goHour_50 ?_
      obtain ⟨g51, eg51, hf⟩ := gz_lt hf
      refine sz_iastL dX12_goHour_51 (kds_nt hw1) vi50_231 tn50 eg51 ?_
      exact tX12_goHour_52  hw1  _ _ _ hf
    exact tX12_goHour_17  hw1 hk44 _ _ _ _ _ hf
def fX12_haveMet (La : gz_L)  (x1 : Int32) (x2 : Int32) (g : gz_S) : Option (Int32 × gz_S) :=
  (fJ9_min_7cf53 La  x1 x2 g).bind (fun q7 => (fJ9_max_7cf53 La  x1 x2 q7.2).bind (fun q13 => (fX12_has La  (g.1 39 38) (((4 : Int32) * q7.1) + q13.1) q13.2).bind (fun q17 => if q17.1 = 0 ∨ q17.1 = 1 then some (q17.1, q17.2) else none)))
set_option maxRecDepth 100000 in
set_option maxHeartbeats 4000000 in
theorem kX12_haveMet {La : gz_L}  {x1 : Int32} {x2 : Int32} {g : gz_S} {r : Int32 × gz_S}  (hf : fX12_haveMet La  x1 x2 g = some r) : gz_K La 2 mX12_haveMet [.ref 39, .int x1, .int x2] g (gz_Fi r) := by
  unfold fX12_haveMet at hf
  refine gz_K.of 0 (by decide +kernel) rfl ?_
  show gz_J La 2 mX12_haveMet 0 [some (.ref 39), some (.int x1), some (.int x2)] [] g (gz_Fi r)
  refine sz_aload_n dX12_haveMet_0 rfl ?_
  refine sz_getI dX12_haveMet_1 flX12_353 kd39 rfl ?_
  refine sz_iconst dX12_haveMet_4 (cI4) ?_
  refine sz_iload_n dX12_haveMet_5 rfl ?_
  refine sz_iload_n dX12_haveMet_6 rfl ?_
  obtain ⟨q7, eq7, hf⟩ := gz_bd hf
  refine sz_callSi [.int x1, .int x2] [.int 4, .int (g.1 39 38)] dX12_haveMet_7 msX12_365 (Nat.le_of_ble_eq_true rfl) (Nat.le_of_ble_eq_true rfl) (kJ9_min_7cf53   eq7) ?_
  refine sz_imul dX12_haveMet_10 ?_
  refine sz_iload_n dX12_haveMet_11 rfl ?_
  refine sz_iload_n dX12_haveMet_12 rfl ?_
  obtain ⟨q13, eq13, hf⟩ := gz_bd hf
  refine sz_callSi [.int x1, .int x2] [.int ((4 : Int32) * q7.1), .int (g.1 39 38)] dX12_haveMet_13 msX12_371 (Nat.le_of_ble_eq_true rfl) (Nat.le_of_ble_eq_true rfl) (kJ9_max_7cf53   eq13) ?_
  refine sz_iadd dX12_haveMet_16 ?_
  obtain ⟨q17, eq17, hf⟩ := gz_bd hf
  refine sz_callSi [.int (g.1 39 38), .int (((4 : Int32) * q7.1) + q13.1)] [] dX12_haveMet_17 msX12_237 (Nat.le_of_ble_eq_true rfl) (Nat.le_of_ble_eq_true rfl) (kX12_has   eq17) ?_
  obtain ⟨c20, hf⟩ := gz_gd hf
  cases hf
  exact sz_iret dX12_haveMet_20 rfl (gz_nbx c20) ⟨rfl, rfl⟩
def fX12_shore (La : gz_L)  (x1 : Int32) (x2 : Int32) (g : gz_S) : Option (Int32 × gz_S) :=
  gz_let (gz_wi g 39 0 0) (fun g2 => (fX12_isCell La  x1 g2).bind (fun q7 => if q7.1 = 0 then some ((-1), q7.2) else (fX12_isIn La  (Int32.toInt64 x2) 0 1 q7.2).bind (fun q17 => if q17.1 = 0 then some ((-1), q17.2) else if x2 = 0 then if gz_ok x1 231 then some (q17.2.1 53 (Int32.toNatClampNeg x1), q17.2) else none else (fX12_isUnder La  53 x1 q17.2).bind (fun q44 => if q44.1 = 0 then some (0, q44.2) else some (1, q44.2)))))
set_option maxRecDepth 100000 in
set_option maxHeartbeats 4000000 in
theorem kX12_shore {La : gz_L}  {x1 : Int32} {x2 : Int32} {g : gz_S} {r : Int32 × gz_S}  (hf : fX12_shore La  x1 x2 g = some r) : gz_K La 3 mX12_shore [.ref 39, .int x1, .int x2] g (gz_Fi r) := by
  unfold fX12_shore at hf
  refine gz_K.of 0 (by decide +kernel) rfl ?_
  show gz_J La 3 mX12_shore 0 [some (.ref 39), some (.int x1), some (.int x2)] [] g (gz_Fi r)
  refine sz_aload_n dX12_shore_0 rfl ?_
  refine sz_iconst dX12_shore_1 (cI0) ?_
  obtain ⟨g2, eg2, hf⟩ := gz_lt hf
  refine sz_putI2 dX12_shore_2 flX12_104 kd39 fi12_0 eg2 ?_
  refine sz_aload_n dX12_shore_5 rfl ?_
  refine sz_iload_n dX12_shore_6 rfl ?_
  obtain ⟨q7, eq7, hf⟩ := gz_bd hf
  refine sz_callVi [.int x1] [] dX12_shore_7 mvX12_373 (Nat.le_of_ble_eq_true rfl) (by decide : 12 < 13) kd39 rfl (Nat.le_of_ble_eq_true rfl) (kX12_isCell   eq7) ?_
  refine sz_if_eq 23 dX12_shore_10 (by decide) (fun c10 => ?_) (fun c10 => ?_)
  · have hf := gz_ip c10 hf
    refine sz_iconst dX12_shore_23 (cIm1) ?_
    cases hf
    exact sz_iret dX12_shore_24 rfl rfl ⟨rfl, rfl⟩
  · have hf := gz_in1 c10 hf
    refine sz_iload_n dX12_shore_13 rfl ?_
    refine sz_i2l dX12_shore_14 ?_
    refine sz_lconst (v := 0) dX12_shore_15 rfl ?_
    refine sz_lconst (v := 1) dX12_shore_16 rfl ?_
    obtain ⟨q17, eq17, hf⟩ := gz_bd hf
    refine sz_callSi [.long (Int32.toInt64 x2), .long 0, .long 1] [] dX12_shore_17 msX12_225 (Nat.le_of_ble_eq_true rfl) (Nat.le_of_ble_eq_true rfl) (kX12_isIn   eq17) ?_
    refine sz_if_ne 25 dX12_shore_20 (by decide) (fun c20 => ?_) (fun c20 => ?_)
    · have hf := gz_in1 c20 hf
      refine sz_iload_n dX12_shore_25 rfl ?_
      refine sz_if_ne 38 dX12_shore_26 (by decide) (fun c26 => ?_) (fun c26 => ?_)
      · have hf := gz_in1 c26 hf
        refine sz_aload_n dX12_shore_38 rfl ?_
        refine sz_aload_n dX12_shore_39 rfl ?_
        refine sz_getR dX12_shore_40 flX12_64 kd39 rfl rf39_32 ?_
        refine sz_iload_n dX12_shore_43 rfl ?_
        obtain ⟨q44, eq44, hf⟩ := gz_bd hf
        refine sz_callVi [.ref 53, .int x1] [] dX12_shore_44 mvX12_331 (Nat.le_of_ble_eq_true rfl) (by decide : 12 < 13) kd39 rfl (Nat.le_of_ble_eq_true rfl) (kX12_isUnder  (Or.inl rfl) eq44) ?_
        refine sz_if_eq 54 dX12_shore_47 (by decide) (fun c47 => ?_) (fun c47 => ?_)
        · have hf := gz_ip c47 hf
          refine sz_iconst dX12_shore_54 (cI0) ?_
          cases hf
          exact sz_iret dX12_shore_55 rfl rfl ⟨rfl, rfl⟩
        · have hf := gz_in1 c47 hf
          refine sz_iconst dX12_shore_50 (cI1) ?_
          refine sz_goto 55 dX12_shore_51 (by decide) ?_
          cases hf
          exact sz_iret dX12_shore_55 rfl rfl ⟨rfl, rfl⟩
      · have hf := gz_ip c26 hf
        refine sz_aload_n dX12_shore_29 rfl ?_
        refine sz_getR dX12_shore_30 flX12_64 kd39 rfl rf39_32 ?_
        refine sz_iload_n dX12_shore_33 rfl ?_
        obtain ⟨c34, hf⟩ := gz_gd hf
        refine sz_ialdL dX12_shore_34 kd53 c34 rfl ?_
        refine sz_goto 55 dX12_shore_35 (by decide) ?_
        cases hf
        exact sz_iret dX12_shore_55 rfl rfl ⟨rfl, rfl⟩
    · have hf := gz_ip c20 hf
      refine sz_iconst dX12_shore_23 (cIm1) ?_
      cases hf
      exact sz_iret dX12_shore_24 rfl rfl ⟨rfl, rfl⟩
def fX12_goer_26 (La : gz_L)    (x1 : Int32) (x2 : Int32) (s0 : Int32) (g : gz_S) : Option (Int32 × gz_S) := gz_let (gz_wi g 39 0 s0) (fun g26 => if (g26.1 39 0) ≤ 0 then if 2 ≤ x2 then if x2 = 2 then (fX12_paceOf La  x1 g26).bind (fun q64 => some (q64.1, q64.2)) else if gz_ok ((((30 : Int32) + ((4 : Int32) * x1)) + x2) - 1) 231 then some (g26.1 53 (Int32.toNatClampNeg ((((30 : Int32) + ((4 : Int32) * x1)) + x2) - 1)), g26) else none else if gz_ok (((30 : Int32) + ((4 : Int32) * x1)) + x2) 231 then some (g26.1 53 (Int32.toNatClampNeg (((30 : Int32) + ((4 : Int32) * x1)) + x2)), g26) else none else some (0, g26))
set_option maxRecDepth 100000 in
set_option maxHeartbeats 4000000 in
theorem tX12_goer_26 {La : gz_L}      : ∀ (x1 : Int32) (x2 : Int32) (s0 : Int32) (g : gz_S) (r : Int32 × gz_S), fX12_goer_26 La    x1 x2 s0 g = some r → gz_J La 2 mX12_goer 26 [some (.ref 39), some (.int x1), some (.int x2)] [.int s0, .ref 39] g (gz_Fi r) := by
  intro x1 x2 s0 g r hf
  unfold fX12_goer_26 at hf
  obtain ⟨g26, eg26, hf⟩ := gz_lt hf
  refine sz_putI2 dX12_goer_26 flX12_104 kd39 fi12_0 eg26 ?_
  refine sz_aload_n dX12_goer_29 rfl ?_
  refine sz_getI dX12_goer_30 flX12_104 kd39 rfl ?_
  refine sz_if_le 38 dX12_goer_33 (by decide) (fun c33 => ?_) (fun c33 => ?_)
  · have hf := gz_ip c33 hf
    refine sz_iload_n dX12_goer_38 rfl ?_
    refine sz_iconst dX12_goer_39 (cI2) ?_
    refine sz_icmp_ge 57 dX12_goer_40 (by decide) (fun c40 => ?_) (fun c40 => ?_)
    · have hf := gz_ip c40 hf
      refine sz_iload_n dX12_goer_57 rfl ?_
      refine sz_iconst dX12_goer_58 (cI2) ?_
      refine sz_icmp_ne 70 dX12_goer_59 (by decide) (fun c59 => ?_) (fun c59 => ?_)
      · have hf := gz_in1 c59 hf
        refine sz_aload_n dX12_goer_70 rfl ?_
        refine sz_getR dX12_goer_71 flX12_64 kd39 rfl rf39_32 ?_
        refine sz_bipush dX12_goer_74 (cB30) ?_
        refine sz_iconst dX12_goer_76 (cI4) ?_
        refine sz_iload_n dX12_goer_77 rfl ?_
        refine sz_imul dX12_goer_78 ?_
        refine sz_iadd dX12_goer_79 ?_
        refine sz_iload_n dX12_goer_80 rfl ?_
        refine sz_iadd dX12_goer_81 ?_
        refine sz_iconst dX12_goer_82 (cI1) ?_
        refine sz_isub dX12_goer_83 ?_
        obtain ⟨c84, hf⟩ := gz_gd hf
        refine sz_ialdL dX12_goer_84 kd53 c84 rfl ?_
        cases hf
        exact sz_iret dX12_goer_85 rfl rfl ⟨rfl, rfl⟩
      · have hf := gz_ip c59 hf
        refine sz_aload_n dX12_goer_62 rfl ?_
        refine sz_iload_n dX12_goer_63 rfl ?_
        obtain ⟨q64, eq64, hf⟩ := gz_bd hf
        refine sz_callVi [.int x1] [] dX12_goer_64 mvX12_359 (Nat.le_of_ble_eq_true rfl) (by decide : 12 < 13) kd39 rfl (Nat.le_of_ble_eq_true rfl) (kX12_paceOf   eq64) ?_
        refine sz_goto 85 dX12_goer_67 (by decide) ?_
        cases hf
        exact sz_iret dX12_goer_85 rfl rfl ⟨rfl, rfl⟩
    · have hf := gz_in1 c40 hf
      refine sz_aload_n dX12_goer_43 rfl ?_
      refine sz_getR dX12_goer_44 flX12_64 kd39 rfl rf39_32 ?_
      refine sz_bipush dX12_goer_47 (cB30) ?_
      refine sz_iconst dX12_goer_49 (cI4) ?_
      refine sz_iload_n dX12_goer_50 rfl ?_
      refine sz_imul dX12_goer_51 ?_
      refine sz_iadd dX12_goer_52 ?_
      refine sz_iload_n dX12_goer_53 rfl ?_
      refine sz_iadd dX12_goer_54 ?_
      obtain ⟨c55, hf⟩ := gz_gd hf
      refine sz_ialdL dX12_goer_55 kd53 c55 rfl ?_
      cases hf
      exact sz_iret dX12_goer_56 rfl rfl ⟨rfl, rfl⟩
  · have hf := gz_in1 c33 hf
    refine sz_iconst dX12_goer_36 (cI0) ?_
    cases hf
    exact sz_iret dX12_goer_37 rfl rfl ⟨rfl, rfl⟩
def fX12_goer_25 (La : gz_L)    (x1 : Int32) (x2 : Int32) (g : gz_S) : Option (Int32 × gz_S) := fX12_goer_26 La     x1 x2 1 g
set_option maxRecDepth 100000 in
set_option maxHeartbeats 4000000 in
theorem tX12_goer_25 {La : gz_L}      : ∀ (x1 : Int32) (x2 : Int32) (g : gz_S) (r : Int32 × gz_S), fX12_goer_25 La    x1 x2 g = some r → gz_J La 2 mX12_goer 25 [some (.ref 39), some (.int x1), some (.int x2)] [.ref 39] g (gz_Fi r) := by
  intro x1 x2 g r hf
  unfold fX12_goer_25 at hf
  refine sz_iconst dX12_goer_25 (cI1) ?_
  exact tX12_goer_26    _ _ _ _ _ hf
def fX12_goer (La : gz_L)  (x1 : Int32) (x2 : Int32) (g : gz_S) : Option (Int32 × gz_S) :=
  (fX12_isGoer La  x1 g).bind (fun q3 => if q3.1 = 0 then fX12_goer_25 La     x1 x2 q3.2 else (fX12_isIn La  (Int32.toInt64 x2) 0 4 q3.2).bind (fun q15 => if q15.1 = 0 then fX12_goer_25 La     x1 x2 q15.2 else fX12_goer_26 La     x1 x2 0 q15.2))
set_option maxRecDepth 100000 in
set_option maxHeartbeats 4000000 in
theorem kX12_goer {La : gz_L}  {x1 : Int32} {x2 : Int32} {g : gz_S} {r : Int32 × gz_S}  (hf : fX12_goer La  x1 x2 g = some r) : gz_K La 2 mX12_goer [.ref 39, .int x1, .int x2] g (gz_Fi r) := by
  unfold fX12_goer at hf
  refine gz_K.of 0 (by decide +kernel) rfl ?_
  show gz_J La 2 mX12_goer 0 [some (.ref 39), some (.int x1), some (.int x2)] [] g (gz_Fi r)
  refine sz_aload_n dX12_goer_0 rfl ?_
  refine sz_aload_n dX12_goer_1 rfl ?_
  refine sz_iload_n dX12_goer_2 rfl ?_
  obtain ⟨q3, eq3, hf⟩ := gz_bd hf
  refine sz_callVi [.int x1] [.ref 39] dX12_goer_3 mvX12_325 (Nat.le_of_ble_eq_true rfl) (by decide : 12 < 13) kd39 rfl (Nat.le_of_ble_eq_true rfl) (kX12_isGoer   eq3) ?_
  refine sz_if_eq 25 dX12_goer_6 (by decide) (fun c6 => ?_) (fun c6 => ?_)
  · have hf := gz_ip c6 hf
    exact tX12_goer_25    _ _ _ _ hf
  · have hf := gz_in1 c6 hf
    refine sz_iload_n dX12_goer_9 rfl ?_
    refine sz_i2l dX12_goer_10 ?_
    refine sz_lconst (v := 0) dX12_goer_11 rfl ?_
    refine sz_ldc2 dX12_goer_12 cstlX12_376 ?_
    obtain ⟨q15, eq15, hf⟩ := gz_bd hf
    refine sz_callSi [.long (Int32.toInt64 x2), .long 0, .long 4] [.ref 39] dX12_goer_15 msX12_225 (Nat.le_of_ble_eq_true rfl) (Nat.le_of_ble_eq_true rfl) (kX12_isIn   eq15) ?_
    refine sz_if_eq 25 dX12_goer_18 (by decide) (fun c18 => ?_) (fun c18 => ?_)
    · have hf := gz_ip c18 hf
      exact tX12_goer_25    _ _ _ _ hf
    · have hf := gz_in1 c18 hf
      refine sz_iconst dX12_goer_21 (cI0) ?_
      refine sz_goto 26 dX12_goer_22 (by decide) ?_
      exact tX12_goer_26    _ _ _ _ _ hf
def fX12_law_28 (La : gz_L)    (x1 : Int32) (g : gz_S) : Option (Int32 × gz_S) := gz_let (gz_wi g 39 34 x1) (fun g30 => some (1, g30))
set_option maxRecDepth 100000 in
set_option maxHeartbeats 4000000 in
theorem tX12_law_28 {La : gz_L}      : ∀ (x1 : Int32) (g : gz_S) (r : Int32 × gz_S), fX12_law_28 La    x1 g = some r → gz_J La 2 mX12_law 28 [some (.ref 39), some (.int x1)] [] g (gz_Fi r) := by
  intro x1 g r hf
  unfold fX12_law_28 at hf
  refine sz_aload_n dX12_law_28 rfl ?_
  refine sz_iload_n dX12_law_29 rfl ?_
  obtain ⟨g30, eg30, hf⟩ := gz_lt hf
  refine sz_putI2 dX12_law_30 flX12_70 kd39 fi12_34 eg30 ?_
  refine sz_iconst dX12_law_33 (cI1) ?_
  cases hf
  exact sz_iret dX12_law_34 rfl rfl ⟨rfl, rfl⟩
def fX12_law (La : gz_L)  (x1 : Int32) (g : gz_S) : Option (Int32 × gz_S) :=
  gz_let (gz_wi g 39 0 0) (fun g2 => if x1 = (-1) then fX12_law_28 La     x1 g2 else (fX12_isIn La  (Int32.toInt64 x1) 0 (Int32.toInt64 ((g2.1 39 7) - 1)) g2).bind (fun q20 => if q20.1 = 0 then some (0, q20.2) else fX12_law_28 La     x1 q20.2))
set_option maxRecDepth 100000 in
set_option maxHeartbeats 4000000 in
theorem kX12_law {La : gz_L}  {x1 : Int32} {g : gz_S} {r : Int32 × gz_S}  (hf : fX12_law La  x1 g = some r) : gz_K La 2 mX12_law [.ref 39, .int x1] g (gz_Fi r) := by
  unfold fX12_law at hf
  refine gz_K.of 0 (by decide +kernel) rfl ?_
  show gz_J La 2 mX12_law 0 [some (.ref 39), some (.int x1)] [] g (gz_Fi r)
  refine sz_aload_n dX12_law_0 rfl ?_
  refine sz_iconst dX12_law_1 (cI0) ?_
  obtain ⟨g2, eg2, hf⟩ := gz_lt hf
  refine sz_putI2 dX12_law_2 flX12_104 kd39 fi12_0 eg2 ?_
  refine sz_iload_n dX12_law_5 rfl ?_
  refine sz_iconst dX12_law_6 (cIm1) ?_
  refine sz_icmp_eq 28 dX12_law_7 (by decide) (fun c7 => ?_) (fun c7 => ?_)
  · have hf := gz_ip c7 hf
    exact tX12_law_28    _ _ _ hf
  · have hf := gz_in1 c7 hf
    refine sz_iload_n dX12_law_10 rfl ?_
    refine sz_i2l dX12_law_11 ?_
    refine sz_lconst (v := 0) dX12_law_12 rfl ?_
    refine sz_aload_n dX12_law_13 rfl ?_
    refine sz_getI dX12_law_14 flX12_295 kd39 rfl ?_
    refine sz_iconst dX12_law_17 (cI1) ?_
    refine sz_isub dX12_law_18 ?_
    refine sz_i2l dX12_law_19 ?_
    obtain ⟨q20, eq20, hf⟩ := gz_bd hf
    refine sz_callSi [.long (Int32.toInt64 x1), .long 0, .long (Int32.toInt64 ((g2.1 39 7) - 1))] [] dX12_law_20 msX12_225 (Nat.le_of_ble_eq_true rfl) (Nat.le_of_ble_eq_true rfl) (kX12_isIn   eq20) ?_
    refine sz_if_ne 28 dX12_law_23 (by decide) (fun c23 => ?_) (fun c23 => ?_)
    · have hf := gz_in1 c23 hf
      exact tX12_law_28    _ _ _ hf
    · have hf := gz_ip c23 hf
      refine sz_iconst dX12_law_26 (cI0) ?_
      cases hf
      exact sz_iret dX12_law_27 rfl rfl ⟨rfl, rfl⟩
def fX12_children (La : gz_L)  (x1 : Int32) (g : gz_S) : Option (Int32 × gz_S) :=
  gz_let (gz_wi g 39 0 0) (fun g2 => (fX12_isIn La  (Int32.toInt64 x1) 0 9 g2).bind (fun q11 => if q11.1 = 0 then some (0, q11.2) else if x1 = (q11.2.1 39 35) then some (0, q11.2) else gz_let (gz_wi q11.2 39 35 x1) (fun g29 => some (1, g29))))
set_option maxRecDepth 100000 in
set_option maxHeartbeats 4000000 in
theorem kX12_children {La : gz_L}  {x1 : Int32} {g : gz_S} {r : Int32 × gz_S}  (hf : fX12_children La  x1 g = some r) : gz_K La 2 mX12_children [.ref 39, .int x1] g (gz_Fi r) := by
  unfold fX12_children at hf
  refine gz_K.of 0 (by decide +kernel) rfl ?_
  show gz_J La 2 mX12_children 0 [some (.ref 39), some (.int x1)] [] g (gz_Fi r)
  refine sz_aload_n dX12_children_0 rfl ?_
  refine sz_iconst dX12_children_1 (cI0) ?_
  obtain ⟨g2, eg2, hf⟩ := gz_lt hf
  refine sz_putI2 dX12_children_2 flX12_104 kd39 fi12_0 eg2 ?_
  refine sz_iload_n dX12_children_5 rfl ?_
  refine sz_i2l dX12_children_6 ?_
  refine sz_lconst (v := 0) dX12_children_7 rfl ?_
  refine sz_ldc2 dX12_children_8 cstlX12_378 ?_
  obtain ⟨q11, eq11, hf⟩ := gz_bd hf
  refine sz_callSi [.long (Int32.toInt64 x1), .long 0, .long 9] [] dX12_children_11 msX12_225 (Nat.le_of_ble_eq_true rfl) (Nat.le_of_ble_eq_true rfl) (kX12_isIn   eq11) ?_
  refine sz_if_eq 25 dX12_children_14 (by decide) (fun c14 => ?_) (fun c14 => ?_)
  · have hf := gz_ip c14 hf
    refine sz_iconst dX12_children_25 (cI0) ?_
    cases hf
    exact sz_iret dX12_children_26 rfl rfl ⟨rfl, rfl⟩
  · have hf := gz_in1 c14 hf
    refine sz_iload_n dX12_children_17 rfl ?_
    refine sz_aload_n dX12_children_18 rfl ?_
    refine sz_getI dX12_children_19 flX12_74 kd39 rfl ?_
    refine sz_icmp_ne 27 dX12_children_22 (by decide) (fun c22 => ?_) (fun c22 => ?_)
    · have hf := gz_in1 c22 hf
      refine sz_aload_n dX12_children_27 rfl ?_
      refine sz_iload_n dX12_children_28 rfl ?_
      obtain ⟨g29, eg29, hf⟩ := gz_lt hf
      refine sz_putI2 dX12_children_29 flX12_74 kd39 fi12_35 eg29 ?_
      refine sz_iconst dX12_children_32 (cI1) ?_
      cases hf
      exact sz_iret dX12_children_33 rfl rfl ⟨rfl, rfl⟩
    · have hf := gz_ip c22 hf
      refine sz_iconst dX12_children_25 (cI0) ?_
      cases hf
      exact sz_iret dX12_children_26 rfl rfl ⟨rfl, rfl⟩
def fX12_remember_52 (La : gz_L)   (k86 : gz_S → Option (gz_S)) : Nat → Int32 → gz_S → Option (gz_S)
  | 0, _, _ => none
  | n + 1, x1, g => if 231 ≤ x1 then k86  g else if gz_ok x1 231 then if gz_ok (((231 : Int32) * (g.1 39 41)) + x1) 9240 then gz_let (gz_wi g 57 (Int32.toNatClampNeg (((231 : Int32) * (g.1 39 41)) + x1)) (g.1 53 (Int32.toNatClampNeg x1))) (fun g79 => gz_let (x1 + 1) (fun y80 => fX12_remember_52 La   k86 n y80 g79)) else none else none
set_option maxRecDepth 100000 in
set_option maxHeartbeats 4000000 in
theorem tX12_remember_52 {La : gz_L}   {k86 : gz_S → Option (gz_S)}  (hk86 : ∀  (g : gz_S) (r : gz_S), k86  g = some r → gz_J La 1 mX12_remember 86 [some (.ref 39), none] [] g (gz_Fv r)) : ∀ (n : Nat) (x1 : Int32) (g : gz_S) (r : gz_S), fX12_remember_52 La   k86 n x1 g = some r → gz_J La 1 mX12_remember 52 [some (.ref 39), some (.int x1)] [] g (gz_Fv r) := by
  intro n
  induction n with
  | zero => intro x1 g r hf; exact nomatch (show (none : Option (gz_S)) = some r from hf)
  | succ n ih =>
    intro x1 g r hf
    unfold fX12_remember_52 at hf
    refine sz_iload_n dX12_remember_52 rfl ?_
    refine sz_sipush dX12_remember_53 (cH231) ?_
    refine sz_icmp_ge 86 dX12_remember_56 (by decide) (fun c56 => ?_) (fun c56 => ?_)
    · have hf := gz_ip c56 hf
      refine sz_weak (l2 := [some (.ref 39), none]) (gz_subk (gz_subn gz_sub0)) ?_
      exact hk86  _ _ hf
    · have hf := gz_in1 c56 hf
      refine sz_aload_n dX12_remember_59 rfl ?_
      refine sz_getR dX12_remember_60 flX12_83 kd39 rfl rf39_40 ?_
      refine sz_sipush dX12_remember_63 (cH231) ?_
      refine sz_aload_n dX12_remember_66 rfl ?_
      refine sz_getI dX12_remember_67 flX12_313 kd39 rfl ?_
      refine sz_imul dX12_remember_70 ?_
      refine sz_iload_n dX12_remember_71 rfl ?_
      refine sz_iadd dX12_remember_72 ?_
      refine sz_aload_n dX12_remember_73 rfl ?_
      refine sz_getR dX12_remember_74 flX12_64 kd39 rfl rf39_32 ?_
      refine sz_iload_n dX12_remember_77 rfl ?_
      obtain ⟨c78, hf⟩ := gz_gd hf
      refine sz_ialdL dX12_remember_78 kd53 c78 rfl ?_
      obtain ⟨c79, hf⟩ := gz_gd hf
      obtain ⟨g79, eg79, hf⟩ := gz_lt hf
      refine sz_iastL dX12_remember_79 kd57 c79 rfl eg79 ?_
      obtain ⟨y80, ey80, hf⟩ := gz_lt hf
      refine sz_iinc (v := y80) dX12_remember_80 rfl (by rw [ey80, cI1]) (Nat.le_of_ble_eq_true rfl) rfl ?_
      refine sz_ls (l2 := [some (.ref 39), some (.int y80)]) rfl ?_
      refine sz_goto 52 dX12_remember_83 (by decide) ?_
      exact ih _ _ _ hf
def fX12_remember_50 (La : gz_L)     (g : gz_S) : Option (gz_S) := fX12_remember_52 La   (fun  g => gz_let (gz_wi g 39 41 ((g.1 39 41) + 1)) (fun g93 => some g93)) gz_FU 0 g
set_option maxRecDepth 100000 in
set_option maxHeartbeats 4000000 in
theorem tX12_remember_50 {La : gz_L}      : ∀  (g : gz_S) (r : gz_S), fX12_remember_50 La     g = some r → gz_J La 1 mX12_remember 50 [some (.ref 39), none] [] g (gz_Fv r) := by
  intro  g r hf
  unfold fX12_remember_50 at hf
  refine sz_iconst dX12_remember_50 (cI0) ?_
  refine sz_istore_n dX12_remember_51 rfl (Nat.le_of_ble_eq_true rfl) rfl ?_
  refine sz_ls (l2 := [some (.ref 39), some (.int 0)]) rfl ?_
  have hk86 : ∀  (g : gz_S) (r : gz_S), (fun  g => gz_let (gz_wi g 39 41 ((g.1 39 41) + 1)) (fun g93 => some g93))  g = some r → gz_J La 1 mX12_remember 86 [some (.ref 39), none] [] g (gz_Fv r) := by
    intro  g r hf
    refine sz_aload_n dX12_remember_86 rfl ?_
    refine sz_dup dX12_remember_87 rfl ?_
    refine sz_getI dX12_remember_88 flX12_313 kd39 rfl ?_
    refine sz_iconst dX12_remember_91 (cI1) ?_
    refine sz_iadd dX12_remember_92 ?_
    obtain ⟨g93, eg93, hf⟩ := gz_lt hf
    refine sz_putI2 dX12_remember_93 flX12_313 kd39 fi12_41 eg93 ?_
    cases hf
    exact sz_ret dX12_remember_96 rfl ⟨rfl, rfl⟩
  exact tX12_remember_52   hk86 _ _ _ _ hf
def fX12_remember_11 (La : gz_L)   (k40 : gz_S → Option (gz_S)) : Nat → Int32 → gz_S → Option (gz_S)
  | 0, _, _ => none
  | n + 1, x1, g => if 9009 ≤ x1 then k40  g else if gz_ok (x1 + 231) 9240 then if gz_ok x1 9240 then gz_let (gz_wi g 57 (Int32.toNatClampNeg x1) (g.1 57 (Int32.toNatClampNeg (x1 + 231)))) (fun g33 => gz_let (x1 + 1) (fun y34 => fX12_remember_11 La   k40 n y34 g33)) else none else none
set_option maxRecDepth 100000 in
set_option maxHeartbeats 4000000 in
theorem tX12_remember_11 {La : gz_L}   {k40 : gz_S → Option (gz_S)}  (hk40 : ∀  (g : gz_S) (r : gz_S), k40  g = some r → gz_J La 1 mX12_remember 40 [some (.ref 39), none] [] g (gz_Fv r)) : ∀ (n : Nat) (x1 : Int32) (g : gz_S) (r : gz_S), fX12_remember_11 La   k40 n x1 g = some r → gz_J La 1 mX12_remember 11 [some (.ref 39), some (.int x1)] [] g (gz_Fv r) := by
  intro n
  induction n with
  | zero => intro x1 g r hf; exact nomatch (show (none : Option (gz_S)) = some r from hf)
  | succ n ih =>
    intro x1 g r hf
    unfold fX12_remember_11 at hf
    refine sz_iload_n dX12_remember_11 rfl ?_
    refine sz_sipush dX12_remember_12 (cH9009) ?_
    refine sz_icmp_ge 40 dX12_remember_15 (by decide) (fun c15 => ?_) (fun c15 => ?_)
    · have hf := gz_ip c15 hf
      refine sz_weak (l2 := [some (.ref 39), none]) (gz_subk (gz_subn gz_sub0)) ?_
      exact hk40  _ _ hf
    · have hf := gz_in1 c15 hf
      refine sz_aload_n dX12_remember_18 rfl ?_
      refine sz_getR dX12_remember_19 flX12_83 kd39 rfl rf39_40 ?_
      refine sz_iload_n dX12_remember_22 rfl ?_
      refine sz_aload_n dX12_remember_23 rfl ?_
      refine sz_getR dX12_remember_24 flX12_83 kd39 rfl rf39_40 ?_
      refine sz_iload_n dX12_remember_27 rfl ?_
      refine sz_sipush dX12_remember_28 (cH231) ?_
      refine sz_iadd dX12_remember_31 ?_
      obtain ⟨c32, hf⟩ := gz_gd hf
      refine sz_ialdL dX12_remember_32 kd57 c32 rfl ?_
      obtain ⟨c33, hf⟩ := gz_gd hf
      obtain ⟨g33, eg33, hf⟩ := gz_lt hf
      refine sz_iastL dX12_remember_33 kd57 c33 rfl eg33 ?_
      obtain ⟨y34, ey34, hf⟩ := gz_lt hf
      refine sz_iinc (v := y34) dX12_remember_34 rfl (by rw [ey34, cI1]) (Nat.le_of_ble_eq_true rfl) rfl ?_
      refine sz_ls (l2 := [some (.ref 39), some (.int y34)]) rfl ?_
      refine sz_goto 11 dX12_remember_37 (by decide) ?_
      exact ih _ _ _ hf
def fX12_remember (La : gz_L)   (g : gz_S) : Option (gz_S) :=
  if (g.1 39 41) = 40 then fX12_remember_11 La   (fun  g => gz_let (gz_wi g 39 41 ((g.1 39 41) - 1)) (fun g47 => fX12_remember_50 La      g47)) gz_FU 0 g else fX12_remember_50 La      g
set_option maxRecDepth 100000 in
set_option maxHeartbeats 4000000 in
theorem kX12_remember {La : gz_L}   {g : gz_S} {r : gz_S}  (hf : fX12_remember La   g = some r) : gz_K La 1 mX12_remember [.ref 39] g (gz_Fv r) := by
  unfold fX12_remember at hf
  refine gz_K.of 1 (by decide +kernel) rfl ?_
  show gz_J La 1 mX12_remember 0 [some (.ref 39), none] [] g (gz_Fv r)
  refine sz_aload_n dX12_remember_0 rfl ?_
  refine sz_getI dX12_remember_1 flX12_313 kd39 rfl ?_
  refine sz_bipush dX12_remember_4 (cB40) ?_
  refine sz_icmp_ne 50 dX12_remember_6 (by decide) (fun c6 => ?_) (fun c6 => ?_)
  · have hf := gz_in1 c6 hf
    exact tX12_remember_50     _ _ hf
  · have hf := gz_ip c6 hf
    refine sz_iconst dX12_remember_9 (cI0) ?_
    refine sz_istore_n dX12_remember_10 rfl (Nat.le_of_ble_eq_true rfl) rfl ?_
    refine sz_ls (l2 := [some (.ref 39), some (.int 0)]) rfl ?_
    have hk40 : ∀  (g : gz_S) (r : gz_S), (fun  g => gz_let (gz_wi g 39 41 ((g.1 39 41) - 1)) (fun g47 => fX12_remember_50 La      g47))  g = some r → gz_J La 1 mX12_remember 40 [some (.ref 39), none] [] g (gz_Fv r) := by
      intro  g r hf
      refine sz_aload_n dX12_remember_40 rfl ?_
      refine sz_dup dX12_remember_41 rfl ?_
      refine sz_getI dX12_remember_42 flX12_313 kd39 rfl ?_
      refine sz_iconst dX12_remember_45 (cI1) ?_
      refine sz_isub dX12_remember_46 ?_
      obtain ⟨g47, eg47, hf⟩ := gz_lt hf
      refine sz_putI2 dX12_remember_47 flX12_313 kd39 fi12_41 eg47 ?_
      exact tX12_remember_50     _ _ hf
    exact tX12_remember_11   hk40 _ _ _ _ hf
def fX12_hour (La : gz_L)   (g : gz_S) : Option (Int32 × gz_S) :=
  gz_let (gz_wi g 39 0 0) (fun g2 => if (g2.1 39 27) = 0 then some ((-1), g2) else if (g2.1 53 49) = 9999 then some ((-1), g2) else (fX12_remember La   g2).bind (fun q28 => (fX12_goHour La  53 q28).bind (fun q36 => some (q36.1, q36.2))))
set_option maxRecDepth 100000 in
set_option maxHeartbeats 4000000 in
theorem kX12_hour {La : gz_L}   {g : gz_S} {r : Int32 × gz_S}  (hf : fX12_hour La   g = some r) : gz_K La 147 mX12_hour [.ref 39] g (gz_Fi r) := by
  unfold fX12_hour at hf
  refine gz_K.of 0 (by decide +kernel) rfl ?_
  show gz_J La 147 mX12_hour 0 [some (.ref 39)] [] g (gz_Fi r)
  refine sz_aload_n dX12_hour_0 rfl ?_
  refine sz_iconst dX12_hour_1 (cI0) ?_
  obtain ⟨g2, eg2, hf⟩ := gz_lt hf
  refine sz_putI2 dX12_hour_2 flX12_104 kd39 fi12_0 eg2 ?_
  refine sz_aload_n dX12_hour_5 rfl ?_
  refine sz_getI dX12_hour_6 flX12_303 kd39 rfl ?_
  refine sz_if_eq 25 dX12_hour_9 (by decide) (fun c9 => ?_) (fun c9 => ?_)
  · have hf := gz_ip c9 hf
    refine sz_iconst dX12_hour_25 (cIm1) ?_
    cases hf
    exact sz_iret dX12_hour_26 rfl rfl ⟨rfl, rfl⟩
  · have hf := gz_in1 c9 hf
    refine sz_aload_n dX12_hour_12 rfl ?_
    refine sz_getR dX12_hour_13 flX12_64 kd39 rfl rf39_32 ?_
    refine sz_bipush dX12_hour_16 (cB49) ?_
    refine sz_ialdL dX12_hour_18 kd53 vi49_231 tn49 ?_
    refine sz_sipush dX12_hour_19 (cH9999) ?_
    refine sz_icmp_ne 27 dX12_hour_22 (by decide) (fun c22 => ?_) (fun c22 => ?_)
    · have hf := gz_in1 c22 hf
      refine sz_aload_n dX12_hour_27 rfl ?_
      obtain ⟨q28, eq28, hf⟩ := gz_bd hf
      refine sz_callVv [] [] dX12_hour_28 mvX12_380 (Nat.le_of_ble_eq_true rfl) (by decide : 12 < 13) kd39 rfl (Nat.le_of_ble_eq_true rfl) (kX12_remember   eq28) ?_
      refine sz_aload_n dX12_hour_31 rfl ?_
      refine sz_aload_n dX12_hour_32 rfl ?_
      refine sz_getR dX12_hour_33 flX12_64 kd39 rfl rf39_32 ?_
      obtain ⟨q36, eq36, hf⟩ := gz_bd hf
      refine sz_callVi [.ref 53] [] dX12_hour_36 mvX12_383 (Nat.le_of_ble_eq_true rfl) (by decide : 12 < 13) kd39 rfl (Nat.le_of_ble_eq_true rfl) (kX12_goHour  (Or.inl rfl) eq36) ?_
      cases hf
      exact sz_iret dX12_hour_39 rfl rfl ⟨rfl, rfl⟩
    · have hf := gz_ip c22 hf
      refine sz_iconst dX12_hour_25 (cIm1) ?_
      cases hf
      exact sz_iret dX12_hour_26 rfl rfl ⟨rfl, rfl⟩
def fX12_canTide (La : gz_L)  (w1 : Nat) (x2 : Int32) (g : gz_S) : Option (Int32 × gz_S) :=
  (fX12_isIn La  (Int32.toInt64 x2) 0 5 g).bind (fun q6 => if q6.1 = 0 then some (0, q6.2) else if x2 = (q6.2.1 w1 46) then some (0, q6.2) else some (1, q6.2))
set_option maxRecDepth 100000 in
set_option maxHeartbeats 4000000 in
theorem kX12_canTide {La : gz_L}  {w1 : Nat} {x2 : Int32} {g : gz_S} {r : Int32 × gz_S} (hw1 : w1 = 53 ∨ w1 = 54) (hf : fX12_canTide La  w1 x2 g = some r) : gz_K La 2 mX12_canTide [.ref 39, .ref w1, .int x2] g (gz_Fi r) := by
  unfold fX12_canTide at hf
  refine gz_K.of 0 (by decide +kernel) rfl ?_
  show gz_J La 2 mX12_canTide 0 [some (.ref 39), some (.ref w1), some (.int x2)] [] g (gz_Fi r)
  refine sz_iload_n dX12_canTide_0 rfl ?_
  refine sz_i2l dX12_canTide_1 ?_
  refine sz_lconst (v := 0) dX12_canTide_2 rfl ?_
  refine sz_ldc2 dX12_canTide_3 cstlX12_386 ?_
  obtain ⟨q6, eq6, hf⟩ := gz_bd hf
  refine sz_callSi [.long (Int32.toInt64 x2), .long 0, .long 5] [] dX12_canTide_6 msX12_225 (Nat.le_of_ble_eq_true rfl) (Nat.le_of_ble_eq_true rfl) (kX12_isIn   eq6) ?_
  refine sz_if_eq 24 dX12_canTide_9 (by decide) (fun c9 => ?_) (fun c9 => ?_)
  · have hf := gz_ip c9 hf
    refine sz_iconst dX12_canTide_24 (cI0) ?_
    cases hf
    exact sz_iret dX12_canTide_25 rfl rfl ⟨rfl, rfl⟩
  · have hf := gz_in1 c9 hf
    refine sz_iload_n dX12_canTide_12 rfl ?_
    refine sz_aload_n dX12_canTide_13 rfl ?_
    refine sz_bipush dX12_canTide_14 (cB46) ?_
    refine sz_ialdL dX12_canTide_16 (kds_nt hw1) vi46_231 tn46 ?_
    refine sz_icmp_eq 24 dX12_canTide_17 (by decide) (fun c17 => ?_) (fun c17 => ?_)
    · have hf := gz_ip c17 hf
      refine sz_iconst dX12_canTide_24 (cI0) ?_
      cases hf
      exact sz_iret dX12_canTide_25 rfl rfl ⟨rfl, rfl⟩
    · have hf := gz_in1 c17 hf
      refine sz_iconst dX12_canTide_20 (cI1) ?_
      refine sz_goto 25 dX12_canTide_21 (by decide) ?_
      cases hf
      exact sz_iret dX12_canTide_25 rfl rfl ⟨rfl, rfl⟩
def fX12_tide (La : gz_L)  (x1 : Int32) (g : gz_S) : Option (Int32 × gz_S) :=
  gz_let (gz_wi g 39 0 0) (fun g2 => if (g2.1 39 27) = 0 then some ((-1), g2) else (fX12_canTide La  53 x1 g2).bind (fun q18 => if q18.1 = 0 then some ((-1), q18.2) else (fX12_remember La   q18.2).bind (fun q27 => gz_let (q27.1 53 46) (fun y37 => gz_let (gz_wi q27 53 46 x1) (fun g45 => some (y37, g45))))))
set_option maxRecDepth 100000 in
set_option maxHeartbeats 4000000 in
theorem kX12_tide {La : gz_L}  {x1 : Int32} {g : gz_S} {r : Int32 × gz_S}  (hf : fX12_tide La  x1 g = some r) : gz_K La 3 mX12_tide [.ref 39, .int x1] g (gz_Fi r) := by
  unfold fX12_tide at hf
  refine gz_K.of 1 (by decide +kernel) rfl ?_
  show gz_J La 3 mX12_tide 0 [some (.ref 39), some (.int x1), none] [] g (gz_Fi r)
  refine sz_aload_n dX12_tide_0 rfl ?_
  refine sz_iconst dX12_tide_1 (cI0) ?_
  obtain ⟨g2, eg2, hf⟩ := gz_lt hf
  refine sz_putI2 dX12_tide_2 flX12_104 kd39 fi12_0 eg2 ?_
  refine sz_aload_n dX12_tide_5 rfl ?_
  refine sz_getI dX12_tide_6 flX12_303 kd39 rfl ?_
  refine sz_if_eq 24 dX12_tide_9 (by decide) (fun c9 => ?_) (fun c9 => ?_)
  · have hf := gz_ip c9 hf
    refine sz_iconst dX12_tide_24 (cIm1) ?_
    cases hf
    exact sz_iret dX12_tide_25 rfl rfl ⟨rfl, rfl⟩
  · have hf := gz_in1 c9 hf
    refine sz_aload_n dX12_tide_12 rfl ?_
    refine sz_aload_n dX12_tide_13 rfl ?_
    refine sz_getR dX12_tide_14 flX12_64 kd39 rfl rf39_32 ?_
    refine sz_iload_n dX12_tide_17 rfl ?_
    obtain ⟨q18, eq18, hf⟩ := gz_bd hf
    refine sz_callVi [.ref 53, .int x1] [] dX12_tide_18 mvX12_388 (Nat.le_of_ble_eq_true rfl) (by decide : 12 < 13) kd39 rfl (Nat.le_of_ble_eq_true rfl) (kX12_canTide  (Or.inl rfl) eq18) ?_
    refine sz_if_ne 26 dX12_tide_21 (by decide) (fun c21 => ?_) (fun c21 => ?_)
    · have hf := gz_in1 c21 hf
      refine sz_aload_n dX12_tide_26 rfl ?_
      obtain ⟨q27, eq27, hf⟩ := gz_bd hf
      refine sz_callVv [] [] dX12_tide_27 mvX12_380 (Nat.le_of_ble_eq_true rfl) (by decide : 12 < 13) kd39 rfl (Nat.le_of_ble_eq_true rfl) (kX12_remember   eq27) ?_
      refine sz_aload_n dX12_tide_30 rfl ?_
      refine sz_getR dX12_tide_31 flX12_64 kd39 rfl rf39_32 ?_
      refine sz_bipush dX12_tide_34 (cB46) ?_
      refine sz_ialdL dX12_tide_36 kd53 vi46_231 tn46 ?_
      obtain ⟨y37, ey37, hf⟩ := gz_lt hf
      refine sz_topi ey37 ?_
      refine sz_istore_n dX12_tide_37 rfl (Nat.le_of_ble_eq_true rfl) rfl ?_
      refine sz_ls (l2 := [some (.ref 39), some (.int x1), some (.int y37)]) rfl ?_
      refine sz_aload_n dX12_tide_38 rfl ?_
      refine sz_getR dX12_tide_39 flX12_64 kd39 rfl rf39_32 ?_
      refine sz_bipush dX12_tide_42 (cB46) ?_
      refine sz_iload_n dX12_tide_44 rfl ?_
      obtain ⟨g45, eg45, hf⟩ := gz_lt hf
      refine sz_iastL dX12_tide_45 kd53 vi46_231 tn46 eg45 ?_
      refine sz_iload_n dX12_tide_46 rfl ?_
      cases hf
      exact sz_iret dX12_tide_47 rfl rfl ⟨rfl, rfl⟩
    · have hf := gz_ip c21 hf
      refine sz_iconst dX12_tide_24 (cIm1) ?_
      cases hf
      exact sz_iret dX12_tide_25 rfl rfl ⟨rfl, rfl⟩
def fX12_goingOn_45 (La : gz_L)  (w1 : Nat) (k5 : Int32 → Int32 → Int32 → gz_S → Option (Int32 × gz_S)) (x2 : Int32) (x4 : Int32) (s0 : Int32) (s1 : Int32) (g : gz_S) : Option (Int32 × gz_S) := gz_let (s1 ||| s0) (fun y46 => gz_let (x4 + 1) (fun y47 => k5 x2 y46 y47 g))
set_option maxRecDepth 100000 in
set_option maxHeartbeats 4000000 in
theorem tX12_goingOn_45 {La : gz_L}  {w1 : Nat} {k5 : Int32 → Int32 → Int32 → gz_S → Option (Int32 × gz_S)} (hw1 : w1 = 53 ∨ w1 = 54) (hk5 : ∀ (x2 : Int32) (x3 : Int32) (x4 : Int32) (g : gz_S) (r : Int32 × gz_S), k5 x2 x3 x4 g = some r → gz_J La 2 mX12_goingOn 5 [some (.ref 39), some (.ref w1), some (.int x2), some (.int x3), some (.int x4)] [] g (gz_Fi r)) : ∀ (x2 : Int32) (x4 : Int32) (s0 : Int32) (s1 : Int32) (g : gz_S) (r : Int32 × gz_S), fX12_goingOn_45 La  w1 k5 x2 x4 s0 s1 g = some r → gz_J La 2 mX12_goingOn 45 [some (.ref 39), some (.ref w1), some (.int x2), none, some (.int x4)] [.int s0, .int s1] g (gz_Fi r) := by
  intro x2 x4 s0 s1 g r hf
  unfold fX12_goingOn_45 at hf
  refine sz_ior dX12_goingOn_45 ?_
  obtain ⟨y46, ey46, hf⟩ := gz_lt hf
  refine sz_topi ey46 ?_
  refine sz_istore_n dX12_goingOn_46 rfl (Nat.le_of_ble_eq_true rfl) rfl ?_
  refine sz_ls (l2 := [some (.ref 39), some (.ref w1), some (.int x2), some (.int y46), some (.int x4)]) rfl ?_
  obtain ⟨y47, ey47, hf⟩ := gz_lt hf
  refine sz_iinc (v := y47) dX12_goingOn_47 rfl (by rw [ey47, cI1]) (Nat.le_of_ble_eq_true rfl) rfl ?_
  refine sz_ls (l2 := [some (.ref 39), some (.ref w1), some (.int x2), some (.int y46), some (.int y47)]) rfl ?_
  refine sz_goto 5 dX12_goingOn_50 (by decide) ?_
  exact hk5 _ _ _ _ _ hf
def fX12_goingOn_44 (La : gz_L)  (w1 : Nat) (k5 : Int32 → Int32 → Int32 → gz_S → Option (Int32 × gz_S)) (x2 : Int32) (x4 : Int32) (s0 : Int32) (g : gz_S) : Option (Int32 × gz_S) := fX12_goingOn_45 La  w1 k5  x2 x4 0 s0 g
set_option maxRecDepth 100000 in
set_option maxHeartbeats 4000000 in
theorem tX12_goingOn_44 {La : gz_L}  {w1 : Nat} {k5 : Int32 → Int32 → Int32 → gz_S → Option (Int32 × gz_S)} (hw1 : w1 = 53 ∨ w1 = 54) (hk5 : ∀ (x2 : Int32) (x3 : Int32) (x4 : Int32) (g : gz_S) (r : Int32 × gz_S), k5 x2 x3 x4 g = some r → gz_J La 2 mX12_goingOn 5 [some (.ref 39), some (.ref w1), some (.int x2), some (.int x3), some (.int x4)] [] g (gz_Fi r)) : ∀ (x2 : Int32) (x4 : Int32) (s0 : Int32) (g : gz_S) (r : Int32 × gz_S), fX12_goingOn_44 La  w1 k5 x2 x4 s0 g = some r → gz_J La 2 mX12_goingOn 44 [some (.ref 39), some (.ref w1), some (.int x2), none, some (.int x4)] [.int s0] g (gz_Fi r) := by
  intro x2 x4 s0 g r hf
  unfold fX12_goingOn_44 at hf
  refine sz_iconst dX12_goingOn_44 (cI0) ?_
  exact tX12_goingOn_45  hw1 hk5 _ _ _ _ _ _ hf
def fX12_goingOn_5 (La : gz_L)  (w1 : Nat)  : Nat → Int32 → Int32 → Int32 → gz_S → Option (Int32 × gz_S)
  | 0, _, _, _, _ => none
  | n + 1, x2, x3, x4, g => if (g.1 39 27) ≤ x4 then some (x3, g) else (fX12_does La  w1 x4 g).bind (fun q18 => if q18.1 = 0 then fX12_goingOn_44 La  w1 (fX12_goingOn_5 La  w1  n)  x2 x4 x3 q18.2 else if gz_ok ((30 : Int32) + ((4 : Int32) * x4)) 231 then if (q18.2.1 w1 (Int32.toNatClampNeg ((30 : Int32) + ((4 : Int32) * x4)))) = x2 then fX12_goingOn_45 La  w1 (fX12_goingOn_5 La  w1  n)  x2 x4 ((1 : Int32) <<< (x4 &&& 31)) x3 q18.2 else fX12_goingOn_44 La  w1 (fX12_goingOn_5 La  w1  n)  x2 x4 x3 q18.2 else none)
set_option maxRecDepth 100000 in
set_option maxHeartbeats 4000000 in
theorem tX12_goingOn_5 {La : gz_L}  {w1 : Nat}  (hw1 : w1 = 53 ∨ w1 = 54)  : ∀ (n : Nat) (x2 : Int32) (x3 : Int32) (x4 : Int32) (g : gz_S) (r : Int32 × gz_S), fX12_goingOn_5 La  w1  n x2 x3 x4 g = some r → gz_J La 2 mX12_goingOn 5 [some (.ref 39), some (.ref w1), some (.int x2), some (.int x3), some (.int x4)] [] g (gz_Fi r) := by
  intro n
  induction n with
  | zero => intro x2 x3 x4 g r hf; exact nomatch (show (none : Option (Int32 × gz_S)) = some r from hf)
  | succ n ih =>
    intro x2 x3 x4 g r hf
    unfold fX12_goingOn_5 at hf
    refine sz_iload dX12_goingOn_5 rfl ?_
    refine sz_aload_n dX12_goingOn_7 rfl ?_
    refine sz_getI dX12_goingOn_8 flX12_303 kd39 rfl ?_
    refine sz_icmp_ge 53 dX12_goingOn_11 (by decide) (fun c11 => ?_) (fun c11 => ?_)
    · have hf := gz_ip c11 hf
      refine sz_iload_n dX12_goingOn_53 rfl ?_
      cases hf
      exact sz_iret dX12_goingOn_54 rfl rfl ⟨rfl, rfl⟩
    · have hf := gz_in1 c11 hf
      refine sz_iload_n dX12_goingOn_14 rfl ?_
      refine sz_aload_n dX12_goingOn_15 rfl ?_
      refine sz_iload dX12_goingOn_16 rfl ?_
      obtain ⟨q18, eq18, hf⟩ := gz_bd hf
      refine sz_callSi [.ref w1, .int x4] [.int x3] dX12_goingOn_18 msX12_346 (Nat.le_of_ble_eq_true rfl) (Nat.le_of_ble_eq_true rfl) (kX12_does  hw1 eq18) ?_
      refine sz_if_eq 44 dX12_goingOn_21 (by decide) (fun c21 => ?_) (fun c21 => ?_)
      · have hf := gz_ip c21 hf
        refine sz_weak (l2 := [some (.ref 39), some (.ref w1), some (.int x2), none, some (.int x4)]) (gz_subk (gz_subk (gz_subk (gz_subn (gz_subk gz_sub0))))) ?_
        exact tX12_goingOn_44  hw1 ih _ _ _ _ _ hf
      · have hf := gz_in1 c21 hf
        refine sz_aload_n dX12_goingOn_24 rfl ?_
        refine sz_bipush dX12_goingOn_25 (cB30) ?_
        refine sz_iconst dX12_goingOn_27 (cI4) ?_
        refine sz_iload dX12_goingOn_28 rfl ?_
        refine sz_imul dX12_goingOn_30 ?_
        refine sz_iadd dX12_goingOn_31 ?_
        obtain ⟨c32, hf⟩ := gz_gd hf
        refine sz_ialdL dX12_goingOn_32 (kds_nt hw1) c32 rfl ?_
        refine sz_iload_n dX12_goingOn_33 rfl ?_
        refine sz_icmp_ne 44 dX12_goingOn_34 (by decide) (fun c34 => ?_) (fun c34 => ?_)
        · have hf := gz_in1 c34 hf
          refine sz_weak (l2 := [some (.ref 39), some (.ref w1), some (.int x2), none, some (.int x4)]) (gz_subk (gz_subk (gz_subk (gz_subn (gz_subk gz_sub0))))) ?_
          exact tX12_goingOn_44  hw1 ih _ _ _ _ _ hf
        · have hf := gz_ip c34 hf
          refine sz_iconst dX12_goingOn_37 (cI1) ?_
          refine sz_iload dX12_goingOn_38 rfl ?_
          refine sz_ishl dX12_goingOn_40 ?_
          refine sz_goto 45 dX12_goingOn_41 (by decide) ?_
          refine sz_weak (l2 := [some (.ref 39), some (.ref w1), some (.int x2), none, some (.int x4)]) (gz_subk (gz_subk (gz_subk (gz_subn (gz_subk gz_sub0))))) ?_
          exact tX12_goingOn_45  hw1 ih _ _ _ _ _ _ hf
def fX12_goingOn (La : gz_L)  (w1 : Nat) (x2 : Int32) (g : gz_S) : Option (Int32 × gz_S) :=
  fX12_goingOn_5 La  w1  gz_FU x2 0 0 g
set_option maxRecDepth 100000 in
set_option maxHeartbeats 4000000 in
theorem kX12_goingOn {La : gz_L}  {w1 : Nat} {x2 : Int32} {g : gz_S} {r : Int32 × gz_S} (hw1 : w1 = 53 ∨ w1 = 54) (hf : fX12_goingOn La  w1 x2 g = some r) : gz_K La 2 mX12_goingOn [.ref 39, .ref w1, .int x2] g (gz_Fi r) := by
  unfold fX12_goingOn at hf
  refine gz_K.of 2 (by decide +kernel) rfl ?_
  show gz_J La 2 mX12_goingOn 0 [some (.ref 39), some (.ref w1), some (.int x2), none, none] [] g (gz_Fi r)
  refine sz_iconst dX12_goingOn_0 (cI0) ?_
  refine sz_istore_n dX12_goingOn_1 rfl (Nat.le_of_ble_eq_true rfl) rfl ?_
  refine sz_ls (l2 := [some (.ref 39), some (.ref w1), some (.int x2), some (.int 0), none]) rfl ?_
  refine sz_iconst dX12_goingOn_2 (cI0) ?_
  refine sz_istore dX12_goingOn_3 (Nat.le_of_ble_eq_true rfl) rfl ?_
  refine sz_ls (l2 := [some (.ref 39), some (.ref w1), some (.int x2), some (.int 0), some (.int 0)]) rfl ?_
  exact tX12_goingOn_5  hw1  _ _ _ _ _ _ hf
def fX12_stone (La : gz_L)  (x1 : Int32) (g : gz_S) : Option (Int32 × gz_S) :=
  gz_let (gz_wi g 39 0 0) (fun g2 => (fX12_isCell La  x1 g2).bind (fun q7 => if q7.1 = 0 then some ((-1), q7.2) else if gz_ok x1 231 then if 1 < (q7.2.1 53 (Int32.toNatClampNeg x1)) then some ((-1), q7.2) else (fX12_goingOn La  53 x1 q7.2).bind (fun q29 => if q29.1 = 0 then if 2 ≤ (q29.2.1 53 48) then (fX12_remember La   q29.2).bind (fun q49 => gz_let (gz_wi q49 53 48 ((q49.1 53 48) - 2)) (fun g62 => if gz_ok x1 231 then if gz_ok x1 231 then gz_let (gz_wi g62 53 (Int32.toNatClampNeg x1) ((1 : Int32) - (g62.1 53 (Int32.toNatClampNeg x1)))) (fun g76 => if gz_ok x1 231 then some (g76.1 53 (Int32.toNatClampNeg x1), g76) else none) else none else none)) else some ((-1), q29.2) else some ((-1), q29.2)) else none))
set_option maxRecDepth 100000 in
set_option maxHeartbeats 4000000 in
theorem kX12_stone {La : gz_L}  {x1 : Int32} {g : gz_S} {r : Int32 × gz_S}  (hf : fX12_stone La  x1 g = some r) : gz_K La 3 mX12_stone [.ref 39, .int x1] g (gz_Fi r) := by
  unfold fX12_stone at hf
  refine gz_K.of 0 (by decide +kernel) rfl ?_
  show gz_J La 3 mX12_stone 0 [some (.ref 39), some (.int x1)] [] g (gz_Fi r)
  refine sz_aload_n dX12_stone_0 rfl ?_
  refine sz_iconst dX12_stone_1 (cI0) ?_
  obtain ⟨g2, eg2, hf⟩ := gz_lt hf
  refine sz_putI2 dX12_stone_2 flX12_104 kd39 fi12_0 eg2 ?_
  refine sz_aload_n dX12_stone_5 rfl ?_
  refine sz_iload_n dX12_stone_6 rfl ?_
  obtain ⟨q7, eq7, hf⟩ := gz_bd hf
  refine sz_callVi [.int x1] [] dX12_stone_7 mvX12_373 (Nat.le_of_ble_eq_true rfl) (by decide : 12 < 13) kd39 rfl (Nat.le_of_ble_eq_true rfl) (kX12_isCell   eq7) ?_
  refine sz_if_eq 46 dX12_stone_10 (by decide) (fun c10 => ?_) (fun c10 => ?_)
  · have hf := gz_ip c10 hf
    refine sz_iconst dX12_stone_46 (cIm1) ?_
    cases hf
    exact sz_iret dX12_stone_47 rfl rfl ⟨rfl, rfl⟩
  · have hf := gz_in1 c10 hf
    refine sz_aload_n dX12_stone_13 rfl ?_
    refine sz_getR dX12_stone_14 flX12_64 kd39 rfl rf39_32 ?_
    refine sz_iload_n dX12_stone_17 rfl ?_
    obtain ⟨c18, hf⟩ := gz_gd hf
    refine sz_ialdL dX12_stone_18 kd53 c18 rfl ?_
    refine sz_iconst dX12_stone_19 (cI1) ?_
    refine sz_icmp_gt 46 dX12_stone_20 (by decide) (fun c20 => ?_) (fun c20 => ?_)
    · have hf := gz_ip c20 hf
      refine sz_iconst dX12_stone_46 (cIm1) ?_
      cases hf
      exact sz_iret dX12_stone_47 rfl rfl ⟨rfl, rfl⟩
    · have hf := gz_in1 c20 hf
      refine sz_aload_n dX12_stone_23 rfl ?_
      refine sz_aload_n dX12_stone_24 rfl ?_
      refine sz_getR dX12_stone_25 flX12_64 kd39 rfl rf39_32 ?_
      refine sz_iload_n dX12_stone_28 rfl ?_
      obtain ⟨q29, eq29, hf⟩ := gz_bd hf
      refine sz_callVi [.ref 53, .int x1] [] dX12_stone_29 mvX12_391 (Nat.le_of_ble_eq_true rfl) (by decide : 12 < 13) kd39 rfl (Nat.le_of_ble_eq_true rfl) (kX12_goingOn  (Or.inl rfl) eq29) ?_
      refine sz_if_ne 46 dX12_stone_32 (by decide) (fun c32 => ?_) (fun c32 => ?_)
      · have hf := gz_in1 c32 hf
        refine sz_iconst dX12_stone_46 (cIm1) ?_
        cases hf
        exact sz_iret dX12_stone_47 rfl rfl ⟨rfl, rfl⟩
      · have hf := gz_ip c32 hf
        refine sz_aload_n dX12_stone_35 rfl ?_
        refine sz_getR dX12_stone_36 flX12_64 kd39 rfl rf39_32 ?_
        refine sz_bipush dX12_stone_39 (cB48) ?_
        refine sz_ialdL dX12_stone_41 kd53 vi48_231 tn48 ?_
        refine sz_iconst dX12_stone_42 (cI2) ?_
        refine sz_icmp_ge 48 dX12_stone_43 (by decide) (fun c43 => ?_) (fun c43 => ?_)
        · have hf := gz_ip c43 hf
          refine sz_aload_n dX12_stone_48 rfl ?_
          obtain ⟨q49, eq49, hf⟩ := gz_bd hf
          refine sz_callVv [] [] dX12_stone_49 mvX12_380 (Nat.le_of_ble_eq_true rfl) (by decide : 12 < 13) kd39 rfl (Nat.le_of_ble_eq_true rfl) (kX12_remember   eq49) ?_
          refine sz_aload_n dX12_stone_52 rfl ?_
          refine sz_getR dX12_stone_53 flX12_64 kd39 rfl rf39_32 ?_
          refine sz_bipush dX12_stone_56 (cB48) ?_
          refine sz_dup2 dX12_stone_58 rfl rfl ?_
          refine sz_ialdL dX12_stone_59 kd53 vi48_231 tn48 ?_
          refine sz_iconst dX12_stone_60 (cI2) ?_
          refine sz_isub dX12_stone_61 ?_
          obtain ⟨g62, eg62, hf⟩ := gz_lt hf
          refine sz_iastL dX12_stone_62 kd53 vi48_231 tn48 eg62 ?_
          refine sz_aload_n dX12_stone_63 rfl ?_
          refine sz_getR dX12_stone_64 flX12_64 kd39 rfl rf39_32 ?_
          refine sz_iload_n dX12_stone_67 rfl ?_
          refine sz_iconst dX12_stone_68 (cI1) ?_
          refine sz_aload_n dX12_stone_69 rfl ?_
          refine sz_getR dX12_stone_70 flX12_64 kd39 rfl rf39_32 ?_
          refine sz_iload_n dX12_stone_73 rfl ?_
          obtain ⟨c74, hf⟩ := gz_gd hf
          refine sz_ialdL dX12_stone_74 kd53 c74 rfl ?_
          refine sz_isub dX12_stone_75 ?_
          obtain ⟨c76, hf⟩ := gz_gd hf
          obtain ⟨g76, eg76, hf⟩ := gz_lt hf
          refine sz_iastL dX12_stone_76 kd53 c76 rfl eg76 ?_
          refine sz_aload_n dX12_stone_77 rfl ?_
          refine sz_getR dX12_stone_78 flX12_64 kd39 rfl rf39_32 ?_
          refine sz_iload_n dX12_stone_81 rfl ?_
          obtain ⟨c82, hf⟩ := gz_gd hf
          refine sz_ialdL dX12_stone_82 kd53 c82 rfl ?_
          cases hf
          exact sz_iret dX12_stone_83 rfl rfl ⟨rfl, rfl⟩
        · have hf := gz_in1 c43 hf
          refine sz_iconst dX12_stone_46 (cIm1) ?_
          cases hf
          exact sz_iret dX12_stone_47 rfl rfl ⟨rfl, rfl⟩
def fX12_canSweep (La : gz_L)  (w1 : Nat) (x2 : Int32) (g : gz_S) : Option (Int32 × gz_S) :=
  (fX12_isCell La  x2 g).bind (fun q2 => if q2.1 = 0 then some (0, q2.2) else (fX12_goingOn La  w1 x2 q2.2).bind (fun q11 => if q11.1 = 0 then some (0, q11.2) else if (q11.2.1 w1 48) < 1 then some (0, q11.2) else some (1, q11.2)))
set_option maxRecDepth 100000 in
set_option maxHeartbeats 4000000 in
theorem kX12_canSweep {La : gz_L}  {w1 : Nat} {x2 : Int32} {g : gz_S} {r : Int32 × gz_S} (hw1 : w1 = 53 ∨ w1 = 54) (hf : fX12_canSweep La  w1 x2 g = some r) : gz_K La 3 mX12_canSweep [.ref 39, .ref w1, .int x2] g (gz_Fi r) := by
  unfold fX12_canSweep at hf
  refine gz_K.of 0 (by decide +kernel) rfl ?_
  show gz_J La 3 mX12_canSweep 0 [some (.ref 39), some (.ref w1), some (.int x2)] [] g (gz_Fi r)
  refine sz_aload_n dX12_canSweep_0 rfl ?_
  refine sz_iload_n dX12_canSweep_1 rfl ?_
  obtain ⟨q2, eq2, hf⟩ := gz_bd hf
  refine sz_callVi [.int x2] [] dX12_canSweep_2 mvX12_373 (Nat.le_of_ble_eq_true rfl) (by decide : 12 < 13) kd39 rfl (Nat.le_of_ble_eq_true rfl) (kX12_isCell   eq2) ?_
  refine sz_if_eq 29 dX12_canSweep_5 (by decide) (fun c5 => ?_) (fun c5 => ?_)
  · have hf := gz_ip c5 hf
    refine sz_iconst dX12_canSweep_29 (cI0) ?_
    cases hf
    exact sz_iret dX12_canSweep_30 rfl rfl ⟨rfl, rfl⟩
  · have hf := gz_in1 c5 hf
    refine sz_aload_n dX12_canSweep_8 rfl ?_
    refine sz_aload_n dX12_canSweep_9 rfl ?_
    refine sz_iload_n dX12_canSweep_10 rfl ?_
    obtain ⟨q11, eq11, hf⟩ := gz_bd hf
    refine sz_callVi [.ref w1, .int x2] [] dX12_canSweep_11 mvX12_391 (Nat.le_of_ble_eq_true rfl) (by decide : 12 < 13) kd39 rfl (Nat.le_of_ble_eq_true rfl) (kX12_goingOn  hw1 eq11) ?_
    refine sz_if_eq 29 dX12_canSweep_14 (by decide) (fun c14 => ?_) (fun c14 => ?_)
    · have hf := gz_ip c14 hf
      refine sz_iconst dX12_canSweep_29 (cI0) ?_
      cases hf
      exact sz_iret dX12_canSweep_30 rfl rfl ⟨rfl, rfl⟩
    · have hf := gz_in1 c14 hf
      refine sz_aload_n dX12_canSweep_17 rfl ?_
      refine sz_bipush dX12_canSweep_18 (cB48) ?_
      refine sz_ialdL dX12_canSweep_20 (kds_nt hw1) vi48_231 tn48 ?_
      refine sz_iconst dX12_canSweep_21 (cI1) ?_
      refine sz_icmp_lt 29 dX12_canSweep_22 (by decide) (fun c22 => ?_) (fun c22 => ?_)
      · have hf := gz_ip c22 hf
        refine sz_iconst dX12_canSweep_29 (cI0) ?_
        cases hf
        exact sz_iret dX12_canSweep_30 rfl rfl ⟨rfl, rfl⟩
      · have hf := gz_in1 c22 hf
        refine sz_iconst dX12_canSweep_25 (cI1) ?_
        refine sz_goto 30 dX12_canSweep_26 (by decide) ?_
        cases hf
        exact sz_iret dX12_canSweep_30 rfl rfl ⟨rfl, rfl⟩
def fX12_sweeps_48 (La : gz_L)  (w1 : Nat) (k18 : Int32 → Int32 → gz_S → Option (Int32 × gz_S)) (x3 : Int32) (x4 : Int32) (g : gz_S) : Option (Int32 × gz_S) := gz_let (x4 + 1) (fun y48 => k18 x3 y48 g)
set_option maxRecDepth 100000 in
set_option maxHeartbeats 4000000 in
theorem tX12_sweeps_48 {La : gz_L}  {w1 : Nat} {k18 : Int32 → Int32 → gz_S → Option (Int32 × gz_S)} (hw1 : w1 = 53 ∨ w1 = 54) (hk18 : ∀ (x3 : Int32) (x4 : Int32) (g : gz_S) (r : Int32 × gz_S), k18 x3 x4 g = some r → gz_J La 3 mX12_sweeps 18 [some (.ref 39), some (.ref w1), none, some (.int x3), some (.int x4)] [] g (gz_Fi r)) : ∀ (x3 : Int32) (x4 : Int32) (g : gz_S) (r : Int32 × gz_S), fX12_sweeps_48 La  w1 k18 x3 x4 g = some r → gz_J La 3 mX12_sweeps 48 [some (.ref 39), some (.ref w1), none, some (.int x3), some (.int x4)] [] g (gz_Fi r) := by
  intro x3 x4 g r hf
  unfold fX12_sweeps_48 at hf
  obtain ⟨y48, ey48, hf⟩ := gz_lt hf
  refine sz_iinc (v := y48) dX12_sweeps_48 rfl (by rw [ey48, cI1]) (Nat.le_of_ble_eq_true rfl) rfl ?_
  refine sz_ls (l2 := [some (.ref 39), some (.ref w1), none, some (.int x3), some (.int y48)]) rfl ?_
  refine sz_goto 18 dX12_sweeps_51 (by decide) ?_
  exact hk18 _ _ _ _ hf
def fX12_sweeps_18 (La : gz_L)  (w1 : Nat) (k54 : Int32 → gz_S → Option (Int32 × gz_S)) : Nat → Int32 → Int32 → gz_S → Option (Int32 × gz_S)
  | 0, _, _, _ => none
  | n + 1, x3, x4, g => if (g.1 39 27) ≤ x4 then k54 x3 g else (fX12_has La  x3 x4 g).bind (fun q30 => if q30.1 = 0 then fX12_sweeps_48 La  w1 (fX12_sweeps_18 La  w1 k54 n)  x3 x4 q30.2 else if gz_ok (((30 : Int32) + ((4 : Int32) * x4)) + 3) 231 then gz_let (gz_wi q30.2 w1 (Int32.toNatClampNeg (((30 : Int32) + ((4 : Int32) * x4)) + 3)) 2) (fun g47 => fX12_sweeps_48 La  w1 (fX12_sweeps_18 La  w1 k54 n)  x3 x4 g47) else none)
set_option maxRecDepth 100000 in
set_option maxHeartbeats 4000000 in
theorem tX12_sweeps_18 {La : gz_L}  {w1 : Nat} {k54 : Int32 → gz_S → Option (Int32 × gz_S)} (hw1 : w1 = 53 ∨ w1 = 54) (hk54 : ∀ (x3 : Int32) (g : gz_S) (r : Int32 × gz_S), k54 x3 g = some r → gz_J La 3 mX12_sweeps 54 [none, none, none, some (.int x3), none] [] g (gz_Fi r)) : ∀ (n : Nat) (x3 : Int32) (x4 : Int32) (g : gz_S) (r : Int32 × gz_S), fX12_sweeps_18 La  w1 k54 n x3 x4 g = some r → gz_J La 3 mX12_sweeps 18 [some (.ref 39), some (.ref w1), none, some (.int x3), some (.int x4)] [] g (gz_Fi r) := by
  intro n
  induction n with
  | zero => intro x3 x4 g r hf; exact nomatch (show (none : Option (Int32 × gz_S)) = some r from hf)
  | succ n ih =>
    intro x3 x4 g r hf
    unfold fX12_sweeps_18 at hf
    refine sz_iload dX12_sweeps_18 rfl ?_
    refine sz_aload_n dX12_sweeps_20 rfl ?_
    refine sz_getI dX12_sweeps_21 flX12_303 kd39 rfl ?_
    refine sz_icmp_ge 54 dX12_sweeps_24 (by decide) (fun c24 => ?_) (fun c24 => ?_)
    · have hf := gz_ip c24 hf
      refine sz_weak (l2 := [none, none, none, some (.int x3), none]) (gz_subn (gz_subn (gz_subk (gz_subk (gz_subn gz_sub0))))) ?_
      exact hk54 _ _ _ hf
    · have hf := gz_in1 c24 hf
      refine sz_iload_n dX12_sweeps_27 rfl ?_
      refine sz_iload dX12_sweeps_28 rfl ?_
      obtain ⟨q30, eq30, hf⟩ := gz_bd hf
      refine sz_callSi [.int x3, .int x4] [] dX12_sweeps_30 msX12_237 (Nat.le_of_ble_eq_true rfl) (Nat.le_of_ble_eq_true rfl) (kX12_has   eq30) ?_
      refine sz_if_eq 48 dX12_sweeps_33 (by decide) (fun c33 => ?_) (fun c33 => ?_)
      · have hf := gz_ip c33 hf
        exact tX12_sweeps_48  hw1 ih _ _ _ _ hf
      · have hf := gz_in1 c33 hf
        refine sz_aload_n dX12_sweeps_36 rfl ?_
        refine sz_bipush dX12_sweeps_37 (cB30) ?_
        refine sz_iconst dX12_sweeps_39 (cI4) ?_
        refine sz_iload dX12_sweeps_40 rfl ?_
        refine sz_imul dX12_sweeps_42 ?_
        refine sz_iadd dX12_sweeps_43 ?_
        refine sz_iconst dX12_sweeps_44 (cI3) ?_
        refine sz_iadd dX12_sweeps_45 ?_
        refine sz_iconst dX12_sweeps_46 (cI2) ?_
        obtain ⟨c47, hf⟩ := gz_gd hf
        obtain ⟨g47, eg47, hf⟩ := gz_lt hf
        refine sz_iastL dX12_sweeps_47 (kds_nt hw1) c47 rfl eg47 ?_
        exact tX12_sweeps_48  hw1 ih _ _ _ _ hf
def fX12_sweeps (La : gz_L)  (w1 : Nat) (x2 : Int32) (g : gz_S) : Option (Int32 × gz_S) :=
  (fX12_goingOn La  w1 x2 g).bind (fun q3 => gz_let (gz_wi q3.2 w1 48 ((q3.2.1 w1 48) - 1)) (fun g14 => fX12_sweeps_18 La  w1 (fun (x3 : Int32) g => (fJ6_bitCount_0f7a4 La  x3 g).bind (fun q55 => some (q55.1, q55.2))) gz_FU q3.1 0 g14))
set_option maxRecDepth 100000 in
set_option maxHeartbeats 4000000 in
theorem kX12_sweeps {La : gz_L}  {w1 : Nat} {x2 : Int32} {g : gz_S} {r : Int32 × gz_S} (hw1 : w1 = 53 ∨ w1 = 54) (hf : fX12_sweeps La  w1 x2 g = some r) : gz_K La 3 mX12_sweeps [.ref 39, .ref w1, .int x2] g (gz_Fi r) := by
  unfold fX12_sweeps at hf
  refine gz_K.of 2 (by decide +kernel) rfl ?_
  show gz_J La 3 mX12_sweeps 0 [some (.ref 39), some (.ref w1), some (.int x2), none, none] [] g (gz_Fi r)
  refine sz_aload_n dX12_sweeps_0 rfl ?_
  refine sz_aload_n dX12_sweeps_1 rfl ?_
  refine sz_iload_n dX12_sweeps_2 rfl ?_
  obtain ⟨q3, eq3, hf⟩ := gz_bd hf
  refine sz_callVi [.ref w1, .int x2] [] dX12_sweeps_3 mvX12_391 (Nat.le_of_ble_eq_true rfl) (by decide : 12 < 13) kd39 rfl (Nat.le_of_ble_eq_true rfl) (kX12_goingOn  hw1 eq3) ?_
  refine sz_istore_n dX12_sweeps_6 rfl (Nat.le_of_ble_eq_true rfl) rfl ?_
  refine sz_ls (l2 := [some (.ref 39), some (.ref w1), some (.int x2), some (.int q3.1), none]) rfl ?_
  refine sz_aload_n dX12_sweeps_7 rfl ?_
  refine sz_bipush dX12_sweeps_8 (cB48) ?_
  refine sz_dup2 dX12_sweeps_10 rfl rfl ?_
  refine sz_ialdL dX12_sweeps_11 (kds_nt hw1) vi48_231 tn48 ?_
  refine sz_iconst dX12_sweeps_12 (cI1) ?_
  refine sz_isub dX12_sweeps_13 ?_
  obtain ⟨g14, eg14, hf⟩ := gz_lt hf
  refine sz_iastL dX12_sweeps_14 (kds_nt hw1) vi48_231 tn48 eg14 ?_
  refine sz_iconst dX12_sweeps_15 (cI0) ?_
  refine sz_istore dX12_sweeps_16 (Nat.le_of_ble_eq_true rfl) rfl ?_
  refine sz_ls (l2 := [some (.ref 39), some (.ref w1), some (.int x2), some (.int q3.1), some (.int 0)]) rfl ?_
  have hk54 : ∀ (x3 : Int32) (g : gz_S) (r : Int32 × gz_S), (fun (x3 : Int32) g => (fJ6_bitCount_0f7a4 La  x3 g).bind (fun q55 => some (q55.1, q55.2))) x3 g = some r → gz_J La 3 mX12_sweeps 54 [none, none, none, some (.int x3), none] [] g (gz_Fi r) := by
    intro x3 g r hf
    refine sz_iload_n dX12_sweeps_54 rfl ?_
    obtain ⟨q55, eq55, hf⟩ := gz_bd hf
    refine sz_callSi [.int x3] [] dX12_sweeps_55 msX12_395 (Nat.le_of_ble_eq_true rfl) (Nat.le_of_ble_eq_true rfl) (kJ6_bitCount_0f7a4   eq55) ?_
    cases hf
    exact sz_iret dX12_sweeps_58 rfl rfl ⟨rfl, rfl⟩
  refine sz_weak (l2 := [some (.ref 39), some (.ref w1), none, some (.int q3.1), some (.int 0)]) (gz_subk (gz_subk (gz_subn (gz_subk (gz_subk gz_sub0))))) ?_
  exact tX12_sweeps_18  hw1 hk54 _ _ _ _ _ hf
def fX12_sweep (La : gz_L)  (x1 : Int32) (g : gz_S) : Option (Int32 × gz_S) :=
  gz_let (gz_wi g 39 0 0) (fun g2 => (fX12_canSweep La  53 x1 g2).bind (fun q11 => if q11.1 = 0 then some ((-1), q11.2) else (fX12_remember La   q11.2).bind (fun q20 => (fX12_sweeps La  53 x1 q20).bind (fun q29 => some (q29.1, q29.2)))))
set_option maxRecDepth 100000 in
set_option maxHeartbeats 4000000 in
theorem kX12_sweep {La : gz_L}  {x1 : Int32} {g : gz_S} {r : Int32 × gz_S}  (hf : fX12_sweep La  x1 g = some r) : gz_K La 4 mX12_sweep [.ref 39, .int x1] g (gz_Fi r) := by
  unfold fX12_sweep at hf
  refine gz_K.of 0 (by decide +kernel) rfl ?_
  show gz_J La 4 mX12_sweep 0 [some (.ref 39), some (.int x1)] [] g (gz_Fi r)
  refine sz_aload_n dX12_sweep_0 rfl ?_
  refine sz_iconst dX12_sweep_1 (cI0) ?_
  obtain ⟨g2, eg2, hf⟩ := gz_lt hf
  refine sz_putI2 dX12_sweep_2 flX12_104 kd39 fi12_0 eg2 ?_
  refine sz_aload_n dX12_sweep_5 rfl ?_
  refine sz_aload_n dX12_sweep_6 rfl ?_
  refine sz_getR dX12_sweep_7 flX12_64 kd39 rfl rf39_32 ?_
  refine sz_iload_n dX12_sweep_10 rfl ?_
  obtain ⟨q11, eq11, hf⟩ := gz_bd hf
  refine sz_callVi [.ref 53, .int x1] [] dX12_sweep_11 mvX12_400 (Nat.le_of_ble_eq_true rfl) (by decide : 12 < 13) kd39 rfl (Nat.le_of_ble_eq_true rfl) (kX12_canSweep  (Or.inl rfl) eq11) ?_
  refine sz_if_ne 19 dX12_sweep_14 (by decide) (fun c14 => ?_) (fun c14 => ?_)
  · have hf := gz_in1 c14 hf
    refine sz_aload_n dX12_sweep_19 rfl ?_
    obtain ⟨q20, eq20, hf⟩ := gz_bd hf
    refine sz_callVv [] [] dX12_sweep_20 mvX12_380 (Nat.le_of_ble_eq_true rfl) (by decide : 12 < 13) kd39 rfl (Nat.le_of_ble_eq_true rfl) (kX12_remember   eq20) ?_
    refine sz_aload_n dX12_sweep_23 rfl ?_
    refine sz_aload_n dX12_sweep_24 rfl ?_
    refine sz_getR dX12_sweep_25 flX12_64 kd39 rfl rf39_32 ?_
    refine sz_iload_n dX12_sweep_28 rfl ?_
    obtain ⟨q29, eq29, hf⟩ := gz_bd hf
    refine sz_callVi [.ref 53, .int x1] [] dX12_sweep_29 mvX12_403 (Nat.le_of_ble_eq_true rfl) (by decide : 12 < 13) kd39 rfl (Nat.le_of_ble_eq_true rfl) (kX12_sweeps  (Or.inl rfl) eq29) ?_
    cases hf
    exact sz_iret dX12_sweep_32 rfl rfl ⟨rfl, rfl⟩
  · have hf := gz_ip c14 hf
    refine sz_iconst dX12_sweep_17 (cIm1) ?_
    cases hf
    exact sz_iret dX12_sweep_18 rfl rfl ⟨rfl, rfl⟩
def fX12_canBegin (La : gz_L)  (w1 : Nat) (x2 : Int32) (x3 : Int32) (g : gz_S) : Option (Int32 × gz_S) :=
  (fX12_isGoer La  x2 g).bind (fun q2 => if q2.1 = 0 then some (0, q2.2) else (fX12_isIn La  (Int32.toInt64 x3) 0 3 q2.2).bind (fun q14 => if q14.1 = 0 then some (0, q14.2) else (fX12_startOf La  x2 q14.2).bind (fun q23 => if gz_ok q23.1 231 then if (q23.2.1 w1 (Int32.toNatClampNeg q23.1)) = 1 then some (0, q23.2) else some (1, q23.2) else none)))
set_option maxRecDepth 100000 in
set_option maxHeartbeats 4000000 in
theorem kX12_canBegin {La : gz_L}  {w1 : Nat} {x2 : Int32} {x3 : Int32} {g : gz_S} {r : Int32 × gz_S} (hw1 : w1 = 53 ∨ w1 = 54) (hf : fX12_canBegin La  w1 x2 x3 g = some r) : gz_K La 2 mX12_canBegin [.ref 39, .ref w1, .int x2, .int x3] g (gz_Fi r) := by
  unfold fX12_canBegin at hf
  refine gz_K.of 0 (by decide +kernel) rfl ?_
  show gz_J La 2 mX12_canBegin 0 [some (.ref 39), some (.ref w1), some (.int x2), some (.int x3)] [] g (gz_Fi r)
  refine sz_aload_n dX12_canBegin_0 rfl ?_
  refine sz_iload_n dX12_canBegin_1 rfl ?_
  obtain ⟨q2, eq2, hf⟩ := gz_bd hf
  refine sz_callVi [.int x2] [] dX12_canBegin_2 mvX12_325 (Nat.le_of_ble_eq_true rfl) (by decide : 12 < 13) kd39 rfl (Nat.le_of_ble_eq_true rfl) (kX12_isGoer   eq2) ?_
  refine sz_if_eq 35 dX12_canBegin_5 (by decide) (fun c5 => ?_) (fun c5 => ?_)
  · have hf := gz_ip c5 hf
    refine sz_iconst dX12_canBegin_35 (cI0) ?_
    cases hf
    exact sz_iret dX12_canBegin_36 rfl rfl ⟨rfl, rfl⟩
  · have hf := gz_in1 c5 hf
    refine sz_iload_n dX12_canBegin_8 rfl ?_
    refine sz_i2l dX12_canBegin_9 ?_
    refine sz_lconst (v := 0) dX12_canBegin_10 rfl ?_
    refine sz_ldc2 dX12_canBegin_11 cstlX12_406 ?_
    obtain ⟨q14, eq14, hf⟩ := gz_bd hf
    refine sz_callSi [.long (Int32.toInt64 x3), .long 0, .long 3] [] dX12_canBegin_14 msX12_225 (Nat.le_of_ble_eq_true rfl) (Nat.le_of_ble_eq_true rfl) (kX12_isIn   eq14) ?_
    refine sz_if_eq 35 dX12_canBegin_17 (by decide) (fun c17 => ?_) (fun c17 => ?_)
    · have hf := gz_ip c17 hf
      refine sz_iconst dX12_canBegin_35 (cI0) ?_
      cases hf
      exact sz_iret dX12_canBegin_36 rfl rfl ⟨rfl, rfl⟩
    · have hf := gz_in1 c17 hf
      refine sz_aload_n dX12_canBegin_20 rfl ?_
      refine sz_aload_n dX12_canBegin_21 rfl ?_
      refine sz_iload_n dX12_canBegin_22 rfl ?_
      obtain ⟨q23, eq23, hf⟩ := gz_bd hf
      refine sz_callVi [.int x2] [.ref w1] dX12_canBegin_23 mvX12_322 (Nat.le_of_ble_eq_true rfl) (by decide : 12 < 13) kd39 rfl (Nat.le_of_ble_eq_true rfl) (kX12_startOf   eq23) ?_
      obtain ⟨c26, hf⟩ := gz_gd hf
      refine sz_ialdL dX12_canBegin_26 (kds_nt hw1) c26 rfl ?_
      refine sz_iconst dX12_canBegin_27 (cI1) ?_
      refine sz_icmp_eq 35 dX12_canBegin_28 (by decide) (fun c28 => ?_) (fun c28 => ?_)
      · have hf := gz_ip c28 hf
        refine sz_iconst dX12_canBegin_35 (cI0) ?_
        cases hf
        exact sz_iret dX12_canBegin_36 rfl rfl ⟨rfl, rfl⟩
      · have hf := gz_in1 c28 hf
        refine sz_iconst dX12_canBegin_31 (cI1) ?_
        refine sz_goto 36 dX12_canBegin_32 (by decide) ?_
        cases hf
        exact sz_iret dX12_canBegin_36 rfl rfl ⟨rfl, rfl⟩
def fX12_begins0 (La : gz_L)  (w1 : Nat) (x2 : Int32) (x3 : Int32) (g : gz_S) : Option (gz_S) :=
  gz_let ((30 : Int32) + ((4 : Int32) * x2)) (fun y6 => (fX12_startOf La  x2 g).bind (fun q15 => if gz_ok (y6 + 0) 231 then gz_let (gz_wi q15.2 w1 (Int32.toNatClampNeg (y6 + 0)) q15.1) (fun g18 => if gz_ok (y6 + 1) 231 then gz_let (gz_wi g18 w1 (Int32.toNatClampNeg (y6 + 1)) x3) (fun g25 => if gz_ok (y6 + 2) 231 then gz_let (gz_wi g25 w1 (Int32.toNatClampNeg (y6 + 2)) 0) (fun g32 => if gz_ok (y6 + 3) 231 then gz_let (gz_wi g32 w1 (Int32.toNatClampNeg (y6 + 3)) 0) (fun g39 => some g39) else none) else none) else none) else none))
set_option maxRecDepth 100000 in
set_option maxHeartbeats 4000000 in
theorem kX12_begins0 {La : gz_L}  {w1 : Nat} {x2 : Int32} {x3 : Int32} {g : gz_S} {r : gz_S} (hw1 : w1 = 53 ∨ w1 = 54) (hf : fX12_begins0 La  w1 x2 x3 g = some r) : gz_K La 2 mX12_begins0 [.ref 39, .ref w1, .int x2, .int x3] g (gz_Fv r) := by
  unfold fX12_begins0 at hf
  refine gz_K.of 1 (by decide +kernel) rfl ?_
  show gz_J La 2 mX12_begins0 0 [some (.ref 39), some (.ref w1), some (.int x2), some (.int x3), none] [] g (gz_Fv r)
  refine sz_bipush dX12_begins0_0 (cB30) ?_
  refine sz_iconst dX12_begins0_2 (cI4) ?_
  refine sz_iload_n dX12_begins0_3 rfl ?_
  refine sz_imul dX12_begins0_4 ?_
  refine sz_iadd dX12_begins0_5 ?_
  obtain ⟨y6, ey6, hf⟩ := gz_lt hf
  refine sz_topi ey6 ?_
  refine sz_istore dX12_begins0_6 (Nat.le_of_ble_eq_true rfl) rfl ?_
  refine sz_ls (l2 := [some (.ref 39), some (.ref w1), some (.int x2), some (.int x3), some (.int y6)]) rfl ?_
  refine sz_aload_n dX12_begins0_8 rfl ?_
  refine sz_iload dX12_begins0_9 rfl ?_
  refine sz_iconst dX12_begins0_11 (cI0) ?_
  refine sz_iadd dX12_begins0_12 ?_
  refine sz_aload_n dX12_begins0_13 rfl ?_
  refine sz_iload_n dX12_begins0_14 rfl ?_
  obtain ⟨q15, eq15, hf⟩ := gz_bd hf
  refine sz_callVi [.int x2] [.int (y6 + 0), .ref w1] dX12_begins0_15 mvX12_322 (Nat.le_of_ble_eq_true rfl) (by decide : 12 < 13) kd39 rfl (Nat.le_of_ble_eq_true rfl) (kX12_startOf   eq15) ?_
  obtain ⟨c18, hf⟩ := gz_gd hf
  obtain ⟨g18, eg18, hf⟩ := gz_lt hf
  refine sz_iastL dX12_begins0_18 (kds_nt hw1) c18 rfl eg18 ?_
  refine sz_aload_n dX12_begins0_19 rfl ?_
  refine sz_iload dX12_begins0_20 rfl ?_
  refine sz_iconst dX12_begins0_22 (cI1) ?_
  refine sz_iadd dX12_begins0_23 ?_
  refine sz_iload_n dX12_begins0_24 rfl ?_
  obtain ⟨c25, hf⟩ := gz_gd hf
  obtain ⟨g25, eg25, hf⟩ := gz_lt hf
  refine sz_iastL dX12_begins0_25 (kds_nt hw1) c25 rfl eg25 ?_
  refine sz_aload_n dX12_begins0_26 rfl ?_
  refine sz_iload dX12_begins0_27 rfl ?_
  refine sz_iconst dX12_begins0_29 (cI2) ?_
  refine sz_iadd dX12_begins0_30 ?_
  refine sz_iconst dX12_begins0_31 (cI0) ?_
  obtain ⟨c32, hf⟩ := gz_gd hf
  obtain ⟨g32, eg32, hf⟩ := gz_lt hf
  refine sz_iastL dX12_begins0_32 (kds_nt hw1) c32 rfl eg32 ?_
  refine sz_aload_n dX12_begins0_33 rfl ?_
  refine sz_iload dX12_begins0_34 rfl ?_
  refine sz_iconst dX12_begins0_36 (cI3) ?_
  refine sz_iadd dX12_begins0_37 ?_
  refine sz_iconst dX12_begins0_38 (cI0) ?_
  obtain ⟨c39, hf⟩ := gz_gd hf
  obtain ⟨g39, eg39, hf⟩ := gz_lt hf
  refine sz_iastL dX12_begins0_39 (kds_nt hw1) c39 rfl eg39 ?_
  cases hf
  exact sz_ret dX12_begins0_40 rfl ⟨rfl, rfl⟩
def fX12_anew (La : gz_L)  (x1 : Int32) (x2 : Int32) (g : gz_S) : Option (Int32 × gz_S) :=
  gz_let (gz_wi g 39 0 0) (fun g2 => (fX12_canBegin La  53 x1 x2 g2).bind (fun q12 => if q12.1 = 0 then some ((-1), q12.2) else if 3 ≤ (q12.2.1 53 48) then (fX12_remember La   q12.2).bind (fun q32 => gz_let (gz_wi q32 53 48 ((q32.1 53 48) - 3)) (fun g45 => (fX12_begins0 La  53 x1 x2 g45).bind (fun q53 => (fX12_startOf La  x1 q53).bind (fun q58 => some (q58.1, q58.2))))) else some ((-1), q12.2)))
set_option maxRecDepth 100000 in
set_option maxHeartbeats 4000000 in
theorem kX12_anew {La : gz_L}  {x1 : Int32} {x2 : Int32} {g : gz_S} {r : Int32 × gz_S}  (hf : fX12_anew La  x1 x2 g = some r) : gz_K La 3 mX12_anew [.ref 39, .int x1, .int x2] g (gz_Fi r) := by
  unfold fX12_anew at hf
  refine gz_K.of 0 (by decide +kernel) rfl ?_
  show gz_J La 3 mX12_anew 0 [some (.ref 39), some (.int x1), some (.int x2)] [] g (gz_Fi r)
  refine sz_aload_n dX12_anew_0 rfl ?_
  refine sz_iconst dX12_anew_1 (cI0) ?_
  obtain ⟨g2, eg2, hf⟩ := gz_lt hf
  refine sz_putI2 dX12_anew_2 flX12_104 kd39 fi12_0 eg2 ?_
  refine sz_aload_n dX12_anew_5 rfl ?_
  refine sz_aload_n dX12_anew_6 rfl ?_
  refine sz_getR dX12_anew_7 flX12_64 kd39 rfl rf39_32 ?_
  refine sz_iload_n dX12_anew_10 rfl ?_
  refine sz_iload_n dX12_anew_11 rfl ?_
  obtain ⟨q12, eq12, hf⟩ := gz_bd hf
  refine sz_callVi [.ref 53, .int x1, .int x2] [] dX12_anew_12 mvX12_408 (Nat.le_of_ble_eq_true rfl) (by decide : 12 < 13) kd39 rfl (Nat.le_of_ble_eq_true rfl) (kX12_canBegin  (Or.inl rfl) eq12) ?_
  refine sz_if_eq 29 dX12_anew_15 (by decide) (fun c15 => ?_) (fun c15 => ?_)
  · have hf := gz_ip c15 hf
    refine sz_iconst dX12_anew_29 (cIm1) ?_
    cases hf
    exact sz_iret dX12_anew_30 rfl rfl ⟨rfl, rfl⟩
  · have hf := gz_in1 c15 hf
    refine sz_aload_n dX12_anew_18 rfl ?_
    refine sz_getR dX12_anew_19 flX12_64 kd39 rfl rf39_32 ?_
    refine sz_bipush dX12_anew_22 (cB48) ?_
    refine sz_ialdL dX12_anew_24 kd53 vi48_231 tn48 ?_
    refine sz_iconst dX12_anew_25 (cI3) ?_
    refine sz_icmp_ge 31 dX12_anew_26 (by decide) (fun c26 => ?_) (fun c26 => ?_)
    · have hf := gz_ip c26 hf
      refine sz_aload_n dX12_anew_31 rfl ?_
      obtain ⟨q32, eq32, hf⟩ := gz_bd hf
      refine sz_callVv [] [] dX12_anew_32 mvX12_380 (Nat.le_of_ble_eq_true rfl) (by decide : 12 < 13) kd39 rfl (Nat.le_of_ble_eq_true rfl) (kX12_remember   eq32) ?_
      refine sz_aload_n dX12_anew_35 rfl ?_
      refine sz_getR dX12_anew_36 flX12_64 kd39 rfl rf39_32 ?_
      refine sz_bipush dX12_anew_39 (cB48) ?_
      refine sz_dup2 dX12_anew_41 rfl rfl ?_
      refine sz_ialdL dX12_anew_42 kd53 vi48_231 tn48 ?_
      refine sz_iconst dX12_anew_43 (cI3) ?_
      refine sz_isub dX12_anew_44 ?_
      obtain ⟨g45, eg45, hf⟩ := gz_lt hf
      refine sz_iastL dX12_anew_45 kd53 vi48_231 tn48 eg45 ?_
      refine sz_aload_n dX12_anew_46 rfl ?_
      refine sz_aload_n dX12_anew_47 rfl ?_
      refine sz_getR dX12_anew_48 flX12_64 kd39 rfl rf39_32 ?_
      refine sz_iload_n dX12_anew_51 rfl ?_
      refine sz_iload_n dX12_anew_52 rfl ?_
      obtain ⟨q53, eq53, hf⟩ := gz_bd hf
      refine sz_callVv [.ref 53, .int x1, .int x2] [] dX12_anew_53 mvX12_412 (Nat.le_of_ble_eq_true rfl) (by decide : 12 < 13) kd39 rfl (Nat.le_of_ble_eq_true rfl) (kX12_begins0  (Or.inl rfl) eq53) ?_
      refine sz_aload_n dX12_anew_56 rfl ?_
      refine sz_iload_n dX12_anew_57 rfl ?_
      obtain ⟨q58, eq58, hf⟩ := gz_bd hf
      refine sz_callVi [.int x1] [] dX12_anew_58 mvX12_322 (Nat.le_of_ble_eq_true rfl) (by decide : 12 < 13) kd39 rfl (Nat.le_of_ble_eq_true rfl) (kX12_startOf   eq58) ?_
      cases hf
      exact sz_iret dX12_anew_61 rfl rfl ⟨rfl, rfl⟩
    · have hf := gz_in1 c26 hf
      refine sz_iconst dX12_anew_29 (cIm1) ?_
      cases hf
      exact sz_iret dX12_anew_30 rfl rfl ⟨rfl, rfl⟩
def fX12_give (La : gz_L)  (x1 : Int32) (g : gz_S) : Option (Int32 × gz_S) :=
  gz_let (gz_wi g 39 0 0) (fun g2 => if (g2.1 39 27) = 0 then some ((-1), g2) else (fX12_isIn La  (Int32.toInt64 x1) 1 50 g2).bind (fun q18 => if q18.1 = 0 then some ((-1), q18.2) else if ((q18.2.1 53 48) + x1) ≤ 999 then (fX12_remember La   q18.2).bind (fun q42 => gz_let (gz_wi q42 53 48 ((q42.1 53 48) + x1)) (fun g55 => some (g55.1 53 48, g55))) else some ((-1), q18.2)))
set_option maxRecDepth 100000 in
set_option maxHeartbeats 4000000 in
theorem kX12_give {La : gz_L}  {x1 : Int32} {g : gz_S} {r : Int32 × gz_S}  (hf : fX12_give La  x1 g = some r) : gz_K La 2 mX12_give [.ref 39, .int x1] g (gz_Fi r) := by
  unfold fX12_give at hf
  refine gz_K.of 0 (by decide +kernel) rfl ?_
  show gz_J La 2 mX12_give 0 [some (.ref 39), some (.int x1)] [] g (gz_Fi r)
  refine sz_aload_n dX12_give_0 rfl ?_
  refine sz_iconst dX12_give_1 (cI0) ?_
  obtain ⟨g2, eg2, hf⟩ := gz_lt hf
  refine sz_putI2 dX12_give_2 flX12_104 kd39 fi12_0 eg2 ?_
  refine sz_aload_n dX12_give_5 rfl ?_
  refine sz_getI dX12_give_6 flX12_303 kd39 rfl ?_
  refine sz_if_eq 39 dX12_give_9 (by decide) (fun c9 => ?_) (fun c9 => ?_)
  · have hf := gz_ip c9 hf
    refine sz_iconst dX12_give_39 (cIm1) ?_
    cases hf
    exact sz_iret dX12_give_40 rfl rfl ⟨rfl, rfl⟩
  · have hf := gz_in1 c9 hf
    refine sz_iload_n dX12_give_12 rfl ?_
    refine sz_i2l dX12_give_13 ?_
    refine sz_lconst (v := 1) dX12_give_14 rfl ?_
    refine sz_ldc2 dX12_give_15 cstlX12_415 ?_
    obtain ⟨q18, eq18, hf⟩ := gz_bd hf
    refine sz_callSi [.long (Int32.toInt64 x1), .long 1, .long 50] [] dX12_give_18 msX12_225 (Nat.le_of_ble_eq_true rfl) (Nat.le_of_ble_eq_true rfl) (kX12_isIn   eq18) ?_
    refine sz_if_eq 39 dX12_give_21 (by decide) (fun c21 => ?_) (fun c21 => ?_)
    · have hf := gz_ip c21 hf
      refine sz_iconst dX12_give_39 (cIm1) ?_
      cases hf
      exact sz_iret dX12_give_40 rfl rfl ⟨rfl, rfl⟩
    · have hf := gz_in1 c21 hf
      refine sz_aload_n dX12_give_24 rfl ?_
      refine sz_getR dX12_give_25 flX12_64 kd39 rfl rf39_32 ?_
      refine sz_bipush dX12_give_28 (cB48) ?_
      refine sz_ialdL dX12_give_30 kd53 vi48_231 tn48 ?_
      refine sz_iload_n dX12_give_31 rfl ?_
      refine sz_iadd dX12_give_32 ?_
      refine sz_sipush dX12_give_33 (cH999) ?_
      refine sz_icmp_le 41 dX12_give_36 (by decide) (fun c36 => ?_) (fun c36 => ?_)
      · have hf := gz_ip c36 hf
        refine sz_aload_n dX12_give_41 rfl ?_
        obtain ⟨q42, eq42, hf⟩ := gz_bd hf
        refine sz_callVv [] [] dX12_give_42 mvX12_380 (Nat.le_of_ble_eq_true rfl) (by decide : 12 < 13) kd39 rfl (Nat.le_of_ble_eq_true rfl) (kX12_remember   eq42) ?_
        refine sz_aload_n dX12_give_45 rfl ?_
        refine sz_getR dX12_give_46 flX12_64 kd39 rfl rf39_32 ?_
        refine sz_bipush dX12_give_49 (cB48) ?_
        refine sz_dup2 dX12_give_51 rfl rfl ?_
        refine sz_ialdL dX12_give_52 kd53 vi48_231 tn48 ?_
        refine sz_iload_n dX12_give_53 rfl ?_
        refine sz_iadd dX12_give_54 ?_
        obtain ⟨g55, eg55, hf⟩ := gz_lt hf
        refine sz_iastL dX12_give_55 kd53 vi48_231 tn48 eg55 ?_
        refine sz_aload_n dX12_give_56 rfl ?_
        refine sz_getR dX12_give_57 flX12_64 kd39 rfl rf39_32 ?_
        refine sz_bipush dX12_give_60 (cB48) ?_
        refine sz_ialdL dX12_give_62 kd53 vi48_231 tn48 ?_
        cases hf
        exact sz_iret dX12_give_63 rfl rfl ⟨rfl, rfl⟩
      · have hf := gz_in1 c36 hf
        refine sz_iconst dX12_give_39 (cIm1) ?_
        cases hf
        exact sz_iret dX12_give_40 rfl rfl ⟨rfl, rfl⟩
def fX12_draw (La : gz_L)  (x1 : Int32) (g : gz_S) : Option (Int32 × gz_S) :=
  gz_let (gz_wl g 39 42 (((g.2.1 39 42) * (6364136223846793005 : Int64)) + (1442695040888963407 : Int64))) (fun g13 => if ¬ (Int32.toInt64 x1) = 0 then some (Int64.toInt32 ((gz_lushr (g13.2.1 39 42) 33) - (gz_lushr (g13.2.1 39 42) 33) / (Int32.toInt64 x1) * (Int32.toInt64 x1)), g13) else none)
set_option maxRecDepth 100000 in
set_option maxHeartbeats 4000000 in
theorem kX12_draw {La : gz_L}  {x1 : Int32} {g : gz_S} {r : Int32 × gz_S}  (hf : fX12_draw La  x1 g = some r) : gz_K La 1 mX12_draw [.ref 39, .int x1] g (gz_Fi r) := by
  unfold fX12_draw at hf
  refine gz_K.of 0 (by decide +kernel) rfl ?_
  show gz_J La 1 mX12_draw 0 [some (.ref 39), some (.int x1)] [] g (gz_Fi r)
  refine sz_aload_n dX12_draw_0 rfl ?_
  refine sz_aload_n dX12_draw_1 rfl ?_
  refine sz_getJ dX12_draw_2 flX12_417 kd39 rfl ?_
  refine sz_ldc2 dX12_draw_5 cstlX12_421 ?_
  refine sz_lmul dX12_draw_8 ?_
  refine sz_ldc2 dX12_draw_9 cstlX12_423 ?_
  refine sz_ladd dX12_draw_12 ?_
  obtain ⟨g13, eg13, hf⟩ := gz_lt hf
  refine sz_putJ2 dX12_draw_13 flX12_417 kd39 fi12_42 eg13 ?_
  refine sz_aload_n dX12_draw_16 rfl ?_
  refine sz_getJ dX12_draw_17 flX12_417 kd39 rfl ?_
  refine sz_bipush dX12_draw_20 (cB33) ?_
  refine sz_lushr dX12_draw_22 ?_
  refine sz_iload_n dX12_draw_23 rfl ?_
  refine sz_i2l dX12_draw_24 ?_
  obtain ⟨c25, hf⟩ := gz_gd hf
  refine sz_lrem dX12_draw_25 c25 ?_
  refine sz_l2i dX12_draw_26 ?_
  cases hf
  exact sz_iret dX12_draw_27 rfl rfl ⟨rfl, rfl⟩
def fX12_years_129 (La : gz_L)   (k49 : Int32 → Int32 → gz_S → Option (Int32 × gz_S)) (x1 : Int32) (x4 : Int32) (g : gz_S) : Option (Int32 × gz_S) := (fX12_goHour La  53 g).bind (fun q134 => gz_let (x4 + 1) (fun y139 => k49 x1 y139 q134.2))
set_option maxRecDepth 100000 in
set_option maxHeartbeats 4000000 in
theorem tX12_years_129 {La : gz_L}   {k49 : Int32 → Int32 → gz_S → Option (Int32 × gz_S)}  (hk49 : ∀ (x1 : Int32) (x4 : Int32) (g : gz_S) (r : Int32 × gz_S), k49 x1 x4 g = some r → gz_J La 147 mX12_years 49 [some (.ref 39), some (.int x1), none, none, some (.int x4), none, none] [] g (gz_Fi r)) : ∀ (x1 : Int32) (x4 : Int32) (g : gz_S) (r : Int32 × gz_S), fX12_years_129 La   k49 x1 x4 g = some r → gz_J La 147 mX12_years 129 [some (.ref 39), some (.int x1), none, none, some (.int x4), none, none] [] g (gz_Fi r) := by
  intro x1 x4 g r hf
  unfold fX12_years_129 at hf
  refine sz_aload_n dX12_years_129 rfl ?_
  refine sz_aload_n dX12_years_130 rfl ?_
  refine sz_getR dX12_years_131 flX12_64 kd39 rfl rf39_32 ?_
  obtain ⟨q134, eq134, hf⟩ := gz_bd hf
  refine sz_callVi [.ref 53] [] dX12_years_134 mvX12_383 (Nat.le_of_ble_eq_true rfl) (by decide : 12 < 13) kd39 rfl (Nat.le_of_ble_eq_true rfl) (kX12_goHour  (Or.inl rfl) eq134) ?_
  refine sz_istore dX12_years_137 (Nat.le_of_ble_eq_true rfl) rfl ?_
  refine sz_ls (l2 := [some (.ref 39), some (.int x1), none, none, some (.int x4), some (.int q134.1), none]) rfl ?_
  obtain ⟨y139, ey139, hf⟩ := gz_lt hf
  refine sz_iinc (v := y139) dX12_years_139 rfl (by rw [ey139, cI1]) (Nat.le_of_ble_eq_true rfl) rfl ?_
  refine sz_ls (l2 := [some (.ref 39), some (.int x1), none, none, some (.int y139), some (.int q134.1), none]) rfl ?_
  refine sz_goto 49 dX12_years_142 (by decide) ?_
  refine sz_weak (l2 := [some (.ref 39), some (.int x1), none, none, some (.int y139), none, none]) (gz_subk (gz_subk (gz_subk (gz_subk (gz_subk (gz_subn (gz_subk gz_sub0))))))) ?_
  exact hk49 _ _ _ _ hf
def fX12_years_49 (La : gz_L)   (k145 : gz_S → Option (Int32 × gz_S)) : Nat → Int32 → Int32 → gz_S → Option (Int32 × gz_S)
  | 0, _, _, _ => none
  | n + 1, x1, x4, g => if x1 ≤ x4 then k145  g else (fX12_remember La   g).bind (fun q56 => (fX12_draw La  6 q56).bind (fun q68 => gz_let (gz_wi q68.2 53 46 q68.1) (fun g71 => (fX12_draw La  10 g71).bind (fun q75 => if (q75.2.1 39 35) ≤ q75.1 then fX12_years_129 La   (fX12_years_49 La   k145 n)  x1 x4 q75.2 else (fX12_draw La  (q75.2.1 39 27) q75.2).bind (fun q90 => (fX12_draw La  4 q90.2).bind (fun q97 => (fX12_canBegin La  53 q90.1 q97.1 q97.2).bind (fun q111 => if q111.1 = 0 then fX12_years_129 La   (fX12_years_49 La   k145 n)  x1 x4 q111.2 else (fX12_begins0 La  53 q90.1 q97.1 q111.2).bind (fun q126 => fX12_years_129 La   (fX12_years_49 La   k145 n)  x1 x4 q126))))))))
set_option maxRecDepth 100000 in
set_option maxHeartbeats 4000000 in
theorem tX12_years_49 {La : gz_L}   {k145 : gz_S → Option (Int32 × gz_S)}  (hk145 : ∀  (g : gz_S) (r : Int32 × gz_S), k145  g = some r → gz_J La 147 mX12_years 145 [some (.ref 39), none, none, none, none, none, none] [] g (gz_Fi r)) : ∀ (n : Nat) (x1 : Int32) (x4 : Int32) (g : gz_S) (r : Int32 × gz_S), fX12_years_49 La   k145 n x1 x4 g = some r → gz_J La 147 mX12_years 49 [some (.ref 39), some (.int x1), none, none, some (.int x4), none, none] [] g (gz_Fi r) := by
  intro n
  induction n with
  | zero => intro x1 x4 g r hf; exact nomatch (show (none : Option (Int32 × gz_S)) = some r from hf)
  | succ n ih =>
    intro x1 x4 g r hf
    unfold fX12_years_49 at hf
    refine sz_iload dX12_years_49 rfl ?_
    refine sz_iload_n dX12_years_51 rfl ?_
    refine sz_icmp_ge 145 dX12_years_52 (by decide) (fun c52 => ?_) (fun c52 => ?_)
    · have hf := gz_ip c52 hf
      refine sz_weak (l2 := [some (.ref 39), none, none, none, none, none, none]) (gz_subk (gz_subn (gz_subk (gz_subk (gz_subn (gz_subk (gz_subk gz_sub0))))))) ?_
      exact hk145  _ _ hf
    · have hf := gz_in1 c52 hf
      refine sz_aload_n dX12_years_55 rfl ?_
      obtain ⟨q56, eq56, hf⟩ := gz_bd hf
      refine sz_callVv [] [] dX12_years_56 mvX12_380 (Nat.le_of_ble_eq_true rfl) (by decide : 12 < 13) kd39 rfl (Nat.le_of_ble_eq_true rfl) (kX12_remember   eq56) ?_
      refine sz_aload_n dX12_years_59 rfl ?_
      refine sz_getR dX12_years_60 flX12_64 kd39 rfl rf39_32 ?_
      refine sz_bipush dX12_years_63 (cB46) ?_
      refine sz_aload_n dX12_years_65 rfl ?_
      refine sz_bipush dX12_years_66 (cB6) ?_
      obtain ⟨q68, eq68, hf⟩ := gz_bd hf
      refine sz_callVi [.int 6] [.int 46, .ref 53] dX12_years_68 mvX12_427 (Nat.le_of_ble_eq_true rfl) (by decide : 12 < 13) kd39 rfl (Nat.le_of_ble_eq_true rfl) (kX12_draw   eq68) ?_
      obtain ⟨g71, eg71, hf⟩ := gz_lt hf
      refine sz_iastL dX12_years_71 kd53 vi46_231 tn46 eg71 ?_
      refine sz_aload_n dX12_years_72 rfl ?_
      refine sz_bipush dX12_years_73 (cB10) ?_
      obtain ⟨q75, eq75, hf⟩ := gz_bd hf
      refine sz_callVi [.int 10] [] dX12_years_75 mvX12_427 (Nat.le_of_ble_eq_true rfl) (by decide : 12 < 13) kd39 rfl (Nat.le_of_ble_eq_true rfl) (kX12_draw   eq75) ?_
      refine sz_aload_n dX12_years_78 rfl ?_
      refine sz_getI dX12_years_79 flX12_74 kd39 rfl ?_
      refine sz_icmp_ge 129 dX12_years_82 (by decide) (fun c82 => ?_) (fun c82 => ?_)
      · have hf := gz_ip c82 hf
        exact tX12_years_129   ih _ _ _ _ hf
      · have hf := gz_in1 c82 hf
        refine sz_aload_n dX12_years_85 rfl ?_
        refine sz_aload_n dX12_years_86 rfl ?_
        refine sz_getI dX12_years_87 flX12_303 kd39 rfl ?_
        obtain ⟨q90, eq90, hf⟩ := gz_bd hf
        refine sz_callVi [.int (q75.2.1 39 27)] [] dX12_years_90 mvX12_427 (Nat.le_of_ble_eq_true rfl) (by decide : 12 < 13) kd39 rfl (Nat.le_of_ble_eq_true rfl) (kX12_draw   eq90) ?_
        refine sz_istore dX12_years_93 (Nat.le_of_ble_eq_true rfl) rfl ?_
        refine sz_ls (l2 := [some (.ref 39), some (.int x1), none, none, some (.int x4), some (.int q90.1), none]) rfl ?_
        refine sz_aload_n dX12_years_95 rfl ?_
        refine sz_iconst dX12_years_96 (cI4) ?_
        obtain ⟨q97, eq97, hf⟩ := gz_bd hf
        refine sz_callVi [.int 4] [] dX12_years_97 mvX12_427 (Nat.le_of_ble_eq_true rfl) (by decide : 12 < 13) kd39 rfl (Nat.le_of_ble_eq_true rfl) (kX12_draw   eq97) ?_
        refine sz_istore dX12_years_100 (Nat.le_of_ble_eq_true rfl) rfl ?_
        refine sz_ls (l2 := [some (.ref 39), some (.int x1), none, none, some (.int x4), some (.int q90.1), some (.int q97.1)]) rfl ?_
        refine sz_aload_n dX12_years_102 rfl ?_
        refine sz_aload_n dX12_years_103 rfl ?_
        refine sz_getR dX12_years_104 flX12_64 kd39 rfl rf39_32 ?_
        refine sz_iload dX12_years_107 rfl ?_
        refine sz_iload dX12_years_109 rfl ?_
        obtain ⟨q111, eq111, hf⟩ := gz_bd hf
        refine sz_callVi [.ref 53, .int q90.1, .int q97.1] [] dX12_years_111 mvX12_408 (Nat.le_of_ble_eq_true rfl) (by decide : 12 < 13) kd39 rfl (Nat.le_of_ble_eq_true rfl) (kX12_canBegin  (Or.inl rfl) eq111) ?_
        refine sz_if_eq 129 dX12_years_114 (by decide) (fun c114 => ?_) (fun c114 => ?_)
        · have hf := gz_ip c114 hf
          refine sz_weak (l2 := [some (.ref 39), some (.int x1), none, none, some (.int x4), none, none]) (gz_subk (gz_subk (gz_subk (gz_subk (gz_subk (gz_subn (gz_subn gz_sub0))))))) ?_
          exact tX12_years_129   ih _ _ _ _ hf
        · have hf := gz_in1 c114 hf
          refine sz_aload_n dX12_years_117 rfl ?_
          refine sz_aload_n dX12_years_118 rfl ?_
          refine sz_getR dX12_years_119 flX12_64 kd39 rfl rf39_32 ?_
          refine sz_iload dX12_years_122 rfl ?_
          refine sz_iload dX12_years_124 rfl ?_
          obtain ⟨q126, eq126, hf⟩ := gz_bd hf
          refine sz_callVv [.ref 53, .int q90.1, .int q97.1] [] dX12_years_126 mvX12_412 (Nat.le_of_ble_eq_true rfl) (by decide : 12 < 13) kd39 rfl (Nat.le_of_ble_eq_true rfl) (kX12_begins0  (Or.inl rfl) eq126) ?_
          refine sz_weak (l2 := [some (.ref 39), some (.int x1), none, none, some (.int x4), none, none]) (gz_subk (gz_subk (gz_subk (gz_subk (gz_subk (gz_subn (gz_subn gz_sub0))))))) ?_
          exact tX12_years_129   ih _ _ _ _ hf
def fX12_years (La : gz_L)  (x1 : Int32) (x2 : Int64) (g : gz_S) : Option (Int32 × gz_S) :=
  gz_let (gz_wi g 39 0 0) (fun g2 => if (g2.1 39 27) = 0 then some ((-1), g2) else (fX12_isIn La  (Int32.toInt64 x1) 1 30 g2).bind (fun q18 => if q18.1 = 0 then some ((-1), q18.2) else if ((q18.2.1 53 49) + x1) ≤ 9999 then gz_let (gz_wl q18.2 39 42 x2) (fun g43 => fX12_years_49 La   (fun  g => some (g.1 53 49, g)) gz_FU x1 0 g43) else some ((-1), q18.2)))
set_option maxRecDepth 100000 in
set_option maxHeartbeats 4000000 in
theorem kX12_years {La : gz_L}  {x1 : Int32} {x2 : Int64} {g : gz_S} {r : Int32 × gz_S}  (hf : fX12_years La  x1 x2 g = some r) : gz_K La 147 mX12_years [.ref 39, .int x1, .long x2] g (gz_Fi r) := by
  unfold fX12_years at hf
  refine gz_K.of 3 (by decide +kernel) rfl ?_
  show gz_J La 147 mX12_years 0 [some (.ref 39), some (.int x1), some (.long x2), none, none, none, none] [] g (gz_Fi r)
  refine sz_aload_n dX12_years_0 rfl ?_
  refine sz_iconst dX12_years_1 (cI0) ?_
  obtain ⟨g2, eg2, hf⟩ := gz_lt hf
  refine sz_putI2 dX12_years_2 flX12_104 kd39 fi12_0 eg2 ?_
  refine sz_aload_n dX12_years_5 rfl ?_
  refine sz_getI dX12_years_6 flX12_303 kd39 rfl ?_
  refine sz_if_eq 39 dX12_years_9 (by decide) (fun c9 => ?_) (fun c9 => ?_)
  · have hf := gz_ip c9 hf
    refine sz_iconst dX12_years_39 (cIm1) ?_
    cases hf
    exact sz_iret dX12_years_40 rfl rfl ⟨rfl, rfl⟩
  · have hf := gz_in1 c9 hf
    refine sz_iload_n dX12_years_12 rfl ?_
    refine sz_i2l dX12_years_13 ?_
    refine sz_lconst (v := 1) dX12_years_14 rfl ?_
    refine sz_ldc2 dX12_years_15 cstlX12_425 ?_
    obtain ⟨q18, eq18, hf⟩ := gz_bd hf
    refine sz_callSi [.long (Int32.toInt64 x1), .long 1, .long 30] [] dX12_years_18 msX12_225 (Nat.le_of_ble_eq_true rfl) (Nat.le_of_ble_eq_true rfl) (kX12_isIn   eq18) ?_
    refine sz_if_eq 39 dX12_years_21 (by decide) (fun c21 => ?_) (fun c21 => ?_)
    · have hf := gz_ip c21 hf
      refine sz_iconst dX12_years_39 (cIm1) ?_
      cases hf
      exact sz_iret dX12_years_40 rfl rfl ⟨rfl, rfl⟩
    · have hf := gz_in1 c21 hf
      refine sz_aload_n dX12_years_24 rfl ?_
      refine sz_getR dX12_years_25 flX12_64 kd39 rfl rf39_32 ?_
      refine sz_bipush dX12_years_28 (cB49) ?_
      refine sz_ialdL dX12_years_30 kd53 vi49_231 tn49 ?_
      refine sz_iload_n dX12_years_31 rfl ?_
      refine sz_iadd dX12_years_32 ?_
      refine sz_sipush dX12_years_33 (cH9999) ?_
      refine sz_icmp_le 41 dX12_years_36 (by decide) (fun c36 => ?_) (fun c36 => ?_)
      · have hf := gz_ip c36 hf
        refine sz_aload_n dX12_years_41 rfl ?_
        refine sz_lload_n dX12_years_42 rfl ?_
        obtain ⟨g43, eg43, hf⟩ := gz_lt hf
        refine sz_putJ2 dX12_years_43 flX12_417 kd39 fi12_42 eg43 ?_
        refine sz_iconst dX12_years_46 (cI0) ?_
        refine sz_istore dX12_years_47 (Nat.le_of_ble_eq_true rfl) rfl ?_
        refine sz_ls (l2 := [some (.ref 39), some (.int x1), some (.long x2), none, some (.int 0), none, none]) rfl ?_
        have hk145 : ∀  (g : gz_S) (r : Int32 × gz_S), (fun  g => some (g.1 53 49, g))  g = some r → gz_J La 147 mX12_years 145 [some (.ref 39), none, none, none, none, none, none] [] g (gz_Fi r) := by
          intro  g r hf
          refine sz_aload_n dX12_years_145 rfl ?_
          refine sz_getR dX12_years_146 flX12_64 kd39 rfl rf39_32 ?_
          refine sz_bipush dX12_years_149 (cB49) ?_
          refine sz_ialdL dX12_years_151 kd53 vi49_231 tn49 ?_
          cases hf
          exact sz_iret dX12_years_152 rfl rfl ⟨rfl, rfl⟩
        refine sz_weak (l2 := [some (.ref 39), some (.int x1), none, none, some (.int 0), none, none]) (gz_subk (gz_subk (gz_subn (gz_subk (gz_subk (gz_subk (gz_subk gz_sub0))))))) ?_
        exact tX12_years_49   hk145 _ _ _ _ _ hf
      · have hf := gz_in1 c36 hf
        refine sz_iconst dX12_years_39 (cIm1) ?_
        cases hf
        exact sz_iret dX12_years_40 rfl rfl ⟨rfl, rfl⟩
def fX12_undo_26 (La : gz_L)    : Nat → Int32 → gz_S → Option (Int32 × gz_S)
  | 0, _, _ => none
  | n + 1, x1, g => if 231 ≤ x1 then some (g.1 39 41, g) else if gz_ok (((231 : Int32) * (g.1 39 41)) + x1) 9240 then if gz_ok x1 231 then gz_let (gz_wi g 53 (Int32.toNatClampNeg x1) (g.1 57 (Int32.toNatClampNeg (((231 : Int32) * (g.1 39 41)) + x1)))) (fun g53 => gz_let (x1 + 1) (fun y54 => fX12_undo_26 La    n y54 g53)) else none else none
set_option maxRecDepth 100000 in
set_option maxHeartbeats 4000000 in
theorem tX12_undo_26 {La : gz_L}      : ∀ (n : Nat) (x1 : Int32) (g : gz_S) (r : Int32 × gz_S), fX12_undo_26 La    n x1 g = some r → gz_J La 1 mX12_undo 26 [some (.ref 39), some (.int x1)] [] g (gz_Fi r) := by
  intro n
  induction n with
  | zero => intro x1 g r hf; exact nomatch (show (none : Option (Int32 × gz_S)) = some r from hf)
  | succ n ih =>
    intro x1 g r hf
    unfold fX12_undo_26 at hf
    refine sz_iload_n dX12_undo_26 rfl ?_
    refine sz_sipush dX12_undo_27 (cH231) ?_
    refine sz_icmp_ge 60 dX12_undo_30 (by decide) (fun c30 => ?_) (fun c30 => ?_)
    · have hf := gz_ip c30 hf
      refine sz_aload_n dX12_undo_60 rfl ?_
      refine sz_getI dX12_undo_61 flX12_313 kd39 rfl ?_
      cases hf
      exact sz_iret dX12_undo_64 rfl rfl ⟨rfl, rfl⟩
    · have hf := gz_in1 c30 hf
      refine sz_aload_n dX12_undo_33 rfl ?_
      refine sz_getR dX12_undo_34 flX12_64 kd39 rfl rf39_32 ?_
      refine sz_iload_n dX12_undo_37 rfl ?_
      refine sz_aload_n dX12_undo_38 rfl ?_
      refine sz_getR dX12_undo_39 flX12_83 kd39 rfl rf39_40 ?_
      refine sz_sipush dX12_undo_42 (cH231) ?_
      refine sz_aload_n dX12_undo_45 rfl ?_
      refine sz_getI dX12_undo_46 flX12_313 kd39 rfl ?_
      refine sz_imul dX12_undo_49 ?_
      refine sz_iload_n dX12_undo_50 rfl ?_
      refine sz_iadd dX12_undo_51 ?_
      obtain ⟨c52, hf⟩ := gz_gd hf
      refine sz_ialdL dX12_undo_52 kd57 c52 rfl ?_
      obtain ⟨c53, hf⟩ := gz_gd hf
      obtain ⟨g53, eg53, hf⟩ := gz_lt hf
      refine sz_iastL dX12_undo_53 kd53 c53 rfl eg53 ?_
      obtain ⟨y54, ey54, hf⟩ := gz_lt hf
      refine sz_iinc (v := y54) dX12_undo_54 rfl (by rw [ey54, cI1]) (Nat.le_of_ble_eq_true rfl) rfl ?_
      refine sz_ls (l2 := [some (.ref 39), some (.int y54)]) rfl ?_
      refine sz_goto 26 dX12_undo_57 (by decide) ?_
      exact ih _ _ _ hf
def fX12_undo (La : gz_L)   (g : gz_S) : Option (Int32 × gz_S) :=
  gz_let (gz_wi g 39 0 0) (fun g2 => if (g2.1 39 41) = 0 then some ((-1), g2) else gz_let (gz_wi g2 39 41 ((g2.1 39 41) - 1)) (fun g21 => fX12_undo_26 La    gz_FU 0 g21))
set_option maxRecDepth 100000 in
set_option maxHeartbeats 4000000 in
theorem kX12_undo {La : gz_L}   {g : gz_S} {r : Int32 × gz_S}  (hf : fX12_undo La   g = some r) : gz_K La 1 mX12_undo [.ref 39] g (gz_Fi r) := by
  unfold fX12_undo at hf
  refine gz_K.of 1 (by decide +kernel) rfl ?_
  show gz_J La 1 mX12_undo 0 [some (.ref 39), none] [] g (gz_Fi r)
  refine sz_aload_n dX12_undo_0 rfl ?_
  refine sz_iconst dX12_undo_1 (cI0) ?_
  obtain ⟨g2, eg2, hf⟩ := gz_lt hf
  refine sz_putI2 dX12_undo_2 flX12_104 kd39 fi12_0 eg2 ?_
  refine sz_aload_n dX12_undo_5 rfl ?_
  refine sz_getI dX12_undo_6 flX12_313 kd39 rfl ?_
  refine sz_if_ne 14 dX12_undo_9 (by decide) (fun c9 => ?_) (fun c9 => ?_)
  · have hf := gz_in1 c9 hf
    refine sz_aload_n dX12_undo_14 rfl ?_
    refine sz_dup dX12_undo_15 rfl ?_
    refine sz_getI dX12_undo_16 flX12_313 kd39 rfl ?_
    refine sz_iconst dX12_undo_19 (cI1) ?_
    refine sz_isub dX12_undo_20 ?_
    obtain ⟨g21, eg21, hf⟩ := gz_lt hf
    refine sz_putI2 dX12_undo_21 flX12_313 kd39 fi12_41 eg21 ?_
    refine sz_iconst dX12_undo_24 (cI0) ?_
    refine sz_istore_n dX12_undo_25 rfl (Nat.le_of_ble_eq_true rfl) rfl ?_
    refine sz_ls (l2 := [some (.ref 39), some (.int 0)]) rfl ?_
    exact tX12_undo_26    _ _ _ _ hf
  · have hf := gz_ip c9 hf
    refine sz_iconst dX12_undo_12 (cIm1) ?_
    cases hf
    exact sz_iret dX12_undo_13 rfl rfl ⟨rfl, rfl⟩
def fX12_log (La : gz_L)  (x1 : Int32) (x2 : Int32) (g : gz_S) : Option (Int32 × gz_S) :=
  gz_let (gz_wi g 39 0 0) (fun g2 => (fX12_isIn La  (Int32.toInt64 x1) 0 (Int32.toInt64 ((g2.1 53 50) - 1)) g2).bind (fun q18 => if q18.1 = 0 then some ((-1), q18.2) else (fX12_isIn La  (Int32.toInt64 x2) 0 2 q18.2).bind (fun q30 => if q30.1 = 0 then some ((-1), q30.2) else if gz_ok (((51 : Int32) + ((3 : Int32) * (((q30.2.1 53 50) - 1) - x1))) + x2) 231 then some (q30.2.1 53 (Int32.toNatClampNeg (((51 : Int32) + ((3 : Int32) * (((q30.2.1 53 50) - 1) - x1))) + x2)), q30.2) else none)))
set_option maxRecDepth 100000 in
set_option maxHeartbeats 4000000 in
theorem kX12_log {La : gz_L}  {x1 : Int32} {x2 : Int32} {g : gz_S} {r : Int32 × gz_S}  (hf : fX12_log La  x1 x2 g = some r) : gz_K La 2 mX12_log [.ref 39, .int x1, .int x2] g (gz_Fi r) := by
  unfold fX12_log at hf
  refine gz_K.of 0 (by decide +kernel) rfl ?_
  show gz_J La 2 mX12_log 0 [some (.ref 39), some (.int x1), some (.int x2)] [] g (gz_Fi r)
  refine sz_aload_n dX12_log_0 rfl ?_
  refine sz_iconst dX12_log_1 (cI0) ?_
  obtain ⟨g2, eg2, hf⟩ := gz_lt hf
  refine sz_putI2 dX12_log_2 flX12_104 kd39 fi12_0 eg2 ?_
  refine sz_iload_n dX12_log_5 rfl ?_
  refine sz_i2l dX12_log_6 ?_
  refine sz_lconst (v := 0) dX12_log_7 rfl ?_
  refine sz_aload_n dX12_log_8 rfl ?_
  refine sz_getR dX12_log_9 flX12_64 kd39 rfl rf39_32 ?_
  refine sz_bipush dX12_log_12 (cB50) ?_
  refine sz_ialdL dX12_log_14 kd53 vi50_231 tn50 ?_
  refine sz_iconst dX12_log_15 (cI1) ?_
  refine sz_isub dX12_log_16 ?_
  refine sz_i2l dX12_log_17 ?_
  obtain ⟨q18, eq18, hf⟩ := gz_bd hf
  refine sz_callSi [.long (Int32.toInt64 x1), .long 0, .long (Int32.toInt64 ((g2.1 53 50) - 1))] [] dX12_log_18 msX12_225 (Nat.le_of_ble_eq_true rfl) (Nat.le_of_ble_eq_true rfl) (kX12_isIn   eq18) ?_
  refine sz_if_eq 62 dX12_log_21 (by decide) (fun c21 => ?_) (fun c21 => ?_)
  · have hf := gz_ip c21 hf
    refine sz_iconst dX12_log_62 (cIm1) ?_
    cases hf
    exact sz_iret dX12_log_63 rfl rfl ⟨rfl, rfl⟩
  · have hf := gz_in1 c21 hf
    refine sz_iload_n dX12_log_24 rfl ?_
    refine sz_i2l dX12_log_25 ?_
    refine sz_lconst (v := 0) dX12_log_26 rfl ?_
    refine sz_ldc2 dX12_log_27 cstlX12_284 ?_
    obtain ⟨q30, eq30, hf⟩ := gz_bd hf
    refine sz_callSi [.long (Int32.toInt64 x2), .long 0, .long 2] [] dX12_log_30 msX12_225 (Nat.le_of_ble_eq_true rfl) (Nat.le_of_ble_eq_true rfl) (kX12_isIn   eq30) ?_
    refine sz_if_eq 62 dX12_log_33 (by decide) (fun c33 => ?_) (fun c33 => ?_)
    · have hf := gz_ip c33 hf
      refine sz_iconst dX12_log_62 (cIm1) ?_
      cases hf
      exact sz_iret dX12_log_63 rfl rfl ⟨rfl, rfl⟩
    · have hf := gz_in1 c33 hf
      refine sz_aload_n dX12_log_36 rfl ?_
      refine sz_getR dX12_log_37 flX12_64 kd39 rfl rf39_32 ?_
      refine sz_bipush dX12_log_40 (cB51) ?_
      refine sz_iconst dX12_log_42 (cI3) ?_
      refine sz_aload_n dX12_log_43 rfl ?_
      refine sz_getR dX12_log_44 flX12_64 kd39 rfl rf39_32 ?_
      refine sz_bipush dX12_log_47 (cB50) ?_
      refine sz_ialdL dX12_log_49 kd53 vi50_231 tn50 ?_
      refine sz_iconst dX12_log_50 (cI1) ?_
      refine sz_isub dX12_log_51 ?_
      refine sz_iload_n dX12_log_52 rfl ?_
      refine sz_isub dX12_log_53 ?_
      refine sz_imul dX12_log_54 ?_
      refine sz_iadd dX12_log_55 ?_
      refine sz_iload_n dX12_log_56 rfl ?_
      refine sz_iadd dX12_log_57 ?_
      obtain ⟨c58, hf⟩ := gz_gd hf
      refine sz_ialdL dX12_log_58 kd53 c58 rfl ?_
      refine sz_goto 63 dX12_log_59 (by decide) ?_
      cases hf
      exact sz_iret dX12_log_63 rfl rfl ⟨rfl, rfl⟩
def fX12_isPlan (La : gz_L)  (x1 : Int32) (g : gz_S) : Option (Int32 × gz_S) :=
  if x1 < 0 then some (0, g) else if (g.1 39 30) ≤ x1 then some (0, g) else some (1, g)
set_option maxRecDepth 100000 in
set_option maxHeartbeats 4000000 in
theorem kX12_isPlan {La : gz_L}  {x1 : Int32} {g : gz_S} {r : Int32 × gz_S}  (hf : fX12_isPlan La  x1 g = some r) : gz_K La 1 mX12_isPlan [.ref 39, .int x1] g (gz_Fi r) := by
  unfold fX12_isPlan at hf
  refine gz_K.of 0 (by decide +kernel) rfl ?_
  show gz_J La 1 mX12_isPlan 0 [some (.ref 39), some (.int x1)] [] g (gz_Fi r)
  refine sz_iload_n dX12_isPlan_0 rfl ?_
  refine sz_if_lt 16 dX12_isPlan_1 (by decide) (fun c1 => ?_) (fun c1 => ?_)
  · have hf := gz_ip c1 hf
    refine sz_iconst dX12_isPlan_16 (cI0) ?_
    cases hf
    exact sz_iret dX12_isPlan_17 rfl rfl ⟨rfl, rfl⟩
  · have hf := gz_in1 c1 hf
    refine sz_iload_n dX12_isPlan_4 rfl ?_
    refine sz_aload_n dX12_isPlan_5 rfl ?_
    refine sz_getI dX12_isPlan_6 flX12_298 kd39 rfl ?_
    refine sz_icmp_ge 16 dX12_isPlan_9 (by decide) (fun c9 => ?_) (fun c9 => ?_)
    · have hf := gz_ip c9 hf
      refine sz_iconst dX12_isPlan_16 (cI0) ?_
      cases hf
      exact sz_iret dX12_isPlan_17 rfl rfl ⟨rfl, rfl⟩
    · have hf := gz_in1 c9 hf
      refine sz_iconst dX12_isPlan_12 (cI1) ?_
      refine sz_goto 17 dX12_isPlan_13 (by decide) ?_
      cases hf
      exact sz_iret dX12_isPlan_17 rfl rfl ⟨rfl, rfl⟩
def fX12_step (La : gz_L)  (x1 : Int32) (x2 : Int32) (x3 : Int32) (g : gz_S) : Option (Int32 × gz_S) :=
  gz_let (gz_wi g 39 0 0) (fun g2 => (fX12_isPlan La  x1 g2).bind (fun q7 => if q7.1 = 0 then some ((-1000000), q7.2) else if gz_ok x1 5 then (fX12_isIn La  (Int32.toInt64 x2) 0 (Int32.toInt64 ((q7.2.1 52 (Int32.toNatClampNeg x1)) - 1)) q7.2).bind (fun q25 => if q25.1 = 0 then some ((-1000000), q25.2) else (fX12_isIn La  (Int32.toInt64 x3) 0 2 q25.2).bind (fun q37 => if q37.1 = 0 then some ((-1000000), q37.2) else if gz_ok (((3 : Int32) * (((16 : Int32) * x1) + x2)) + x3) 240 then some (q37.2.1 51 (Int32.toNatClampNeg (((3 : Int32) * (((16 : Int32) * x1) + x2)) + x3)), q37.2) else none)) else none))
set_option maxRecDepth 100000 in
set_option maxHeartbeats 4000000 in
theorem kX12_step {La : gz_L}  {x1 : Int32} {x2 : Int32} {x3 : Int32} {g : gz_S} {r : Int32 × gz_S}  (hf : fX12_step La  x1 x2 x3 g = some r) : gz_K La 2 mX12_step [.ref 39, .int x1, .int x2, .int x3] g (gz_Fi r) := by
  unfold fX12_step at hf
  refine gz_K.of 0 (by decide +kernel) rfl ?_
  show gz_J La 2 mX12_step 0 [some (.ref 39), some (.int x1), some (.int x2), some (.int x3)] [] g (gz_Fi r)
  refine sz_aload_n dX12_step_0 rfl ?_
  refine sz_iconst dX12_step_1 (cI0) ?_
  obtain ⟨g2, eg2, hf⟩ := gz_lt hf
  refine sz_putI2 dX12_step_2 flX12_104 kd39 fi12_0 eg2 ?_
  refine sz_aload_n dX12_step_5 rfl ?_
  refine sz_iload_n dX12_step_6 rfl ?_
  obtain ⟨q7, eq7, hf⟩ := gz_bd hf
  refine sz_callVi [.int x1] [] dX12_step_7 mvX12_430 (Nat.le_of_ble_eq_true rfl) (by decide : 12 < 13) kd39 rfl (Nat.le_of_ble_eq_true rfl) (kX12_isPlan   eq7) ?_
  refine sz_if_eq 61 dX12_step_10 (by decide) (fun c10 => ?_) (fun c10 => ?_)
  · have hf := gz_ip c10 hf
    refine sz_ldcw dX12_step_61 cstX12_433 ?_
    cases hf
    exact sz_iret dX12_step_64 rfl rfl ⟨rfl, rfl⟩
  · have hf := gz_in1 c10 hf
    refine sz_iload_n dX12_step_13 rfl ?_
    refine sz_i2l dX12_step_14 ?_
    refine sz_lconst (v := 0) dX12_step_15 rfl ?_
    refine sz_aload_n dX12_step_16 rfl ?_
    refine sz_getR dX12_step_17 flX12_61 kd39 rfl rf39_26 ?_
    refine sz_iload_n dX12_step_20 rfl ?_
    obtain ⟨c21, hf⟩ := gz_gd hf
    refine sz_ialdL dX12_step_21 kd52 c21 rfl ?_
    refine sz_iconst dX12_step_22 (cI1) ?_
    refine sz_isub dX12_step_23 ?_
    refine sz_i2l dX12_step_24 ?_
    obtain ⟨q25, eq25, hf⟩ := gz_bd hf
    refine sz_callSi [.long (Int32.toInt64 x2), .long 0, .long (Int32.toInt64 ((q7.2.1 52 (Int32.toNatClampNeg x1)) - 1))] [] dX12_step_25 msX12_225 (Nat.le_of_ble_eq_true rfl) (Nat.le_of_ble_eq_true rfl) (kX12_isIn   eq25) ?_
    refine sz_if_eq 61 dX12_step_28 (by decide) (fun c28 => ?_) (fun c28 => ?_)
    · have hf := gz_ip c28 hf
      refine sz_ldcw dX12_step_61 cstX12_433 ?_
      cases hf
      exact sz_iret dX12_step_64 rfl rfl ⟨rfl, rfl⟩
    · have hf := gz_in1 c28 hf
      refine sz_iload_n dX12_step_31 rfl ?_
      refine sz_i2l dX12_step_32 ?_
      refine sz_lconst (v := 0) dX12_step_33 rfl ?_
      refine sz_ldc2 dX12_step_34 cstlX12_284 ?_
      obtain ⟨q37, eq37, hf⟩ := gz_bd hf
      refine sz_callSi [.long (Int32.toInt64 x3), .long 0, .long 2] [] dX12_step_37 msX12_225 (Nat.le_of_ble_eq_true rfl) (Nat.le_of_ble_eq_true rfl) (kX12_isIn   eq37) ?_
      refine sz_if_eq 61 dX12_step_40 (by decide) (fun c40 => ?_) (fun c40 => ?_)
      · have hf := gz_ip c40 hf
        refine sz_ldcw dX12_step_61 cstX12_433 ?_
        cases hf
        exact sz_iret dX12_step_64 rfl rfl ⟨rfl, rfl⟩
      · have hf := gz_in1 c40 hf
        refine sz_aload_n dX12_step_43 rfl ?_
        refine sz_getR dX12_step_44 flX12_58 kd39 rfl rf39_25 ?_
        refine sz_iconst dX12_step_47 (cI3) ?_
        refine sz_bipush dX12_step_48 (cB16) ?_
        refine sz_iload_n dX12_step_50 rfl ?_
        refine sz_imul dX12_step_51 ?_
        refine sz_iload_n dX12_step_52 rfl ?_
        refine sz_iadd dX12_step_53 ?_
        refine sz_imul dX12_step_54 ?_
        refine sz_iload_n dX12_step_55 rfl ?_
        refine sz_iadd dX12_step_56 ?_
        obtain ⟨c57, hf⟩ := gz_gd hf
        refine sz_ialdL dX12_step_57 kd51 c57 rfl ?_
        refine sz_goto 64 dX12_step_58 (by decide) ?_
        cases hf
        exact sz_iret dX12_step_64 rfl rfl ⟨rfl, rfl⟩
def fX12_canStep (La : gz_L)  (w1 : Nat) (x2 : Int32) (g : gz_S) : Option (Int32 × gz_S) :=
  if gz_ok (x2 + 1) 240 then gz_let (g.1 51 (Int32.toNatClampNeg (x2 + 1))) (fun y8 => if gz_ok x2 240 then gz_let (g.1 51 (Int32.toNatClampNeg x2)) (fun y15 => if y15 = 0 then if 9999 ≤ (g.1 w1 49) then some (0, g) else some (1, g) else if y15 = 1 then if gz_ok (x2 + 2) 240 then (fX12_canBegin La  w1 y8 (g.1 51 (Int32.toNatClampNeg (x2 + 2))) g).bind (fun q67 => if q67.1 = 0 then some (0, q67.2) else if (q67.2.1 w1 48) < 3 then some (0, q67.2) else some (1, q67.2)) else none else if y15 = 2 then (fX12_canTide La  w1 y8 g).bind (fun q90 => if q90.1 = 0 ∨ q90.1 = 1 then some (q90.1, q90.2) else none) else (fX12_canSweep La  w1 y8 g).bind (fun q97 => if q97.1 = 0 ∨ q97.1 = 1 then some (q97.1, q97.2) else none)) else none) else none
set_option maxRecDepth 100000 in
set_option maxHeartbeats 4000000 in
theorem kX12_canStep {La : gz_L}  {w1 : Nat} {x2 : Int32} {g : gz_S} {r : Int32 × gz_S} (hw1 : w1 = 53 ∨ w1 = 54) (hf : fX12_canStep La  w1 x2 g = some r) : gz_K La 4 mX12_canStep [.ref 39, .ref w1, .int x2] g (gz_Fi r) := by
  unfold fX12_canStep at hf
  refine gz_K.of 1 (by decide +kernel) rfl ?_
  show gz_J La 4 mX12_canStep 0 [some (.ref 39), some (.ref w1), some (.int x2), none] [] g (gz_Fi r)
  refine sz_aload_n dX12_canStep_0 rfl ?_
  refine sz_getR dX12_canStep_1 flX12_58 kd39 rfl rf39_25 ?_
  refine sz_iload_n dX12_canStep_4 rfl ?_
  refine sz_iconst dX12_canStep_5 (cI1) ?_
  refine sz_iadd dX12_canStep_6 ?_
  obtain ⟨c7, hf⟩ := gz_gd hf
  refine sz_ialdL dX12_canStep_7 kd51 c7 rfl ?_
  obtain ⟨y8, ey8, hf⟩ := gz_lt hf
  refine sz_topi ey8 ?_
  refine sz_istore_n dX12_canStep_8 rfl (Nat.le_of_ble_eq_true rfl) rfl ?_
  refine sz_ls (l2 := [some (.ref 39), some (.ref w1), some (.int x2), some (.int y8)]) rfl ?_
  refine sz_aload_n dX12_canStep_9 rfl ?_
  refine sz_getR dX12_canStep_10 flX12_58 kd39 rfl rf39_25 ?_
  refine sz_iload_n dX12_canStep_13 rfl ?_
  obtain ⟨c14, hf⟩ := gz_gd hf
  refine sz_ialdL dX12_canStep_14 kd51 c14 rfl ?_
  obtain ⟨y15, ey15, hf⟩ := gz_lt hf
  refine sz_topi ey15 ?_
  by_cases c15_0 : y15 = 0
  · have hf := gz_ip c15_0 hf
    refine sz_tableIn 40 dX12_canStep_15 (by rw [c15_0]; decide) (by rw [c15_0]; decide) (by rw [c15_0]; rfl) (by decide) ?_
    refine sz_aload_n dX12_canStep_40 rfl ?_
    refine sz_bipush dX12_canStep_41 (cB49) ?_
    refine sz_ialdL dX12_canStep_43 (kds_nt hw1) vi49_231 tn49 ?_
    refine sz_sipush dX12_canStep_44 (cH9999) ?_
    refine sz_icmp_ge 54 dX12_canStep_47 (by decide) (fun c47 => ?_) (fun c47 => ?_)
    · have hf := gz_ip c47 hf
      refine sz_iconst dX12_canStep_54 (cI0) ?_
      cases hf
      exact sz_iret dX12_canStep_55 rfl rfl ⟨rfl, rfl⟩
    · have hf := gz_in1 c47 hf
      refine sz_iconst dX12_canStep_50 (cI1) ?_
      refine sz_goto 55 dX12_canStep_51 (by decide) ?_
      cases hf
      exact sz_iret dX12_canStep_55 rfl rfl ⟨rfl, rfl⟩
  have hf := gz_in1 c15_0 hf
  by_cases c15_1 : y15 = 1
  · have hf := gz_ip c15_1 hf
    refine sz_tableIn 56 dX12_canStep_15 (by rw [c15_1]; decide) (by rw [c15_1]; decide) (by rw [c15_1]; rfl) (by decide) ?_
    refine sz_aload_n dX12_canStep_56 rfl ?_
    refine sz_aload_n dX12_canStep_57 rfl ?_
    refine sz_iload_n dX12_canStep_58 rfl ?_
    refine sz_aload_n dX12_canStep_59 rfl ?_
    refine sz_getR dX12_canStep_60 flX12_58 kd39 rfl rf39_25 ?_
    refine sz_iload_n dX12_canStep_63 rfl ?_
    refine sz_iconst dX12_canStep_64 (cI2) ?_
    refine sz_iadd dX12_canStep_65 ?_
    obtain ⟨c66, hf⟩ := gz_gd hf
    refine sz_ialdL dX12_canStep_66 kd51 c66 rfl ?_
    obtain ⟨q67, eq67, hf⟩ := gz_bd hf
    refine sz_callVi [.ref w1, .int y8, .int (g.1 51 (Int32.toNatClampNeg (x2 + 2)))] [] dX12_canStep_67 mvX12_408 (Nat.le_of_ble_eq_true rfl) (by decide : 12 < 13) kd39 rfl (Nat.le_of_ble_eq_true rfl) (kX12_canBegin  hw1 eq67) ?_
    refine sz_if_eq 85 dX12_canStep_70 (by decide) (fun c70 => ?_) (fun c70 => ?_)
    · have hf := gz_ip c70 hf
      refine sz_iconst dX12_canStep_85 (cI0) ?_
      cases hf
      exact sz_iret dX12_canStep_86 rfl rfl ⟨rfl, rfl⟩
    · have hf := gz_in1 c70 hf
      refine sz_aload_n dX12_canStep_73 rfl ?_
      refine sz_bipush dX12_canStep_74 (cB48) ?_
      refine sz_ialdL dX12_canStep_76 (kds_nt hw1) vi48_231 tn48 ?_
      refine sz_iconst dX12_canStep_77 (cI3) ?_
      refine sz_icmp_lt 85 dX12_canStep_78 (by decide) (fun c78 => ?_) (fun c78 => ?_)
      · have hf := gz_ip c78 hf
        refine sz_iconst dX12_canStep_85 (cI0) ?_
        cases hf
        exact sz_iret dX12_canStep_86 rfl rfl ⟨rfl, rfl⟩
      · have hf := gz_in1 c78 hf
        refine sz_iconst dX12_canStep_81 (cI1) ?_
        refine sz_goto 86 dX12_canStep_82 (by decide) ?_
        cases hf
        exact sz_iret dX12_canStep_86 rfl rfl ⟨rfl, rfl⟩
  have hf := gz_in1 c15_1 hf
  by_cases c15_2 : y15 = 2
  · have hf := gz_ip c15_2 hf
    refine sz_tableIn 87 dX12_canStep_15 (by rw [c15_2]; decide) (by rw [c15_2]; decide) (by rw [c15_2]; rfl) (by decide) ?_
    refine sz_aload_n dX12_canStep_87 rfl ?_
    refine sz_aload_n dX12_canStep_88 rfl ?_
    refine sz_iload_n dX12_canStep_89 rfl ?_
    obtain ⟨q90, eq90, hf⟩ := gz_bd hf
    refine sz_callVi [.ref w1, .int y8] [] dX12_canStep_90 mvX12_388 (Nat.le_of_ble_eq_true rfl) (by decide : 12 < 13) kd39 rfl (Nat.le_of_ble_eq_true rfl) (kX12_canTide  hw1 eq90) ?_
    obtain ⟨c93, hf⟩ := gz_gd hf
    cases hf
    exact sz_iret dX12_canStep_93 rfl (gz_nbx c93) ⟨rfl, rfl⟩
  have hf := gz_in1 c15_2 hf
  refine sz_tableOut 94 dX12_canStep_15 (by have z0 := lv_neT c15_0 (a := 0) (by decide); have z1 := lv_neT c15_1 (a := 1) (by decide); have z2 := lv_neT c15_2 (a := 2) (by decide); omega) (by decide) ?_
  refine sz_aload_n dX12_canStep_94 rfl ?_
  refine sz_aload_n dX12_canStep_95 rfl ?_
  refine sz_iload_n dX12_canStep_96 rfl ?_
  obtain ⟨q97, eq97, hf⟩ := gz_bd hf
  refine sz_callVi [.ref w1, .int y8] [] dX12_canStep_97 mvX12_400 (Nat.le_of_ble_eq_true rfl) (by decide : 12 < 13) kd39 rfl (Nat.le_of_ble_eq_true rfl) (kX12_canSweep  hw1 eq97) ?_
  obtain ⟨c100, hf⟩ := gz_gd hf
  cases hf
  exact sz_iret dX12_canStep_100 rfl (gz_nbx c100) ⟨rfl, rfl⟩
def fX12_goPlan (La : gz_L)  (w1 : Nat) (x2 : Int32) (g : gz_S) : Option (Int32 × gz_S) :=
  if gz_ok (x2 + 1) 240 then gz_let (g.1 51 (Int32.toNatClampNeg (x2 + 1))) (fun y8 => if gz_ok x2 240 then gz_let (g.1 51 (Int32.toNatClampNeg x2)) (fun y18 => if y18 = 0 then (fX12_goHour La  w1 g).bind (fun q46 => some (q46.1, q46.2)) else if y18 = 1 then gz_let (gz_wi g w1 48 ((g.1 w1 48) - 3)) (fun g57 => if gz_ok (x2 + 2) 240 then (fX12_begins0 La  w1 y8 (g57.1 51 (Int32.toNatClampNeg (x2 + 2))) g57).bind (fun q69 => some (0, q69)) else none) else if y18 = 2 then gz_let (gz_wi g w1 46 y8) (fun g78 => some (0, g78)) else (fX12_sweeps La  w1 y8 g).bind (fun q84 => some (0, q84.2))) else none) else none
set_option maxRecDepth 100000 in
set_option maxHeartbeats 4000000 in
theorem kX12_goPlan {La : gz_L}  {w1 : Nat} {x2 : Int32} {g : gz_S} {r : Int32 × gz_S} (hw1 : w1 = 53 ∨ w1 = 54) (hf : fX12_goPlan La  w1 x2 g = some r) : gz_K La 147 mX12_goPlan [.ref 39, .ref w1, .int x2] g (gz_Fi r) := by
  unfold fX12_goPlan at hf
  refine gz_K.of 2 (by decide +kernel) rfl ?_
  show gz_J La 147 mX12_goPlan 0 [some (.ref 39), some (.ref w1), some (.int x2), none, none] [] g (gz_Fi r)
  refine sz_aload_n dX12_goPlan_0 rfl ?_
  refine sz_getR dX12_goPlan_1 flX12_58 kd39 rfl rf39_25 ?_
  refine sz_iload_n dX12_goPlan_4 rfl ?_
  refine sz_iconst dX12_goPlan_5 (cI1) ?_
  refine sz_iadd dX12_goPlan_6 ?_
  obtain ⟨c7, hf⟩ := gz_gd hf
  refine sz_ialdL dX12_goPlan_7 kd51 c7 rfl ?_
  obtain ⟨y8, ey8, hf⟩ := gz_lt hf
  refine sz_topi ey8 ?_
  refine sz_istore_n dX12_goPlan_8 rfl (Nat.le_of_ble_eq_true rfl) rfl ?_
  refine sz_ls (l2 := [some (.ref 39), some (.ref w1), some (.int x2), some (.int y8), none]) rfl ?_
  refine sz_iconst dX12_goPlan_9 (cI0) ?_
  refine sz_istore dX12_goPlan_10 (Nat.le_of_ble_eq_true rfl) rfl ?_
  refine sz_ls (l2 := [some (.ref 39), some (.ref w1), some (.int x2), some (.int y8), some (.int 0)]) rfl ?_
  refine sz_aload_n dX12_goPlan_12 rfl ?_
  refine sz_getR dX12_goPlan_13 flX12_58 kd39 rfl rf39_25 ?_
  refine sz_iload_n dX12_goPlan_16 rfl ?_
  obtain ⟨c17, hf⟩ := gz_gd hf
  refine sz_ialdL dX12_goPlan_17 kd51 c17 rfl ?_
  obtain ⟨y18, ey18, hf⟩ := gz_lt hf
  refine sz_topi ey18 ?_
  by_cases c18_0 : y18 = 0
  · have hf := gz_ip c18_0 hf
    refine sz_tableIn 44 dX12_goPlan_18 (by rw [c18_0]; decide) (by rw [c18_0]; decide) (by rw [c18_0]; rfl) (by decide) ?_
    refine sz_aload_n dX12_goPlan_44 rfl ?_
    refine sz_aload_n dX12_goPlan_45 rfl ?_
    obtain ⟨q46, eq46, hf⟩ := gz_bd hf
    refine sz_callVi [.ref w1] [] dX12_goPlan_46 mvX12_383 (Nat.le_of_ble_eq_true rfl) (by decide : 12 < 13) kd39 rfl (Nat.le_of_ble_eq_true rfl) (kX12_goHour  hw1 eq46) ?_
    cases hf
    exact sz_iret dX12_goPlan_49 rfl rfl ⟨rfl, rfl⟩
  have hf := gz_in1 c18_0 hf
  by_cases c18_1 : y18 = 1
  · have hf := gz_ip c18_1 hf
    refine sz_tableIn 50 dX12_goPlan_18 (by rw [c18_1]; decide) (by rw [c18_1]; decide) (by rw [c18_1]; rfl) (by decide) ?_
    refine sz_aload_n dX12_goPlan_50 rfl ?_
    refine sz_bipush dX12_goPlan_51 (cB48) ?_
    refine sz_dup2 dX12_goPlan_53 rfl rfl ?_
    refine sz_ialdL dX12_goPlan_54 (kds_nt hw1) vi48_231 tn48 ?_
    refine sz_iconst dX12_goPlan_55 (cI3) ?_
    refine sz_isub dX12_goPlan_56 ?_
    obtain ⟨g57, eg57, hf⟩ := gz_lt hf
    refine sz_iastL dX12_goPlan_57 (kds_nt hw1) vi48_231 tn48 eg57 ?_
    refine sz_aload_n dX12_goPlan_58 rfl ?_
    refine sz_aload_n dX12_goPlan_59 rfl ?_
    refine sz_iload_n dX12_goPlan_60 rfl ?_
    refine sz_aload_n dX12_goPlan_61 rfl ?_
    refine sz_getR dX12_goPlan_62 flX12_58 kd39 rfl rf39_25 ?_
    refine sz_iload_n dX12_goPlan_65 rfl ?_
    refine sz_iconst dX12_goPlan_66 (cI2) ?_
    refine sz_iadd dX12_goPlan_67 ?_
    obtain ⟨c68, hf⟩ := gz_gd hf
    refine sz_ialdL dX12_goPlan_68 kd51 c68 rfl ?_
    obtain ⟨q69, eq69, hf⟩ := gz_bd hf
    refine sz_callVv [.ref w1, .int y8, .int (g57.1 51 (Int32.toNatClampNeg (x2 + 2)))] [] dX12_goPlan_69 mvX12_412 (Nat.le_of_ble_eq_true rfl) (by decide : 12 < 13) kd39 rfl (Nat.le_of_ble_eq_true rfl) (kX12_begins0  hw1 eq69) ?_
    refine sz_iconst dX12_goPlan_72 (cI0) ?_
    cases hf
    exact sz_iret dX12_goPlan_73 rfl rfl ⟨rfl, rfl⟩
  have hf := gz_in1 c18_1 hf
  by_cases c18_2 : y18 = 2
  · have hf := gz_ip c18_2 hf
    refine sz_tableIn 74 dX12_goPlan_18 (by rw [c18_2]; decide) (by rw [c18_2]; decide) (by rw [c18_2]; rfl) (by decide) ?_
    refine sz_aload_n dX12_goPlan_74 rfl ?_
    refine sz_bipush dX12_goPlan_75 (cB46) ?_
    refine sz_iload_n dX12_goPlan_77 rfl ?_
    obtain ⟨g78, eg78, hf⟩ := gz_lt hf
    refine sz_iastL dX12_goPlan_78 (kds_nt hw1) vi46_231 tn46 eg78 ?_
    refine sz_iconst dX12_goPlan_79 (cI0) ?_
    cases hf
    exact sz_iret dX12_goPlan_80 rfl rfl ⟨rfl, rfl⟩
  have hf := gz_in1 c18_2 hf
  refine sz_tableOut 81 dX12_goPlan_18 (by have z0 := lv_neT c18_0 (a := 0) (by decide); have z1 := lv_neT c18_1 (a := 1) (by decide); have z2 := lv_neT c18_2 (a := 2) (by decide); omega) (by decide) ?_
  refine sz_aload_n dX12_goPlan_81 rfl ?_
  refine sz_aload_n dX12_goPlan_82 rfl ?_
  refine sz_iload_n dX12_goPlan_83 rfl ?_
  obtain ⟨q84, eq84, hf⟩ := gz_bd hf
  refine sz_callVi [.ref w1, .int y8] [] dX12_goPlan_84 mvX12_403 (Nat.le_of_ble_eq_true rfl) (by decide : 12 < 13) kd39 rfl (Nat.le_of_ble_eq_true rfl) (kX12_sweeps  hw1 eq84) ?_
  refine sz_istore dX12_goPlan_87 (Nat.le_of_ble_eq_true rfl) rfl ?_
  refine sz_ls (l2 := [some (.ref 39), some (.ref w1), some (.int x2), some (.int y8), some (.int q84.1)]) rfl ?_
  refine sz_iconst dX12_goPlan_89 (cI0) ?_
  cases hf
  exact sz_iret dX12_goPlan_90 rfl rfl ⟨rfl, rfl⟩
def fX12_run_50 (La : gz_L)   (k106 : Int32 → Int32 → Int32 → Int32 → gz_S → Option (Int32 × gz_S)) : Nat → Int32 → Int32 → Int32 → Int32 → gz_S → Option (Int32 × gz_S)
  | 0, _, _, _, _, _ => none
  | n + 1, x1, x2, x3, x4, g => if gz_ok x1 5 then if (g.1 52 (Int32.toNatClampNeg x1)) ≤ x3 then k106 x1 x2 x3 x4 g else (fX12_canStep La  54 ((3 : Int32) * (((16 : Int32) * x1) + x3)) g).bind (fun q73 => if q73.1 = 0 then k106 x1 x2 x3 x4 q73.2 else (fX12_goPlan La  54 ((3 : Int32) * (((16 : Int32) * x1) + x3)) q73.2).bind (fun q94 => gz_let (x4 + q94.1) (fun y98 => gz_let (x3 + 1) (fun y100 => fX12_run_50 La   k106 n x1 x2 y100 y98 q94.2)))) else none
set_option maxRecDepth 100000 in
set_option maxHeartbeats 4000000 in
theorem tX12_run_50 {La : gz_L}   {k106 : Int32 → Int32 → Int32 → Int32 → gz_S → Option (Int32 × gz_S)}  (hk106 : ∀ (x1 : Int32) (x2 : Int32) (x3 : Int32) (x4 : Int32) (g : gz_S) (r : Int32 × gz_S), k106 x1 x2 x3 x4 g = some r → gz_J La 148 mX12_run 106 [some (.ref 39), some (.int x1), some (.int x2), some (.int x3), some (.int x4)] [] g (gz_Fi r)) : ∀ (n : Nat) (x1 : Int32) (x2 : Int32) (x3 : Int32) (x4 : Int32) (g : gz_S) (r : Int32 × gz_S), fX12_run_50 La   k106 n x1 x2 x3 x4 g = some r → gz_J La 148 mX12_run 50 [some (.ref 39), some (.int x1), some (.int x2), some (.int x3), some (.int x4)] [] g (gz_Fi r) := by
  intro n
  induction n with
  | zero => intro x1 x2 x3 x4 g r hf; exact nomatch (show (none : Option (Int32 × gz_S)) = some r from hf)
  | succ n ih =>
    intro x1 x2 x3 x4 g r hf
    unfold fX12_run_50 at hf
    refine sz_iload_n dX12_run_50 rfl ?_
    refine sz_aload_n dX12_run_51 rfl ?_
    refine sz_getR dX12_run_52 flX12_61 kd39 rfl rf39_26 ?_
    refine sz_iload_n dX12_run_55 rfl ?_
    obtain ⟨c56, hf⟩ := gz_gd hf
    refine sz_ialdL dX12_run_56 kd52 c56 rfl ?_
    refine sz_icmp_ge 106 dX12_run_57 (by decide) (fun c57 => ?_) (fun c57 => ?_)
    · have hf := gz_ip c57 hf
      exact hk106 _ _ _ _ _ _ hf
    · have hf := gz_in1 c57 hf
      refine sz_aload_n dX12_run_60 rfl ?_
      refine sz_aload_n dX12_run_61 rfl ?_
      refine sz_getR dX12_run_62 flX12_67 kd39 rfl rf39_33 ?_
      refine sz_iconst dX12_run_65 (cI3) ?_
      refine sz_bipush dX12_run_66 (cB16) ?_
      refine sz_iload_n dX12_run_68 rfl ?_
      refine sz_imul dX12_run_69 ?_
      refine sz_iload_n dX12_run_70 rfl ?_
      refine sz_iadd dX12_run_71 ?_
      refine sz_imul dX12_run_72 ?_
      obtain ⟨q73, eq73, hf⟩ := gz_bd hf
      refine sz_callVi [.ref 54, .int ((3 : Int32) * (((16 : Int32) * x1) + x3))] [] dX12_run_73 mvX12_438 (Nat.le_of_ble_eq_true rfl) (by decide : 12 < 13) kd39 rfl (Nat.le_of_ble_eq_true rfl) (kX12_canStep  (Or.inr rfl) eq73) ?_
      refine sz_if_eq 106 dX12_run_76 (by decide) (fun c76 => ?_) (fun c76 => ?_)
      · have hf := gz_ip c76 hf
        exact hk106 _ _ _ _ _ _ hf
      · have hf := gz_in1 c76 hf
        refine sz_iload dX12_run_79 rfl ?_
        refine sz_aload_n dX12_run_81 rfl ?_
        refine sz_aload_n dX12_run_82 rfl ?_
        refine sz_getR dX12_run_83 flX12_67 kd39 rfl rf39_33 ?_
        refine sz_iconst dX12_run_86 (cI3) ?_
        refine sz_bipush dX12_run_87 (cB16) ?_
        refine sz_iload_n dX12_run_89 rfl ?_
        refine sz_imul dX12_run_90 ?_
        refine sz_iload_n dX12_run_91 rfl ?_
        refine sz_iadd dX12_run_92 ?_
        refine sz_imul dX12_run_93 ?_
        obtain ⟨q94, eq94, hf⟩ := gz_bd hf
        refine sz_callVi [.ref 54, .int ((3 : Int32) * (((16 : Int32) * x1) + x3))] [.int x4] dX12_run_94 mvX12_441 (Nat.le_of_ble_eq_true rfl) (by decide : 12 < 13) kd39 rfl (Nat.le_of_ble_eq_true rfl) (kX12_goPlan  (Or.inr rfl) eq94) ?_
        refine sz_iadd dX12_run_97 ?_
        obtain ⟨y98, ey98, hf⟩ := gz_lt hf
        refine sz_topi ey98 ?_
        refine sz_istore dX12_run_98 (Nat.le_of_ble_eq_true rfl) rfl ?_
        refine sz_ls (l2 := [some (.ref 39), some (.int x1), some (.int x2), some (.int x3), some (.int y98)]) rfl ?_
        obtain ⟨y100, ey100, hf⟩ := gz_lt hf
        refine sz_iinc (v := y100) dX12_run_100 rfl (by rw [ey100, cI1]) (Nat.le_of_ble_eq_true rfl) rfl ?_
        refine sz_ls (l2 := [some (.ref 39), some (.int x1), some (.int x2), some (.int y100), some (.int y98)]) rfl ?_
        refine sz_goto 50 dX12_run_103 (by decide) ?_
        exact ih _ _ _ _ _ _ hf
def fX12_run_106 (La : gz_L)    (x1 : Int32) (x2 : Int32) (x3 : Int32) (x4 : Int32) (g : gz_S) : Option (Int32 × gz_S) := if x2 = 1 then some (x4, g) else if gz_ok x1 5 then if x3 = (g.1 52 (Int32.toNatClampNeg x1)) then some ((-1), g) else some (x3, g) else none
set_option maxRecDepth 100000 in
set_option maxHeartbeats 4000000 in
theorem tX12_run_106 {La : gz_L}      : ∀ (x1 : Int32) (x2 : Int32) (x3 : Int32) (x4 : Int32) (g : gz_S) (r : Int32 × gz_S), fX12_run_106 La    x1 x2 x3 x4 g = some r → gz_J La 148 mX12_run 106 [some (.ref 39), some (.int x1), some (.int x2), some (.int x3), some (.int x4)] [] g (gz_Fi r) := by
  intro x1 x2 x3 x4 g r hf
  unfold fX12_run_106 at hf
  refine sz_iload_n dX12_run_106 rfl ?_
  refine sz_iconst dX12_run_107 (cI1) ?_
  refine sz_icmp_ne 114 dX12_run_108 (by decide) (fun c108 => ?_) (fun c108 => ?_)
  · have hf := gz_in1 c108 hf
    refine sz_iload_n dX12_run_114 rfl ?_
    refine sz_aload_n dX12_run_115 rfl ?_
    refine sz_getR dX12_run_116 flX12_61 kd39 rfl rf39_26 ?_
    refine sz_iload_n dX12_run_119 rfl ?_
    obtain ⟨c120, hf⟩ := gz_gd hf
    refine sz_ialdL dX12_run_120 kd52 c120 rfl ?_
    refine sz_icmp_ne 128 dX12_run_121 (by decide) (fun c121 => ?_) (fun c121 => ?_)
    · have hf := gz_in1 c121 hf
      refine sz_iload_n dX12_run_128 rfl ?_
      cases hf
      exact sz_iret dX12_run_129 rfl rfl ⟨rfl, rfl⟩
    · have hf := gz_ip c121 hf
      refine sz_iconst dX12_run_124 (cIm1) ?_
      refine sz_goto 129 dX12_run_125 (by decide) ?_
      cases hf
      exact sz_iret dX12_run_129 rfl rfl ⟨rfl, rfl⟩
  · have hf := gz_ip c108 hf
    refine sz_iload dX12_run_111 rfl ?_
    cases hf
    exact sz_iret dX12_run_113 rfl rfl ⟨rfl, rfl⟩
def fX12_run (La : gz_L)  (x1 : Int32) (x2 : Int32) (g : gz_S) : Option (Int32 × gz_S) :=
  gz_let (gz_wi g 39 0 0) (fun g2 => (fX12_isPlan La  x1 g2).bind (fun q7 => if q7.1 = 0 then some ((-1000000), q7.2) else if (q7.2.1 39 27) = 0 then some ((-1000000), q7.2) else (fX12_isIn La  (Int32.toInt64 x2) 0 1 q7.2).bind (fun q24 => if q24.1 = 0 then some ((-1000000), q24.2) else (fX12_copy La   q24.2).bind (fun q42 => fX12_run_50 La   (fX12_run_106 La    ) gz_FU x1 x2 0 0 q42))))
set_option maxRecDepth 100000 in
set_option maxHeartbeats 4000000 in
theorem kX12_run {La : gz_L}  {x1 : Int32} {x2 : Int32} {g : gz_S} {r : Int32 × gz_S}  (hf : fX12_run La  x1 x2 g = some r) : gz_K La 148 mX12_run [.ref 39, .int x1, .int x2] g (gz_Fi r) := by
  unfold fX12_run at hf
  refine gz_K.of 2 (by decide +kernel) rfl ?_
  show gz_J La 148 mX12_run 0 [some (.ref 39), some (.int x1), some (.int x2), none, none] [] g (gz_Fi r)
  refine sz_aload_n dX12_run_0 rfl ?_
  refine sz_iconst dX12_run_1 (cI0) ?_
  obtain ⟨g2, eg2, hf⟩ := gz_lt hf
  refine sz_putI2 dX12_run_2 flX12_104 kd39 fi12_0 eg2 ?_
  refine sz_aload_n dX12_run_5 rfl ?_
  refine sz_iload_n dX12_run_6 rfl ?_
  obtain ⟨q7, eq7, hf⟩ := gz_bd hf
  refine sz_callVi [.int x1] [] dX12_run_7 mvX12_430 (Nat.le_of_ble_eq_true rfl) (by decide : 12 < 13) kd39 rfl (Nat.le_of_ble_eq_true rfl) (kX12_isPlan   eq7) ?_
  refine sz_if_eq 30 dX12_run_10 (by decide) (fun c10 => ?_) (fun c10 => ?_)
  · have hf := gz_ip c10 hf
    refine sz_ldcw dX12_run_30 cstX12_433 ?_
    cases hf
    exact sz_iret dX12_run_33 rfl rfl ⟨rfl, rfl⟩
  · have hf := gz_in1 c10 hf
    refine sz_aload_n dX12_run_13 rfl ?_
    refine sz_getI dX12_run_14 flX12_303 kd39 rfl ?_
    refine sz_if_eq 30 dX12_run_17 (by decide) (fun c17 => ?_) (fun c17 => ?_)
    · have hf := gz_ip c17 hf
      refine sz_ldcw dX12_run_30 cstX12_433 ?_
      cases hf
      exact sz_iret dX12_run_33 rfl rfl ⟨rfl, rfl⟩
    · have hf := gz_in1 c17 hf
      refine sz_iload_n dX12_run_20 rfl ?_
      refine sz_i2l dX12_run_21 ?_
      refine sz_lconst (v := 0) dX12_run_22 rfl ?_
      refine sz_lconst (v := 1) dX12_run_23 rfl ?_
      obtain ⟨q24, eq24, hf⟩ := gz_bd hf
      refine sz_callSi [.long (Int32.toInt64 x2), .long 0, .long 1] [] dX12_run_24 msX12_225 (Nat.le_of_ble_eq_true rfl) (Nat.le_of_ble_eq_true rfl) (kX12_isIn   eq24) ?_
      refine sz_if_ne 34 dX12_run_27 (by decide) (fun c27 => ?_) (fun c27 => ?_)
      · have hf := gz_in1 c27 hf
        refine sz_aload_n dX12_run_34 rfl ?_
        refine sz_getR dX12_run_35 flX12_64 kd39 rfl rf39_32 ?_
        refine sz_aload_n dX12_run_38 rfl ?_
        refine sz_getR dX12_run_39 flX12_67 kd39 rfl rf39_33 ?_
        obtain ⟨q42, eq42, hf⟩ := gz_bd hf
        refine sz_callSv [.ref 53, .ref 54] [] dX12_run_42 msX12_434 (Nat.le_of_ble_eq_true rfl) (Nat.le_of_ble_eq_true rfl) (kX12_copy   eq42) ?_
        refine sz_iconst dX12_run_45 (cI0) ?_
        refine sz_istore_n dX12_run_46 rfl (Nat.le_of_ble_eq_true rfl) rfl ?_
        refine sz_ls (l2 := [some (.ref 39), some (.int x1), some (.int x2), some (.int 0), none]) rfl ?_
        refine sz_iconst dX12_run_47 (cI0) ?_
        refine sz_istore dX12_run_48 (Nat.le_of_ble_eq_true rfl) rfl ?_
        refine sz_ls (l2 := [some (.ref 39), some (.int x1), some (.int x2), some (.int 0), some (.int 0)]) rfl ?_
        exact tX12_run_50   (tX12_run_106   ) _ _ _ _ _ _ _ hf
      · have hf := gz_ip c27 hf
        refine sz_ldcw dX12_run_30 cstX12_433 ?_
        cases hf
        exact sz_iret dX12_run_33 rfl rfl ⟨rfl, rfl⟩
def fX12_perform_24 (La : gz_L)    : Nat → Int32 → Int32 → gz_S → Option (Int32 × gz_S)
  | 0, _, _, _ => none
  | n + 1, x1, x2, g => if gz_ok x1 5 then if (g.1 52 (Int32.toNatClampNeg x1)) ≤ x2 then some (x2, g) else (fX12_canStep La  53 ((3 : Int32) * (((16 : Int32) * x1) + x2)) g).bind (fun q47 => if q47.1 = 0 then some (x2, q47.2) else (fX12_remember La   q47.2).bind (fun q54 => (fX12_goPlan La  53 ((3 : Int32) * (((16 : Int32) * x1) + x2)) q54).bind (fun q70 => gz_let (x2 + 1) (fun y74 => fX12_perform_24 La    n x1 y74 q70.2)))) else none
set_option maxRecDepth 100000 in
set_option maxHeartbeats 4000000 in
theorem tX12_perform_24 {La : gz_L}      : ∀ (n : Nat) (x1 : Int32) (x2 : Int32) (g : gz_S) (r : Int32 × gz_S), fX12_perform_24 La    n x1 x2 g = some r → gz_J La 148 mX12_perform 24 [some (.ref 39), some (.int x1), some (.int x2), none] [] g (gz_Fi r) := by
  intro n
  induction n with
  | zero => intro x1 x2 g r hf; exact nomatch (show (none : Option (Int32 × gz_S)) = some r from hf)
  | succ n ih =>
    intro x1 x2 g r hf
    unfold fX12_perform_24 at hf
    refine sz_iload_n dX12_perform_24 rfl ?_
    refine sz_aload_n dX12_perform_25 rfl ?_
    refine sz_getR dX12_perform_26 flX12_61 kd39 rfl rf39_26 ?_
    refine sz_iload_n dX12_perform_29 rfl ?_
    obtain ⟨c30, hf⟩ := gz_gd hf
    refine sz_ialdL dX12_perform_30 kd52 c30 rfl ?_
    refine sz_icmp_ge 80 dX12_perform_31 (by decide) (fun c31 => ?_) (fun c31 => ?_)
    · have hf := gz_ip c31 hf
      refine sz_iload_n dX12_perform_80 rfl ?_
      cases hf
      exact sz_iret dX12_perform_81 rfl rfl ⟨rfl, rfl⟩
    · have hf := gz_in1 c31 hf
      refine sz_aload_n dX12_perform_34 rfl ?_
      refine sz_aload_n dX12_perform_35 rfl ?_
      refine sz_getR dX12_perform_36 flX12_64 kd39 rfl rf39_32 ?_
      refine sz_iconst dX12_perform_39 (cI3) ?_
      refine sz_bipush dX12_perform_40 (cB16) ?_
      refine sz_iload_n dX12_perform_42 rfl ?_
      refine sz_imul dX12_perform_43 ?_
      refine sz_iload_n dX12_perform_44 rfl ?_
      refine sz_iadd dX12_perform_45 ?_
      refine sz_imul dX12_perform_46 ?_
      obtain ⟨q47, eq47, hf⟩ := gz_bd hf
      refine sz_callVi [.ref 53, .int ((3 : Int32) * (((16 : Int32) * x1) + x2))] [] dX12_perform_47 mvX12_438 (Nat.le_of_ble_eq_true rfl) (by decide : 12 < 13) kd39 rfl (Nat.le_of_ble_eq_true rfl) (kX12_canStep  (Or.inl rfl) eq47) ?_
      refine sz_if_eq 80 dX12_perform_50 (by decide) (fun c50 => ?_) (fun c50 => ?_)
      · have hf := gz_ip c50 hf
        refine sz_iload_n dX12_perform_80 rfl ?_
        cases hf
        exact sz_iret dX12_perform_81 rfl rfl ⟨rfl, rfl⟩
      · have hf := gz_in1 c50 hf
        refine sz_aload_n dX12_perform_53 rfl ?_
        obtain ⟨q54, eq54, hf⟩ := gz_bd hf
        refine sz_callVv [] [] dX12_perform_54 mvX12_380 (Nat.le_of_ble_eq_true rfl) (by decide : 12 < 13) kd39 rfl (Nat.le_of_ble_eq_true rfl) (kX12_remember   eq54) ?_
        refine sz_aload_n dX12_perform_57 rfl ?_
        refine sz_aload_n dX12_perform_58 rfl ?_
        refine sz_getR dX12_perform_59 flX12_64 kd39 rfl rf39_32 ?_
        refine sz_iconst dX12_perform_62 (cI3) ?_
        refine sz_bipush dX12_perform_63 (cB16) ?_
        refine sz_iload_n dX12_perform_65 rfl ?_
        refine sz_imul dX12_perform_66 ?_
        refine sz_iload_n dX12_perform_67 rfl ?_
        refine sz_iadd dX12_perform_68 ?_
        refine sz_imul dX12_perform_69 ?_
        obtain ⟨q70, eq70, hf⟩ := gz_bd hf
        refine sz_callVi [.ref 53, .int ((3 : Int32) * (((16 : Int32) * x1) + x2))] [] dX12_perform_70 mvX12_441 (Nat.le_of_ble_eq_true rfl) (by decide : 12 < 13) kd39 rfl (Nat.le_of_ble_eq_true rfl) (kX12_goPlan  (Or.inl rfl) eq70) ?_
        refine sz_istore_n dX12_perform_73 rfl (Nat.le_of_ble_eq_true rfl) rfl ?_
        refine sz_ls (l2 := [some (.ref 39), some (.int x1), some (.int x2), some (.int q70.1)]) rfl ?_
        obtain ⟨y74, ey74, hf⟩ := gz_lt hf
        refine sz_iinc (v := y74) dX12_perform_74 rfl (by rw [ey74, cI1]) (Nat.le_of_ble_eq_true rfl) rfl ?_
        refine sz_ls (l2 := [some (.ref 39), some (.int x1), some (.int y74), some (.int q70.1)]) rfl ?_
        refine sz_goto 24 dX12_perform_77 (by decide) ?_
        refine sz_weak (l2 := [some (.ref 39), some (.int x1), some (.int y74), none]) (gz_subk (gz_subk (gz_subk (gz_subn gz_sub0)))) ?_
        exact ih _ _ _ _ hf
def fX12_perform (La : gz_L)  (x1 : Int32) (g : gz_S) : Option (Int32 × gz_S) :=
  gz_let (gz_wi g 39 0 0) (fun g2 => (fX12_isPlan La  x1 g2).bind (fun q7 => if q7.1 = 0 then some ((-1), q7.2) else if (q7.2.1 39 27) = 0 then some ((-1), q7.2) else fX12_perform_24 La    gz_FU x1 0 q7.2))
set_option maxRecDepth 100000 in
set_option maxHeartbeats 4000000 in
theorem kX12_perform {La : gz_L}  {x1 : Int32} {g : gz_S} {r : Int32 × gz_S}  (hf : fX12_perform La  x1 g = some r) : gz_K La 148 mX12_perform [.ref 39, .int x1] g (gz_Fi r) := by
  unfold fX12_perform at hf
  refine gz_K.of 2 (by decide +kernel) rfl ?_
  show gz_J La 148 mX12_perform 0 [some (.ref 39), some (.int x1), none, none] [] g (gz_Fi r)
  refine sz_aload_n dX12_perform_0 rfl ?_
  refine sz_iconst dX12_perform_1 (cI0) ?_
  obtain ⟨g2, eg2, hf⟩ := gz_lt hf
  refine sz_putI2 dX12_perform_2 flX12_104 kd39 fi12_0 eg2 ?_
  refine sz_aload_n dX12_perform_5 rfl ?_
  refine sz_iload_n dX12_perform_6 rfl ?_
  obtain ⟨q7, eq7, hf⟩ := gz_bd hf
  refine sz_callVi [.int x1] [] dX12_perform_7 mvX12_430 (Nat.le_of_ble_eq_true rfl) (by decide : 12 < 13) kd39 rfl (Nat.le_of_ble_eq_true rfl) (kX12_isPlan   eq7) ?_
  refine sz_if_eq 20 dX12_perform_10 (by decide) (fun c10 => ?_) (fun c10 => ?_)
  · have hf := gz_ip c10 hf
    refine sz_iconst dX12_perform_20 (cIm1) ?_
    cases hf
    exact sz_iret dX12_perform_21 rfl rfl ⟨rfl, rfl⟩
  · have hf := gz_in1 c10 hf
    refine sz_aload_n dX12_perform_13 rfl ?_
    refine sz_getI dX12_perform_14 flX12_303 kd39 rfl ?_
    refine sz_if_ne 22 dX12_perform_17 (by decide) (fun c17 => ?_) (fun c17 => ?_)
    · have hf := gz_in1 c17 hf
      refine sz_iconst dX12_perform_22 (cI0) ?_
      refine sz_istore_n dX12_perform_23 rfl (Nat.le_of_ble_eq_true rfl) rfl ?_
      refine sz_ls (l2 := [some (.ref 39), some (.int x1), some (.int 0), none]) rfl ?_
      exact tX12_perform_24    _ _ _ _ _ hf
    · have hf := gz_ip c17 hf
      refine sz_iconst dX12_perform_20 (cIm1) ?_
      cases hf
      exact sz_iret dX12_perform_21 rfl rfl ⟨rfl, rfl⟩
def fX12_where_40 (La : gz_L)   (k61 : Int32 → gz_S → Option (Int32 × gz_S)) : Nat → Int32 → Int32 → Int32 → gz_S → Option (Int32 × gz_S)
  | 0, _, _, _, _ => none
  | n + 1, x1, x2, x3, g => if x2 ≤ x3 then k61 x1 g else (fX12_passes La  54 g).bind (fun q50 => gz_let (x3 + 1) (fun y55 => fX12_where_40 La   k61 n x1 x2 y55 q50.2))
set_option maxRecDepth 100000 in
set_option maxHeartbeats 4000000 in
theorem tX12_where_40 {La : gz_L}   {k61 : Int32 → gz_S → Option (Int32 × gz_S)}  (hk61 : ∀ (x1 : Int32) (g : gz_S) (r : Int32 × gz_S), k61 x1 g = some r → gz_J La 146 mX12_where 61 [some (.ref 39), some (.int x1), none, none, none] [] g (gz_Fi r)) : ∀ (n : Nat) (x1 : Int32) (x2 : Int32) (x3 : Int32) (g : gz_S) (r : Int32 × gz_S), fX12_where_40 La   k61 n x1 x2 x3 g = some r → gz_J La 146 mX12_where 40 [some (.ref 39), some (.int x1), some (.int x2), some (.int x3), none] [] g (gz_Fi r) := by
  intro n
  induction n with
  | zero => intro x1 x2 x3 g r hf; exact nomatch (show (none : Option (Int32 × gz_S)) = some r from hf)
  | succ n ih =>
    intro x1 x2 x3 g r hf
    unfold fX12_where_40 at hf
    refine sz_iload_n dX12_where_40 rfl ?_
    refine sz_iload_n dX12_where_41 rfl ?_
    refine sz_icmp_ge 61 dX12_where_42 (by decide) (fun c42 => ?_) (fun c42 => ?_)
    · have hf := gz_ip c42 hf
      refine sz_weak (l2 := [some (.ref 39), some (.int x1), none, none, none]) (gz_subk (gz_subk (gz_subn (gz_subn (gz_subk gz_sub0))))) ?_
      exact hk61 _ _ _ hf
    · have hf := gz_in1 c42 hf
      refine sz_aload_n dX12_where_45 rfl ?_
      refine sz_aload_n dX12_where_46 rfl ?_
      refine sz_getR dX12_where_47 flX12_67 kd39 rfl rf39_33 ?_
      obtain ⟨q50, eq50, hf⟩ := gz_bd hf
      refine sz_callVi [.ref 54] [] dX12_where_50 mvX12_367 (Nat.le_of_ble_eq_true rfl) (by decide : 12 < 13) kd39 rfl (Nat.le_of_ble_eq_true rfl) (kX12_passes  (Or.inr rfl) eq50) ?_
      refine sz_istore dX12_where_53 (Nat.le_of_ble_eq_true rfl) rfl ?_
      refine sz_ls (l2 := [some (.ref 39), some (.int x1), some (.int x2), some (.int x3), some (.int q50.1)]) rfl ?_
      obtain ⟨y55, ey55, hf⟩ := gz_lt hf
      refine sz_iinc (v := y55) dX12_where_55 rfl (by rw [ey55, cI1]) (Nat.le_of_ble_eq_true rfl) rfl ?_
      refine sz_ls (l2 := [some (.ref 39), some (.int x1), some (.int x2), some (.int y55), some (.int q50.1)]) rfl ?_
      refine sz_goto 40 dX12_where_58 (by decide) ?_
      refine sz_weak (l2 := [some (.ref 39), some (.int x1), some (.int x2), some (.int y55), none]) (gz_subk (gz_subk (gz_subk (gz_subk (gz_subn gz_sub0))))) ?_
      exact ih _ _ _ _ _ hf
def fX12_where (La : gz_L)  (x1 : Int32) (x2 : Int32) (g : gz_S) : Option (Int32 × gz_S) :=
  gz_let (gz_wi g 39 0 0) (fun g2 => (fX12_isGoer La  x1 g2).bind (fun q7 => if q7.1 = 0 then some ((-1), q7.2) else (fX12_isIn La  (Int32.toInt64 x2) 0 99 q7.2).bind (fun q19 => if q19.1 = 0 then some ((-1), q19.2) else (fX12_copy La   q19.2).bind (fun q35 => fX12_where_40 La   (fun (x1 : Int32) g => if gz_ok ((30 : Int32) + ((4 : Int32) * x1)) 231 then some (g.1 54 (Int32.toNatClampNeg ((30 : Int32) + ((4 : Int32) * x1))), g) else none) gz_FU x1 x2 0 q35))))
set_option maxRecDepth 100000 in
set_option maxHeartbeats 4000000 in
theorem kX12_where {La : gz_L}  {x1 : Int32} {x2 : Int32} {g : gz_S} {r : Int32 × gz_S}  (hf : fX12_where La  x1 x2 g = some r) : gz_K La 146 mX12_where [.ref 39, .int x1, .int x2] g (gz_Fi r) := by
  unfold fX12_where at hf
  refine gz_K.of 2 (by decide +kernel) rfl ?_
  show gz_J La 146 mX12_where 0 [some (.ref 39), some (.int x1), some (.int x2), none, none] [] g (gz_Fi r)
  refine sz_aload_n dX12_where_0 rfl ?_
  refine sz_iconst dX12_where_1 (cI0) ?_
  obtain ⟨g2, eg2, hf⟩ := gz_lt hf
  refine sz_putI2 dX12_where_2 flX12_104 kd39 fi12_0 eg2 ?_
  refine sz_aload_n dX12_where_5 rfl ?_
  refine sz_iload_n dX12_where_6 rfl ?_
  obtain ⟨q7, eq7, hf⟩ := gz_bd hf
  refine sz_callVi [.int x1] [] dX12_where_7 mvX12_325 (Nat.le_of_ble_eq_true rfl) (by decide : 12 < 13) kd39 rfl (Nat.le_of_ble_eq_true rfl) (kX12_isGoer   eq7) ?_
  refine sz_if_eq 25 dX12_where_10 (by decide) (fun c10 => ?_) (fun c10 => ?_)
  · have hf := gz_ip c10 hf
    refine sz_iconst dX12_where_25 (cIm1) ?_
    cases hf
    exact sz_iret dX12_where_26 rfl rfl ⟨rfl, rfl⟩
  · have hf := gz_in1 c10 hf
    refine sz_iload_n dX12_where_13 rfl ?_
    refine sz_i2l dX12_where_14 ?_
    refine sz_lconst (v := 0) dX12_where_15 rfl ?_
    refine sz_ldc2 dX12_where_16 cstlX12_444 ?_
    obtain ⟨q19, eq19, hf⟩ := gz_bd hf
    refine sz_callSi [.long (Int32.toInt64 x2), .long 0, .long 99] [] dX12_where_19 msX12_225 (Nat.le_of_ble_eq_true rfl) (Nat.le_of_ble_eq_true rfl) (kX12_isIn   eq19) ?_
    refine sz_if_ne 27 dX12_where_22 (by decide) (fun c22 => ?_) (fun c22 => ?_)
    · have hf := gz_in1 c22 hf
      refine sz_aload_n dX12_where_27 rfl ?_
      refine sz_getR dX12_where_28 flX12_64 kd39 rfl rf39_32 ?_
      refine sz_aload_n dX12_where_31 rfl ?_
      refine sz_getR dX12_where_32 flX12_67 kd39 rfl rf39_33 ?_
      obtain ⟨q35, eq35, hf⟩ := gz_bd hf
      refine sz_callSv [.ref 53, .ref 54] [] dX12_where_35 msX12_434 (Nat.le_of_ble_eq_true rfl) (Nat.le_of_ble_eq_true rfl) (kX12_copy   eq35) ?_
      refine sz_iconst dX12_where_38 (cI0) ?_
      refine sz_istore_n dX12_where_39 rfl (Nat.le_of_ble_eq_true rfl) rfl ?_
      refine sz_ls (l2 := [some (.ref 39), some (.int x1), some (.int x2), some (.int 0), none]) rfl ?_
      have hk61 : ∀ (x1 : Int32) (g : gz_S) (r : Int32 × gz_S), (fun (x1 : Int32) g => if gz_ok ((30 : Int32) + ((4 : Int32) * x1)) 231 then some (g.1 54 (Int32.toNatClampNeg ((30 : Int32) + ((4 : Int32) * x1))), g) else none) x1 g = some r → gz_J La 146 mX12_where 61 [some (.ref 39), some (.int x1), none, none, none] [] g (gz_Fi r) := by
        intro x1 g r hf
        refine sz_aload_n dX12_where_61 rfl ?_
        refine sz_getR dX12_where_62 flX12_67 kd39 rfl rf39_33 ?_
        refine sz_bipush dX12_where_65 (cB30) ?_
        refine sz_iconst dX12_where_67 (cI4) ?_
        refine sz_iload_n dX12_where_68 rfl ?_
        refine sz_imul dX12_where_69 ?_
        refine sz_iadd dX12_where_70 ?_
        obtain ⟨c71, hf⟩ := gz_gd hf
        refine sz_ialdL dX12_where_71 kd54 c71 rfl ?_
        cases hf
        exact sz_iret dX12_where_72 rfl rfl ⟨rfl, rfl⟩
      exact tX12_where_40   hk61 _ _ _ _ _ _ hf
    · have hf := gz_ip c22 hf
      refine sz_iconst dX12_where_25 (cIm1) ?_
      cases hf
      exact sz_iret dX12_where_26 rfl rfl ⟨rfl, rfl⟩
def fX12_meetsWithin_3 (La : gz_L)    : Nat → Int32 → Int32 → Int32 → Int32 → gz_S → Option (Int32 × gz_S)
  | 0, _, _, _, _, _ => none
  | n + 1, x1, x2, x3, x4, g => if x3 < x4 then some ((-1), g) else (fX12_passes La  54 g).bind (fun q14 => (fX12_haveMet La  x1 x2 q14.2).bind (fun q22 => if q22.1 = 0 then gz_let (x4 + 1) (fun y31 => fX12_meetsWithin_3 La    n x1 x2 x3 y31 q22.2) else some (x4, q22.2)))
set_option maxRecDepth 100000 in
set_option maxHeartbeats 4000000 in
theorem tX12_meetsWithin_3 {La : gz_L}      : ∀ (n : Nat) (x1 : Int32) (x2 : Int32) (x3 : Int32) (x4 : Int32) (g : gz_S) (r : Int32 × gz_S), fX12_meetsWithin_3 La    n x1 x2 x3 x4 g = some r → gz_J La 146 mX12_meetsWithin 3 [some (.ref 39), some (.int x1), some (.int x2), some (.int x3), some (.int x4), none] [] g (gz_Fi r) := by
  intro n
  induction n with
  | zero => intro x1 x2 x3 x4 g r hf; exact nomatch (show (none : Option (Int32 × gz_S)) = some r from hf)
  | succ n ih =>
    intro x1 x2 x3 x4 g r hf
    unfold fX12_meetsWithin_3 at hf
    refine sz_iload dX12_meetsWithin_3 rfl ?_
    refine sz_iload_n dX12_meetsWithin_5 rfl ?_
    refine sz_icmp_gt 37 dX12_meetsWithin_6 (by decide) (fun c6 => ?_) (fun c6 => ?_)
    · have hf := gz_ip c6 hf
      refine sz_iconst dX12_meetsWithin_37 (cIm1) ?_
      cases hf
      exact sz_iret dX12_meetsWithin_38 rfl rfl ⟨rfl, rfl⟩
    · have hf := gz_in1 c6 hf
      refine sz_aload_n dX12_meetsWithin_9 rfl ?_
      refine sz_aload_n dX12_meetsWithin_10 rfl ?_
      refine sz_getR dX12_meetsWithin_11 flX12_67 kd39 rfl rf39_33 ?_
      obtain ⟨q14, eq14, hf⟩ := gz_bd hf
      refine sz_callVi [.ref 54] [] dX12_meetsWithin_14 mvX12_367 (Nat.le_of_ble_eq_true rfl) (by decide : 12 < 13) kd39 rfl (Nat.le_of_ble_eq_true rfl) (kX12_passes  (Or.inr rfl) eq14) ?_
      refine sz_istore dX12_meetsWithin_17 (Nat.le_of_ble_eq_true rfl) rfl ?_
      refine sz_ls (l2 := [some (.ref 39), some (.int x1), some (.int x2), some (.int x3), some (.int x4), some (.int q14.1)]) rfl ?_
      refine sz_aload_n dX12_meetsWithin_19 rfl ?_
      refine sz_iload_n dX12_meetsWithin_20 rfl ?_
      refine sz_iload_n dX12_meetsWithin_21 rfl ?_
      obtain ⟨q22, eq22, hf⟩ := gz_bd hf
      refine sz_callVi [.int x1, .int x2] [] dX12_meetsWithin_22 mvX12_446 (Nat.le_of_ble_eq_true rfl) (by decide : 12 < 13) kd39 rfl (Nat.le_of_ble_eq_true rfl) (kX12_haveMet   eq22) ?_
      refine sz_if_eq 31 dX12_meetsWithin_25 (by decide) (fun c25 => ?_) (fun c25 => ?_)
      · have hf := gz_ip c25 hf
        obtain ⟨y31, ey31, hf⟩ := gz_lt hf
        refine sz_iinc (v := y31) dX12_meetsWithin_31 rfl (by rw [ey31, cI1]) (Nat.le_of_ble_eq_true rfl) rfl ?_
        refine sz_ls (l2 := [some (.ref 39), some (.int x1), some (.int x2), some (.int x3), some (.int y31), some (.int q14.1)]) rfl ?_
        refine sz_goto 3 dX12_meetsWithin_34 (by decide) ?_
        refine sz_weak (l2 := [some (.ref 39), some (.int x1), some (.int x2), some (.int x3), some (.int y31), none]) (gz_subk (gz_subk (gz_subk (gz_subk (gz_subk (gz_subn gz_sub0)))))) ?_
        exact ih _ _ _ _ _ _ hf
      · have hf := gz_in1 c25 hf
        refine sz_iload dX12_meetsWithin_28 rfl ?_
        cases hf
        exact sz_iret dX12_meetsWithin_30 rfl rfl ⟨rfl, rfl⟩
def fX12_meetsWithin (La : gz_L)  (x1 : Int32) (x2 : Int32) (x3 : Int32) (g : gz_S) : Option (Int32 × gz_S) :=
  fX12_meetsWithin_3 La    gz_FU x1 x2 x3 1 g
set_option maxRecDepth 100000 in
set_option maxHeartbeats 4000000 in
theorem kX12_meetsWithin {La : gz_L}  {x1 : Int32} {x2 : Int32} {x3 : Int32} {g : gz_S} {r : Int32 × gz_S}  (hf : fX12_meetsWithin La  x1 x2 x3 g = some r) : gz_K La 146 mX12_meetsWithin [.ref 39, .int x1, .int x2, .int x3] g (gz_Fi r) := by
  unfold fX12_meetsWithin at hf
  refine gz_K.of 2 (by decide +kernel) rfl ?_
  show gz_J La 146 mX12_meetsWithin 0 [some (.ref 39), some (.int x1), some (.int x2), some (.int x3), none, none] [] g (gz_Fi r)
  refine sz_iconst dX12_meetsWithin_0 (cI1) ?_
  refine sz_istore dX12_meetsWithin_1 (Nat.le_of_ble_eq_true rfl) rfl ?_
  refine sz_ls (l2 := [some (.ref 39), some (.int x1), some (.int x2), some (.int x3), some (.int 1), none]) rfl ?_
  exact tX12_meetsWithin_3    _ _ _ _ _ _ _ hf
def fX12_meet (La : gz_L)  (x1 : Int32) (x2 : Int32) (g : gz_S) : Option (Int32 × gz_S) :=
  gz_let (gz_wi g 39 0 0) (fun g2 => (fX12_areTwo La  x1 x2 g2).bind (fun q8 => if q8.1 = 0 then some ((-1), q8.2) else (fX12_copy La   q8.2).bind (fun q24 => (fX12_meetsWithin La  x1 x2 99 q24).bind (fun q32 => some (q32.1, q32.2)))))
set_option maxRecDepth 100000 in
set_option maxHeartbeats 4000000 in
theorem kX12_meet {La : gz_L}  {x1 : Int32} {x2 : Int32} {g : gz_S} {r : Int32 × gz_S}  (hf : fX12_meet La  x1 x2 g = some r) : gz_K La 147 mX12_meet [.ref 39, .int x1, .int x2] g (gz_Fi r) := by
  unfold fX12_meet at hf
  refine gz_K.of 0 (by decide +kernel) rfl ?_
  show gz_J La 147 mX12_meet 0 [some (.ref 39), some (.int x1), some (.int x2)] [] g (gz_Fi r)
  refine sz_aload_n dX12_meet_0 rfl ?_
  refine sz_iconst dX12_meet_1 (cI0) ?_
  obtain ⟨g2, eg2, hf⟩ := gz_lt hf
  refine sz_putI2 dX12_meet_2 flX12_104 kd39 fi12_0 eg2 ?_
  refine sz_aload_n dX12_meet_5 rfl ?_
  refine sz_iload_n dX12_meet_6 rfl ?_
  refine sz_iload_n dX12_meet_7 rfl ?_
  obtain ⟨q8, eq8, hf⟩ := gz_bd hf
  refine sz_callVi [.int x1, .int x2] [] dX12_meet_8 mvX12_449 (Nat.le_of_ble_eq_true rfl) (by decide : 12 < 13) kd39 rfl (Nat.le_of_ble_eq_true rfl) (kX12_areTwo   eq8) ?_
  refine sz_if_ne 16 dX12_meet_11 (by decide) (fun c11 => ?_) (fun c11 => ?_)
  · have hf := gz_in1 c11 hf
    refine sz_aload_n dX12_meet_16 rfl ?_
    refine sz_getR dX12_meet_17 flX12_64 kd39 rfl rf39_32 ?_
    refine sz_aload_n dX12_meet_20 rfl ?_
    refine sz_getR dX12_meet_21 flX12_67 kd39 rfl rf39_33 ?_
    obtain ⟨q24, eq24, hf⟩ := gz_bd hf
    refine sz_callSv [.ref 53, .ref 54] [] dX12_meet_24 msX12_434 (Nat.le_of_ble_eq_true rfl) (Nat.le_of_ble_eq_true rfl) (kX12_copy   eq24) ?_
    refine sz_aload_n dX12_meet_27 rfl ?_
    refine sz_iload_n dX12_meet_28 rfl ?_
    refine sz_iload_n dX12_meet_29 rfl ?_
    refine sz_bipush dX12_meet_30 (cB99) ?_
    obtain ⟨q32, eq32, hf⟩ := gz_bd hf
    refine sz_callVi [.int x1, .int x2, .int 99] [] dX12_meet_32 mvX12_452 (Nat.le_of_ble_eq_true rfl) (by decide : 12 < 13) kd39 rfl (Nat.le_of_ble_eq_true rfl) (kX12_meetsWithin   eq32) ?_
    cases hf
    exact sz_iret dX12_meet_35 rfl rfl ⟨rfl, rfl⟩
  · have hf := gz_ip c11 hf
    refine sz_iconst dX12_meet_14 (cIm1) ?_
    cases hf
    exact sz_iret dX12_meet_15 rfl rfl ⟨rfl, rfl⟩
def fX12_ends_38 (La : gz_L)   (k71 : Int32 → Int32 → Int32 → gz_S → Option (Int32 × gz_S)) : Nat → Int32 → Int32 → Int32 → gz_S → Option (Int32 × gz_S)
  | 0, _, _, _, _ => none
  | n + 1, x1, x2, x3, g => if 99 ≤ x3 then k71 x1 x2 x3 g else (fX12_does La  54 x1 g).bind (fun q49 => if q49.1 = 0 then k71 x1 x2 x3 q49.2 else (fX12_passes La  54 q49.2).bind (fun q60 => gz_let (x3 + 1) (fun y65 => fX12_ends_38 La   k71 n x1 x2 y65 q60.2)))
set_option maxRecDepth 100000 in
set_option maxHeartbeats 4000000 in
theorem tX12_ends_38 {La : gz_L}   {k71 : Int32 → Int32 → Int32 → gz_S → Option (Int32 × gz_S)}  (hk71 : ∀ (x1 : Int32) (x2 : Int32) (x3 : Int32) (g : gz_S) (r : Int32 × gz_S), k71 x1 x2 x3 g = some r → gz_J La 146 mX12_ends 71 [some (.ref 39), some (.int x1), some (.int x2), some (.int x3), none] [] g (gz_Fi r)) : ∀ (n : Nat) (x1 : Int32) (x2 : Int32) (x3 : Int32) (g : gz_S) (r : Int32 × gz_S), fX12_ends_38 La   k71 n x1 x2 x3 g = some r → gz_J La 146 mX12_ends 38 [some (.ref 39), some (.int x1), some (.int x2), some (.int x3), none] [] g (gz_Fi r) := by
  intro n
  induction n with
  | zero => intro x1 x2 x3 g r hf; exact nomatch (show (none : Option (Int32 × gz_S)) = some r from hf)
  | succ n ih =>
    intro x1 x2 x3 g r hf
    unfold fX12_ends_38 at hf
    refine sz_iload_n dX12_ends_38 rfl ?_
    refine sz_bipush dX12_ends_39 (cB99) ?_
    refine sz_icmp_ge 71 dX12_ends_41 (by decide) (fun c41 => ?_) (fun c41 => ?_)
    · have hf := gz_ip c41 hf
      exact hk71 _ _ _ _ _ hf
    · have hf := gz_in1 c41 hf
      refine sz_aload_n dX12_ends_44 rfl ?_
      refine sz_getR dX12_ends_45 flX12_67 kd39 rfl rf39_33 ?_
      refine sz_iload_n dX12_ends_48 rfl ?_
      obtain ⟨q49, eq49, hf⟩ := gz_bd hf
      refine sz_callSi [.ref 54, .int x1] [] dX12_ends_49 msX12_346 (Nat.le_of_ble_eq_true rfl) (Nat.le_of_ble_eq_true rfl) (kX12_does  (Or.inr rfl) eq49) ?_
      refine sz_if_eq 71 dX12_ends_52 (by decide) (fun c52 => ?_) (fun c52 => ?_)
      · have hf := gz_ip c52 hf
        exact hk71 _ _ _ _ _ hf
      · have hf := gz_in1 c52 hf
        refine sz_aload_n dX12_ends_55 rfl ?_
        refine sz_aload_n dX12_ends_56 rfl ?_
        refine sz_getR dX12_ends_57 flX12_67 kd39 rfl rf39_33 ?_
        obtain ⟨q60, eq60, hf⟩ := gz_bd hf
        refine sz_callVi [.ref 54] [] dX12_ends_60 mvX12_367 (Nat.le_of_ble_eq_true rfl) (by decide : 12 < 13) kd39 rfl (Nat.le_of_ble_eq_true rfl) (kX12_passes  (Or.inr rfl) eq60) ?_
        refine sz_istore dX12_ends_63 (Nat.le_of_ble_eq_true rfl) rfl ?_
        refine sz_ls (l2 := [some (.ref 39), some (.int x1), some (.int x2), some (.int x3), some (.int q60.1)]) rfl ?_
        obtain ⟨y65, ey65, hf⟩ := gz_lt hf
        refine sz_iinc (v := y65) dX12_ends_65 rfl (by rw [ey65, cI1]) (Nat.le_of_ble_eq_true rfl) rfl ?_
        refine sz_ls (l2 := [some (.ref 39), some (.int x1), some (.int x2), some (.int y65), some (.int q60.1)]) rfl ?_
        refine sz_goto 38 dX12_ends_68 (by decide) ?_
        refine sz_weak (l2 := [some (.ref 39), some (.int x1), some (.int x2), some (.int y65), none]) (gz_subk (gz_subk (gz_subk (gz_subk (gz_subn gz_sub0))))) ?_
        exact ih _ _ _ _ _ hf
def fX12_ends_71 (La : gz_L)    (x1 : Int32) (x2 : Int32) (x3 : Int32) (g : gz_S) : Option (Int32 × gz_S) := (fX12_does La  54 x1 g).bind (fun q76 => if q76.1 = 0 then if x2 = 0 then some (x3, q76.2) else if gz_ok (((30 : Int32) + ((4 : Int32) * x1)) + 3) 231 then some (q76.2.1 54 (Int32.toNatClampNeg (((30 : Int32) + ((4 : Int32) * x1)) + 3)), q76.2) else none else some ((-1), q76.2))
set_option maxRecDepth 100000 in
set_option maxHeartbeats 4000000 in
theorem tX12_ends_71 {La : gz_L}      : ∀ (x1 : Int32) (x2 : Int32) (x3 : Int32) (g : gz_S) (r : Int32 × gz_S), fX12_ends_71 La    x1 x2 x3 g = some r → gz_J La 146 mX12_ends 71 [some (.ref 39), some (.int x1), some (.int x2), some (.int x3), none] [] g (gz_Fi r) := by
  intro x1 x2 x3 g r hf
  unfold fX12_ends_71 at hf
  refine sz_aload_n dX12_ends_71 rfl ?_
  refine sz_getR dX12_ends_72 flX12_67 kd39 rfl rf39_33 ?_
  refine sz_iload_n dX12_ends_75 rfl ?_
  obtain ⟨q76, eq76, hf⟩ := gz_bd hf
  refine sz_callSi [.ref 54, .int x1] [] dX12_ends_76 msX12_346 (Nat.le_of_ble_eq_true rfl) (Nat.le_of_ble_eq_true rfl) (kX12_does  (Or.inr rfl) eq76) ?_
  refine sz_if_eq 84 dX12_ends_79 (by decide) (fun c79 => ?_) (fun c79 => ?_)
  · have hf := gz_ip c79 hf
    refine sz_iload_n dX12_ends_84 rfl ?_
    refine sz_if_ne 92 dX12_ends_85 (by decide) (fun c85 => ?_) (fun c85 => ?_)
    · have hf := gz_in1 c85 hf
      refine sz_aload_n dX12_ends_92 rfl ?_
      refine sz_getR dX12_ends_93 flX12_67 kd39 rfl rf39_33 ?_
      refine sz_bipush dX12_ends_96 (cB30) ?_
      refine sz_iconst dX12_ends_98 (cI4) ?_
      refine sz_iload_n dX12_ends_99 rfl ?_
      refine sz_imul dX12_ends_100 ?_
      refine sz_iadd dX12_ends_101 ?_
      refine sz_iconst dX12_ends_102 (cI3) ?_
      refine sz_iadd dX12_ends_103 ?_
      obtain ⟨c104, hf⟩ := gz_gd hf
      refine sz_ialdL dX12_ends_104 kd54 c104 rfl ?_
      cases hf
      exact sz_iret dX12_ends_105 rfl rfl ⟨rfl, rfl⟩
    · have hf := gz_ip c85 hf
      refine sz_iload_n dX12_ends_88 rfl ?_
      refine sz_goto 105 dX12_ends_89 (by decide) ?_
      cases hf
      exact sz_iret dX12_ends_105 rfl rfl ⟨rfl, rfl⟩
  · have hf := gz_in1 c79 hf
    refine sz_iconst dX12_ends_82 (cIm1) ?_
    cases hf
    exact sz_iret dX12_ends_83 rfl rfl ⟨rfl, rfl⟩
def fX12_ends (La : gz_L)  (x1 : Int32) (x2 : Int32) (g : gz_S) : Option (Int32 × gz_S) :=
  gz_let (gz_wi g 39 0 0) (fun g2 => (fX12_isGoer La  x1 g2).bind (fun q7 => if q7.1 = 0 then some ((-1), q7.2) else (fX12_isIn La  (Int32.toInt64 x2) 0 1 q7.2).bind (fun q17 => if q17.1 = 0 then some ((-1), q17.2) else (fX12_copy La   q17.2).bind (fun q33 => fX12_ends_38 La   (fX12_ends_71 La    ) gz_FU x1 x2 0 q33))))
set_option maxRecDepth 100000 in
set_option maxHeartbeats 4000000 in
theorem kX12_ends {La : gz_L}  {x1 : Int32} {x2 : Int32} {g : gz_S} {r : Int32 × gz_S}  (hf : fX12_ends La  x1 x2 g = some r) : gz_K La 146 mX12_ends [.ref 39, .int x1, .int x2] g (gz_Fi r) := by
  unfold fX12_ends at hf
  refine gz_K.of 2 (by decide +kernel) rfl ?_
  show gz_J La 146 mX12_ends 0 [some (.ref 39), some (.int x1), some (.int x2), none, none] [] g (gz_Fi r)
  refine sz_aload_n dX12_ends_0 rfl ?_
  refine sz_iconst dX12_ends_1 (cI0) ?_
  obtain ⟨g2, eg2, hf⟩ := gz_lt hf
  refine sz_putI2 dX12_ends_2 flX12_104 kd39 fi12_0 eg2 ?_
  refine sz_aload_n dX12_ends_5 rfl ?_
  refine sz_iload_n dX12_ends_6 rfl ?_
  obtain ⟨q7, eq7, hf⟩ := gz_bd hf
  refine sz_callVi [.int x1] [] dX12_ends_7 mvX12_325 (Nat.le_of_ble_eq_true rfl) (by decide : 12 < 13) kd39 rfl (Nat.le_of_ble_eq_true rfl) (kX12_isGoer   eq7) ?_
  refine sz_if_eq 23 dX12_ends_10 (by decide) (fun c10 => ?_) (fun c10 => ?_)
  · have hf := gz_ip c10 hf
    refine sz_iconst dX12_ends_23 (cIm1) ?_
    cases hf
    exact sz_iret dX12_ends_24 rfl rfl ⟨rfl, rfl⟩
  · have hf := gz_in1 c10 hf
    refine sz_iload_n dX12_ends_13 rfl ?_
    refine sz_i2l dX12_ends_14 ?_
    refine sz_lconst (v := 0) dX12_ends_15 rfl ?_
    refine sz_lconst (v := 1) dX12_ends_16 rfl ?_
    obtain ⟨q17, eq17, hf⟩ := gz_bd hf
    refine sz_callSi [.long (Int32.toInt64 x2), .long 0, .long 1] [] dX12_ends_17 msX12_225 (Nat.le_of_ble_eq_true rfl) (Nat.le_of_ble_eq_true rfl) (kX12_isIn   eq17) ?_
    refine sz_if_ne 25 dX12_ends_20 (by decide) (fun c20 => ?_) (fun c20 => ?_)
    · have hf := gz_in1 c20 hf
      refine sz_aload_n dX12_ends_25 rfl ?_
      refine sz_getR dX12_ends_26 flX12_64 kd39 rfl rf39_32 ?_
      refine sz_aload_n dX12_ends_29 rfl ?_
      refine sz_getR dX12_ends_30 flX12_67 kd39 rfl rf39_33 ?_
      obtain ⟨q33, eq33, hf⟩ := gz_bd hf
      refine sz_callSv [.ref 53, .ref 54] [] dX12_ends_33 msX12_434 (Nat.le_of_ble_eq_true rfl) (Nat.le_of_ble_eq_true rfl) (kX12_copy   eq33) ?_
      refine sz_iconst dX12_ends_36 (cI0) ?_
      refine sz_istore_n dX12_ends_37 rfl (Nat.le_of_ble_eq_true rfl) rfl ?_
      refine sz_ls (l2 := [some (.ref 39), some (.int x1), some (.int x2), some (.int 0), none]) rfl ?_
      exact tX12_ends_38   (tX12_ends_71   ) _ _ _ _ _ _ hf
    · have hf := gz_ip c20 hf
      refine sz_iconst dX12_ends_23 (cIm1) ?_
      cases hf
      exact sz_iret dX12_ends_24 rfl rfl ⟨rfl, rfl⟩
def fX12_again_109 (La : gz_L)   (k46 : Int32 → Int32 → Int32 → gz_S → Option (Int32 × gz_S)) (x1 : Int32) (x2 : Int32) (x3 : Int32) (g : gz_S) : Option (Int32 × gz_S) := gz_let (x3 + 1) (fun y109 => k46 x1 x2 y109 g)
set_option maxRecDepth 100000 in
set_option maxHeartbeats 4000000 in
theorem tX12_again_109 {La : gz_L}   {k46 : Int32 → Int32 → Int32 → gz_S → Option (Int32 × gz_S)}  (hk46 : ∀ (x1 : Int32) (x2 : Int32) (x3 : Int32) (g : gz_S) (r : Int32 × gz_S), k46 x1 x2 x3 g = some r → gz_J La 146 mX12_again 46 [some (.ref 39), some (.int x1), some (.int x2), some (.int x3), none] [] g (gz_Fi r)) : ∀ (x1 : Int32) (x2 : Int32) (x3 : Int32) (g : gz_S) (r : Int32 × gz_S), fX12_again_109 La   k46 x1 x2 x3 g = some r → gz_J La 146 mX12_again 109 [some (.ref 39), some (.int x1), some (.int x2), some (.int x3), none] [] g (gz_Fi r) := by
  intro x1 x2 x3 g r hf
  unfold fX12_again_109 at hf
  obtain ⟨y109, ey109, hf⟩ := gz_lt hf
  refine sz_iinc (v := y109) dX12_again_109 rfl (by rw [ey109, cI1]) (Nat.le_of_ble_eq_true rfl) rfl ?_
  refine sz_ls (l2 := [some (.ref 39), some (.int x1), some (.int x2), some (.int y109), none]) rfl ?_
  refine sz_goto 46 dX12_again_112 (by decide) ?_
  exact hk46 _ _ _ _ _ hf
def fX12_again_46 (La : gz_L)    : Nat → Int32 → Int32 → Int32 → gz_S → Option (Int32 × gz_S)
  | 0, _, _, _, _ => none
  | n + 1, x1, x2, x3, g => if 99 < x3 then some ((-1), g) else (fX12_passes La  54 g).bind (fun q57 => (fX12_does La  54 x1 q57.2).bind (fun q67 => if q67.1 = 0 then fX12_again_109 La   (fX12_again_46 La    n)  x1 x2 x3 q67.2 else if gz_ok x2 231 then if gz_ok x2 231 then if (q67.2.1 54 (Int32.toNatClampNeg x2)) = (q67.2.1 53 (Int32.toNatClampNeg x2)) then if gz_ok (x2 + 1) 231 then if gz_ok (x2 + 1) 231 then if (q67.2.1 54 (Int32.toNatClampNeg (x2 + 1))) = (q67.2.1 53 (Int32.toNatClampNeg (x2 + 1))) then some (x3, q67.2) else fX12_again_109 La   (fX12_again_46 La    n)  x1 x2 x3 q67.2 else none else none else fX12_again_109 La   (fX12_again_46 La    n)  x1 x2 x3 q67.2 else none else none))
set_option maxRecDepth 100000 in
set_option maxHeartbeats 4000000 in
theorem tX12_again_46 {La : gz_L}      : ∀ (n : Nat) (x1 : Int32) (x2 : Int32) (x3 : Int32) (g : gz_S) (r : Int32 × gz_S), fX12_again_46 La    n x1 x2 x3 g = some r → gz_J La 146 mX12_again 46 [some (.ref 39), some (.int x1), some (.int x2), some (.int x3), none] [] g (gz_Fi r) := by
  intro n
  induction n with
  | zero => intro x1 x2 x3 g r hf; exact nomatch (show (none : Option (Int32 × gz_S)) = some r from hf)
  | succ n ih =>
    intro x1 x2 x3 g r hf
    unfold fX12_again_46 at hf
    refine sz_iload_n dX12_again_46 rfl ?_
    refine sz_bipush dX12_again_47 (cB99) ?_
    refine sz_icmp_gt 115 dX12_again_49 (by decide) (fun c49 => ?_) (fun c49 => ?_)
    · have hf := gz_ip c49 hf
      refine sz_iconst dX12_again_115 (cIm1) ?_
      cases hf
      exact sz_iret dX12_again_116 rfl rfl ⟨rfl, rfl⟩
    · have hf := gz_in1 c49 hf
      refine sz_aload_n dX12_again_52 rfl ?_
      refine sz_aload_n dX12_again_53 rfl ?_
      refine sz_getR dX12_again_54 flX12_67 kd39 rfl rf39_33 ?_
      obtain ⟨q57, eq57, hf⟩ := gz_bd hf
      refine sz_callVi [.ref 54] [] dX12_again_57 mvX12_367 (Nat.le_of_ble_eq_true rfl) (by decide : 12 < 13) kd39 rfl (Nat.le_of_ble_eq_true rfl) (kX12_passes  (Or.inr rfl) eq57) ?_
      refine sz_istore dX12_again_60 (Nat.le_of_ble_eq_true rfl) rfl ?_
      refine sz_ls (l2 := [some (.ref 39), some (.int x1), some (.int x2), some (.int x3), some (.int q57.1)]) rfl ?_
      refine sz_aload_n dX12_again_62 rfl ?_
      refine sz_getR dX12_again_63 flX12_67 kd39 rfl rf39_33 ?_
      refine sz_iload_n dX12_again_66 rfl ?_
      obtain ⟨q67, eq67, hf⟩ := gz_bd hf
      refine sz_callSi [.ref 54, .int x1] [] dX12_again_67 msX12_346 (Nat.le_of_ble_eq_true rfl) (Nat.le_of_ble_eq_true rfl) (kX12_does  (Or.inr rfl) eq67) ?_
      refine sz_if_eq 109 dX12_again_70 (by decide) (fun c70 => ?_) (fun c70 => ?_)
      · have hf := gz_ip c70 hf
        refine sz_weak (l2 := [some (.ref 39), some (.int x1), some (.int x2), some (.int x3), none]) (gz_subk (gz_subk (gz_subk (gz_subk (gz_subn gz_sub0))))) ?_
        exact tX12_again_109   ih _ _ _ _ _ hf
      · have hf := gz_in1 c70 hf
        refine sz_aload_n dX12_again_73 rfl ?_
        refine sz_getR dX12_again_74 flX12_67 kd39 rfl rf39_33 ?_
        refine sz_iload_n dX12_again_77 rfl ?_
        obtain ⟨c78, hf⟩ := gz_gd hf
        refine sz_ialdL dX12_again_78 kd54 c78 rfl ?_
        refine sz_aload_n dX12_again_79 rfl ?_
        refine sz_getR dX12_again_80 flX12_64 kd39 rfl rf39_32 ?_
        refine sz_iload_n dX12_again_83 rfl ?_
        obtain ⟨c84, hf⟩ := gz_gd hf
        refine sz_ialdL dX12_again_84 kd53 c84 rfl ?_
        refine sz_icmp_ne 109 dX12_again_85 (by decide) (fun c85 => ?_) (fun c85 => ?_)
        · have hf := gz_in1 c85 hf
          refine sz_weak (l2 := [some (.ref 39), some (.int x1), some (.int x2), some (.int x3), none]) (gz_subk (gz_subk (gz_subk (gz_subk (gz_subn gz_sub0))))) ?_
          exact tX12_again_109   ih _ _ _ _ _ hf
        · have hf := gz_ip c85 hf
          refine sz_aload_n dX12_again_88 rfl ?_
          refine sz_getR dX12_again_89 flX12_67 kd39 rfl rf39_33 ?_
          refine sz_iload_n dX12_again_92 rfl ?_
          refine sz_iconst dX12_again_93 (cI1) ?_
          refine sz_iadd dX12_again_94 ?_
          obtain ⟨c95, hf⟩ := gz_gd hf
          refine sz_ialdL dX12_again_95 kd54 c95 rfl ?_
          refine sz_aload_n dX12_again_96 rfl ?_
          refine sz_getR dX12_again_97 flX12_64 kd39 rfl rf39_32 ?_
          refine sz_iload_n dX12_again_100 rfl ?_
          refine sz_iconst dX12_again_101 (cI1) ?_
          refine sz_iadd dX12_again_102 ?_
          obtain ⟨c103, hf⟩ := gz_gd hf
          refine sz_ialdL dX12_again_103 kd53 c103 rfl ?_
          refine sz_icmp_ne 109 dX12_again_104 (by decide) (fun c104 => ?_) (fun c104 => ?_)
          · have hf := gz_in1 c104 hf
            refine sz_weak (l2 := [some (.ref 39), some (.int x1), some (.int x2), some (.int x3), none]) (gz_subk (gz_subk (gz_subk (gz_subk (gz_subn gz_sub0))))) ?_
            exact tX12_again_109   ih _ _ _ _ _ hf
          · have hf := gz_ip c104 hf
            refine sz_iload_n dX12_again_107 rfl ?_
            cases hf
            exact sz_iret dX12_again_108 rfl rfl ⟨rfl, rfl⟩
def fX12_again (La : gz_L)  (x1 : Int32) (g : gz_S) : Option (Int32 × gz_S) :=
  gz_let (gz_wi g 39 0 0) (fun g2 => (fX12_isGoer La  x1 g2).bind (fun q7 => if q7.1 = 0 then some ((-1), q7.2) else (fX12_does La  53 x1 q7.2).bind (fun q18 => if q18.1 = 0 then some ((-1), q18.2) else (fX12_copy La   q18.2).bind (fun q34 => gz_let ((30 : Int32) + ((4 : Int32) * x1)) (fun y43 => fX12_again_46 La    gz_FU x1 y43 1 q34)))))
set_option maxRecDepth 100000 in
set_option maxHeartbeats 4000000 in
theorem kX12_again {La : gz_L}  {x1 : Int32} {g : gz_S} {r : Int32 × gz_S}  (hf : fX12_again La  x1 g = some r) : gz_K La 146 mX12_again [.ref 39, .int x1] g (gz_Fi r) := by
  unfold fX12_again at hf
  refine gz_K.of 3 (by decide +kernel) rfl ?_
  show gz_J La 146 mX12_again 0 [some (.ref 39), some (.int x1), none, none, none] [] g (gz_Fi r)
  refine sz_aload_n dX12_again_0 rfl ?_
  refine sz_iconst dX12_again_1 (cI0) ?_
  obtain ⟨g2, eg2, hf⟩ := gz_lt hf
  refine sz_putI2 dX12_again_2 flX12_104 kd39 fi12_0 eg2 ?_
  refine sz_aload_n dX12_again_5 rfl ?_
  refine sz_iload_n dX12_again_6 rfl ?_
  obtain ⟨q7, eq7, hf⟩ := gz_bd hf
  refine sz_callVi [.int x1] [] dX12_again_7 mvX12_325 (Nat.le_of_ble_eq_true rfl) (by decide : 12 < 13) kd39 rfl (Nat.le_of_ble_eq_true rfl) (kX12_isGoer   eq7) ?_
  refine sz_if_eq 24 dX12_again_10 (by decide) (fun c10 => ?_) (fun c10 => ?_)
  · have hf := gz_ip c10 hf
    refine sz_iconst dX12_again_24 (cIm1) ?_
    cases hf
    exact sz_iret dX12_again_25 rfl rfl ⟨rfl, rfl⟩
  · have hf := gz_in1 c10 hf
    refine sz_aload_n dX12_again_13 rfl ?_
    refine sz_getR dX12_again_14 flX12_64 kd39 rfl rf39_32 ?_
    refine sz_iload_n dX12_again_17 rfl ?_
    obtain ⟨q18, eq18, hf⟩ := gz_bd hf
    refine sz_callSi [.ref 53, .int x1] [] dX12_again_18 msX12_346 (Nat.le_of_ble_eq_true rfl) (Nat.le_of_ble_eq_true rfl) (kX12_does  (Or.inl rfl) eq18) ?_
    refine sz_if_ne 26 dX12_again_21 (by decide) (fun c21 => ?_) (fun c21 => ?_)
    · have hf := gz_in1 c21 hf
      refine sz_aload_n dX12_again_26 rfl ?_
      refine sz_getR dX12_again_27 flX12_64 kd39 rfl rf39_32 ?_
      refine sz_aload_n dX12_again_30 rfl ?_
      refine sz_getR dX12_again_31 flX12_67 kd39 rfl rf39_33 ?_
      obtain ⟨q34, eq34, hf⟩ := gz_bd hf
      refine sz_callSv [.ref 53, .ref 54] [] dX12_again_34 msX12_434 (Nat.le_of_ble_eq_true rfl) (Nat.le_of_ble_eq_true rfl) (kX12_copy   eq34) ?_
      refine sz_bipush dX12_again_37 (cB30) ?_
      refine sz_iconst dX12_again_39 (cI4) ?_
      refine sz_iload_n dX12_again_40 rfl ?_
      refine sz_imul dX12_again_41 ?_
      refine sz_iadd dX12_again_42 ?_
      obtain ⟨y43, ey43, hf⟩ := gz_lt hf
      refine sz_topi ey43 ?_
      refine sz_istore_n dX12_again_43 rfl (Nat.le_of_ble_eq_true rfl) rfl ?_
      refine sz_ls (l2 := [some (.ref 39), some (.int x1), some (.int y43), none, none]) rfl ?_
      refine sz_iconst dX12_again_44 (cI1) ?_
      refine sz_istore_n dX12_again_45 rfl (Nat.le_of_ble_eq_true rfl) rfl ?_
      refine sz_ls (l2 := [some (.ref 39), some (.int x1), some (.int y43), some (.int 1), none]) rfl ?_
      exact tX12_again_46    _ _ _ _ _ _ hf
    · have hf := gz_ip c21 hf
      refine sz_iconst dX12_again_24 (cIm1) ?_
      cases hf
      exact sz_iret dX12_again_25 rfl rfl ⟨rfl, rfl⟩
def fX12_isDry (La : gz_L)  (x1 : Int32) (g : gz_S) : Option (Int32 × gz_S) :=
  if gz_ok x1 231 then if (g.1 53 (Int32.toNatClampNeg x1)) = 1 then some (0, g) else (fX12_isUnder La  53 x1 g).bind (fun q16 => if q16.1 = 0 then some (1, q16.2) else some (0, q16.2)) else none
set_option maxRecDepth 100000 in
set_option maxHeartbeats 4000000 in
theorem kX12_isDry {La : gz_L}  {x1 : Int32} {g : gz_S} {r : Int32 × gz_S}  (hf : fX12_isDry La  x1 g = some r) : gz_K La 2 mX12_isDry [.ref 39, .int x1] g (gz_Fi r) := by
  unfold fX12_isDry at hf
  refine gz_K.of 0 (by decide +kernel) rfl ?_
  show gz_J La 2 mX12_isDry 0 [some (.ref 39), some (.int x1)] [] g (gz_Fi r)
  refine sz_aload_n dX12_isDry_0 rfl ?_
  refine sz_getR dX12_isDry_1 flX12_64 kd39 rfl rf39_32 ?_
  refine sz_iload_n dX12_isDry_4 rfl ?_
  obtain ⟨c5, hf⟩ := gz_gd hf
  refine sz_ialdL dX12_isDry_5 kd53 c5 rfl ?_
  refine sz_iconst dX12_isDry_6 (cI1) ?_
  refine sz_icmp_eq 26 dX12_isDry_7 (by decide) (fun c7 => ?_) (fun c7 => ?_)
  · have hf := gz_ip c7 hf
    refine sz_iconst dX12_isDry_26 (cI0) ?_
    cases hf
    exact sz_iret dX12_isDry_27 rfl rfl ⟨rfl, rfl⟩
  · have hf := gz_in1 c7 hf
    refine sz_aload_n dX12_isDry_10 rfl ?_
    refine sz_aload_n dX12_isDry_11 rfl ?_
    refine sz_getR dX12_isDry_12 flX12_64 kd39 rfl rf39_32 ?_
    refine sz_iload_n dX12_isDry_15 rfl ?_
    obtain ⟨q16, eq16, hf⟩ := gz_bd hf
    refine sz_callVi [.ref 53, .int x1] [] dX12_isDry_16 mvX12_331 (Nat.le_of_ble_eq_true rfl) (by decide : 12 < 13) kd39 rfl (Nat.le_of_ble_eq_true rfl) (kX12_isUnder  (Or.inl rfl) eq16) ?_
    refine sz_if_ne 26 dX12_isDry_19 (by decide) (fun c19 => ?_) (fun c19 => ?_)
    · have hf := gz_in1 c19 hf
      refine sz_iconst dX12_isDry_26 (cI0) ?_
      cases hf
      exact sz_iret dX12_isDry_27 rfl rfl ⟨rfl, rfl⟩
    · have hf := gz_ip c19 hf
      refine sz_iconst dX12_isDry_22 (cI1) ?_
      refine sz_goto 27 dX12_isDry_23 (by decide) ?_
      cases hf
      exact sz_iret dX12_isDry_27 rfl rfl ⟨rfl, rfl⟩
def fX12_goSteps_2 (La : gz_L)   (k21 : Int32 → gz_S → Option (gz_S)) : Nat → Int32 → Int32 → gz_S → Option (gz_S)
  | 0, _, _, _ => none
  | n + 1, x1, x2, g => if 30 ≤ x2 then k21 x1 g else if gz_ok x2 30 then gz_let (gz_wi g 58 (Int32.toNatClampNeg x2) (-1)) (fun g14 => gz_let (x2 + 1) (fun y15 => fX12_goSteps_2 La   k21 n x1 y15 g14)) else none
set_option maxRecDepth 100000 in
set_option maxHeartbeats 4000000 in
theorem tX12_goSteps_2 {La : gz_L}   {k21 : Int32 → gz_S → Option (gz_S)}  (hk21 : ∀ (x1 : Int32) (g : gz_S) (r : gz_S), k21 x1 g = some r → gz_J La 3 mX12_goSteps 21 [some (.ref 39), some (.int x1), none, none, none, none] [] g (gz_Fv r)) : ∀ (n : Nat) (x1 : Int32) (x2 : Int32) (g : gz_S) (r : gz_S), fX12_goSteps_2 La   k21 n x1 x2 g = some r → gz_J La 3 mX12_goSteps 2 [some (.ref 39), some (.int x1), some (.int x2), none, none, none] [] g (gz_Fv r) := by
  intro n
  induction n with
  | zero => intro x1 x2 g r hf; exact nomatch (show (none : Option (gz_S)) = some r from hf)
  | succ n ih =>
    intro x1 x2 g r hf
    unfold fX12_goSteps_2 at hf
    refine sz_iload_n dX12_goSteps_2 rfl ?_
    refine sz_bipush dX12_goSteps_3 (cB30) ?_
    refine sz_icmp_ge 21 dX12_goSteps_5 (by decide) (fun c5 => ?_) (fun c5 => ?_)
    · have hf := gz_ip c5 hf
      refine sz_weak (l2 := [some (.ref 39), some (.int x1), none, none, none, none]) (gz_subk (gz_subk (gz_subn (gz_subk (gz_subk (gz_subk gz_sub0)))))) ?_
      exact hk21 _ _ _ hf
    · have hf := gz_in1 c5 hf
      refine sz_aload_n dX12_goSteps_8 rfl ?_
      refine sz_getR dX12_goSteps_9 flX12_86 kd39 rfl rf39_43 ?_
      refine sz_iload_n dX12_goSteps_12 rfl ?_
      refine sz_iconst dX12_goSteps_13 (cIm1) ?_
      obtain ⟨c14, hf⟩ := gz_gd hf
      obtain ⟨g14, eg14, hf⟩ := gz_lt hf
      refine sz_iastL dX12_goSteps_14 kd58 c14 rfl eg14 ?_
      obtain ⟨y15, ey15, hf⟩ := gz_lt hf
      refine sz_iinc (v := y15) dX12_goSteps_15 rfl (by rw [ey15, cI1]) (Nat.le_of_ble_eq_true rfl) rfl ?_
      refine sz_ls (l2 := [some (.ref 39), some (.int x1), some (.int y15), none, none, none]) rfl ?_
      refine sz_goto 2 dX12_goSteps_18 (by decide) ?_
      exact ih _ _ _ _ hf
def fX12_goSteps_122 (La : gz_L)   (k71 : Int32 → Int32 → Int32 → gz_S → Option (gz_S)) (x2 : Int32) (x3 : Int32) (x4 : Int32) (g : gz_S) : Option (gz_S) := gz_let (x4 + 1) (fun y122 => k71 x2 x3 y122 g)
set_option maxRecDepth 100000 in
set_option maxHeartbeats 4000000 in
theorem tX12_goSteps_122 {La : gz_L}   {k71 : Int32 → Int32 → Int32 → gz_S → Option (gz_S)}  (hk71 : ∀ (x2 : Int32) (x3 : Int32) (x4 : Int32) (g : gz_S) (r : gz_S), k71 x2 x3 x4 g = some r → gz_J La 3 mX12_goSteps 71 [some (.ref 39), none, some (.int x2), some (.int x3), some (.int x4), none] [] g (gz_Fv r)) : ∀ (x2 : Int32) (x3 : Int32) (x4 : Int32) (g : gz_S) (r : gz_S), fX12_goSteps_122 La   k71 x2 x3 x4 g = some r → gz_J La 3 mX12_goSteps 122 [some (.ref 39), none, some (.int x2), some (.int x3), some (.int x4), none] [] g (gz_Fv r) := by
  intro x2 x3 x4 g r hf
  unfold fX12_goSteps_122 at hf
  obtain ⟨y122, ey122, hf⟩ := gz_lt hf
  refine sz_iinc (v := y122) dX12_goSteps_122 rfl (by rw [ey122, cI1]) (Nat.le_of_ble_eq_true rfl) rfl ?_
  refine sz_ls (l2 := [some (.ref 39), none, some (.int x2), some (.int x3), some (.int y122), none]) rfl ?_
  refine sz_goto 71 dX12_goSteps_125 (by decide) ?_
  exact hk71 _ _ _ _ _ hf
def fX12_goSteps_71 (La : gz_L)   (k128 : Int32 → Int32 → gz_S → Option (gz_S)) : Nat → Int32 → Int32 → Int32 → gz_S → Option (gz_S)
  | 0, _, _, _, _ => none
  | n + 1, x2, x3, x4, g => if 4 ≤ x4 then k128 x2 x3 g else (fX12_nextCell La  x3 x4 g).bind (fun q81 => if q81.1 = (-1) then fX12_goSteps_122 La   (fX12_goSteps_71 La   k128 n)  x2 x3 x4 q81.2 else if gz_ok q81.1 30 then if (q81.2.1 58 (Int32.toNatClampNeg q81.1)) = (-1) then (fX12_isDry La  q81.1 q81.2).bind (fun q106 => if q106.1 = 0 then fX12_goSteps_122 La   (fX12_goSteps_71 La   k128 n)  x2 x3 x4 q106.2 else if gz_ok q81.1 30 then gz_let (gz_wi q106.2 58 (Int32.toNatClampNeg q81.1) (x2 + 1)) (fun g121 => fX12_goSteps_122 La   (fX12_goSteps_71 La   k128 n)  x2 x3 x4 g121) else none) else fX12_goSteps_122 La   (fX12_goSteps_71 La   k128 n)  x2 x3 x4 q81.2 else none)
set_option maxRecDepth 100000 in
set_option maxHeartbeats 4000000 in
theorem tX12_goSteps_71 {La : gz_L}   {k128 : Int32 → Int32 → gz_S → Option (gz_S)}  (hk128 : ∀ (x2 : Int32) (x3 : Int32) (g : gz_S) (r : gz_S), k128 x2 x3 g = some r → gz_J La 3 mX12_goSteps 128 [some (.ref 39), none, some (.int x2), some (.int x3), none, none] [] g (gz_Fv r)) : ∀ (n : Nat) (x2 : Int32) (x3 : Int32) (x4 : Int32) (g : gz_S) (r : gz_S), fX12_goSteps_71 La   k128 n x2 x3 x4 g = some r → gz_J La 3 mX12_goSteps 71 [some (.ref 39), none, some (.int x2), some (.int x3), some (.int x4), none] [] g (gz_Fv r) := by
  intro n
  induction n with
  | zero => intro x2 x3 x4 g r hf; exact nomatch (show (none : Option (gz_S)) = some r from hf)
  | succ n ih =>
    intro x2 x3 x4 g r hf
    unfold fX12_goSteps_71 at hf
    refine sz_iload dX12_goSteps_71 rfl ?_
    refine sz_iconst dX12_goSteps_73 (cI4) ?_
    refine sz_icmp_ge 128 dX12_goSteps_74 (by decide) (fun c74 => ?_) (fun c74 => ?_)
    · have hf := gz_ip c74 hf
      refine sz_weak (l2 := [some (.ref 39), none, some (.int x2), some (.int x3), none, none]) (gz_subk (gz_subk (gz_subk (gz_subk (gz_subn (gz_subk gz_sub0)))))) ?_
      exact hk128 _ _ _ _ hf
    · have hf := gz_in1 c74 hf
      refine sz_aload_n dX12_goSteps_77 rfl ?_
      refine sz_iload_n dX12_goSteps_78 rfl ?_
      refine sz_iload dX12_goSteps_79 rfl ?_
      obtain ⟨q81, eq81, hf⟩ := gz_bd hf
      refine sz_callVi [.int x3, .int x4] [] dX12_goSteps_81 mvX12_328 (Nat.le_of_ble_eq_true rfl) (by decide : 12 < 13) kd39 rfl (Nat.le_of_ble_eq_true rfl) (kX12_nextCell   eq81) ?_
      refine sz_istore dX12_goSteps_84 (Nat.le_of_ble_eq_true rfl) rfl ?_
      refine sz_ls (l2 := [some (.ref 39), none, some (.int x2), some (.int x3), some (.int x4), some (.int q81.1)]) rfl ?_
      refine sz_iload dX12_goSteps_86 rfl ?_
      refine sz_iconst dX12_goSteps_88 (cIm1) ?_
      refine sz_icmp_eq 122 dX12_goSteps_89 (by decide) (fun c89 => ?_) (fun c89 => ?_)
      · have hf := gz_ip c89 hf
        refine sz_weak (l2 := [some (.ref 39), none, some (.int x2), some (.int x3), some (.int x4), none]) (gz_subk (gz_subk (gz_subk (gz_subk (gz_subk (gz_subn gz_sub0)))))) ?_
        exact tX12_goSteps_122   ih _ _ _ _ _ hf
      · have hf := gz_in1 c89 hf
        refine sz_aload_n dX12_goSteps_92 rfl ?_
        refine sz_getR dX12_goSteps_93 flX12_86 kd39 rfl rf39_43 ?_
        refine sz_iload dX12_goSteps_96 rfl ?_
        obtain ⟨c98, hf⟩ := gz_gd hf
        refine sz_ialdL dX12_goSteps_98 kd58 c98 rfl ?_
        refine sz_iconst dX12_goSteps_99 (cIm1) ?_
        refine sz_icmp_ne 122 dX12_goSteps_100 (by decide) (fun c100 => ?_) (fun c100 => ?_)
        · have hf := gz_in1 c100 hf
          refine sz_weak (l2 := [some (.ref 39), none, some (.int x2), some (.int x3), some (.int x4), none]) (gz_subk (gz_subk (gz_subk (gz_subk (gz_subk (gz_subn gz_sub0)))))) ?_
          exact tX12_goSteps_122   ih _ _ _ _ _ hf
        · have hf := gz_ip c100 hf
          refine sz_aload_n dX12_goSteps_103 rfl ?_
          refine sz_iload dX12_goSteps_104 rfl ?_
          obtain ⟨q106, eq106, hf⟩ := gz_bd hf
          refine sz_callVi [.int q81.1] [] dX12_goSteps_106 mvX12_456 (Nat.le_of_ble_eq_true rfl) (by decide : 12 < 13) kd39 rfl (Nat.le_of_ble_eq_true rfl) (kX12_isDry   eq106) ?_
          refine sz_if_eq 122 dX12_goSteps_109 (by decide) (fun c109 => ?_) (fun c109 => ?_)
          · have hf := gz_ip c109 hf
            refine sz_weak (l2 := [some (.ref 39), none, some (.int x2), some (.int x3), some (.int x4), none]) (gz_subk (gz_subk (gz_subk (gz_subk (gz_subk (gz_subn gz_sub0)))))) ?_
            exact tX12_goSteps_122   ih _ _ _ _ _ hf
          · have hf := gz_in1 c109 hf
            refine sz_aload_n dX12_goSteps_112 rfl ?_
            refine sz_getR dX12_goSteps_113 flX12_86 kd39 rfl rf39_43 ?_
            refine sz_iload dX12_goSteps_116 rfl ?_
            refine sz_iload_n dX12_goSteps_118 rfl ?_
            refine sz_iconst dX12_goSteps_119 (cI1) ?_
            refine sz_iadd dX12_goSteps_120 ?_
            obtain ⟨c121, hf⟩ := gz_gd hf
            obtain ⟨g121, eg121, hf⟩ := gz_lt hf
            refine sz_iastL dX12_goSteps_121 kd58 c121 rfl eg121 ?_
            refine sz_weak (l2 := [some (.ref 39), none, some (.int x2), some (.int x3), some (.int x4), none]) (gz_subk (gz_subk (gz_subk (gz_subk (gz_subk (gz_subn gz_sub0)))))) ?_
            exact tX12_goSteps_122   ih _ _ _ _ _ hf
def fX12_goSteps_128 (La : gz_L)   (k47 : Int32 → Int32 → gz_S → Option (gz_S)) (x2 : Int32) (x3 : Int32) (g : gz_S) : Option (gz_S) := gz_let (x3 + 1) (fun y128 => k47 x2 y128 g)
set_option maxRecDepth 100000 in
set_option maxHeartbeats 4000000 in
theorem tX12_goSteps_128 {La : gz_L}   {k47 : Int32 → Int32 → gz_S → Option (gz_S)}  (hk47 : ∀ (x2 : Int32) (x3 : Int32) (g : gz_S) (r : gz_S), k47 x2 x3 g = some r → gz_J La 3 mX12_goSteps 47 [some (.ref 39), none, some (.int x2), some (.int x3), none, none] [] g (gz_Fv r)) : ∀ (x2 : Int32) (x3 : Int32) (g : gz_S) (r : gz_S), fX12_goSteps_128 La   k47 x2 x3 g = some r → gz_J La 3 mX12_goSteps 128 [some (.ref 39), none, some (.int x2), some (.int x3), none, none] [] g (gz_Fv r) := by
  intro x2 x3 g r hf
  unfold fX12_goSteps_128 at hf
  obtain ⟨y128, ey128, hf⟩ := gz_lt hf
  refine sz_iinc (v := y128) dX12_goSteps_128 rfl (by rw [ey128, cI1]) (Nat.le_of_ble_eq_true rfl) rfl ?_
  refine sz_ls (l2 := [some (.ref 39), none, some (.int x2), some (.int y128), none, none]) rfl ?_
  refine sz_goto 47 dX12_goSteps_131 (by decide) ?_
  exact hk47 _ _ _ _ hf
def fX12_goSteps_47 (La : gz_L)   (k134 : Int32 → gz_S → Option (gz_S)) : Nat → Int32 → Int32 → gz_S → Option (gz_S)
  | 0, _, _, _ => none
  | n + 1, x2, x3, g => (fX12_cells La   g).bind (fun q49 => if q49.1 ≤ x3 then k134 x2 q49.2 else if gz_ok x3 30 then if (q49.2.1 58 (Int32.toNatClampNeg x3)) = x2 then fX12_goSteps_71 La   (fX12_goSteps_128 La   (fX12_goSteps_47 La   k134 n) ) gz_FU x2 x3 0 q49.2 else fX12_goSteps_128 La   (fX12_goSteps_47 La   k134 n)  x2 x3 q49.2 else none)
set_option maxRecDepth 100000 in
set_option maxHeartbeats 4000000 in
theorem tX12_goSteps_47 {La : gz_L}   {k134 : Int32 → gz_S → Option (gz_S)}  (hk134 : ∀ (x2 : Int32) (g : gz_S) (r : gz_S), k134 x2 g = some r → gz_J La 3 mX12_goSteps 134 [some (.ref 39), none, some (.int x2), none, none, none] [] g (gz_Fv r)) : ∀ (n : Nat) (x2 : Int32) (x3 : Int32) (g : gz_S) (r : gz_S), fX12_goSteps_47 La   k134 n x2 x3 g = some r → gz_J La 3 mX12_goSteps 47 [some (.ref 39), none, some (.int x2), some (.int x3), none, none] [] g (gz_Fv r) := by
  intro n
  induction n with
  | zero => intro x2 x3 g r hf; exact nomatch (show (none : Option (gz_S)) = some r from hf)
  | succ n ih =>
    intro x2 x3 g r hf
    unfold fX12_goSteps_47 at hf
    refine sz_iload_n dX12_goSteps_47 rfl ?_
    refine sz_aload_n dX12_goSteps_48 rfl ?_
    obtain ⟨q49, eq49, hf⟩ := gz_bd hf
    refine sz_callVi [] [.int x3] dX12_goSteps_49 mvX12_319 (Nat.le_of_ble_eq_true rfl) (by decide : 12 < 13) kd39 rfl (Nat.le_of_ble_eq_true rfl) (kX12_cells   eq49) ?_
    refine sz_icmp_ge 134 dX12_goSteps_52 (by decide) (fun c52 => ?_) (fun c52 => ?_)
    · have hf := gz_ip c52 hf
      refine sz_weak (l2 := [some (.ref 39), none, some (.int x2), none, none, none]) (gz_subk (gz_subk (gz_subk (gz_subn (gz_subk (gz_subk gz_sub0)))))) ?_
      exact hk134 _ _ _ hf
    · have hf := gz_in1 c52 hf
      refine sz_aload_n dX12_goSteps_55 rfl ?_
      refine sz_getR dX12_goSteps_56 flX12_86 kd39 rfl rf39_43 ?_
      refine sz_iload_n dX12_goSteps_59 rfl ?_
      obtain ⟨c60, hf⟩ := gz_gd hf
      refine sz_ialdL dX12_goSteps_60 kd58 c60 rfl ?_
      refine sz_iload_n dX12_goSteps_61 rfl ?_
      refine sz_icmp_eq 68 dX12_goSteps_62 (by decide) (fun c62 => ?_) (fun c62 => ?_)
      · have hf := gz_ip c62 hf
        refine sz_iconst dX12_goSteps_68 (cI0) ?_
        refine sz_istore dX12_goSteps_69 (Nat.le_of_ble_eq_true rfl) rfl ?_
        refine sz_ls (l2 := [some (.ref 39), none, some (.int x2), some (.int x3), some (.int 0), none]) rfl ?_
        exact tX12_goSteps_71   (tX12_goSteps_128   ih) _ _ _ _ _ _ hf
      · have hf := gz_in1 c62 hf
        refine sz_goto 128 dX12_goSteps_65 (by decide) ?_
        exact tX12_goSteps_128   ih _ _ _ _ hf
def fX12_goSteps_39 (La : gz_L)    : Nat → Int32 → gz_S → Option (gz_S)
  | 0, _, _ => none
  | n + 1, x2, g => if 30 ≤ x2 then some g else fX12_goSteps_47 La   (fun (x2 : Int32) g => gz_let (x2 + 1) (fun y134 => fX12_goSteps_39 La    n y134 g)) gz_FU x2 0 g
set_option maxRecDepth 100000 in
set_option maxHeartbeats 4000000 in
theorem tX12_goSteps_39 {La : gz_L}      : ∀ (n : Nat) (x2 : Int32) (g : gz_S) (r : gz_S), fX12_goSteps_39 La    n x2 g = some r → gz_J La 3 mX12_goSteps 39 [some (.ref 39), none, some (.int x2), none, none, none] [] g (gz_Fv r) := by
  intro n
  induction n with
  | zero => intro x2 g r hf; exact nomatch (show (none : Option (gz_S)) = some r from hf)
  | succ n ih =>
    intro x2 g r hf
    unfold fX12_goSteps_39 at hf
    refine sz_iload_n dX12_goSteps_39 rfl ?_
    refine sz_bipush dX12_goSteps_40 (cB30) ?_
    refine sz_icmp_ge 140 dX12_goSteps_42 (by decide) (fun c42 => ?_) (fun c42 => ?_)
    · have hf := gz_ip c42 hf
      cases hf
      exact sz_ret dX12_goSteps_140 rfl ⟨rfl, rfl⟩
    · have hf := gz_in1 c42 hf
      refine sz_iconst dX12_goSteps_45 (cI0) ?_
      refine sz_istore_n dX12_goSteps_46 rfl (Nat.le_of_ble_eq_true rfl) rfl ?_
      refine sz_ls (l2 := [some (.ref 39), none, some (.int x2), some (.int 0), none, none]) rfl ?_
      have hk134 : ∀ (x2 : Int32) (g : gz_S) (r : gz_S), (fun (x2 : Int32) g => gz_let (x2 + 1) (fun y134 => fX12_goSteps_39 La    n y134 g)) x2 g = some r → gz_J La 3 mX12_goSteps 134 [some (.ref 39), none, some (.int x2), none, none, none] [] g (gz_Fv r) := by
        intro x2 g r hf
        obtain ⟨y134, ey134, hf⟩ := gz_lt hf
        refine sz_iinc (v := y134) dX12_goSteps_134 rfl (by rw [ey134, cI1]) (Nat.le_of_ble_eq_true rfl) rfl ?_
        refine sz_ls (l2 := [some (.ref 39), none, some (.int y134), none, none, none]) rfl ?_
        refine sz_goto 39 dX12_goSteps_137 (by decide) ?_
        exact ih _ _ _ hf
      exact tX12_goSteps_47   hk134 _ _ _ _ _ hf
def fX12_goSteps (La : gz_L)  (x1 : Int32) (g : gz_S) : Option (gz_S) :=
  fX12_goSteps_2 La   (fun (x1 : Int32) g => (fX12_isDry La  x1 g).bind (fun q23 => if q23.1 = 0 then some q23.2 else if gz_ok x1 30 then gz_let (gz_wi q23.2 58 (Int32.toNatClampNeg x1) 0) (fun g36 => fX12_goSteps_39 La    gz_FU 0 g36) else none)) gz_FU x1 0 g
set_option maxRecDepth 100000 in
set_option maxHeartbeats 4000000 in
theorem kX12_goSteps {La : gz_L}  {x1 : Int32} {g : gz_S} {r : gz_S}  (hf : fX12_goSteps La  x1 g = some r) : gz_K La 3 mX12_goSteps [.ref 39, .int x1] g (gz_Fv r) := by
  unfold fX12_goSteps at hf
  refine gz_K.of 4 (by decide +kernel) rfl ?_
  show gz_J La 3 mX12_goSteps 0 [some (.ref 39), some (.int x1), none, none, none, none] [] g (gz_Fv r)
  refine sz_iconst dX12_goSteps_0 (cI0) ?_
  refine sz_istore_n dX12_goSteps_1 rfl (Nat.le_of_ble_eq_true rfl) rfl ?_
  refine sz_ls (l2 := [some (.ref 39), some (.int x1), some (.int 0), none, none, none]) rfl ?_
  have hk21 : ∀ (x1 : Int32) (g : gz_S) (r : gz_S), (fun (x1 : Int32) g => (fX12_isDry La  x1 g).bind (fun q23 => if q23.1 = 0 then some q23.2 else if gz_ok x1 30 then gz_let (gz_wi q23.2 58 (Int32.toNatClampNeg x1) 0) (fun g36 => fX12_goSteps_39 La    gz_FU 0 g36) else none)) x1 g = some r → gz_J La 3 mX12_goSteps 21 [some (.ref 39), some (.int x1), none, none, none, none] [] g (gz_Fv r) := by
    intro x1 g r hf
    refine sz_aload_n dX12_goSteps_21 rfl ?_
    refine sz_iload_n dX12_goSteps_22 rfl ?_
    obtain ⟨q23, eq23, hf⟩ := gz_bd hf
    refine sz_callVi [.int x1] [] dX12_goSteps_23 mvX12_456 (Nat.le_of_ble_eq_true rfl) (by decide : 12 < 13) kd39 rfl (Nat.le_of_ble_eq_true rfl) (kX12_isDry   eq23) ?_
    refine sz_if_ne 30 dX12_goSteps_26 (by decide) (fun c26 => ?_) (fun c26 => ?_)
    · have hf := gz_in1 c26 hf
      refine sz_aload_n dX12_goSteps_30 rfl ?_
      refine sz_getR dX12_goSteps_31 flX12_86 kd39 rfl rf39_43 ?_
      refine sz_iload_n dX12_goSteps_34 rfl ?_
      refine sz_iconst dX12_goSteps_35 (cI0) ?_
      obtain ⟨c36, hf⟩ := gz_gd hf
      obtain ⟨g36, eg36, hf⟩ := gz_lt hf
      refine sz_iastL dX12_goSteps_36 kd58 c36 rfl eg36 ?_
      refine sz_iconst dX12_goSteps_37 (cI0) ?_
      refine sz_istore_n dX12_goSteps_38 rfl (Nat.le_of_ble_eq_true rfl) rfl ?_
      refine sz_ls (l2 := [some (.ref 39), some (.int x1), some (.int 0), none, none, none]) rfl ?_
      refine sz_weak (l2 := [some (.ref 39), none, some (.int 0), none, none, none]) (gz_subk (gz_subn (gz_subk (gz_subk (gz_subk (gz_subk gz_sub0)))))) ?_
      exact tX12_goSteps_39    _ _ _ _ hf
    · have hf := gz_ip c26 hf
      cases hf
      exact sz_ret dX12_goSteps_29 rfl ⟨rfl, rfl⟩
  exact tX12_goSteps_2   hk21 _ _ _ _ _ hf
