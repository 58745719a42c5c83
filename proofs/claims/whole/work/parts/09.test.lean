def gz_FU : Nat := 100000
def gz_ln (j : Nat) : Nat := (gz_st.getD j (9, 0)).2
theorem gz_on0 {β : Type} {o : Option Nat} {a : Option β} {f : Nat → Option β} {r : β} (ho : o = none) (h : gz_on o a f = some r) : a = some r := by subst ho; exact h
theorem gz_on1 {β : Type} {o : Option Nat} {a : Option β} {f : Nat → Option β} {r : β} {e : Nat} (ho : o = some e) (h : gz_on o a f = some r) : f e = some r := by subst ho; exact h
theorem rfd0 {La : gz_L} {g : gz_S} : gz_rf La g 8 0 = g.2.2 0 := rfl
theorem rfd1 {La : gz_L} {g : gz_S} : gz_rf La g 39 5 = g.2.2 1 := rfl
theorem sz_rfN {La : gz_L} {h : Nat} {M : gz_M} {pc : Nat} {ls : List (Option Value)} {st : List Value} {g : gz_S} {Ph : Option Value → gz_S → Prop} {o : Option Nat} (ho : o = none) (n : gz_J La h M pc ls (.null :: st) g Ph) : gz_J La h M pc ls (va_rf o :: st) g Ph := by subst ho; exact n
theorem sz_rfS {La : gz_L} {h : Nat} {M : gz_M} {pc : Nat} {ls : List (Option Value)} {st : List Value} {g : gz_S} {Ph : Option Value → gz_S → Prop} {o : Option Nat} {e : Nat} (ho : o = some e) (n : gz_J La h M pc ls (.ref e :: st) g Ph) : gz_J La h M pc ls (va_rf o :: st) g Ph := by subst ho; exact n
abbrev mX6_beside : gz_M := (yX6_beside, cX6_beside, 4, some .int)
theorem dX6_beside_0 : decode mX6_beside.2.1 0 = .ok (.aload_n 0, 1) := by decide +kernel
theorem dX6_beside_1 : decode mX6_beside.2.1 1 = .ok (.getfield 11, 3) := by decide +kernel
theorem dX6_beside_4 : decode mX6_beside.2.1 4 = .ok (.bipush 58, 2) := by decide +kernel
theorem dX6_beside_6 : decode mX6_beside.2.1 6 = .ok (.iaload, 1) := by decide +kernel
theorem dX6_beside_7 : decode mX6_beside.2.1 7 = .ok (.istore_n 3, 1) := by decide +kernel
theorem dX6_beside_8 : decode mX6_beside.2.1 8 = .ok (.iload_n 2, 1) := by decide +kernel
theorem dX6_beside_9 : decode mX6_beside.2.1 9 = .ok (.tableswitch 83 0 2 #[27, 40, 60], 27) := by decide +kernel
theorem dX6_beside_36 : decode mX6_beside.2.1 36 = .ok (.iload_n 1, 1) := by decide +kernel
theorem dX6_beside_37 : decode mX6_beside.2.1 37 = .ok (.iload_n 3, 1) := by decide +kernel
theorem dX6_beside_38 : decode mX6_beside.2.1 38 = .ok (.if_icmp .lt 9, 3) := by decide +kernel
theorem dX6_beside_41 : decode mX6_beside.2.1 41 = .ok (.iload_n 1, 1) := by decide +kernel
theorem dX6_beside_42 : decode mX6_beside.2.1 42 = .ok (.iload_n 3, 1) := by decide +kernel
theorem dX6_beside_43 : decode mX6_beside.2.1 43 = .ok (.isub, 1) := by decide +kernel
theorem dX6_beside_44 : decode mX6_beside.2.1 44 = .ok (.goto 4, 3) := by decide +kernel
theorem dX6_beside_47 : decode mX6_beside.2.1 47 = .ok (.iconst (-1), 1) := by decide +kernel
theorem dX6_beside_48 : decode mX6_beside.2.1 48 = .ok (.ireturn, 1) := by decide +kernel
theorem dX6_beside_49 : decode mX6_beside.2.1 49 = .ok (.iload_n 3, 1) := by decide +kernel
theorem dX6_beside_50 : decode mX6_beside.2.1 50 = .ok (.ifCond .le 17, 3) := by decide +kernel
theorem dX6_beside_53 : decode mX6_beside.2.1 53 = .ok (.iload_n 1, 1) := by decide +kernel
theorem dX6_beside_54 : decode mX6_beside.2.1 54 = .ok (.iconst 1, 1) := by decide +kernel
theorem dX6_beside_55 : decode mX6_beside.2.1 55 = .ok (.iadd, 1) := by decide +kernel
theorem dX6_beside_56 : decode mX6_beside.2.1 56 = .ok (.iload_n 3, 1) := by decide +kernel
theorem dX6_beside_57 : decode mX6_beside.2.1 57 = .ok (.irem, 1) := by decide +kernel
theorem dX6_beside_58 : decode mX6_beside.2.1 58 = .ok (.ifCond .eq 9, 3) := by decide +kernel
theorem dX6_beside_61 : decode mX6_beside.2.1 61 = .ok (.iload_n 1, 1) := by decide +kernel
theorem dX6_beside_62 : decode mX6_beside.2.1 62 = .ok (.iconst 1, 1) := by decide +kernel
theorem dX6_beside_63 : decode mX6_beside.2.1 63 = .ok (.iadd, 1) := by decide +kernel
theorem dX6_beside_64 : decode mX6_beside.2.1 64 = .ok (.goto 4, 3) := by decide +kernel
theorem dX6_beside_67 : decode mX6_beside.2.1 67 = .ok (.iconst (-1), 1) := by decide +kernel
theorem dX6_beside_68 : decode mX6_beside.2.1 68 = .ok (.ireturn, 1) := by decide +kernel
theorem dX6_beside_69 : decode mX6_beside.2.1 69 = .ok (.iload_n 1, 1) := by decide +kernel
theorem dX6_beside_70 : decode mX6_beside.2.1 70 = .ok (.iload_n 3, 1) := by decide +kernel
theorem dX6_beside_71 : decode mX6_beside.2.1 71 = .ok (.iadd, 1) := by decide +kernel
theorem dX6_beside_72 : decode mX6_beside.2.1 72 = .ok (.iload_n 3, 1) := by decide +kernel
theorem dX6_beside_73 : decode mX6_beside.2.1 73 = .ok (.aload_n 0, 1) := by decide +kernel
theorem dX6_beside_74 : decode mX6_beside.2.1 74 = .ok (.getfield 11, 3) := by decide +kernel
theorem dX6_beside_77 : decode mX6_beside.2.1 77 = .ok (.bipush 59, 2) := by decide +kernel
theorem dX6_beside_79 : decode mX6_beside.2.1 79 = .ok (.iaload, 1) := by decide +kernel
theorem dX6_beside_80 : decode mX6_beside.2.1 80 = .ok (.imul, 1) := by decide +kernel
theorem dX6_beside_81 : decode mX6_beside.2.1 81 = .ok (.if_icmp .ge 9, 3) := by decide +kernel
theorem dX6_beside_84 : decode mX6_beside.2.1 84 = .ok (.iload_n 1, 1) := by decide +kernel
theorem dX6_beside_85 : decode mX6_beside.2.1 85 = .ok (.iload_n 3, 1) := by decide +kernel
theorem dX6_beside_86 : decode mX6_beside.2.1 86 = .ok (.iadd, 1) := by decide +kernel
theorem dX6_beside_87 : decode mX6_beside.2.1 87 = .ok (.goto 4, 3) := by decide +kernel
theorem dX6_beside_90 : decode mX6_beside.2.1 90 = .ok (.iconst (-1), 1) := by decide +kernel
theorem dX6_beside_91 : decode mX6_beside.2.1 91 = .ok (.ireturn, 1) := by decide +kernel
theorem dX6_beside_92 : decode mX6_beside.2.1 92 = .ok (.iload_n 3, 1) := by decide +kernel
theorem dX6_beside_93 : decode mX6_beside.2.1 93 = .ok (.ifCond .le 15, 3) := by decide +kernel
theorem dX6_beside_96 : decode mX6_beside.2.1 96 = .ok (.iload_n 1, 1) := by decide +kernel
theorem dX6_beside_97 : decode mX6_beside.2.1 97 = .ok (.iload_n 3, 1) := by decide +kernel
theorem dX6_beside_98 : decode mX6_beside.2.1 98 = .ok (.irem, 1) := by decide +kernel
theorem dX6_beside_99 : decode mX6_beside.2.1 99 = .ok (.ifCond .eq 9, 3) := by decide +kernel
theorem dX6_beside_102 : decode mX6_beside.2.1 102 = .ok (.iload_n 1, 1) := by decide +kernel
theorem dX6_beside_103 : decode mX6_beside.2.1 103 = .ok (.iconst 1, 1) := by decide +kernel
theorem dX6_beside_104 : decode mX6_beside.2.1 104 = .ok (.isub, 1) := by decide +kernel
theorem dX6_beside_105 : decode mX6_beside.2.1 105 = .ok (.goto 4, 3) := by decide +kernel
theorem dX6_beside_108 : decode mX6_beside.2.1 108 = .ok (.iconst (-1), 1) := by decide +kernel
theorem dX6_beside_109 : decode mX6_beside.2.1 109 = .ok (.ireturn, 1) := by decide +kernel
abbrev mX6_goes : gz_M := (yX6_goes, cX6_goes, 2, some .boolean)
theorem dX6_goes_0 : decode mX6_goes.2.1 0 = .ok (.aload_n 0, 1) := by decide +kernel
theorem dX6_goes_1 : decode mX6_goes.2.1 1 = .ok (.getfield 11, 3) := by decide +kernel
theorem dX6_goes_4 : decode mX6_goes.2.1 4 = .ok (.bipush 42, 2) := by decide +kernel
theorem dX6_goes_6 : decode mX6_goes.2.1 6 = .ok (.iload_n 1, 1) := by decide +kernel
theorem dX6_goes_7 : decode mX6_goes.2.1 7 = .ok (.iadd, 1) := by decide +kernel
theorem dX6_goes_8 : decode mX6_goes.2.1 8 = .ok (.iaload, 1) := by decide +kernel
theorem dX6_goes_9 : decode mX6_goes.2.1 9 = .ok (.ifCond .ne 7, 3) := by decide +kernel
theorem dX6_goes_12 : decode mX6_goes.2.1 12 = .ok (.iconst 1, 1) := by decide +kernel
theorem dX6_goes_13 : decode mX6_goes.2.1 13 = .ok (.goto 4, 3) := by decide +kernel
theorem dX6_goes_16 : decode mX6_goes.2.1 16 = .ok (.iconst 0, 1) := by decide +kernel
theorem dX6_goes_17 : decode mX6_goes.2.1 17 = .ok (.ireturn, 1) := by decide +kernel
abbrev mX6_goesOn : gz_M := (yX6_goesOn, cX6_goesOn, 3, some .boolean)
theorem dX6_goesOn_0 : decode mX6_goesOn.2.1 0 = .ok (.aload_n 0, 1) := by decide +kernel
theorem dX6_goesOn_1 : decode mX6_goesOn.2.1 1 = .ok (.getfield 11, 3) := by decide +kernel
theorem dX6_goesOn_4 : decode mX6_goesOn.2.1 4 = .ok (.bipush 42, 2) := by decide +kernel
theorem dX6_goesOn_6 : decode mX6_goesOn.2.1 6 = .ok (.iload_n 1, 1) := by decide +kernel
theorem dX6_goesOn_7 : decode mX6_goesOn.2.1 7 = .ok (.iadd, 1) := by decide +kernel
theorem dX6_goesOn_8 : decode mX6_goesOn.2.1 8 = .ok (.iaload, 1) := by decide +kernel
theorem dX6_goesOn_9 : decode mX6_goesOn.2.1 9 = .ok (.ifCond .ne 20, 3) := by decide +kernel
theorem dX6_goesOn_12 : decode mX6_goesOn.2.1 12 = .ok (.aload_n 0, 1) := by decide +kernel
theorem dX6_goesOn_13 : decode mX6_goesOn.2.1 13 = .ok (.getfield 11, 3) := by decide +kernel
theorem dX6_goesOn_16 : decode mX6_goesOn.2.1 16 = .ok (.bipush 30, 2) := by decide +kernel
theorem dX6_goesOn_18 : decode mX6_goesOn.2.1 18 = .ok (.iload_n 1, 1) := by decide +kernel
theorem dX6_goesOn_19 : decode mX6_goesOn.2.1 19 = .ok (.iadd, 1) := by decide +kernel
theorem dX6_goesOn_20 : decode mX6_goesOn.2.1 20 = .ok (.iaload, 1) := by decide +kernel
theorem dX6_goesOn_21 : decode mX6_goesOn.2.1 21 = .ok (.iload_n 2, 1) := by decide +kernel
theorem dX6_goesOn_22 : decode mX6_goesOn.2.1 22 = .ok (.if_icmp .ne 7, 3) := by decide +kernel
theorem dX6_goesOn_25 : decode mX6_goesOn.2.1 25 = .ok (.iconst 1, 1) := by decide +kernel
theorem dX6_goesOn_26 : decode mX6_goesOn.2.1 26 = .ok (.goto 4, 3) := by decide +kernel
theorem dX6_goesOn_29 : decode mX6_goesOn.2.1 29 = .ok (.iconst 0, 1) := by decide +kernel
theorem dX6_goesOn_30 : decode mX6_goesOn.2.1 30 = .ok (.ireturn, 1) := by decide +kernel
abbrev mX6_goingOn : gz_M := (yX6_goingOn, cX6_goingOn, 4, some .int)
theorem dX6_goingOn_0 : decode mX6_goingOn.2.1 0 = .ok (.iconst 0, 1) := by decide +kernel
theorem dX6_goingOn_1 : decode mX6_goingOn.2.1 1 = .ok (.istore_n 2, 1) := by decide +kernel
theorem dX6_goingOn_2 : decode mX6_goingOn.2.1 2 = .ok (.iconst 0, 1) := by decide +kernel
theorem dX6_goingOn_3 : decode mX6_goingOn.2.1 3 = .ok (.istore_n 3, 1) := by decide +kernel
theorem dX6_goingOn_4 : decode mX6_goingOn.2.1 4 = .ok (.iload_n 3, 1) := by decide +kernel
theorem dX6_goingOn_5 : decode mX6_goingOn.2.1 5 = .ok (.aload_n 0, 1) := by decide +kernel
theorem dX6_goingOn_6 : decode mX6_goingOn.2.1 6 = .ok (.getfield 11, 3) := by decide +kernel
theorem dX6_goingOn_9 : decode mX6_goingOn.2.1 9 = .ok (.bipush 60, 2) := by decide +kernel
theorem dX6_goingOn_11 : decode mX6_goingOn.2.1 11 = .ok (.iaload, 1) := by decide +kernel
theorem dX6_goingOn_12 : decode mX6_goingOn.2.1 12 = .ok (.if_icmp .ge 21, 3) := by decide +kernel
theorem dX6_goingOn_15 : decode mX6_goingOn.2.1 15 = .ok (.aload_n 0, 1) := by decide +kernel
theorem dX6_goingOn_16 : decode mX6_goingOn.2.1 16 = .ok (.iload_n 3, 1) := by decide +kernel
theorem dX6_goingOn_17 : decode mX6_goingOn.2.1 17 = .ok (.iload_n 1, 1) := by decide +kernel
theorem dX6_goingOn_18 : decode mX6_goingOn.2.1 18 = .ok (.invokevirtual 36, 3) := by decide +kernel
theorem dX6_goingOn_21 : decode mX6_goingOn.2.1 21 = .ok (.ifCond .eq 6, 3) := by decide +kernel
theorem dX6_goingOn_24 : decode mX6_goingOn.2.1 24 = .ok (.iinc 2 1, 3) := by decide +kernel
theorem dX6_goingOn_27 : decode mX6_goingOn.2.1 27 = .ok (.iinc 3 1, 3) := by decide +kernel
theorem dX6_goingOn_30 : decode mX6_goingOn.2.1 30 = .ok (.goto (-26), 3) := by decide +kernel
theorem dX6_goingOn_33 : decode mX6_goingOn.2.1 33 = .ok (.iload_n 2, 1) := by decide +kernel
theorem dX6_goingOn_34 : decode mX6_goingOn.2.1 34 = .ok (.ireturn, 1) := by decide +kernel
abbrev mX6_kind : gz_M := (yX6_kind, cX6_kind, 2, some .int)
theorem dX6_kind_0 : decode mX6_kind.2.1 0 = .ok (.aload_n 0, 1) := by decide +kernel
theorem dX6_kind_1 : decode mX6_kind.2.1 1 = .ok (.getfield 11, 3) := by decide +kernel
theorem dX6_kind_4 : decode mX6_kind.2.1 4 = .ok (.iconst 0, 1) := by decide +kernel
theorem dX6_kind_5 : decode mX6_kind.2.1 5 = .ok (.iload_n 1, 1) := by decide +kernel
theorem dX6_kind_6 : decode mX6_kind.2.1 6 = .ok (.iadd, 1) := by decide +kernel
theorem dX6_kind_7 : decode mX6_kind.2.1 7 = .ok (.iaload, 1) := by decide +kernel
theorem dX6_kind_8 : decode mX6_kind.2.1 8 = .ok (.ireturn, 1) := by decide +kernel
abbrev mX6_lies : gz_M := (yX6_lies, cX6_lies, 2, some .int)
theorem dX6_lies_0 : decode mX6_lies.2.1 0 = .ok (.iload_n 1, 1) := by decide +kernel
theorem dX6_lies_1 : decode mX6_lies.2.1 1 = .ok (.iconst (-1), 1) := by decide +kernel
theorem dX6_lies_2 : decode mX6_lies.2.1 2 = .ok (.if_icmp .eq 15, 3) := by decide +kernel
theorem dX6_lies_5 : decode mX6_lies.2.1 5 = .ok (.aload_n 0, 1) := by decide +kernel
theorem dX6_lies_6 : decode mX6_lies.2.1 6 = .ok (.getfield 11, 3) := by decide +kernel
theorem dX6_lies_9 : decode mX6_lies.2.1 9 = .ok (.iconst 0, 1) := by decide +kernel
theorem dX6_lies_10 : decode mX6_lies.2.1 10 = .ok (.iload_n 1, 1) := by decide +kernel
theorem dX6_lies_11 : decode mX6_lies.2.1 11 = .ok (.iadd, 1) := by decide +kernel
theorem dX6_lies_12 : decode mX6_lies.2.1 12 = .ok (.iaload, 1) := by decide +kernel
theorem dX6_lies_13 : decode mX6_lies.2.1 13 = .ok (.iconst 1, 1) := by decide +kernel
theorem dX6_lies_14 : decode mX6_lies.2.1 14 = .ok (.if_icmp .ne 5, 3) := by decide +kernel
theorem dX6_lies_17 : decode mX6_lies.2.1 17 = .ok (.iconst 1, 1) := by decide +kernel
theorem dX6_lies_18 : decode mX6_lies.2.1 18 = .ok (.ireturn, 1) := by decide +kernel
theorem dX6_lies_19 : decode mX6_lies.2.1 19 = .ok (.aload_n 0, 1) := by decide +kernel
theorem dX6_lies_20 : decode mX6_lies.2.1 20 = .ok (.iload_n 1, 1) := by decide +kernel
theorem dX6_lies_21 : decode mX6_lies.2.1 21 = .ok (.invokevirtual 39, 3) := by decide +kernel
theorem dX6_lies_24 : decode mX6_lies.2.1 24 = .ok (.ifCond .eq 5, 3) := by decide +kernel
theorem dX6_lies_27 : decode mX6_lies.2.1 27 = .ok (.iconst 2, 1) := by decide +kernel
theorem dX6_lies_28 : decode mX6_lies.2.1 28 = .ok (.ireturn, 1) := by decide +kernel
theorem dX6_lies_29 : decode mX6_lies.2.1 29 = .ok (.aload_n 0, 1) := by decide +kernel
theorem dX6_lies_30 : decode mX6_lies.2.1 30 = .ok (.getfield 11, 3) := by decide +kernel
theorem dX6_lies_33 : decode mX6_lies.2.1 33 = .ok (.iconst 0, 1) := by decide +kernel
theorem dX6_lies_34 : decode mX6_lies.2.1 34 = .ok (.iload_n 1, 1) := by decide +kernel
theorem dX6_lies_35 : decode mX6_lies.2.1 35 = .ok (.iadd, 1) := by decide +kernel
theorem dX6_lies_36 : decode mX6_lies.2.1 36 = .ok (.iaload, 1) := by decide +kernel
theorem dX6_lies_37 : decode mX6_lies.2.1 37 = .ok (.iconst 3, 1) := by decide +kernel
theorem dX6_lies_38 : decode mX6_lies.2.1 38 = .ok (.if_icmp .ne 7, 3) := by decide +kernel
theorem dX6_lies_41 : decode mX6_lies.2.1 41 = .ok (.iconst 3, 1) := by decide +kernel
theorem dX6_lies_42 : decode mX6_lies.2.1 42 = .ok (.goto 4, 3) := by decide +kernel
theorem dX6_lies_45 : decode mX6_lies.2.1 45 = .ok (.iconst 0, 1) := by decide +kernel
theorem dX6_lies_46 : decode mX6_lies.2.1 46 = .ok (.ireturn, 1) := by decide +kernel
abbrev mX6_together : gz_M := (yX6_together, cX6_together, 3, some .boolean)
theorem dX6_together_0 : decode mX6_together.2.1 0 = .ok (.aload_n 0, 1) := by decide +kernel
theorem dX6_together_1 : decode mX6_together.2.1 1 = .ok (.iload_n 1, 1) := by decide +kernel
theorem dX6_together_2 : decode mX6_together.2.1 2 = .ok (.invokevirtual 33, 3) := by decide +kernel
theorem dX6_together_5 : decode mX6_together.2.1 5 = .ok (.ifCond .eq 24, 3) := by decide +kernel
theorem dX6_together_8 : decode mX6_together.2.1 8 = .ok (.aload_n 0, 1) := by decide +kernel
theorem dX6_together_9 : decode mX6_together.2.1 9 = .ok (.iload_n 2, 1) := by decide +kernel
theorem dX6_together_10 : decode mX6_together.2.1 10 = .ok (.aload_n 0, 1) := by decide +kernel
theorem dX6_together_11 : decode mX6_together.2.1 11 = .ok (.getfield 11, 3) := by decide +kernel
theorem dX6_together_14 : decode mX6_together.2.1 14 = .ok (.bipush 30, 2) := by decide +kernel
theorem dX6_together_16 : decode mX6_together.2.1 16 = .ok (.iload_n 1, 1) := by decide +kernel
theorem dX6_together_17 : decode mX6_together.2.1 17 = .ok (.iadd, 1) := by decide +kernel
theorem dX6_together_18 : decode mX6_together.2.1 18 = .ok (.iaload, 1) := by decide +kernel
theorem dX6_together_19 : decode mX6_together.2.1 19 = .ok (.invokevirtual 36, 3) := by decide +kernel
theorem dX6_together_22 : decode mX6_together.2.1 22 = .ok (.ifCond .eq 7, 3) := by decide +kernel
theorem dX6_together_25 : decode mX6_together.2.1 25 = .ok (.iconst 1, 1) := by decide +kernel
theorem dX6_together_26 : decode mX6_together.2.1 26 = .ok (.goto 4, 3) := by decide +kernel
theorem dX6_together_29 : decode mX6_together.2.1 29 = .ok (.iconst 0, 1) := by decide +kernel
theorem dX6_together_30 : decode mX6_together.2.1 30 = .ok (.ireturn, 1) := by decide +kernel
abbrev mX6_under : gz_M := (yX6_under, cX6_under, 2, some .boolean)
theorem dX6_under_0 : decode mX6_under.2.1 0 = .ok (.aload_n 0, 1) := by decide +kernel
theorem dX6_under_1 : decode mX6_under.2.1 1 = .ok (.getfield 11, 3) := by decide +kernel
theorem dX6_under_4 : decode mX6_under.2.1 4 = .ok (.iconst 0, 1) := by decide +kernel
theorem dX6_under_5 : decode mX6_under.2.1 5 = .ok (.iload_n 1, 1) := by decide +kernel
theorem dX6_under_6 : decode mX6_under.2.1 6 = .ok (.iadd, 1) := by decide +kernel
theorem dX6_under_7 : decode mX6_under.2.1 7 = .ok (.iaload, 1) := by decide +kernel
theorem dX6_under_8 : decode mX6_under.2.1 8 = .ok (.iconst 2, 1) := by decide +kernel
theorem dX6_under_9 : decode mX6_under.2.1 9 = .ok (.if_icmp .eq 30, 3) := by decide +kernel
theorem dX6_under_12 : decode mX6_under.2.1 12 = .ok (.iload_n 1, 1) := by decide +kernel
theorem dX6_under_13 : decode mX6_under.2.1 13 = .ok (.aload_n 0, 1) := by decide +kernel
theorem dX6_under_14 : decode mX6_under.2.1 14 = .ok (.getfield 11, 3) := by decide +kernel
theorem dX6_under_17 : decode mX6_under.2.1 17 = .ok (.bipush 59, 2) := by decide +kernel
theorem dX6_under_19 : decode mX6_under.2.1 19 = .ok (.iaload, 1) := by decide +kernel
theorem dX6_under_20 : decode mX6_under.2.1 20 = .ok (.aload_n 0, 1) := by decide +kernel
theorem dX6_under_21 : decode mX6_under.2.1 21 = .ok (.getfield 11, 3) := by decide +kernel
theorem dX6_under_24 : decode mX6_under.2.1 24 = .ok (.bipush 46, 2) := by decide +kernel
theorem dX6_under_26 : decode mX6_under.2.1 26 = .ok (.iaload, 1) := by decide +kernel
theorem dX6_under_27 : decode mX6_under.2.1 27 = .ok (.isub, 1) := by decide +kernel
theorem dX6_under_28 : decode mX6_under.2.1 28 = .ok (.aload_n 0, 1) := by decide +kernel
theorem dX6_under_29 : decode mX6_under.2.1 29 = .ok (.getfield 11, 3) := by decide +kernel
theorem dX6_under_32 : decode mX6_under.2.1 32 = .ok (.bipush 58, 2) := by decide +kernel
theorem dX6_under_34 : decode mX6_under.2.1 34 = .ok (.iaload, 1) := by decide +kernel
theorem dX6_under_35 : decode mX6_under.2.1 35 = .ok (.imul, 1) := by decide +kernel
theorem dX6_under_36 : decode mX6_under.2.1 36 = .ok (.if_icmp .lt 7, 3) := by decide +kernel
theorem dX6_under_39 : decode mX6_under.2.1 39 = .ok (.iconst 1, 1) := by decide +kernel
theorem dX6_under_40 : decode mX6_under.2.1 40 = .ok (.goto 4, 3) := by decide +kernel
theorem dX6_under_43 : decode mX6_under.2.1 43 = .ok (.iconst 0, 1) := by decide +kernel
theorem dX6_under_44 : decode mX6_under.2.1 44 = .ok (.ireturn, 1) := by decide +kernel
theorem flX6_11 : gz_fl RX6 11 6 0 := ⟨by decide, by decide +kernel, gz_mem 245 (by decide +kernel) (by decide +kernel)⟩
theorem mkX6_goes : gz_mk mX6_goes 1 := ⟨by decide +kernel, ⟨by decide +kernel, by decide +kernel, by decide +kernel⟩, gz_mem 732 (by decide +kernel) (by decide +kernel), by decide, gz_mem 113 (by decide +kernel) (by decide +kernel)⟩
theorem mkX6_goesOn : gz_mk mX6_goesOn 2 := ⟨by decide +kernel, ⟨by decide +kernel, by decide +kernel, by decide +kernel⟩, gz_mem 780 (by decide +kernel) (by decide +kernel), by decide, gz_mem 113 (by decide +kernel) (by decide +kernel)⟩
theorem mkX6_under : gz_mk mX6_under 1 := ⟨by decide +kernel, ⟨by decide +kernel, by decide +kernel, by decide +kernel⟩, gz_mem 694 (by decide +kernel) (by decide +kernel), by decide, gz_mem 113 (by decide +kernel) (by decide +kernel)⟩
theorem mvX6_33 : gz_mv RX6 33 mX6_goes 1 := ⟨mkX6_goes, gz_mem 951 (by decide +kernel) (by decide +kernel), gz_mem 730 (by decide +kernel) (by decide +kernel), gz_mem 731 (by decide +kernel) (by decide +kernel)⟩
theorem mvX6_36 : gz_mv RX6 36 mX6_goesOn 2 := ⟨mkX6_goesOn, gz_mem 777 (by decide +kernel) (by decide +kernel), gz_mem 778 (by decide +kernel) (by decide +kernel), gz_mem 779 (by decide +kernel) (by decide +kernel)⟩
theorem mvX6_39 : gz_mv RX6 39 mX6_under 1 := ⟨mkX6_under, gz_mem 750 (by decide +kernel) (by decide +kernel), gz_mem 692 (by decide +kernel) (by decide +kernel), gz_mem 693 (by decide +kernel) (by decide +kernel)⟩
theorem cIm1 : Int32.ofInt (-1) = (-1) := by decide
theorem cI0 : Int32.ofInt (0) = 0 := by decide
theorem cI1 : Int32.ofInt (1) = 1 := by decide
theorem cI2 : Int32.ofInt (2) = 2 := by decide
theorem cI3 : Int32.ofInt (3) = 3 := by decide
theorem cB30 : (Int8.ofInt (30)).toInt32 = 30 := by decide
theorem cB42 : (Int8.ofInt (42)).toInt32 = 42 := by decide
theorem cB46 : (Int8.ofInt (46)).toInt32 = 46 := by decide
theorem cB58 : (Int8.ofInt (58)).toInt32 = 58 := by decide
theorem cB59 : (Int8.ofInt (59)).toInt32 = 59 := by decide
theorem cB60 : (Int8.ofInt (60)).toInt32 = 60 := by decide
theorem vi46_61 : vp_in 46 61 := (by decide : gz_ok 46 61)
theorem vi58_61 : vp_in 58 61 := (by decide : gz_ok 58 61)
theorem vi59_61 : vp_in 59 61 := (by decide : gz_ok 59 61)
theorem vi60_61 : vp_in 60 61 := (by decide : gz_ok 60 61)
theorem tn46 : (46 : Int32).toNatClampNeg = 46 := by decide
theorem tn58 : (58 : Int32).toNatClampNeg = 58 := by decide
theorem tn59 : (59 : Int32).toNatClampNeg = 59 := by decide
theorem tn60 : (60 : Int32).toNatClampNeg = 60 := by decide
def fX6_goes (La : gz_L) (w0 : Nat) (x1 : Int32) (g : gz_S) : Option (Int32 × gz_S) :=
  if gz_ok (42 + x1) 61 then if (g.1 (w0 + 16) (Int32.toNatClampNeg (42 + x1))) = 0 then some (1, g) else some (0, g) else none
set_option maxRecDepth 100000 in
set_option maxHeartbeats 4000000 in
theorem kX6_goes {La : gz_L} {w0 : Nat} {x1 : Int32} {g : gz_S} {r : Int32 × gz_S} (hw0 : gz_sc w0) (hf : fX6_goes La w0 x1 g = some r) : gz_K La 1 mX6_goes [.ref w0, .int x1] g (gz_Fi r) := by
  unfold fX6_goes at hf
  refine gz_K.of 0 (by decide +kernel) rfl ?_
  show gz_J La 1 mX6_goes 0 [some (.ref w0), some (.int x1)] [] g (gz_Fi r)
  refine sz_aload_n dX6_goes_0 rfl ?_
  refine sz_getR dX6_goes_1 flX6_11 (kdS hw0) rfl (rfS hw0) ?_
  refine sz_bipush dX6_goes_4 (cB42) ?_
  refine sz_iload_n dX6_goes_6 rfl ?_
  refine sz_iadd dX6_goes_7 ?_
  obtain ⟨c8, hf⟩ := gz_gd hf
  refine sz_ialdL dX6_goes_8 (kdSv hw0) c8 rfl ?_
  refine sz_if_ne 16 dX6_goes_9 (by decide) (fun c9 => ?_) (fun c9 => ?_)
  · have hf := gz_in1 c9 hf
    refine sz_iconst dX6_goes_16 (cI0) ?_
    cases hf
    exact sz_iret dX6_goes_17 rfl rfl ⟨rfl, rfl⟩
  · have hf := gz_ip c9 hf
    refine sz_iconst dX6_goes_12 (cI1) ?_
    refine sz_goto 17 dX6_goes_13 (by decide) ?_
    cases hf
    exact sz_iret dX6_goes_17 rfl rfl ⟨rfl, rfl⟩
def fX6_goesOn (La : gz_L) (w0 : Nat) (x1 : Int32) (x2 : Int32) (g : gz_S) : Option (Int32 × gz_S) :=
  if gz_ok (42 + x1) 61 then if (g.1 (w0 + 16) (Int32.toNatClampNeg (42 + x1))) = 0 then if gz_ok (30 + x1) 61 then if (g.1 (w0 + 16) (Int32.toNatClampNeg (30 + x1))) = x2 then some (1, g) else some (0, g) else none else some (0, g) else none
set_option maxRecDepth 100000 in
set_option maxHeartbeats 4000000 in
theorem kX6_goesOn {La : gz_L} {w0 : Nat} {x1 : Int32} {x2 : Int32} {g : gz_S} {r : Int32 × gz_S} (hw0 : gz_sc w0) (hf : fX6_goesOn La w0 x1 x2 g = some r) : gz_K La 1 mX6_goesOn [.ref w0, .int x1, .int x2] g (gz_Fi r) := by
  unfold fX6_goesOn at hf
  refine gz_K.of 0 (by decide +kernel) rfl ?_
  show gz_J La 1 mX6_goesOn 0 [some (.ref w0), some (.int x1), some (.int x2)] [] g (gz_Fi r)
  refine sz_aload_n dX6_goesOn_0 rfl ?_
  refine sz_getR dX6_goesOn_1 flX6_11 (kdS hw0) rfl (rfS hw0) ?_
  refine sz_bipush dX6_goesOn_4 (cB42) ?_
  refine sz_iload_n dX6_goesOn_6 rfl ?_
  refine sz_iadd dX6_goesOn_7 ?_
  obtain ⟨c8, hf⟩ := gz_gd hf
  refine sz_ialdL dX6_goesOn_8 (kdSv hw0) c8 rfl ?_
  refine sz_if_ne 29 dX6_goesOn_9 (by decide) (fun c9 => ?_) (fun c9 => ?_)
  · have hf := gz_in1 c9 hf
    refine sz_iconst dX6_goesOn_29 (cI0) ?_
    cases hf
    exact sz_iret dX6_goesOn_30 rfl rfl ⟨rfl, rfl⟩
  · have hf := gz_ip c9 hf
    refine sz_aload_n dX6_goesOn_12 rfl ?_
    refine sz_getR dX6_goesOn_13 flX6_11 (kdS hw0) rfl (rfS hw0) ?_
    refine sz_bipush dX6_goesOn_16 (cB30) ?_
    refine sz_iload_n dX6_goesOn_18 rfl ?_
    refine sz_iadd dX6_goesOn_19 ?_
    obtain ⟨c20, hf⟩ := gz_gd hf
    refine sz_ialdL dX6_goesOn_20 (kdSv hw0) c20 rfl ?_
    refine sz_iload_n dX6_goesOn_21 rfl ?_
    refine sz_icmp_ne 29 dX6_goesOn_22 (by decide) (fun c22 => ?_) (fun c22 => ?_)
    · have hf := gz_in1 c22 hf
      refine sz_iconst dX6_goesOn_29 (cI0) ?_
      cases hf
      exact sz_iret dX6_goesOn_30 rfl rfl ⟨rfl, rfl⟩
    · have hf := gz_ip c22 hf
      refine sz_iconst dX6_goesOn_25 (cI1) ?_
      refine sz_goto 30 dX6_goesOn_26 (by decide) ?_
      cases hf
      exact sz_iret dX6_goesOn_30 rfl rfl ⟨rfl, rfl⟩
def fX6_goingOn_27 (La : gz_L)  (w0 : Nat) (k4 : Int32 → Int32 → Int32 → gz_S → Option (Int32 × gz_S)) (x1 : Int32) (x2 : Int32) (x3 : Int32) (g : gz_S) : Option (Int32 × gz_S) := gz_let (x3 + 1) (fun y27 => k4 x1 x2 y27 g)
set_option maxRecDepth 100000 in
set_option maxHeartbeats 4000000 in
theorem tX6_goingOn_27 {La : gz_L}  {w0 : Nat} {k4 : Int32 → Int32 → Int32 → gz_S → Option (Int32 × gz_S)} (hw0 : gz_sc w0) (hk4 : ∀ (x1 : Int32) (x2 : Int32) (x3 : Int32) (g : gz_S) (r : Int32 × gz_S), k4 x1 x2 x3 g = some r → gz_J La 2 mX6_goingOn 4 [some (.ref w0), some (.int x1), some (.int x2), some (.int x3)] [] g (gz_Fi r)) : ∀ (x1 : Int32) (x2 : Int32) (x3 : Int32) (g : gz_S) (r : Int32 × gz_S), fX6_goingOn_27 La  w0 k4 x1 x2 x3 g = some r → gz_J La 2 mX6_goingOn 27 [some (.ref w0), some (.int x1), some (.int x2), some (.int x3)] [] g (gz_Fi r) := by
  intro x1 x2 x3 g r hf
  unfold fX6_goingOn_27 at hf
  obtain ⟨y27, ey27, hf⟩ := gz_lt hf
  refine sz_iinc (v := y27) dX6_goingOn_27 rfl (by rw [ey27, cI1]) (Nat.le_of_ble_eq_true rfl) rfl ?_
  refine sz_goto 4 dX6_goingOn_30 (by decide) ?_
  exact hk4 _ _ _ _ _ hf
def fX6_goingOn_4 (La : gz_L)  (w0 : Nat)  : Nat → Int32 → Int32 → Int32 → gz_S → Option (Int32 × gz_S)
  | 0, _, _, _, _ => none
  | n + 1, x1, x2, x3, g => if (g.1 (w0 + 16) 60) ≤ x3 then some (x2, g) else (fX6_goesOn La w0 x3 x1 g).bind (fun q18 => if q18.1 = 0 then fX6_goingOn_27 La w0 (fX6_goingOn_4 La w0  n)  x1 x2 x3 q18.2 else gz_let (x2 + 1) (fun y24 => fX6_goingOn_27 La w0 (fX6_goingOn_4 La w0  n)  x1 y24 x3 q18.2))
set_option maxRecDepth 100000 in
set_option maxHeartbeats 4000000 in
theorem tX6_goingOn_4 {La : gz_L}  {w0 : Nat}  (hw0 : gz_sc w0)  : ∀ (n : Nat) (x1 : Int32) (x2 : Int32) (x3 : Int32) (g : gz_S) (r : Int32 × gz_S), fX6_goingOn_4 La  w0  n x1 x2 x3 g = some r → gz_J La 2 mX6_goingOn 4 [some (.ref w0), some (.int x1), some (.int x2), some (.int x3)] [] g (gz_Fi r) := by
  intro n
  induction n with
  | zero => intro x1 x2 x3 g r hf; exact nomatch (show (none : Option (Int32 × gz_S)) = some r from hf)
  | succ n ih =>
    intro x1 x2 x3 g r hf
    unfold fX6_goingOn_4 at hf
    refine sz_iload_n dX6_goingOn_4 rfl ?_
    refine sz_aload_n dX6_goingOn_5 rfl ?_
    refine sz_getR dX6_goingOn_6 flX6_11 (kdS hw0) rfl (rfS hw0) ?_
    refine sz_bipush dX6_goingOn_9 (cB60) ?_
    refine sz_ialdL dX6_goingOn_11 (kdSv hw0) vi60_61 tn60 ?_
    refine sz_icmp_ge 33 dX6_goingOn_12 (by decide) (fun c12 => ?_) (fun c12 => ?_)
    · have hf := gz_ip c12 hf
      refine sz_iload_n dX6_goingOn_33 rfl ?_
      cases hf
      exact sz_iret dX6_goingOn_34 rfl rfl ⟨rfl, rfl⟩
    · have hf := gz_in1 c12 hf
      refine sz_aload_n dX6_goingOn_15 rfl ?_
      refine sz_iload_n dX6_goingOn_16 rfl ?_
      refine sz_iload_n dX6_goingOn_17 rfl ?_
      obtain ⟨q18, eq18, hf⟩ := gz_bd hf
      refine sz_callVi [.int x3, .int x1] [] dX6_goingOn_18 mvX6_36 (by omega) (by decide : 6 < 13) (kdS hw0) rfl (Nat.le_of_ble_eq_true rfl) (kX6_goesOn hw0 eq18) ?_
      refine sz_if_eq 27 dX6_goingOn_21 (by decide) (fun c21 => ?_) (fun c21 => ?_)
      · have hf := gz_ip c21 hf
        exact tX6_goingOn_27 hw0 ih _ _ _ _ _ hf
      · have hf := gz_in1 c21 hf
        obtain ⟨y24, ey24, hf⟩ := gz_lt hf
        refine sz_iinc (v := y24) dX6_goingOn_24 rfl (by rw [ey24, cI1]) (Nat.le_of_ble_eq_true rfl) rfl ?_
        exact tX6_goingOn_27 hw0 ih _ _ _ _ _ hf
def fX6_goingOn (La : gz_L) (w0 : Nat) (x1 : Int32) (g : gz_S) : Option (Int32 × gz_S) :=
  fX6_goingOn_4 La w0  gz_FU x1 0 0 g
set_option maxRecDepth 100000 in
set_option maxHeartbeats 4000000 in
theorem kX6_goingOn {La : gz_L} {w0 : Nat} {x1 : Int32} {g : gz_S} {r : Int32 × gz_S} (hw0 : gz_sc w0) (hf : fX6_goingOn La w0 x1 g = some r) : gz_K La 2 mX6_goingOn [.ref w0, .int x1] g (gz_Fi r) := by
  unfold fX6_goingOn at hf
  refine gz_K.of 2 (by decide +kernel) rfl ?_
  show gz_J La 2 mX6_goingOn 0 [some (.ref w0), some (.int x1), none, none] [] g (gz_Fi r)
  refine sz_iconst dX6_goingOn_0 (cI0) ?_
  refine sz_istore_n dX6_goingOn_1 rfl (Nat.le_of_ble_eq_true rfl) rfl ?_
  refine sz_iconst dX6_goingOn_2 (cI0) ?_
  refine sz_istore_n dX6_goingOn_3 rfl (Nat.le_of_ble_eq_true rfl) rfl ?_
  exact tX6_goingOn_4 hw0  _ _ _ _ _ _ hf
def fX6_beside (La : gz_L) (w0 : Nat) (x1 : Int32) (x2 : Int32) (g : gz_S) : Option (Int32 × gz_S) :=
  gz_let (g.1 (w0 + 16) 58) (fun y7 => if x2 = 0 then if x1 < y7 then some ((-1), g) else some (x1 - y7, g) else if x2 = 1 then if y7 ≤ 0 then some ((-1), g) else if ¬ y7 = 0 then if ((x1 + 1) - (x1 + 1) / y7 * y7) = 0 then some ((-1), g) else some (x1 + 1, g) else none else if x2 = 2 then if (y7 * (g.1 (w0 + 16) 59)) ≤ (x1 + y7) then some ((-1), g) else some (x1 + y7, g) else if y7 ≤ 0 then some ((-1), g) else if ¬ y7 = 0 then if (x1 - x1 / y7 * y7) = 0 then some ((-1), g) else some (x1 - 1, g) else none)
set_option maxRecDepth 100000 in
set_option maxHeartbeats 4000000 in
theorem kX6_beside {La : gz_L} {w0 : Nat} {x1 : Int32} {x2 : Int32} {g : gz_S} {r : Int32 × gz_S} (hw0 : gz_sc w0) (hf : fX6_beside La w0 x1 x2 g = some r) : gz_K La 1 mX6_beside [.ref w0, .int x1, .int x2] g (gz_Fi r) := by
  unfold fX6_beside at hf
  refine gz_K.of 1 (by decide +kernel) rfl ?_
  show gz_J La 1 mX6_beside 0 [some (.ref w0), some (.int x1), some (.int x2), none] [] g (gz_Fi r)
  refine sz_aload_n dX6_beside_0 rfl ?_
  refine sz_getR dX6_beside_1 flX6_11 (kdS hw0) rfl (rfS hw0) ?_
  refine sz_bipush dX6_beside_4 (cB58) ?_
  refine sz_ialdL dX6_beside_6 (kdSv hw0) vi58_61 tn58 ?_
  obtain ⟨y7, ey7, hf⟩ := gz_lt hf
  refine sz_topi ey7 ?_
  refine sz_istore_n dX6_beside_7 rfl (Nat.le_of_ble_eq_true rfl) rfl ?_
  refine sz_iload_n dX6_beside_8 rfl ?_
  by_cases c9_0 : x2 = 0
  · have hf := gz_ip c9_0 hf
    refine sz_tableIn 36 dX6_beside_9 (by rw [c9_0]; decide) (by rw [c9_0]; decide) (by rw [c9_0]; rfl) (by decide) ?_
    refine sz_iload_n dX6_beside_36 rfl ?_
    refine sz_iload_n dX6_beside_37 rfl ?_
    refine sz_icmp_lt 47 dX6_beside_38 (by decide) (fun c38 => ?_) (fun c38 => ?_)
    · have hf := gz_ip c38 hf
      refine sz_iconst dX6_beside_47 (cIm1) ?_
      cases hf
      exact sz_iret dX6_beside_48 rfl rfl ⟨rfl, rfl⟩
    · have hf := gz_in1 c38 hf
      refine sz_iload_n dX6_beside_41 rfl ?_
      refine sz_iload_n dX6_beside_42 rfl ?_
      refine sz_isub dX6_beside_43 ?_
      refine sz_goto 48 dX6_beside_44 (by decide) ?_
      cases hf
      exact sz_iret dX6_beside_48 rfl rfl ⟨rfl, rfl⟩
  have hf := gz_in1 c9_0 hf
  by_cases c9_1 : x2 = 1
  · have hf := gz_ip c9_1 hf
    refine sz_tableIn 49 dX6_beside_9 (by rw [c9_1]; decide) (by rw [c9_1]; decide) (by rw [c9_1]; rfl) (by decide) ?_
    refine sz_iload_n dX6_beside_49 rfl ?_
    refine sz_if_le 67 dX6_beside_50 (by decide) (fun c50 => ?_) (fun c50 => ?_)
    · have hf := gz_ip c50 hf
      refine sz_iconst dX6_beside_67 (cIm1) ?_
      cases hf
      exact sz_iret dX6_beside_68 rfl rfl ⟨rfl, rfl⟩
    · have hf := gz_in1 c50 hf
      refine sz_iload_n dX6_beside_53 rfl ?_
      refine sz_iconst dX6_beside_54 (cI1) ?_
      refine sz_iadd dX6_beside_55 ?_
      refine sz_iload_n dX6_beside_56 rfl ?_
      obtain ⟨c57, hf⟩ := gz_gd hf
      refine sz_irem dX6_beside_57 c57 ?_
      refine sz_if_eq 67 dX6_beside_58 (by decide) (fun c58 => ?_) (fun c58 => ?_)
      · have hf := gz_ip c58 hf
        refine sz_iconst dX6_beside_67 (cIm1) ?_
        cases hf
        exact sz_iret dX6_beside_68 rfl rfl ⟨rfl, rfl⟩
      · have hf := gz_in1 c58 hf
        refine sz_iload_n dX6_beside_61 rfl ?_
        refine sz_iconst dX6_beside_62 (cI1) ?_
        refine sz_iadd dX6_beside_63 ?_
        refine sz_goto 68 dX6_beside_64 (by decide) ?_
        cases hf
        exact sz_iret dX6_beside_68 rfl rfl ⟨rfl, rfl⟩
  have hf := gz_in1 c9_1 hf
  by_cases c9_2 : x2 = 2
  · have hf := gz_ip c9_2 hf
    refine sz_tableIn 69 dX6_beside_9 (by rw [c9_2]; decide) (by rw [c9_2]; decide) (by rw [c9_2]; rfl) (by decide) ?_
    refine sz_iload_n dX6_beside_69 rfl ?_
    refine sz_iload_n dX6_beside_70 rfl ?_
    refine sz_iadd dX6_beside_71 ?_
    refine sz_iload_n dX6_beside_72 rfl ?_
    refine sz_aload_n dX6_beside_73 rfl ?_
    refine sz_getR dX6_beside_74 flX6_11 (kdS hw0) rfl (rfS hw0) ?_
    refine sz_bipush dX6_beside_77 (cB59) ?_
    refine sz_ialdL dX6_beside_79 (kdSv hw0) vi59_61 tn59 ?_
    refine sz_imul dX6_beside_80 ?_
    refine sz_icmp_ge 90 dX6_beside_81 (by decide) (fun c81 => ?_) (fun c81 => ?_)
    · have hf := gz_ip c81 hf
      refine sz_iconst dX6_beside_90 (cIm1) ?_
      cases hf
      exact sz_iret dX6_beside_91 rfl rfl ⟨rfl, rfl⟩
    · have hf := gz_in1 c81 hf
      refine sz_iload_n dX6_beside_84 rfl ?_
      refine sz_iload_n dX6_beside_85 rfl ?_
      refine sz_iadd dX6_beside_86 ?_
      refine sz_goto 91 dX6_beside_87 (by decide) ?_
      cases hf
      exact sz_iret dX6_beside_91 rfl rfl ⟨rfl, rfl⟩
  have hf := gz_in1 c9_2 hf
  refine sz_tableOut 92 dX6_beside_9 (by have z0 := lv_neT c9_0 (a := 0) (by decide); have z1 := lv_neT c9_1 (a := 1) (by decide); have z2 := lv_neT c9_2 (a := 2) (by decide); omega) (by decide) ?_
  refine sz_iload_n dX6_beside_92 rfl ?_
  refine sz_if_le 108 dX6_beside_93 (by decide) (fun c93 => ?_) (fun c93 => ?_)
  · have hf := gz_ip c93 hf
    refine sz_iconst dX6_beside_108 (cIm1) ?_
    cases hf
    exact sz_iret dX6_beside_109 rfl rfl ⟨rfl, rfl⟩
  · have hf := gz_in1 c93 hf
    refine sz_iload_n dX6_beside_96 rfl ?_
    refine sz_iload_n dX6_beside_97 rfl ?_
    obtain ⟨c98, hf⟩ := gz_gd hf
    refine sz_irem dX6_beside_98 c98 ?_
    refine sz_if_eq 108 dX6_beside_99 (by decide) (fun c99 => ?_) (fun c99 => ?_)
    · have hf := gz_ip c99 hf
      refine sz_iconst dX6_beside_108 (cIm1) ?_
      cases hf
      exact sz_iret dX6_beside_109 rfl rfl ⟨rfl, rfl⟩
    · have hf := gz_in1 c99 hf
      refine sz_iload_n dX6_beside_102 rfl ?_
      refine sz_iconst dX6_beside_103 (cI1) ?_
      refine sz_isub dX6_beside_104 ?_
      refine sz_goto 109 dX6_beside_105 (by decide) ?_
      cases hf
      exact sz_iret dX6_beside_109 rfl rfl ⟨rfl, rfl⟩
def fX6_under (La : gz_L) (w0 : Nat) (x1 : Int32) (g : gz_S) : Option (Int32 × gz_S) :=
  if gz_ok (0 + x1) 61 then if (g.1 (w0 + 16) (Int32.toNatClampNeg (0 + x1))) = 2 then some (1, g) else if x1 < (((g.1 (w0 + 16) 59) - (g.1 (w0 + 16) 46)) * (g.1 (w0 + 16) 58)) then some (0, g) else some (1, g) else none
set_option maxRecDepth 100000 in
set_option maxHeartbeats 4000000 in
theorem kX6_under {La : gz_L} {w0 : Nat} {x1 : Int32} {g : gz_S} {r : Int32 × gz_S} (hw0 : gz_sc w0) (hf : fX6_under La w0 x1 g = some r) : gz_K La 1 mX6_under [.ref w0, .int x1] g (gz_Fi r) := by
  unfold fX6_under at hf
  refine gz_K.of 0 (by decide +kernel) rfl ?_
  show gz_J La 1 mX6_under 0 [some (.ref w0), some (.int x1)] [] g (gz_Fi r)
  refine sz_aload_n dX6_under_0 rfl ?_
  refine sz_getR dX6_under_1 flX6_11 (kdS hw0) rfl (rfS hw0) ?_
  refine sz_iconst dX6_under_4 (cI0) ?_
  refine sz_iload_n dX6_under_5 rfl ?_
  refine sz_iadd dX6_under_6 ?_
  obtain ⟨c7, hf⟩ := gz_gd hf
  refine sz_ialdL dX6_under_7 (kdSv hw0) c7 rfl ?_
  refine sz_iconst dX6_under_8 (cI2) ?_
  refine sz_icmp_eq 39 dX6_under_9 (by decide) (fun c9 => ?_) (fun c9 => ?_)
  · have hf := gz_ip c9 hf
    refine sz_iconst dX6_under_39 (cI1) ?_
    refine sz_goto 44 dX6_under_40 (by decide) ?_
    cases hf
    exact sz_iret dX6_under_44 rfl rfl ⟨rfl, rfl⟩
  · have hf := gz_in1 c9 hf
    refine sz_iload_n dX6_under_12 rfl ?_
    refine sz_aload_n dX6_under_13 rfl ?_
    refine sz_getR dX6_under_14 flX6_11 (kdS hw0) rfl (rfS hw0) ?_
    refine sz_bipush dX6_under_17 (cB59) ?_
    refine sz_ialdL dX6_under_19 (kdSv hw0) vi59_61 tn59 ?_
    refine sz_aload_n dX6_under_20 rfl ?_
    refine sz_getR dX6_under_21 flX6_11 (kdS hw0) rfl (rfS hw0) ?_
    refine sz_bipush dX6_under_24 (cB46) ?_
    refine sz_ialdL dX6_under_26 (kdSv hw0) vi46_61 tn46 ?_
    refine sz_isub dX6_under_27 ?_
    refine sz_aload_n dX6_under_28 rfl ?_
    refine sz_getR dX6_under_29 flX6_11 (kdS hw0) rfl (rfS hw0) ?_
    refine sz_bipush dX6_under_32 (cB58) ?_
    refine sz_ialdL dX6_under_34 (kdSv hw0) vi58_61 tn58 ?_
    refine sz_imul dX6_under_35 ?_
    refine sz_icmp_lt 43 dX6_under_36 (by decide) (fun c36 => ?_) (fun c36 => ?_)
    · have hf := gz_ip c36 hf
      refine sz_iconst dX6_under_43 (cI0) ?_
      cases hf
      exact sz_iret dX6_under_44 rfl rfl ⟨rfl, rfl⟩
    · have hf := gz_in1 c36 hf
      refine sz_iconst dX6_under_39 (cI1) ?_
      refine sz_goto 44 dX6_under_40 (by decide) ?_
      cases hf
      exact sz_iret dX6_under_44 rfl rfl ⟨rfl, rfl⟩
def fX6_lies (La : gz_L) (w0 : Nat) (x1 : Int32) (g : gz_S) : Option (Int32 × gz_S) :=
  if x1 = (-1) then some (1, g) else if gz_ok (0 + x1) 61 then if (g.1 (w0 + 16) (Int32.toNatClampNeg (0 + x1))) = 1 then some (1, g) else (fX6_under La w0 x1 g).bind (fun q21 => if q21.1 = 0 then if gz_ok (0 + x1) 61 then if (q21.2.1 (w0 + 16) (Int32.toNatClampNeg (0 + x1))) = 3 then some (3, q21.2) else some (0, q21.2) else none else some (2, q21.2)) else none
set_option maxRecDepth 100000 in
set_option maxHeartbeats 4000000 in
theorem kX6_lies {La : gz_L} {w0 : Nat} {x1 : Int32} {g : gz_S} {r : Int32 × gz_S} (hw0 : gz_sc w0) (hf : fX6_lies La w0 x1 g = some r) : gz_K La 2 mX6_lies [.ref w0, .int x1] g (gz_Fi r) := by
  unfold fX6_lies at hf
  refine gz_K.of 0 (by decide +kernel) rfl ?_
  show gz_J La 2 mX6_lies 0 [some (.ref w0), some (.int x1)] [] g (gz_Fi r)
  refine sz_iload_n dX6_lies_0 rfl ?_
  refine sz_iconst dX6_lies_1 (cIm1) ?_
  refine sz_icmp_eq 17 dX6_lies_2 (by decide) (fun c2 => ?_) (fun c2 => ?_)
  · have hf := gz_ip c2 hf
    refine sz_iconst dX6_lies_17 (cI1) ?_
    cases hf
    exact sz_iret dX6_lies_18 rfl rfl ⟨rfl, rfl⟩
  · have hf := gz_in1 c2 hf
    refine sz_aload_n dX6_lies_5 rfl ?_
    refine sz_getR dX6_lies_6 flX6_11 (kdS hw0) rfl (rfS hw0) ?_
    refine sz_iconst dX6_lies_9 (cI0) ?_
    refine sz_iload_n dX6_lies_10 rfl ?_
    refine sz_iadd dX6_lies_11 ?_
    obtain ⟨c12, hf⟩ := gz_gd hf
    refine sz_ialdL dX6_lies_12 (kdSv hw0) c12 rfl ?_
    refine sz_iconst dX6_lies_13 (cI1) ?_
    refine sz_icmp_ne 19 dX6_lies_14 (by decide) (fun c14 => ?_) (fun c14 => ?_)
    · have hf := gz_in1 c14 hf
      refine sz_aload_n dX6_lies_19 rfl ?_
      refine sz_iload_n dX6_lies_20 rfl ?_
      obtain ⟨q21, eq21, hf⟩ := gz_bd hf
      refine sz_callVi [.int x1] [] dX6_lies_21 mvX6_39 (by omega) (by decide : 6 < 13) (kdS hw0) rfl (Nat.le_of_ble_eq_true rfl) (kX6_under hw0 eq21) ?_
      refine sz_if_eq 29 dX6_lies_24 (by decide) (fun c24 => ?_) (fun c24 => ?_)
      · have hf := gz_ip c24 hf
        refine sz_aload_n dX6_lies_29 rfl ?_
        refine sz_getR dX6_lies_30 flX6_11 (kdS hw0) rfl (rfS hw0) ?_
        refine sz_iconst dX6_lies_33 (cI0) ?_
        refine sz_iload_n dX6_lies_34 rfl ?_
        refine sz_iadd dX6_lies_35 ?_
        obtain ⟨c36, hf⟩ := gz_gd hf
        refine sz_ialdL dX6_lies_36 (kdSv hw0) c36 rfl ?_
        refine sz_iconst dX6_lies_37 (cI3) ?_
        refine sz_icmp_ne 45 dX6_lies_38 (by decide) (fun c38 => ?_) (fun c38 => ?_)
        · have hf := gz_in1 c38 hf
          refine sz_iconst dX6_lies_45 (cI0) ?_
          cases hf
          exact sz_iret dX6_lies_46 rfl rfl ⟨rfl, rfl⟩
        · have hf := gz_ip c38 hf
          refine sz_iconst dX6_lies_41 (cI3) ?_
          refine sz_goto 46 dX6_lies_42 (by decide) ?_
          cases hf
          exact sz_iret dX6_lies_46 rfl rfl ⟨rfl, rfl⟩
      · have hf := gz_in1 c24 hf
        refine sz_iconst dX6_lies_27 (cI2) ?_
        cases hf
        exact sz_iret dX6_lies_28 rfl rfl ⟨rfl, rfl⟩
    · have hf := gz_ip c14 hf
      refine sz_iconst dX6_lies_17 (cI1) ?_
      cases hf
      exact sz_iret dX6_lies_18 rfl rfl ⟨rfl, rfl⟩
def fX6_together (La : gz_L) (w0 : Nat) (x1 : Int32) (x2 : Int32) (g : gz_S) : Option (Int32 × gz_S) :=
  (fX6_goes La w0 x1 g).bind (fun q2 => if q2.1 = 0 then some (0, q2.2) else if gz_ok (30 + x1) 61 then (fX6_goesOn La w0 x2 (q2.2.1 (w0 + 16) (Int32.toNatClampNeg (30 + x1))) q2.2).bind (fun q19 => if q19.1 = 0 then some (0, q19.2) else some (1, q19.2)) else none)
set_option maxRecDepth 100000 in
set_option maxHeartbeats 4000000 in
theorem kX6_together {La : gz_L} {w0 : Nat} {x1 : Int32} {x2 : Int32} {g : gz_S} {r : Int32 × gz_S} (hw0 : gz_sc w0) (hf : fX6_together La w0 x1 x2 g = some r) : gz_K La 2 mX6_together [.ref w0, .int x1, .int x2] g (gz_Fi r) := by
  unfold fX6_together at hf
  refine gz_K.of 0 (by decide +kernel) rfl ?_
  show gz_J La 2 mX6_together 0 [some (.ref w0), some (.int x1), some (.int x2)] [] g (gz_Fi r)
  refine sz_aload_n dX6_together_0 rfl ?_
  refine sz_iload_n dX6_together_1 rfl ?_
  obtain ⟨q2, eq2, hf⟩ := gz_bd hf
  refine sz_callVi [.int x1] [] dX6_together_2 mvX6_33 (by omega) (by decide : 6 < 13) (kdS hw0) rfl (Nat.le_of_ble_eq_true rfl) (kX6_goes hw0 eq2) ?_
  refine sz_if_eq 29 dX6_together_5 (by decide) (fun c5 => ?_) (fun c5 => ?_)
  · have hf := gz_ip c5 hf
    refine sz_iconst dX6_together_29 (cI0) ?_
    cases hf
    exact sz_iret dX6_together_30 rfl rfl ⟨rfl, rfl⟩
  · have hf := gz_in1 c5 hf
    refine sz_aload_n dX6_together_8 rfl ?_
    refine sz_iload_n dX6_together_9 rfl ?_
    refine sz_aload_n dX6_together_10 rfl ?_
    refine sz_getR dX6_together_11 flX6_11 (kdS hw0) rfl (rfS hw0) ?_
    refine sz_bipush dX6_together_14 (cB30) ?_
    refine sz_iload_n dX6_together_16 rfl ?_
    refine sz_iadd dX6_together_17 ?_
    obtain ⟨c18, hf⟩ := gz_gd hf
    refine sz_ialdL dX6_together_18 (kdSv hw0) c18 rfl ?_
    obtain ⟨q19, eq19, hf⟩ := gz_bd hf
    refine sz_callVi [.int x2, .int (q2.2.1 (w0 + 16) (Int32.toNatClampNeg (30 + x1)))] [] dX6_together_19 mvX6_36 (by omega) (by decide : 6 < 13) (kdS hw0) rfl (Nat.le_of_ble_eq_true rfl) (kX6_goesOn hw0 eq19) ?_
    refine sz_if_eq 29 dX6_together_22 (by decide) (fun c22 => ?_) (fun c22 => ?_)
    · have hf := gz_ip c22 hf
      refine sz_iconst dX6_together_29 (cI0) ?_
      cases hf
      exact sz_iret dX6_together_30 rfl rfl ⟨rfl, rfl⟩
    · have hf := gz_in1 c22 hf
      refine sz_iconst dX6_together_25 (cI1) ?_
      refine sz_goto 30 dX6_together_26 (by decide) ?_
      cases hf
      exact sz_iret dX6_together_30 rfl rfl ⟨rfl, rfl⟩
def fX6_kind (La : gz_L) (w0 : Nat) (x1 : Int32) (g : gz_S) : Option (Int32 × gz_S) :=
  if gz_ok (0 + x1) 61 then some (g.1 (w0 + 16) (Int32.toNatClampNeg (0 + x1)), g) else none
set_option maxRecDepth 100000 in
set_option maxHeartbeats 4000000 in
theorem kX6_kind {La : gz_L} {w0 : Nat} {x1 : Int32} {g : gz_S} {r : Int32 × gz_S} (hw0 : gz_sc w0) (hf : fX6_kind La w0 x1 g = some r) : gz_K La 1 mX6_kind [.ref w0, .int x1] g (gz_Fi r) := by
  unfold fX6_kind at hf
  refine gz_K.of 0 (by decide +kernel) rfl ?_
  show gz_J La 1 mX6_kind 0 [some (.ref w0), some (.int x1)] [] g (gz_Fi r)
  refine sz_aload_n dX6_kind_0 rfl ?_
  refine sz_getR dX6_kind_1 flX6_11 (kdS hw0) rfl (rfS hw0) ?_
  refine sz_iconst dX6_kind_4 (cI0) ?_
  refine sz_iload_n dX6_kind_5 rfl ?_
  refine sz_iadd dX6_kind_6 ?_
  obtain ⟨c7, hf⟩ := gz_gd hf
  refine sz_ialdL dX6_kind_7 (kdSv hw0) c7 rfl ?_
  cases hf
  exact sz_iret dX6_kind_8 rfl rfl ⟨rfl, rfl⟩
