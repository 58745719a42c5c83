/-! the law's further cases -/
theorem lw_c19 {X : gx_T} {cs : Nat → ClassId} {a : Nat → Nat} {b L i kc nc B : Nat} {xs : Nat → Int32} {La : gz_L} {g : gz_S} (HH : lw_H X cs a b L xs) (hk : kc ≤ 500000 ∧ nc ≤ 6000000) (hi : i + 6 ≤ L) (hc : CallOk La (fX11_perform La (xs (i + 1))) (fX12_perform La (xs (i + 1))) g B) (nx : ∀ g2, WR La g2 B → gx X mL_law kc nc (gz_w cs La a g2) 1557 (lw_ls a b i) []) : gx X mL_law kc nc (gz_w cs La a g) 866 (lw_ls a b i) [] := by
  obtain ⟨C, RO, RE, SC, Rk, hl9, hL⟩ := HH
  obtain ⟨v, g1, g2, h1, h2, hW⟩ := hc
  refine gy_aload_n C dL_law_866 rfl ?_
  refine gy_arg (k := 1) C SC rfl rfl (by omega) hL (by decide) dL_law_867 dL_law_868 dL_law_870 dL_law_871 dL_law_872 ?_
  refine gy_callKV (j := 0) (ci := 11) (h2 := 7) (st := []) [.int (xs (i + 1))] C RO dL_law_873 mvL_108 (Nat.le_of_ble_eq_true rfl) (by decide) kd0 rfl (Nat.le_of_ble_eq_true rfl) (Rk.mo (by omega) (by omega)) (kX11_perform h1) rfl (fun u g3 hu => ?_)
  obtain ⟨rfl, rfl⟩ := hu
  refine gy_st (st2 := [.int v]) rfl ?_
  refine gy_aload_n C dL_law_876 rfl ?_
  refine gy_arg (k := 1) C SC rfl rfl (by omega) hL (by decide) dL_law_877 dL_law_878 dL_law_880 dL_law_881 dL_law_882 ?_
  refine gy_callKV (j := 39) (ci := 12) (h2 := 148) (st := [.int v]) [.int (xs (i + 1))] C RO dL_law_883 mvL_111 (Nat.le_of_ble_eq_true rfl) (by decide) kd39 rfl (Nat.le_of_ble_eq_true rfl) (Rk.mo (by omega) (by omega)) (kX12_perform h2) rfl (fun u g3 hu => ?_)
  obtain ⟨rfl, rfl⟩ := hu
  refine gy_st (st2 := [.int v, .int v]) rfl ?_
  exact gy_icmp_eq 1557 C dL_law_886 (by decide) (fun _ => nx _ hW) (fun c => absurd rfl c)
theorem lw_c20 {X : gx_T} {cs : Nat → ClassId} {a : Nat → Nat} {b L i kc nc B : Nat} {xs : Nat → Int32} {La : gz_L} {g : gz_S} (HH : lw_H X cs a b L xs) (hk : kc ≤ 500000 ∧ nc ≤ 6000000) (hi : i + 6 ≤ L) (hc : CallOk La (fX11_where La (xs (i + 1)) (xs (i + 2))) (fX12_where La (xs (i + 1)) (xs (i + 2))) g B) (nx : ∀ g2, WR La g2 B → gx X mL_law kc nc (gz_w cs La a g2) 1557 (lw_ls a b i) []) : gx X mL_law kc nc (gz_w cs La a g) 891 (lw_ls a b i) [] := by
  obtain ⟨C, RO, RE, SC, Rk, hl9, hL⟩ := HH
  obtain ⟨v, g1, g2, h1, h2, hW⟩ := hc
  refine gy_aload_n C dL_law_891 rfl ?_
  refine gy_arg (k := 1) C SC rfl rfl (by omega) hL (by decide) dL_law_892 dL_law_893 dL_law_895 dL_law_896 dL_law_897 ?_
  refine gy_arg (k := 2) C SC rfl rfl (by omega) hL (by decide) dL_law_898 dL_law_899 dL_law_901 dL_law_902 dL_law_903 ?_
  refine gy_callKV (j := 0) (ci := 11) (h2 := 7) (st := []) [.int (xs (i + 1)), .int (xs (i + 2))] C RO dL_law_904 mvL_112 (Nat.le_of_ble_eq_true rfl) (by decide) kd0 rfl (Nat.le_of_ble_eq_true rfl) (Rk.mo (by omega) (by omega)) (kX11_where h1) rfl (fun u g3 hu => ?_)
  obtain ⟨rfl, rfl⟩ := hu
  refine gy_st (st2 := [.int v]) rfl ?_
  refine gy_aload_n C dL_law_907 rfl ?_
  refine gy_arg (k := 1) C SC rfl rfl (by omega) hL (by decide) dL_law_908 dL_law_909 dL_law_911 dL_law_912 dL_law_913 ?_
  refine gy_arg (k := 2) C SC rfl rfl (by omega) hL (by decide) dL_law_914 dL_law_915 dL_law_917 dL_law_918 dL_law_919 ?_
  refine gy_callKV (j := 39) (ci := 12) (h2 := 146) (st := [.int v]) [.int (xs (i + 1)), .int (xs (i + 2))] C RO dL_law_920 mvL_115 (Nat.le_of_ble_eq_true rfl) (by decide) kd39 rfl (Nat.le_of_ble_eq_true rfl) (Rk.mo (by omega) (by omega)) (kX12_where h2) rfl (fun u g3 hu => ?_)
  obtain ⟨rfl, rfl⟩ := hu
  refine gy_st (st2 := [.int v, .int v]) rfl ?_
  exact gy_icmp_eq 1557 C dL_law_923 (by decide) (fun _ => nx _ hW) (fun c => absurd rfl c)
theorem lw_c21 {X : gx_T} {cs : Nat → ClassId} {a : Nat → Nat} {b L i kc nc B : Nat} {xs : Nat → Int32} {La : gz_L} {g : gz_S} (HH : lw_H X cs a b L xs) (hk : kc ≤ 500000 ∧ nc ≤ 6000000) (hi : i + 6 ≤ L) (hc : CallOk La (fX11_meet La (xs (i + 1)) (xs (i + 2))) (fX12_meet La (xs (i + 1)) (xs (i + 2))) g B) (nx : ∀ g2, WR La g2 B → gx X mL_law kc nc (gz_w cs La a g2) 1557 (lw_ls a b i) []) : gx X mL_law kc nc (gz_w cs La a g) 928 (lw_ls a b i) [] := by
  obtain ⟨C, RO, RE, SC, Rk, hl9, hL⟩ := HH
  obtain ⟨v, g1, g2, h1, h2, hW⟩ := hc
  refine gy_aload_n C dL_law_928 rfl ?_
  refine gy_arg (k := 1) C SC rfl rfl (by omega) hL (by decide) dL_law_929 dL_law_930 dL_law_932 dL_law_933 dL_law_934 ?_
  refine gy_arg (k := 2) C SC rfl rfl (by omega) hL (by decide) dL_law_935 dL_law_936 dL_law_938 dL_law_939 dL_law_940 ?_
  refine gy_callKV (j := 0) (ci := 11) (h2 := 7) (st := []) [.int (xs (i + 1)), .int (xs (i + 2))] C RO dL_law_941 mvL_116 (Nat.le_of_ble_eq_true rfl) (by decide) kd0 rfl (Nat.le_of_ble_eq_true rfl) (Rk.mo (by omega) (by omega)) (kX11_meet h1) rfl (fun u g3 hu => ?_)
  obtain ⟨rfl, rfl⟩ := hu
  refine gy_st (st2 := [.int v]) rfl ?_
  refine gy_aload_n C dL_law_944 rfl ?_
  refine gy_arg (k := 1) C SC rfl rfl (by omega) hL (by decide) dL_law_945 dL_law_946 dL_law_948 dL_law_949 dL_law_950 ?_
  refine gy_arg (k := 2) C SC rfl rfl (by omega) hL (by decide) dL_law_951 dL_law_952 dL_law_954 dL_law_955 dL_law_956 ?_
  refine gy_callKV (j := 39) (ci := 12) (h2 := 147) (st := [.int v]) [.int (xs (i + 1)), .int (xs (i + 2))] C RO dL_law_957 mvL_119 (Nat.le_of_ble_eq_true rfl) (by decide) kd39 rfl (Nat.le_of_ble_eq_true rfl) (Rk.mo (by omega) (by omega)) (kX12_meet h2) rfl (fun u g3 hu => ?_)
  obtain ⟨rfl, rfl⟩ := hu
  refine gy_st (st2 := [.int v, .int v]) rfl ?_
  exact gy_icmp_eq 1557 C dL_law_960 (by decide) (fun _ => nx _ hW) (fun c => absurd rfl c)
theorem lw_c22 {X : gx_T} {cs : Nat → ClassId} {a : Nat → Nat} {b L i kc nc B : Nat} {xs : Nat → Int32} {La : gz_L} {g : gz_S} (HH : lw_H X cs a b L xs) (hk : kc ≤ 500000 ∧ nc ≤ 6000000) (hi : i + 6 ≤ L) (hc : CallOk La (fX11_ends La (xs (i + 1)) (xs (i + 2))) (fX12_ends La (xs (i + 1)) (xs (i + 2))) g B) (nx : ∀ g2, WR La g2 B → gx X mL_law kc nc (gz_w cs La a g2) 1557 (lw_ls a b i) []) : gx X mL_law kc nc (gz_w cs La a g) 965 (lw_ls a b i) [] := by
  obtain ⟨C, RO, RE, SC, Rk, hl9, hL⟩ := HH
  obtain ⟨v, g1, g2, h1, h2, hW⟩ := hc
  refine gy_aload_n C dL_law_965 rfl ?_
  refine gy_arg (k := 1) C SC rfl rfl (by omega) hL (by decide) dL_law_966 dL_law_967 dL_law_969 dL_law_970 dL_law_971 ?_
  refine gy_arg (k := 2) C SC rfl rfl (by omega) hL (by decide) dL_law_972 dL_law_973 dL_law_975 dL_law_976 dL_law_977 ?_
  refine gy_callKV (j := 0) (ci := 11) (h2 := 7) (st := []) [.int (xs (i + 1)), .int (xs (i + 2))] C RO dL_law_978 mvL_120 (Nat.le_of_ble_eq_true rfl) (by decide) kd0 rfl (Nat.le_of_ble_eq_true rfl) (Rk.mo (by omega) (by omega)) (kX11_ends h1) rfl (fun u g3 hu => ?_)
  obtain ⟨rfl, rfl⟩ := hu
  refine gy_st (st2 := [.int v]) rfl ?_
  refine gy_aload_n C dL_law_981 rfl ?_
  refine gy_arg (k := 1) C SC rfl rfl (by omega) hL (by decide) dL_law_982 dL_law_983 dL_law_985 dL_law_986 dL_law_987 ?_
  refine gy_arg (k := 2) C SC rfl rfl (by omega) hL (by decide) dL_law_988 dL_law_989 dL_law_991 dL_law_992 dL_law_993 ?_
  refine gy_callKV (j := 39) (ci := 12) (h2 := 146) (st := [.int v]) [.int (xs (i + 1)), .int (xs (i + 2))] C RO dL_law_994 mvL_123 (Nat.le_of_ble_eq_true rfl) (by decide) kd39 rfl (Nat.le_of_ble_eq_true rfl) (Rk.mo (by omega) (by omega)) (kX12_ends h2) rfl (fun u g3 hu => ?_)
  obtain ⟨rfl, rfl⟩ := hu
  refine gy_st (st2 := [.int v, .int v]) rfl ?_
  exact gy_icmp_eq 1557 C dL_law_997 (by decide) (fun _ => nx _ hW) (fun c => absurd rfl c)
theorem lw_c23 {X : gx_T} {cs : Nat → ClassId} {a : Nat → Nat} {b L i kc nc B : Nat} {xs : Nat → Int32} {La : gz_L} {g : gz_S} (HH : lw_H X cs a b L xs) (hk : kc ≤ 500000 ∧ nc ≤ 6000000) (hi : i + 6 ≤ L) (hc : CallOk La (fX11_again La (xs (i + 1))) (fX12_again La (xs (i + 1))) g B) (nx : ∀ g2, WR La g2 B → gx X mL_law kc nc (gz_w cs La a g2) 1557 (lw_ls a b i) []) : gx X mL_law kc nc (gz_w cs La a g) 1002 (lw_ls a b i) [] := by
  obtain ⟨C, RO, RE, SC, Rk, hl9, hL⟩ := HH
  obtain ⟨v, g1, g2, h1, h2, hW⟩ := hc
  refine gy_aload_n C dL_law_1002 rfl ?_
  refine gy_arg (k := 1) C SC rfl rfl (by omega) hL (by decide) dL_law_1003 dL_law_1004 dL_law_1006 dL_law_1007 dL_law_1008 ?_
  refine gy_callKV (j := 0) (ci := 11) (h2 := 7) (st := []) [.int (xs (i + 1))] C RO dL_law_1009 mvL_124 (Nat.le_of_ble_eq_true rfl) (by decide) kd0 rfl (Nat.le_of_ble_eq_true rfl) (Rk.mo (by omega) (by omega)) (kX11_again h1) rfl (fun u g3 hu => ?_)
  obtain ⟨rfl, rfl⟩ := hu
  refine gy_st (st2 := [.int v]) rfl ?_
  refine gy_aload_n C dL_law_1012 rfl ?_
  refine gy_arg (k := 1) C SC rfl rfl (by omega) hL (by decide) dL_law_1013 dL_law_1014 dL_law_1016 dL_law_1017 dL_law_1018 ?_
  refine gy_callKV (j := 39) (ci := 12) (h2 := 146) (st := [.int v]) [.int (xs (i + 1))] C RO dL_law_1019 mvL_127 (Nat.le_of_ble_eq_true rfl) (by decide) kd39 rfl (Nat.le_of_ble_eq_true rfl) (Rk.mo (by omega) (by omega)) (kX12_again h2) rfl (fun u g3 hu => ?_)
  obtain ⟨rfl, rfl⟩ := hu
  refine gy_st (st2 := [.int v, .int v]) rfl ?_
  exact gy_icmp_eq 1557 C dL_law_1022 (by decide) (fun _ => nx _ hW) (fun c => absurd rfl c)
theorem lw_c24 {X : gx_T} {cs : Nat → ClassId} {a : Nat → Nat} {b L i kc nc B : Nat} {xs : Nat → Int32} {La : gz_L} {g : gz_S} (HH : lw_H X cs a b L xs) (hk : kc ≤ 500000 ∧ nc ≤ 6000000) (hi : i + 6 ≤ L) (hc : CallOk La (fX11_way La (xs (i + 1)) (xs (i + 2))) (fX12_way La (xs (i + 1)) (xs (i + 2))) g B) (nx : ∀ g2, WR La g2 B → gx X mL_law kc nc (gz_w cs La a g2) 1557 (lw_ls a b i) []) : gx X mL_law kc nc (gz_w cs La a g) 1027 (lw_ls a b i) [] := by
  obtain ⟨C, RO, RE, SC, Rk, hl9, hL⟩ := HH
  obtain ⟨v, g1, g2, h1, h2, hW⟩ := hc
  refine gy_aload_n C dL_law_1027 rfl ?_
  refine gy_arg (k := 1) C SC rfl rfl (by omega) hL (by decide) dL_law_1028 dL_law_1029 dL_law_1031 dL_law_1032 dL_law_1033 ?_
  refine gy_arg (k := 2) C SC rfl rfl (by omega) hL (by decide) dL_law_1034 dL_law_1035 dL_law_1037 dL_law_1038 dL_law_1039 ?_
  refine gy_callKV (j := 0) (ci := 11) (h2 := 4) (st := []) [.int (xs (i + 1)), .int (xs (i + 2))] C RO dL_law_1040 mvL_128 (Nat.le_of_ble_eq_true rfl) (by decide) kd0 rfl (Nat.le_of_ble_eq_true rfl) (Rk.mo (by omega) (by omega)) (kX11_way h1) rfl (fun u g3 hu => ?_)
  obtain ⟨rfl, rfl⟩ := hu
  refine gy_st (st2 := [.int v]) rfl ?_
  refine gy_aload_n C dL_law_1043 rfl ?_
  refine gy_arg (k := 1) C SC rfl rfl (by omega) hL (by decide) dL_law_1044 dL_law_1045 dL_law_1047 dL_law_1048 dL_law_1049 ?_
  refine gy_arg (k := 2) C SC rfl rfl (by omega) hL (by decide) dL_law_1050 dL_law_1051 dL_law_1053 dL_law_1054 dL_law_1055 ?_
  refine gy_callKV (j := 39) (ci := 12) (h2 := 4) (st := [.int v]) [.int (xs (i + 1)), .int (xs (i + 2))] C RO dL_law_1056 mvL_131 (Nat.le_of_ble_eq_true rfl) (by decide) kd39 rfl (Nat.le_of_ble_eq_true rfl) (Rk.mo (by omega) (by omega)) (kX12_way h2) rfl (fun u g3 hu => ?_)
  obtain ⟨rfl, rfl⟩ := hu
  refine gy_st (st2 := [.int v, .int v]) rfl ?_
  exact gy_icmp_eq 1557 C dL_law_1059 (by decide) (fun _ => nx _ hW) (fun c => absurd rfl c)
theorem lw_c25 {X : gx_T} {cs : Nat → ClassId} {a : Nat → Nat} {b L i kc nc B : Nat} {xs : Nat → Int32} {La : gz_L} {g : gz_S} (HH : lw_H X cs a b L xs) (hk : kc ≤ 500000 ∧ nc ≤ 6000000) (hi : i + 6 ≤ L) (hc : CallOk La (fX11_stones La (xs (i + 1)) (xs (i + 2)) (xs (i + 3)) (xs (i + 4))) (fX12_stones La (xs (i + 1)) (xs (i + 2)) (xs (i + 3)) (xs (i + 4))) g B) (nx : ∀ g2, WR La g2 B → gx X mL_law kc nc (gz_w cs La a g2) 1557 (lw_ls a b i) []) : gx X mL_law kc nc (gz_w cs La a g) 1064 (lw_ls a b i) [] := by
  obtain ⟨C, RO, RE, SC, Rk, hl9, hL⟩ := HH
  obtain ⟨v, g1, g2, h1, h2, hW⟩ := hc
  refine gy_aload_n C dL_law_1064 rfl ?_
  refine gy_arg (k := 1) C SC rfl rfl (by omega) hL (by decide) dL_law_1065 dL_law_1066 dL_law_1068 dL_law_1069 dL_law_1070 ?_
  refine gy_arg (k := 2) C SC rfl rfl (by omega) hL (by decide) dL_law_1071 dL_law_1072 dL_law_1074 dL_law_1075 dL_law_1076 ?_
  refine gy_arg (k := 3) C SC rfl rfl (by omega) hL (by decide) dL_law_1077 dL_law_1078 dL_law_1080 dL_law_1081 dL_law_1082 ?_
  refine gy_arg (k := 4) C SC rfl rfl (by omega) hL (by decide) dL_law_1083 dL_law_1084 dL_law_1086 dL_law_1087 dL_law_1088 ?_
  refine gy_callKV (j := 0) (ci := 11) (h2 := 8) (st := []) [.int (xs (i + 1)), .int (xs (i + 2)), .int (xs (i + 3)), .int (xs (i + 4))] C RO dL_law_1089 mvL_132 (Nat.le_of_ble_eq_true rfl) (by decide) kd0 rfl (Nat.le_of_ble_eq_true rfl) (Rk.mo (by omega) (by omega)) (kX11_stones h1) rfl (fun u g3 hu => ?_)
  obtain ⟨rfl, rfl⟩ := hu
  refine gy_st (st2 := [.int v]) rfl ?_
  refine gy_aload_n C dL_law_1092 rfl ?_
  refine gy_arg (k := 1) C SC rfl rfl (by omega) hL (by decide) dL_law_1093 dL_law_1094 dL_law_1096 dL_law_1097 dL_law_1098 ?_
  refine gy_arg (k := 2) C SC rfl rfl (by omega) hL (by decide) dL_law_1099 dL_law_1100 dL_law_1102 dL_law_1103 dL_law_1104 ?_
  refine gy_arg (k := 3) C SC rfl rfl (by omega) hL (by decide) dL_law_1105 dL_law_1106 dL_law_1108 dL_law_1109 dL_law_1110 ?_
  refine gy_arg (k := 4) C SC rfl rfl (by omega) hL (by decide) dL_law_1111 dL_law_1112 dL_law_1114 dL_law_1115 dL_law_1116 ?_
  refine gy_callKV (j := 39) (ci := 12) (h2 := 149) (st := [.int v]) [.int (xs (i + 1)), .int (xs (i + 2)), .int (xs (i + 3)), .int (xs (i + 4))] C RO dL_law_1117 mvL_136 (Nat.le_of_ble_eq_true rfl) (by decide) kd39 rfl (Nat.le_of_ble_eq_true rfl) (Rk.mo (by omega) (by omega)) (kX12_stones h2) rfl (fun u g3 hu => ?_)
  obtain ⟨rfl, rfl⟩ := hu
  refine gy_st (st2 := [.int v, .int v]) rfl ?_
  exact gy_icmp_eq 1557 C dL_law_1120 (by decide) (fun _ => nx _ hW) (fun c => absurd rfl c)
theorem lw_c26 {X : gx_T} {cs : Nat → ClassId} {a : Nat → Nat} {b L i kc nc B : Nat} {xs : Nat → Int32} {La : gz_L} {g : gz_S} (HH : lw_H X cs a b L xs) (hk : kc ≤ 500000 ∧ nc ≤ 6000000) (hi : i + 6 ≤ L) (hc : CallOk La (fX11_seen La (xs (i + 1)) (xs (i + 2)) (xs (i + 3))) (fX12_seen La (xs (i + 1)) (xs (i + 2)) (xs (i + 3))) g B) (nx : ∀ g2, WR La g2 B → gx X mL_law kc nc (gz_w cs La a g2) 1557 (lw_ls a b i) []) : gx X mL_law kc nc (gz_w cs La a g) 1125 (lw_ls a b i) [] := by
  obtain ⟨C, RO, RE, SC, Rk, hl9, hL⟩ := HH
  obtain ⟨v, g1, g2, h1, h2, hW⟩ := hc
  refine gy_aload_n C dL_law_1125 rfl ?_
  refine gy_arg (k := 1) C SC rfl rfl (by omega) hL (by decide) dL_law_1126 dL_law_1127 dL_law_1129 dL_law_1130 dL_law_1131 ?_
  refine gy_arg (k := 2) C SC rfl rfl (by omega) hL (by decide) dL_law_1132 dL_law_1133 dL_law_1135 dL_law_1136 dL_law_1137 ?_
  refine gy_arg (k := 3) C SC rfl rfl (by omega) hL (by decide) dL_law_1138 dL_law_1139 dL_law_1141 dL_law_1142 dL_law_1143 ?_
  refine gy_callKV (j := 0) (ci := 11) (h2 := 3) (st := []) [.int (xs (i + 1)), .int (xs (i + 2)), .int (xs (i + 3))] C RO dL_law_1144 mvL_137 (Nat.le_of_ble_eq_true rfl) (by decide) kd0 rfl (Nat.le_of_ble_eq_true rfl) (Rk.mo (by omega) (by omega)) (kX11_seen h1) rfl (fun u g3 hu => ?_)
  obtain ⟨rfl, rfl⟩ := hu
  refine gy_st (st2 := [.int v]) rfl ?_
  refine gy_aload_n C dL_law_1147 rfl ?_
  refine gy_arg (k := 1) C SC rfl rfl (by omega) hL (by decide) dL_law_1148 dL_law_1149 dL_law_1151 dL_law_1152 dL_law_1153 ?_
  refine gy_arg (k := 2) C SC rfl rfl (by omega) hL (by decide) dL_law_1154 dL_law_1155 dL_law_1157 dL_law_1158 dL_law_1159 ?_
  refine gy_arg (k := 3) C SC rfl rfl (by omega) hL (by decide) dL_law_1160 dL_law_1161 dL_law_1163 dL_law_1164 dL_law_1165 ?_
  refine gy_callKV (j := 39) (ci := 12) (h2 := 3) (st := [.int v]) [.int (xs (i + 1)), .int (xs (i + 2)), .int (xs (i + 3))] C RO dL_law_1166 mvL_140 (Nat.le_of_ble_eq_true rfl) (by decide) kd39 rfl (Nat.le_of_ble_eq_true rfl) (Rk.mo (by omega) (by omega)) (kX12_seen h2) rfl (fun u g3 hu => ?_)
  obtain ⟨rfl, rfl⟩ := hu
  refine gy_st (st2 := [.int v, .int v]) rfl ?_
  exact gy_icmp_eq 1557 C dL_law_1169 (by decide) (fun _ => nx _ hW) (fun c => absurd rfl c)
theorem lw_c27 {X : gx_T} {cs : Nat → ClassId} {a : Nat → Nat} {b L i kc nc B : Nat} {xs : Nat → Int32} {La : gz_L} {g : gz_S} (HH : lw_H X cs a b L xs) (hk : kc ≤ 500000 ∧ nc ≤ 6000000) (hi : i + 6 ≤ L) (hc : CallOk La (fX11_fits La (xs (i + 1)) (xs (i + 2))) (fX12_fits La (xs (i + 1)) (xs (i + 2))) g B) (nx : ∀ g2, WR La g2 B → gx X mL_law kc nc (gz_w cs La a g2) 1557 (lw_ls a b i) []) : gx X mL_law kc nc (gz_w cs La a g) 1174 (lw_ls a b i) [] := by
  obtain ⟨C, RO, RE, SC, Rk, hl9, hL⟩ := HH
  obtain ⟨v, g1, g2, h1, h2, hW⟩ := hc
  refine gy_aload_n C dL_law_1174 rfl ?_
  refine gy_arg (k := 1) C SC rfl rfl (by omega) hL (by decide) dL_law_1175 dL_law_1176 dL_law_1178 dL_law_1179 dL_law_1180 ?_
  refine gy_arg (k := 2) C SC rfl rfl (by omega) hL (by decide) dL_law_1181 dL_law_1182 dL_law_1184 dL_law_1185 dL_law_1186 ?_
  refine gy_callKV (j := 0) (ci := 11) (h2 := 8) (st := []) [.int (xs (i + 1)), .int (xs (i + 2))] C RO dL_law_1187 mvL_141 (Nat.le_of_ble_eq_true rfl) (by decide) kd0 rfl (Nat.le_of_ble_eq_true rfl) (Rk.mo (by omega) (by omega)) (kX11_fits h1) rfl (fun u g3 hu => ?_)
  obtain ⟨rfl, rfl⟩ := hu
  refine gy_st (st2 := [.int v]) rfl ?_
  refine gy_aload_n C dL_law_1190 rfl ?_
  refine gy_arg (k := 1) C SC rfl rfl (by omega) hL (by decide) dL_law_1191 dL_law_1192 dL_law_1194 dL_law_1195 dL_law_1196 ?_
  refine gy_arg (k := 2) C SC rfl rfl (by omega) hL (by decide) dL_law_1197 dL_law_1198 dL_law_1200 dL_law_1201 dL_law_1202 ?_
  refine gy_callKV (j := 39) (ci := 12) (h2 := 146) (st := [.int v]) [.int (xs (i + 1)), .int (xs (i + 2))] C RO dL_law_1203 mvL_144 (Nat.le_of_ble_eq_true rfl) (by decide) kd39 rfl (Nat.le_of_ble_eq_true rfl) (Rk.mo (by omega) (by omega)) (kX12_fits h2) rfl (fun u g3 hu => ?_)
  obtain ⟨rfl, rfl⟩ := hu
  refine gy_st (st2 := [.int v, .int v]) rfl ?_
  exact gy_icmp_eq 1557 C dL_law_1206 (by decide) (fun _ => nx _ hW) (fun c => absurd rfl c)
theorem lw_c28 {X : gx_T} {cs : Nat → ClassId} {a : Nat → Nat} {b L i kc nc B : Nat} {xs : Nat → Int32} {La : gz_L} {g : gz_S} (HH : lw_H X cs a b L xs) (hk : kc ≤ 500000 ∧ nc ≤ 6000000) (hi : i + 6 ≤ L) (hc : CallOk La (fX11_ask La (xs (i + 1))) (fX12_ask La (xs (i + 1))) g B) (nx : ∀ g2, WR La g2 B → gx X mL_law kc nc (gz_w cs La a g2) 1557 (lw_ls a b i) []) : gx X mL_law kc nc (gz_w cs La a g) 1211 (lw_ls a b i) [] := by
  obtain ⟨C, RO, RE, SC, Rk, hl9, hL⟩ := HH
  obtain ⟨v, g1, g2, h1, h2, hW⟩ := hc
  refine gy_aload_n C dL_law_1211 rfl ?_
  refine gy_arg (k := 1) C SC rfl rfl (by omega) hL (by decide) dL_law_1212 dL_law_1213 dL_law_1215 dL_law_1216 dL_law_1217 ?_
  refine gy_callKV (j := 0) (ci := 11) (h2 := 8) (st := []) [.int (xs (i + 1))] C RO dL_law_1218 mvL_145 (Nat.le_of_ble_eq_true rfl) (by decide) kd0 rfl (Nat.le_of_ble_eq_true rfl) (Rk.mo (by omega) (by omega)) (kX11_ask h1) rfl (fun u g3 hu => ?_)
  obtain ⟨rfl, rfl⟩ := hu
  refine gy_st (st2 := [.int v]) rfl ?_
  refine gy_aload_n C dL_law_1221 rfl ?_
  refine gy_arg (k := 1) C SC rfl rfl (by omega) hL (by decide) dL_law_1222 dL_law_1223 dL_law_1225 dL_law_1226 dL_law_1227 ?_
  refine gy_callKV (j := 39) (ci := 12) (h2 := 146) (st := [.int v]) [.int (xs (i + 1))] C RO dL_law_1228 mvL_148 (Nat.le_of_ble_eq_true rfl) (by decide) kd39 rfl (Nat.le_of_ble_eq_true rfl) (Rk.mo (by omega) (by omega)) (kX12_ask h2) rfl (fun u g3 hu => ?_)
  obtain ⟨rfl, rfl⟩ := hu
  refine gy_st (st2 := [.int v, .int v]) rfl ?_
  exact gy_icmp_eq 1557 C dL_law_1231 (by decide) (fun _ => nx _ hW) (fun c => absurd rfl c)
theorem lw_c29 {X : gx_T} {cs : Nat → ClassId} {a : Nat → Nat} {b L i kc nc B : Nat} {xs : Nat → Int32} {La : gz_L} {g : gz_S} (HH : lw_H X cs a b L xs) (hk : kc ≤ 500000 ∧ nc ≤ 6000000) (hi : i + 6 ≤ L) (hc : CallOk La (fX11_game La (xs (i + 1)) (xs (i + 2)) (xs (i + 3)) (xs (i + 4)) (xs (i + 5))) (fX12_game La (xs (i + 1)) (xs (i + 2)) (xs (i + 3)) (xs (i + 4)) (xs (i + 5))) g B) (nx : ∀ g2, WR La g2 B → gx X mL_law kc nc (gz_w cs La a g2) 1557 (lw_ls a b i) []) : gx X mL_law kc nc (gz_w cs La a g) 1236 (lw_ls a b i) [] := by
  obtain ⟨C, RO, RE, SC, Rk, hl9, hL⟩ := HH
  obtain ⟨v, g1, g2, h1, h2, hW⟩ := hc
  refine gy_aload_n C dL_law_1236 rfl ?_
  refine gy_arg (k := 1) C SC rfl rfl (by omega) hL (by decide) dL_law_1237 dL_law_1238 dL_law_1240 dL_law_1241 dL_law_1242 ?_
  refine gy_arg (k := 2) C SC rfl rfl (by omega) hL (by decide) dL_law_1243 dL_law_1244 dL_law_1246 dL_law_1247 dL_law_1248 ?_
  refine gy_arg (k := 3) C SC rfl rfl (by omega) hL (by decide) dL_law_1249 dL_law_1250 dL_law_1252 dL_law_1253 dL_law_1254 ?_
  refine gy_arg (k := 4) C SC rfl rfl (by omega) hL (by decide) dL_law_1255 dL_law_1256 dL_law_1258 dL_law_1259 dL_law_1260 ?_
  refine gy_arg (k := 5) C SC rfl rfl (by omega) hL (by decide) dL_law_1261 dL_law_1262 dL_law_1264 dL_law_1265 dL_law_1266 ?_
  refine gy_callKV (j := 0) (ci := 11) (h2 := 7) (st := []) [.int (xs (i + 1)), .int (xs (i + 2)), .int (xs (i + 3)), .int (xs (i + 4)), .int (xs (i + 5))] C RO dL_law_1267 mvL_149 (Nat.le_of_ble_eq_true rfl) (by decide) kd0 rfl (Nat.le_of_ble_eq_true rfl) (Rk.mo (by omega) (by omega)) (kX11_game h1) rfl (fun u g3 hu => ?_)
  obtain ⟨rfl, rfl⟩ := hu
  refine gy_st (st2 := [.int v]) rfl ?_
  refine gy_aload_n C dL_law_1270 rfl ?_
  refine gy_arg (k := 1) C SC rfl rfl (by omega) hL (by decide) dL_law_1271 dL_law_1272 dL_law_1274 dL_law_1275 dL_law_1276 ?_
  refine gy_arg (k := 2) C SC rfl rfl (by omega) hL (by decide) dL_law_1277 dL_law_1278 dL_law_1280 dL_law_1281 dL_law_1282 ?_
  refine gy_arg (k := 3) C SC rfl rfl (by omega) hL (by decide) dL_law_1283 dL_law_1284 dL_law_1286 dL_law_1287 dL_law_1288 ?_
  refine gy_arg (k := 4) C SC rfl rfl (by omega) hL (by decide) dL_law_1289 dL_law_1290 dL_law_1292 dL_law_1293 dL_law_1294 ?_
  refine gy_arg (k := 5) C SC rfl rfl (by omega) hL (by decide) dL_law_1295 dL_law_1296 dL_law_1298 dL_law_1299 dL_law_1300 ?_
  refine gy_callKV (j := 39) (ci := 12) (h2 := 147) (st := [.int v]) [.int (xs (i + 1)), .int (xs (i + 2)), .int (xs (i + 3)), .int (xs (i + 4)), .int (xs (i + 5))] C RO dL_law_1301 mvL_152 (Nat.le_of_ble_eq_true rfl) (by decide) kd39 rfl (Nat.le_of_ble_eq_true rfl) (Rk.mo (by omega) (by omega)) (kX12_game h2) rfl (fun u g3 hu => ?_)
  obtain ⟨rfl, rfl⟩ := hu
  refine gy_st (st2 := [.int v, .int v]) rfl ?_
  exact gy_icmp_eq 1557 C dL_law_1304 (by decide) (fun _ => nx _ hW) (fun c => absurd rfl c)
theorem lw_c30 {X : gx_T} {cs : Nat → ClassId} {a : Nat → Nat} {b L i kc nc B : Nat} {xs : Nat → Int32} {La : gz_L} {g : gz_S} (HH : lw_H X cs a b L xs) (hk : kc ≤ 500000 ∧ nc ≤ 6000000) (hi : i + 6 ≤ L) (hc : CallOk La (fX11_rests La (xs (i + 1)) (xs (i + 2)) (xs (i + 3))) (fX12_rests La (xs (i + 1)) (xs (i + 2)) (xs (i + 3))) g B) (nx : ∀ g2, WR La g2 B → gx X mL_law kc nc (gz_w cs La a g2) 1557 (lw_ls a b i) []) : gx X mL_law kc nc (gz_w cs La a g) 1309 (lw_ls a b i) [] := by
  obtain ⟨C, RO, RE, SC, Rk, hl9, hL⟩ := HH
  obtain ⟨v, g1, g2, h1, h2, hW⟩ := hc
  refine gy_aload_n C dL_law_1309 rfl ?_
  refine gy_arg (k := 1) C SC rfl rfl (by omega) hL (by decide) dL_law_1310 dL_law_1311 dL_law_1313 dL_law_1314 dL_law_1315 ?_
  refine gy_arg (k := 2) C SC rfl rfl (by omega) hL (by decide) dL_law_1316 dL_law_1317 dL_law_1319 dL_law_1320 dL_law_1321 ?_
  refine gy_arg (k := 3) C SC rfl rfl (by omega) hL (by decide) dL_law_1322 dL_law_1323 dL_law_1325 dL_law_1326 dL_law_1327 ?_
  refine gy_callKV (j := 0) (ci := 11) (h2 := 8) (st := []) [.int (xs (i + 1)), .int (xs (i + 2)), .int (xs (i + 3))] C RO dL_law_1328 mvL_153 (Nat.le_of_ble_eq_true rfl) (by decide) kd0 rfl (Nat.le_of_ble_eq_true rfl) (Rk.mo (by omega) (by omega)) (kX11_rests h1) rfl (fun u g3 hu => ?_)
  obtain ⟨rfl, rfl⟩ := hu
  refine gy_st (st2 := [.int v]) rfl ?_
  refine gy_aload_n C dL_law_1331 rfl ?_
  refine gy_arg (k := 1) C SC rfl rfl (by omega) hL (by decide) dL_law_1332 dL_law_1333 dL_law_1335 dL_law_1336 dL_law_1337 ?_
  refine gy_arg (k := 2) C SC rfl rfl (by omega) hL (by decide) dL_law_1338 dL_law_1339 dL_law_1341 dL_law_1342 dL_law_1343 ?_
  refine gy_arg (k := 3) C SC rfl rfl (by omega) hL (by decide) dL_law_1344 dL_law_1345 dL_law_1347 dL_law_1348 dL_law_1349 ?_
  refine gy_callKV (j := 39) (ci := 12) (h2 := 147) (st := [.int v]) [.int (xs (i + 1)), .int (xs (i + 2)), .int (xs (i + 3))] C RO dL_law_1350 mvL_156 (Nat.le_of_ble_eq_true rfl) (by decide) kd39 rfl (Nat.le_of_ble_eq_true rfl) (Rk.mo (by omega) (by omega)) (kX12_rests h2) rfl (fun u g3 hu => ?_)
  obtain ⟨rfl, rfl⟩ := hu
  refine gy_st (st2 := [.int v, .int v]) rfl ?_
  exact gy_icmp_eq 1557 C dL_law_1353 (by decide) (fun _ => nx _ hW) (fun c => absurd rfl c)
theorem lw_c31 {X : gx_T} {cs : Nat → ClassId} {a : Nat → Nat} {b L i kc nc B : Nat} {xs : Nat → Int32} {La : gz_L} {g : gz_S} (HH : lw_H X cs a b L xs) (hk : kc ≤ 500000 ∧ nc ≤ 6000000) (hi : i + 6 ≤ L) (hc : CallOk La (fX11_odds La (xs (i + 1)) (xs (i + 2)) (xs (i + 3)) (xs (i + 4))) (fX12_odds La (xs (i + 1)) (xs (i + 2)) (xs (i + 3)) (xs (i + 4))) g B) (nx : ∀ g2, WR La g2 B → gx X mL_law kc nc (gz_w cs La a g2) 1557 (lw_ls a b i) []) : gx X mL_law kc nc (gz_w cs La a g) 1358 (lw_ls a b i) [] := by
  obtain ⟨C, RO, RE, SC, Rk, hl9, hL⟩ := HH
  obtain ⟨v, g1, g2, h1, h2, hW⟩ := hc
  refine gy_aload_n C dL_law_1358 rfl ?_
  refine gy_arg (k := 1) C SC rfl rfl (by omega) hL (by decide) dL_law_1359 dL_law_1360 dL_law_1362 dL_law_1363 dL_law_1364 ?_
  refine gy_arg (k := 2) C SC rfl rfl (by omega) hL (by decide) dL_law_1365 dL_law_1366 dL_law_1368 dL_law_1369 dL_law_1370 ?_
  refine gy_arg (k := 3) C SC rfl rfl (by omega) hL (by decide) dL_law_1371 dL_law_1372 dL_law_1374 dL_law_1375 dL_law_1376 ?_
  refine gy_arg (k := 4) C SC rfl rfl (by omega) hL (by decide) dL_law_1377 dL_law_1378 dL_law_1380 dL_law_1381 dL_law_1382 ?_
  refine gy_callKV (j := 0) (ci := 11) (h2 := 8) (st := []) [.int (xs (i + 1)), .int (xs (i + 2)), .int (xs (i + 3)), .int (xs (i + 4))] C RO dL_law_1383 mvL_157 (Nat.le_of_ble_eq_true rfl) (by decide) kd0 rfl (Nat.le_of_ble_eq_true rfl) (Rk.mo (by omega) (by omega)) (kX11_odds h1) rfl (fun u g3 hu => ?_)
  obtain ⟨rfl, rfl⟩ := hu
  refine gy_st (st2 := [.int v]) rfl ?_
  refine gy_aload_n C dL_law_1386 rfl ?_
  refine gy_arg (k := 1) C SC rfl rfl (by omega) hL (by decide) dL_law_1387 dL_law_1388 dL_law_1390 dL_law_1391 dL_law_1392 ?_
  refine gy_arg (k := 2) C SC rfl rfl (by omega) hL (by decide) dL_law_1393 dL_law_1394 dL_law_1396 dL_law_1397 dL_law_1398 ?_
  refine gy_arg (k := 3) C SC rfl rfl (by omega) hL (by decide) dL_law_1399 dL_law_1400 dL_law_1402 dL_law_1403 dL_law_1404 ?_
  refine gy_arg (k := 4) C SC rfl rfl (by omega) hL (by decide) dL_law_1405 dL_law_1406 dL_law_1408 dL_law_1409 dL_law_1410 ?_
  refine gy_callKV (j := 39) (ci := 12) (h2 := 411) (st := [.int v]) [.int (xs (i + 1)), .int (xs (i + 2)), .int (xs (i + 3)), .int (xs (i + 4))] C RO dL_law_1411 mvL_160 (Nat.le_of_ble_eq_true rfl) (by decide) kd39 rfl (Nat.le_of_ble_eq_true rfl) (Rk.mo (by omega) (by omega)) (kX12_odds h2) rfl (fun u g3 hu => ?_)
  obtain ⟨rfl, rfl⟩ := hu
  refine gy_st (st2 := [.int v, .int v]) rfl ?_
  exact gy_icmp_eq 1557 C dL_law_1414 (by decide) (fun _ => nx _ hW) (fun c => absurd rfl c)
theorem lw_c32 {X : gx_T} {cs : Nat → ClassId} {a : Nat → Nat} {b L i kc nc B : Nat} {xs : Nat → Int32} {La : gz_L} {g : gz_S} (HH : lw_H X cs a b L xs) (hk : kc ≤ 500000 ∧ nc ≤ 6000000) (hi : i + 6 ≤ L) (hc : CallOk La (fX11_shares La (xs (i + 1)) (xs (i + 2))) (fX12_shares La (xs (i + 1)) (xs (i + 2))) g B) (nx : ∀ g2, WR La g2 B → gx X mL_law kc nc (gz_w cs La a g2) 1557 (lw_ls a b i) []) : gx X mL_law kc nc (gz_w cs La a g) 1419 (lw_ls a b i) [] := by
  obtain ⟨C, RO, RE, SC, Rk, hl9, hL⟩ := HH
  obtain ⟨v, g1, g2, h1, h2, hW⟩ := hc
  refine gy_aload_n C dL_law_1419 rfl ?_
  refine gy_arg (k := 1) C SC rfl rfl (by omega) hL (by decide) dL_law_1420 dL_law_1421 dL_law_1423 dL_law_1424 dL_law_1425 ?_
  refine gy_arg (k := 2) C SC rfl rfl (by omega) hL (by decide) dL_law_1426 dL_law_1427 dL_law_1429 dL_law_1430 dL_law_1431 ?_
  refine gy_callKV (j := 0) (ci := 11) (h2 := 2) (st := []) [.int (xs (i + 1)), .int (xs (i + 2))] C RO dL_law_1432 mvL_161 (Nat.le_of_ble_eq_true rfl) (by decide) kd0 rfl (Nat.le_of_ble_eq_true rfl) (Rk.mo (by omega) (by omega)) (kX11_shares h1) rfl (fun u g3 hu => ?_)
  obtain ⟨rfl, rfl⟩ := hu
  refine gy_st (st2 := [.int v]) rfl ?_
  refine gy_aload_n C dL_law_1435 rfl ?_
  refine gy_arg (k := 1) C SC rfl rfl (by omega) hL (by decide) dL_law_1436 dL_law_1437 dL_law_1439 dL_law_1440 dL_law_1441 ?_
  refine gy_arg (k := 2) C SC rfl rfl (by omega) hL (by decide) dL_law_1442 dL_law_1443 dL_law_1445 dL_law_1446 dL_law_1447 ?_
  refine gy_callKV (j := 39) (ci := 12) (h2 := 2) (st := [.int v]) [.int (xs (i + 1)), .int (xs (i + 2))] C RO dL_law_1448 mvL_164 (Nat.le_of_ble_eq_true rfl) (by decide) kd39 rfl (Nat.le_of_ble_eq_true rfl) (Rk.mo (by omega) (by omega)) (kX12_shares h2) rfl (fun u g3 hu => ?_)
  obtain ⟨rfl, rfl⟩ := hu
  refine gy_st (st2 := [.int v, .int v]) rfl ?_
  exact gy_icmp_eq 1557 C dL_law_1451 (by decide) (fun _ => nx _ hW) (fun c => absurd rfl c)
theorem lw_c33 {X : gx_T} {cs : Nat → ClassId} {a : Nat → Nat} {b L i kc nc B : Nat} {xs : Nat → Int32} {La : gz_L} {g : gz_S} (HH : lw_H X cs a b L xs) (hk : kc ≤ 500000 ∧ nc ≤ 6000000) (hi : i + 6 ≤ L) (hc : CallOk La (fX11_ahead La (xs (i + 1))) (fX12_ahead La (xs (i + 1))) g B) (nx : ∀ g2, WR La g2 B → gx X mL_law kc nc (gz_w cs La a g2) 1557 (lw_ls a b i) []) : gx X mL_law kc nc (gz_w cs La a g) 1456 (lw_ls a b i) [] := by
  obtain ⟨C, RO, RE, SC, Rk, hl9, hL⟩ := HH
  obtain ⟨v, g1, g2, h1, h2, hW⟩ := hc
  refine gy_aload_n C dL_law_1456 rfl ?_
  refine gy_arg (k := 1) C SC rfl rfl (by omega) hL (by decide) dL_law_1457 dL_law_1458 dL_law_1460 dL_law_1461 dL_law_1462 ?_
  refine gy_callKV (j := 0) (ci := 11) (h2 := 5) (st := []) [.int (xs (i + 1))] C RO dL_law_1463 mvL_165 (Nat.le_of_ble_eq_true rfl) (by decide) kd0 rfl (Nat.le_of_ble_eq_true rfl) (Rk.mo (by omega) (by omega)) (kX11_ahead h1) rfl (fun u g3 hu => ?_)
  obtain ⟨rfl, rfl⟩ := hu
  refine gy_st (st2 := [.int v]) rfl ?_
  refine gy_aload_n C dL_law_1466 rfl ?_
  refine gy_arg (k := 1) C SC rfl rfl (by omega) hL (by decide) dL_law_1467 dL_law_1468 dL_law_1470 dL_law_1471 dL_law_1472 ?_
  refine gy_callKV (j := 39) (ci := 12) (h2 := 144) (st := [.int v]) [.int (xs (i + 1))] C RO dL_law_1473 mvL_168 (Nat.le_of_ble_eq_true rfl) (by decide) kd39 rfl (Nat.le_of_ble_eq_true rfl) (Rk.mo (by omega) (by omega)) (kX12_ahead h2) rfl (fun u g3 hu => ?_)
  obtain ⟨rfl, rfl⟩ := hu
  refine gy_st (st2 := [.int v, .int v]) rfl ?_
  exact gy_icmp_eq 1557 C dL_law_1476 (by decide) (fun _ => nx _ hW) (fun c => absurd rfl c)
theorem lw_c34 {X : gx_T} {cs : Nat → ClassId} {a : Nat → Nat} {b L i kc nc B : Nat} {xs : Nat → Int32} {La : gz_L} {g : gz_S} (HH : lw_H X cs a b L xs) (hk : kc ≤ 500000 ∧ nc ≤ 6000000) (hi : i + 6 ≤ L) (hc : CallOk La (fX11_all La (xs (i + 1))) (fX12_all La (xs (i + 1))) g B) (nx : ∀ g2, WR La g2 B → gx X mL_law kc nc (gz_w cs La a g2) 1557 (lw_ls a b i) []) : gx X mL_law kc nc (gz_w cs La a g) 1481 (lw_ls a b i) [] := by
  obtain ⟨C, RO, RE, SC, Rk, hl9, hL⟩ := HH
  obtain ⟨v, g1, g2, h1, h2, hW⟩ := hc
  refine gy_aload_n C dL_law_1481 rfl ?_
  refine gy_arg (k := 1) C SC rfl rfl (by omega) hL (by decide) dL_law_1482 dL_law_1483 dL_law_1485 dL_law_1486 dL_law_1487 ?_
  refine gy_callKV (j := 0) (ci := 11) (h2 := 5) (st := []) [.int (xs (i + 1))] C RO dL_law_1488 mvL_169 (Nat.le_of_ble_eq_true rfl) (by decide) kd0 rfl (Nat.le_of_ble_eq_true rfl) (Rk.mo (by omega) (by omega)) (kX11_all h1) rfl (fun u g3 hu => ?_)
  obtain ⟨rfl, rfl⟩ := hu
  refine gy_st (st2 := [.int v]) rfl ?_
  refine gy_aload_n C dL_law_1491 rfl ?_
  refine gy_arg (k := 1) C SC rfl rfl (by omega) hL (by decide) dL_law_1492 dL_law_1493 dL_law_1495 dL_law_1496 dL_law_1497 ?_
  refine gy_callKV (j := 39) (ci := 12) (h2 := 5) (st := [.int v]) [.int (xs (i + 1))] C RO dL_law_1498 mvL_172 (Nat.le_of_ble_eq_true rfl) (by decide) kd39 rfl (Nat.le_of_ble_eq_true rfl) (Rk.mo (by omega) (by omega)) (kX12_all h2) rfl (fun u g3 hu => ?_)
  obtain ⟨rfl, rfl⟩ := hu
  refine gy_st (st2 := [.int v, .int v]) rfl ?_
  exact gy_icmp_eq 1557 C dL_law_1501 (by decide) (fun _ => nx _ hW) (fun c => absurd rfl c)
theorem lw_c35 {X : gx_T} {cs : Nat → ClassId} {a : Nat → Nat} {b L i kc nc B : Nat} {xs : Nat → Int32} {La : gz_L} {g : gz_S} (HH : lw_H X cs a b L xs) (hk : kc ≤ 500000 ∧ nc ≤ 6000000) (hi : i + 6 ≤ L) (hc : CallOk La (fX11_image La ) (fX12_image La ) g B) (nx : ∀ g2, WR La g2 B → gx X mL_law kc nc (gz_w cs La a g2) 1557 (lw_ls a b i) []) : gx X mL_law kc nc (gz_w cs La a g) 1506 (lw_ls a b i) [] := by
  obtain ⟨C, RO, RE, SC, Rk, hl9, hL⟩ := HH
  obtain ⟨v, g1, g2, h1, h2, hW⟩ := hc
  refine gy_aload_n C dL_law_1506 rfl ?_
  refine gy_callKV (j := 0) (ci := 11) (h2 := 2) (st := []) [] C RO dL_law_1507 mvL_173 (Nat.le_of_ble_eq_true rfl) (by decide) kd0 rfl (Nat.le_of_ble_eq_true rfl) (Rk.mo (by omega) (by omega)) (kX11_image h1) rfl (fun u g3 hu => ?_)
  obtain ⟨rfl, rfl⟩ := hu
  refine gy_st (st2 := [.int v]) rfl ?_
  refine gy_aload_n C dL_law_1510 rfl ?_
  refine gy_callKV (j := 39) (ci := 12) (h2 := 1) (st := [.int v]) [] C RO dL_law_1511 mvL_176 (Nat.le_of_ble_eq_true rfl) (by decide) kd39 rfl (Nat.le_of_ble_eq_true rfl) (Rk.mo (by omega) (by omega)) (kX12_image h2) rfl (fun u g3 hu => ?_)
  obtain ⟨rfl, rfl⟩ := hu
  refine gy_st (st2 := [.int v, .int v]) rfl ?_
  exact gy_icmp_eq 1557 C dL_law_1514 (by decide) (fun _ => nx _ hW) (fun c => absurd rfl c)
theorem lw_c36 {X : gx_T} {cs : Nat → ClassId} {a : Nat → Nat} {b L i kc nc B : Nat} {xs : Nat → Int32} {La : gz_L} {g : gz_S} (HH : lw_H X cs a b L xs) (hk : kc ≤ 500000 ∧ nc ≤ 6000000) (hi : i + 6 ≤ L) (hc : CallOk La (fX11_back La ) (fX12_back La ) g B) (nx : ∀ g2, WR La g2 B → gx X mL_law kc nc (gz_w cs La a g2) 1557 (lw_ls a b i) []) : gx X mL_law kc nc (gz_w cs La a g) 1519 (lw_ls a b i) [] := by
  obtain ⟨C, RO, RE, SC, Rk, hl9, hL⟩ := HH
  obtain ⟨v, g1, g2, h1, h2, hW⟩ := hc
  refine gy_aload_n C dL_law_1519 rfl ?_
  refine gy_callKV (j := 0) (ci := 11) (h2 := 2) (st := []) [] C RO dL_law_1520 mvL_177 (Nat.le_of_ble_eq_true rfl) (by decide) kd0 rfl (Nat.le_of_ble_eq_true rfl) (Rk.mo (by omega) (by omega)) (kX11_back h1) rfl (fun u g3 hu => ?_)
  obtain ⟨rfl, rfl⟩ := hu
  refine gy_st (st2 := [.int v]) rfl ?_
  refine gy_aload_n C dL_law_1523 rfl ?_
  refine gy_callKV (j := 39) (ci := 12) (h2 := 1) (st := [.int v]) [] C RO dL_law_1524 mvL_180 (Nat.le_of_ble_eq_true rfl) (by decide) kd39 rfl (Nat.le_of_ble_eq_true rfl) (Rk.mo (by omega) (by omega)) (kX12_back h2) rfl (fun u g3 hu => ?_)
  obtain ⟨rfl, rfl⟩ := hu
  refine gy_st (st2 := [.int v, .int v]) rfl ?_
  exact gy_icmp_eq 1557 C dL_law_1527 (by decide) (fun _ => nx _ hW) (fun c => absurd rfl c)
theorem lw_c37 {X : gx_T} {cs : Nat → ClassId} {a : Nat → Nat} {b L i kc nc B : Nat} {xs : Nat → Int32} {La : gz_L} {g : gz_S} (HH : lw_H X cs a b L xs) (hk : kc ≤ 500000 ∧ nc ≤ 6000000) (hi : i + 6 ≤ L) (hc : CallOk La (fX11_count La (xs (i + 1))) (fX12_count La (xs (i + 1))) g B) (nx : ∀ g2, WR La g2 B → gx X mL_law kc nc (gz_w cs La a g2) 1557 (lw_ls a b i) []) : gx X mL_law kc nc (gz_w cs La a g) 1532 (lw_ls a b i) [] := by
  obtain ⟨C, RO, RE, SC, Rk, hl9, hL⟩ := HH
  obtain ⟨v, g1, g2, h1, h2, hW⟩ := hc
  refine gy_aload_n C dL_law_1532 rfl ?_
  refine gy_arg (k := 1) C SC rfl rfl (by omega) hL (by decide) dL_law_1533 dL_law_1534 dL_law_1536 dL_law_1537 dL_law_1538 ?_
  refine gy_callKV (j := 0) (ci := 11) (h2 := 3) (st := []) [.int (xs (i + 1))] C RO dL_law_1539 mvL_181 (Nat.le_of_ble_eq_true rfl) (by decide) kd0 rfl (Nat.le_of_ble_eq_true rfl) (Rk.mo (by omega) (by omega)) (kX11_count h1) rfl (fun u g3 hu => ?_)
  obtain ⟨rfl, rfl⟩ := hu
  refine gy_st (st2 := [.int v]) rfl ?_
  refine gy_aload_n C dL_law_1542 rfl ?_
  refine gy_arg (k := 1) C SC rfl rfl (by omega) hL (by decide) dL_law_1543 dL_law_1544 dL_law_1546 dL_law_1547 dL_law_1548 ?_
  refine gy_callKV (j := 39) (ci := 12) (h2 := 2) (st := [.int v]) [.int (xs (i + 1))] C RO dL_law_1549 mvL_184 (Nat.le_of_ble_eq_true rfl) (by decide) kd39 rfl (Nat.le_of_ble_eq_true rfl) (Rk.mo (by omega) (by omega)) (kX12_count h2) rfl (fun u g3 hu => ?_)
  obtain ⟨rfl, rfl⟩ := hu
  refine gy_st (st2 := [.int v, .int v]) rfl ?_
  exact gy_icmp_eq 1557 C dL_law_1552 (by decide) (fun _ => nx _ hW) (fun c => absurd rfl c)
