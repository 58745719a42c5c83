/-! the law's instructions -/
theorem dL_law_880 : decode mL_law.2.1 880 = .ok (.iconst 1, 1) := by decide +kernel
theorem dL_law_881 : decode mL_law.2.1 881 = .ok (.iadd, 1) := by decide +kernel
theorem dL_law_882 : decode mL_law.2.1 882 = .ok (.iaload, 1) := by decide +kernel
theorem dL_law_883 : decode mL_law.2.1 883 = .ok (.invokevirtual 111, 3) := by decide +kernel
theorem dL_law_886 : decode mL_law.2.1 886 = .ok (.if_icmp .eq 671, 3) := by decide +kernel
theorem dL_law_889 : decode mL_law.2.1 889 = .ok (.iconst 0, 1) := by decide +kernel
theorem dL_law_890 : decode mL_law.2.1 890 = .ok (.ireturn, 1) := by decide +kernel
theorem dL_law_891 : decode mL_law.2.1 891 = .ok (.aload_n 1, 1) := by decide +kernel
theorem dL_law_892 : decode mL_law.2.1 892 = .ok (.aload_n 0, 1) := by decide +kernel
theorem dL_law_893 : decode mL_law.2.1 893 = .ok (.iload 4, 2) := by decide +kernel
theorem dL_law_895 : decode mL_law.2.1 895 = .ok (.iconst 1, 1) := by decide +kernel
theorem dL_law_896 : decode mL_law.2.1 896 = .ok (.iadd, 1) := by decide +kernel
theorem dL_law_897 : decode mL_law.2.1 897 = .ok (.iaload, 1) := by decide +kernel
theorem dL_law_898 : decode mL_law.2.1 898 = .ok (.aload_n 0, 1) := by decide +kernel
theorem dL_law_899 : decode mL_law.2.1 899 = .ok (.iload 4, 2) := by decide +kernel
theorem dL_law_901 : decode mL_law.2.1 901 = .ok (.iconst 2, 1) := by decide +kernel
theorem dL_law_902 : decode mL_law.2.1 902 = .ok (.iadd, 1) := by decide +kernel
theorem dL_law_903 : decode mL_law.2.1 903 = .ok (.iaload, 1) := by decide +kernel
theorem dL_law_904 : decode mL_law.2.1 904 = .ok (.invokevirtual 112, 3) := by decide +kernel
theorem dL_law_907 : decode mL_law.2.1 907 = .ok (.aload_n 2, 1) := by decide +kernel
theorem dL_law_908 : decode mL_law.2.1 908 = .ok (.aload_n 0, 1) := by decide +kernel
theorem dL_law_909 : decode mL_law.2.1 909 = .ok (.iload 4, 2) := by decide +kernel
theorem dL_law_911 : decode mL_law.2.1 911 = .ok (.iconst 1, 1) := by decide +kernel
theorem dL_law_912 : decode mL_law.2.1 912 = .ok (.iadd, 1) := by decide +kernel
theorem dL_law_913 : decode mL_law.2.1 913 = .ok (.iaload, 1) := by decide +kernel
theorem dL_law_914 : decode mL_law.2.1 914 = .ok (.aload_n 0, 1) := by decide +kernel
theorem dL_law_915 : decode mL_law.2.1 915 = .ok (.iload 4, 2) := by decide +kernel
theorem dL_law_917 : decode mL_law.2.1 917 = .ok (.iconst 2, 1) := by decide +kernel
theorem dL_law_918 : decode mL_law.2.1 918 = .ok (.iadd, 1) := by decide +kernel
theorem dL_law_919 : decode mL_law.2.1 919 = .ok (.iaload, 1) := by decide +kernel
theorem dL_law_920 : decode mL_law.2.1 920 = .ok (.invokevirtual 115, 3) := by decide +kernel
theorem dL_law_923 : decode mL_law.2.1 923 = .ok (.if_icmp .eq 634, 3) := by decide +kernel
theorem dL_law_926 : decode mL_law.2.1 926 = .ok (.iconst 0, 1) := by decide +kernel
theorem dL_law_927 : decode mL_law.2.1 927 = .ok (.ireturn, 1) := by decide +kernel
theorem dL_law_928 : decode mL_law.2.1 928 = .ok (.aload_n 1, 1) := by decide +kernel
theorem dL_law_929 : decode mL_law.2.1 929 = .ok (.aload_n 0, 1) := by decide +kernel
theorem dL_law_930 : decode mL_law.2.1 930 = .ok (.iload 4, 2) := by decide +kernel
theorem dL_law_932 : decode mL_law.2.1 932 = .ok (.iconst 1, 1) := by decide +kernel
theorem dL_law_933 : decode mL_law.2.1 933 = .ok (.iadd, 1) := by decide +kernel
theorem dL_law_934 : decode mL_law.2.1 934 = .ok (.iaload, 1) := by decide +kernel
theorem dL_law_935 : decode mL_law.2.1 935 = .ok (.aload_n 0, 1) := by decide +kernel
theorem dL_law_936 : decode mL_law.2.1 936 = .ok (.iload 4, 2) := by decide +kernel
theorem dL_law_938 : decode mL_law.2.1 938 = .ok (.iconst 2, 1) := by decide +kernel
theorem dL_law_939 : decode mL_law.2.1 939 = .ok (.iadd, 1) := by decide +kernel
theorem dL_law_940 : decode mL_law.2.1 940 = .ok (.iaload, 1) := by decide +kernel
theorem dL_law_941 : decode mL_law.2.1 941 = .ok (.invokevirtual 116, 3) := by decide +kernel
theorem dL_law_944 : decode mL_law.2.1 944 = .ok (.aload_n 2, 1) := by decide +kernel
theorem dL_law_945 : decode mL_law.2.1 945 = .ok (.aload_n 0, 1) := by decide +kernel
theorem dL_law_946 : decode mL_law.2.1 946 = .ok (.iload 4, 2) := by decide +kernel
theorem dL_law_948 : decode mL_law.2.1 948 = .ok (.iconst 1, 1) := by decide +kernel
theorem dL_law_949 : decode mL_law.2.1 949 = .ok (.iadd, 1) := by decide +kernel
theorem dL_law_950 : decode mL_law.2.1 950 = .ok (.iaload, 1) := by decide +kernel
theorem dL_law_951 : decode mL_law.2.1 951 = .ok (.aload_n 0, 1) := by decide +kernel
theorem dL_law_952 : decode mL_law.2.1 952 = .ok (.iload 4, 2) := by decide +kernel
theorem dL_law_954 : decode mL_law.2.1 954 = .ok (.iconst 2, 1) := by decide +kernel
theorem dL_law_955 : decode mL_law.2.1 955 = .ok (.iadd, 1) := by decide +kernel
theorem dL_law_956 : decode mL_law.2.1 956 = .ok (.iaload, 1) := by decide +kernel
theorem dL_law_957 : decode mL_law.2.1 957 = .ok (.invokevirtual 119, 3) := by decide +kernel
theorem dL_law_960 : decode mL_law.2.1 960 = .ok (.if_icmp .eq 597, 3) := by decide +kernel
theorem dL_law_963 : decode mL_law.2.1 963 = .ok (.iconst 0, 1) := by decide +kernel
theorem dL_law_964 : decode mL_law.2.1 964 = .ok (.ireturn, 1) := by decide +kernel
theorem dL_law_965 : decode mL_law.2.1 965 = .ok (.aload_n 1, 1) := by decide +kernel
theorem dL_law_966 : decode mL_law.2.1 966 = .ok (.aload_n 0, 1) := by decide +kernel
theorem dL_law_967 : decode mL_law.2.1 967 = .ok (.iload 4, 2) := by decide +kernel
theorem dL_law_969 : decode mL_law.2.1 969 = .ok (.iconst 1, 1) := by decide +kernel
theorem dL_law_970 : decode mL_law.2.1 970 = .ok (.iadd, 1) := by decide +kernel
theorem dL_law_971 : decode mL_law.2.1 971 = .ok (.iaload, 1) := by decide +kernel
theorem dL_law_972 : decode mL_law.2.1 972 = .ok (.aload_n 0, 1) := by decide +kernel
theorem dL_law_973 : decode mL_law.2.1 973 = .ok (.iload 4, 2) := by decide +kernel
theorem dL_law_975 : decode mL_law.2.1 975 = .ok (.iconst 2, 1) := by decide +kernel
theorem dL_law_976 : decode mL_law.2.1 976 = .ok (.iadd, 1) := by decide +kernel
theorem dL_law_977 : decode mL_law.2.1 977 = .ok (.iaload, 1) := by decide +kernel
theorem dL_law_978 : decode mL_law.2.1 978 = .ok (.invokevirtual 120, 3) := by decide +kernel
theorem dL_law_981 : decode mL_law.2.1 981 = .ok (.aload_n 2, 1) := by decide +kernel
theorem dL_law_982 : decode mL_law.2.1 982 = .ok (.aload_n 0, 1) := by decide +kernel
theorem dL_law_983 : decode mL_law.2.1 983 = .ok (.iload 4, 2) := by decide +kernel
theorem dL_law_985 : decode mL_law.2.1 985 = .ok (.iconst 1, 1) := by decide +kernel
theorem dL_law_986 : decode mL_law.2.1 986 = .ok (.iadd, 1) := by decide +kernel
theorem dL_law_987 : decode mL_law.2.1 987 = .ok (.iaload, 1) := by decide +kernel
theorem dL_law_988 : decode mL_law.2.1 988 = .ok (.aload_n 0, 1) := by decide +kernel
theorem dL_law_989 : decode mL_law.2.1 989 = .ok (.iload 4, 2) := by decide +kernel
theorem dL_law_991 : decode mL_law.2.1 991 = .ok (.iconst 2, 1) := by decide +kernel
theorem dL_law_992 : decode mL_law.2.1 992 = .ok (.iadd, 1) := by decide +kernel
theorem dL_law_993 : decode mL_law.2.1 993 = .ok (.iaload, 1) := by decide +kernel
theorem dL_law_994 : decode mL_law.2.1 994 = .ok (.invokevirtual 123, 3) := by decide +kernel
theorem dL_law_997 : decode mL_law.2.1 997 = .ok (.if_icmp .eq 560, 3) := by decide +kernel
theorem dL_law_1000 : decode mL_law.2.1 1000 = .ok (.iconst 0, 1) := by decide +kernel
theorem dL_law_1001 : decode mL_law.2.1 1001 = .ok (.ireturn, 1) := by decide +kernel
theorem dL_law_1002 : decode mL_law.2.1 1002 = .ok (.aload_n 1, 1) := by decide +kernel
theorem dL_law_1003 : decode mL_law.2.1 1003 = .ok (.aload_n 0, 1) := by decide +kernel
theorem dL_law_1004 : decode mL_law.2.1 1004 = .ok (.iload 4, 2) := by decide +kernel
theorem dL_law_1006 : decode mL_law.2.1 1006 = .ok (.iconst 1, 1) := by decide +kernel
theorem dL_law_1007 : decode mL_law.2.1 1007 = .ok (.iadd, 1) := by decide +kernel
theorem dL_law_1008 : decode mL_law.2.1 1008 = .ok (.iaload, 1) := by decide +kernel
theorem dL_law_1009 : decode mL_law.2.1 1009 = .ok (.invokevirtual 124, 3) := by decide +kernel
theorem dL_law_1012 : decode mL_law.2.1 1012 = .ok (.aload_n 2, 1) := by decide +kernel
theorem dL_law_1013 : decode mL_law.2.1 1013 = .ok (.aload_n 0, 1) := by decide +kernel
theorem dL_law_1014 : decode mL_law.2.1 1014 = .ok (.iload 4, 2) := by decide +kernel
theorem dL_law_1016 : decode mL_law.2.1 1016 = .ok (.iconst 1, 1) := by decide +kernel
theorem dL_law_1017 : decode mL_law.2.1 1017 = .ok (.iadd, 1) := by decide +kernel
theorem dL_law_1018 : decode mL_law.2.1 1018 = .ok (.iaload, 1) := by decide +kernel
theorem dL_law_1019 : decode mL_law.2.1 1019 = .ok (.invokevirtual 127, 3) := by decide +kernel
theorem dL_law_1022 : decode mL_law.2.1 1022 = .ok (.if_icmp .eq 535, 3) := by decide +kernel
theorem dL_law_1025 : decode mL_law.2.1 1025 = .ok (.iconst 0, 1) := by decide +kernel
theorem dL_law_1026 : decode mL_law.2.1 1026 = .ok (.ireturn, 1) := by decide +kernel
theorem dL_law_1027 : decode mL_law.2.1 1027 = .ok (.aload_n 1, 1) := by decide +kernel
theorem dL_law_1028 : decode mL_law.2.1 1028 = .ok (.aload_n 0, 1) := by decide +kernel
theorem dL_law_1029 : decode mL_law.2.1 1029 = .ok (.iload 4, 2) := by decide +kernel
theorem dL_law_1031 : decode mL_law.2.1 1031 = .ok (.iconst 1, 1) := by decide +kernel
theorem dL_law_1032 : decode mL_law.2.1 1032 = .ok (.iadd, 1) := by decide +kernel
theorem dL_law_1033 : decode mL_law.2.1 1033 = .ok (.iaload, 1) := by decide +kernel
theorem dL_law_1034 : decode mL_law.2.1 1034 = .ok (.aload_n 0, 1) := by decide +kernel
theorem dL_law_1035 : decode mL_law.2.1 1035 = .ok (.iload 4, 2) := by decide +kernel
theorem dL_law_1037 : decode mL_law.2.1 1037 = .ok (.iconst 2, 1) := by decide +kernel
theorem dL_law_1038 : decode mL_law.2.1 1038 = .ok (.iadd, 1) := by decide +kernel
theorem dL_law_1039 : decode mL_law.2.1 1039 = .ok (.iaload, 1) := by decide +kernel
theorem dL_law_1040 : decode mL_law.2.1 1040 = .ok (.invokevirtual 128, 3) := by decide +kernel
theorem dL_law_1043 : decode mL_law.2.1 1043 = .ok (.aload_n 2, 1) := by decide +kernel
theorem dL_law_1044 : decode mL_law.2.1 1044 = .ok (.aload_n 0, 1) := by decide +kernel
theorem dL_law_1045 : decode mL_law.2.1 1045 = .ok (.iload 4, 2) := by decide +kernel
theorem dL_law_1047 : decode mL_law.2.1 1047 = .ok (.iconst 1, 1) := by decide +kernel
theorem dL_law_1048 : decode mL_law.2.1 1048 = .ok (.iadd, 1) := by decide +kernel
theorem dL_law_1049 : decode mL_law.2.1 1049 = .ok (.iaload, 1) := by decide +kernel
theorem dL_law_1050 : decode mL_law.2.1 1050 = .ok (.aload_n 0, 1) := by decide +kernel
theorem dL_law_1051 : decode mL_law.2.1 1051 = .ok (.iload 4, 2) := by decide +kernel
theorem dL_law_1053 : decode mL_law.2.1 1053 = .ok (.iconst 2, 1) := by decide +kernel
theorem dL_law_1054 : decode mL_law.2.1 1054 = .ok (.iadd, 1) := by decide +kernel
theorem dL_law_1055 : decode mL_law.2.1 1055 = .ok (.iaload, 1) := by decide +kernel
theorem dL_law_1056 : decode mL_law.2.1 1056 = .ok (.invokevirtual 131, 3) := by decide +kernel
theorem dL_law_1059 : decode mL_law.2.1 1059 = .ok (.if_icmp .eq 498, 3) := by decide +kernel
theorem dL_law_1062 : decode mL_law.2.1 1062 = .ok (.iconst 0, 1) := by decide +kernel
theorem dL_law_1063 : decode mL_law.2.1 1063 = .ok (.ireturn, 1) := by decide +kernel
theorem dL_law_1064 : decode mL_law.2.1 1064 = .ok (.aload_n 1, 1) := by decide +kernel
theorem dL_law_1065 : decode mL_law.2.1 1065 = .ok (.aload_n 0, 1) := by decide +kernel
theorem dL_law_1066 : decode mL_law.2.1 1066 = .ok (.iload 4, 2) := by decide +kernel
theorem dL_law_1068 : decode mL_law.2.1 1068 = .ok (.iconst 1, 1) := by decide +kernel
theorem dL_law_1069 : decode mL_law.2.1 1069 = .ok (.iadd, 1) := by decide +kernel
theorem dL_law_1070 : decode mL_law.2.1 1070 = .ok (.iaload, 1) := by decide +kernel
theorem dL_law_1071 : decode mL_law.2.1 1071 = .ok (.aload_n 0, 1) := by decide +kernel
theorem dL_law_1072 : decode mL_law.2.1 1072 = .ok (.iload 4, 2) := by decide +kernel
theorem dL_law_1074 : decode mL_law.2.1 1074 = .ok (.iconst 2, 1) := by decide +kernel
theorem dL_law_1075 : decode mL_law.2.1 1075 = .ok (.iadd, 1) := by decide +kernel
theorem dL_law_1076 : decode mL_law.2.1 1076 = .ok (.iaload, 1) := by decide +kernel
theorem dL_law_1077 : decode mL_law.2.1 1077 = .ok (.aload_n 0, 1) := by decide +kernel
theorem dL_law_1078 : decode mL_law.2.1 1078 = .ok (.iload 4, 2) := by decide +kernel
theorem dL_law_1080 : decode mL_law.2.1 1080 = .ok (.iconst 3, 1) := by decide +kernel
theorem dL_law_1081 : decode mL_law.2.1 1081 = .ok (.iadd, 1) := by decide +kernel
theorem dL_law_1082 : decode mL_law.2.1 1082 = .ok (.iaload, 1) := by decide +kernel
theorem dL_law_1083 : decode mL_law.2.1 1083 = .ok (.aload_n 0, 1) := by decide +kernel
theorem dL_law_1084 : decode mL_law.2.1 1084 = .ok (.iload 4, 2) := by decide +kernel
theorem dL_law_1086 : decode mL_law.2.1 1086 = .ok (.iconst 4, 1) := by decide +kernel
theorem dL_law_1087 : decode mL_law.2.1 1087 = .ok (.iadd, 1) := by decide +kernel
theorem dL_law_1088 : decode mL_law.2.1 1088 = .ok (.iaload, 1) := by decide +kernel
theorem dL_law_1089 : decode mL_law.2.1 1089 = .ok (.invokevirtual 132, 3) := by decide +kernel
theorem dL_law_1092 : decode mL_law.2.1 1092 = .ok (.aload_n 2, 1) := by decide +kernel
theorem dL_law_1093 : decode mL_law.2.1 1093 = .ok (.aload_n 0, 1) := by decide +kernel
theorem dL_law_1094 : decode mL_law.2.1 1094 = .ok (.iload 4, 2) := by decide +kernel
theorem dL_law_1096 : decode mL_law.2.1 1096 = .ok (.iconst 1, 1) := by decide +kernel
theorem dL_law_1097 : decode mL_law.2.1 1097 = .ok (.iadd, 1) := by decide +kernel
theorem dL_law_1098 : decode mL_law.2.1 1098 = .ok (.iaload, 1) := by decide +kernel
theorem dL_law_1099 : decode mL_law.2.1 1099 = .ok (.aload_n 0, 1) := by decide +kernel
theorem dL_law_1100 : decode mL_law.2.1 1100 = .ok (.iload 4, 2) := by decide +kernel
theorem dL_law_1102 : decode mL_law.2.1 1102 = .ok (.iconst 2, 1) := by decide +kernel
theorem dL_law_1103 : decode mL_law.2.1 1103 = .ok (.iadd, 1) := by decide +kernel
theorem dL_law_1104 : decode mL_law.2.1 1104 = .ok (.iaload, 1) := by decide +kernel
theorem dL_law_1105 : decode mL_law.2.1 1105 = .ok (.aload_n 0, 1) := by decide +kernel
theorem dL_law_1106 : decode mL_law.2.1 1106 = .ok (.iload 4, 2) := by decide +kernel
theorem dL_law_1108 : decode mL_law.2.1 1108 = .ok (.iconst 3, 1) := by decide +kernel
theorem dL_law_1109 : decode mL_law.2.1 1109 = .ok (.iadd, 1) := by decide +kernel
theorem dL_law_1110 : decode mL_law.2.1 1110 = .ok (.iaload, 1) := by decide +kernel
theorem dL_law_1111 : decode mL_law.2.1 1111 = .ok (.aload_n 0, 1) := by decide +kernel
theorem dL_law_1112 : decode mL_law.2.1 1112 = .ok (.iload 4, 2) := by decide +kernel
theorem dL_law_1114 : decode mL_law.2.1 1114 = .ok (.iconst 4, 1) := by decide +kernel
theorem dL_law_1115 : decode mL_law.2.1 1115 = .ok (.iadd, 1) := by decide +kernel
theorem dL_law_1116 : decode mL_law.2.1 1116 = .ok (.iaload, 1) := by decide +kernel
theorem dL_law_1117 : decode mL_law.2.1 1117 = .ok (.invokevirtual 136, 3) := by decide +kernel
theorem dL_law_1120 : decode mL_law.2.1 1120 = .ok (.if_icmp .eq 437, 3) := by decide +kernel
theorem dL_law_1123 : decode mL_law.2.1 1123 = .ok (.iconst 0, 1) := by decide +kernel
theorem dL_law_1124 : decode mL_law.2.1 1124 = .ok (.ireturn, 1) := by decide +kernel
theorem dL_law_1125 : decode mL_law.2.1 1125 = .ok (.aload_n 1, 1) := by decide +kernel
theorem dL_law_1126 : decode mL_law.2.1 1126 = .ok (.aload_n 0, 1) := by decide +kernel
theorem dL_law_1127 : decode mL_law.2.1 1127 = .ok (.iload 4, 2) := by decide +kernel
theorem dL_law_1129 : decode mL_law.2.1 1129 = .ok (.iconst 1, 1) := by decide +kernel
theorem dL_law_1130 : decode mL_law.2.1 1130 = .ok (.iadd, 1) := by decide +kernel
theorem dL_law_1131 : decode mL_law.2.1 1131 = .ok (.iaload, 1) := by decide +kernel
theorem dL_law_1132 : decode mL_law.2.1 1132 = .ok (.aload_n 0, 1) := by decide +kernel
theorem dL_law_1133 : decode mL_law.2.1 1133 = .ok (.iload 4, 2) := by decide +kernel
theorem dL_law_1135 : decode mL_law.2.1 1135 = .ok (.iconst 2, 1) := by decide +kernel
theorem dL_law_1136 : decode mL_law.2.1 1136 = .ok (.iadd, 1) := by decide +kernel
theorem dL_law_1137 : decode mL_law.2.1 1137 = .ok (.iaload, 1) := by decide +kernel
theorem dL_law_1138 : decode mL_law.2.1 1138 = .ok (.aload_n 0, 1) := by decide +kernel
theorem dL_law_1139 : decode mL_law.2.1 1139 = .ok (.iload 4, 2) := by decide +kernel
theorem dL_law_1141 : decode mL_law.2.1 1141 = .ok (.iconst 3, 1) := by decide +kernel
theorem dL_law_1142 : decode mL_law.2.1 1142 = .ok (.iadd, 1) := by decide +kernel
theorem dL_law_1143 : decode mL_law.2.1 1143 = .ok (.iaload, 1) := by decide +kernel
theorem dL_law_1144 : decode mL_law.2.1 1144 = .ok (.invokevirtual 137, 3) := by decide +kernel
theorem dL_law_1147 : decode mL_law.2.1 1147 = .ok (.aload_n 2, 1) := by decide +kernel
theorem dL_law_1148 : decode mL_law.2.1 1148 = .ok (.aload_n 0, 1) := by decide +kernel
theorem dL_law_1149 : decode mL_law.2.1 1149 = .ok (.iload 4, 2) := by decide +kernel
theorem dL_law_1151 : decode mL_law.2.1 1151 = .ok (.iconst 1, 1) := by decide +kernel
theorem dL_law_1152 : decode mL_law.2.1 1152 = .ok (.iadd, 1) := by decide +kernel
theorem dL_law_1153 : decode mL_law.2.1 1153 = .ok (.iaload, 1) := by decide +kernel
theorem dL_law_1154 : decode mL_law.2.1 1154 = .ok (.aload_n 0, 1) := by decide +kernel
theorem dL_law_1155 : decode mL_law.2.1 1155 = .ok (.iload 4, 2) := by decide +kernel
theorem dL_law_1157 : decode mL_law.2.1 1157 = .ok (.iconst 2, 1) := by decide +kernel
theorem dL_law_1158 : decode mL_law.2.1 1158 = .ok (.iadd, 1) := by decide +kernel
theorem dL_law_1159 : decode mL_law.2.1 1159 = .ok (.iaload, 1) := by decide +kernel
theorem dL_law_1160 : decode mL_law.2.1 1160 = .ok (.aload_n 0, 1) := by decide +kernel
theorem dL_law_1161 : decode mL_law.2.1 1161 = .ok (.iload 4, 2) := by decide +kernel
theorem dL_law_1163 : decode mL_law.2.1 1163 = .ok (.iconst 3, 1) := by decide +kernel
theorem dL_law_1164 : decode mL_law.2.1 1164 = .ok (.iadd, 1) := by decide +kernel
theorem dL_law_1165 : decode mL_law.2.1 1165 = .ok (.iaload, 1) := by decide +kernel
theorem dL_law_1166 : decode mL_law.2.1 1166 = .ok (.invokevirtual 140, 3) := by decide +kernel
theorem dL_law_1169 : decode mL_law.2.1 1169 = .ok (.if_icmp .eq 388, 3) := by decide +kernel
theorem dL_law_1172 : decode mL_law.2.1 1172 = .ok (.iconst 0, 1) := by decide +kernel
theorem dL_law_1173 : decode mL_law.2.1 1173 = .ok (.ireturn, 1) := by decide +kernel
theorem dL_law_1174 : decode mL_law.2.1 1174 = .ok (.aload_n 1, 1) := by decide +kernel
theorem dL_law_1175 : decode mL_law.2.1 1175 = .ok (.aload_n 0, 1) := by decide +kernel
theorem dL_law_1176 : decode mL_law.2.1 1176 = .ok (.iload 4, 2) := by decide +kernel
theorem dL_law_1178 : decode mL_law.2.1 1178 = .ok (.iconst 1, 1) := by decide +kernel
theorem dL_law_1179 : decode mL_law.2.1 1179 = .ok (.iadd, 1) := by decide +kernel
theorem dL_law_1180 : decode mL_law.2.1 1180 = .ok (.iaload, 1) := by decide +kernel
theorem dL_law_1181 : decode mL_law.2.1 1181 = .ok (.aload_n 0, 1) := by decide +kernel
theorem dL_law_1182 : decode mL_law.2.1 1182 = .ok (.iload 4, 2) := by decide +kernel
theorem dL_law_1184 : decode mL_law.2.1 1184 = .ok (.iconst 2, 1) := by decide +kernel
theorem dL_law_1185 : decode mL_law.2.1 1185 = .ok (.iadd, 1) := by decide +kernel
theorem dL_law_1186 : decode mL_law.2.1 1186 = .ok (.iaload, 1) := by decide +kernel
theorem dL_law_1187 : decode mL_law.2.1 1187 = .ok (.invokevirtual 141, 3) := by decide +kernel
theorem dL_law_1190 : decode mL_law.2.1 1190 = .ok (.aload_n 2, 1) := by decide +kernel
theorem dL_law_1191 : decode mL_law.2.1 1191 = .ok (.aload_n 0, 1) := by decide +kernel
theorem dL_law_1192 : decode mL_law.2.1 1192 = .ok (.iload 4, 2) := by decide +kernel
theorem dL_law_1194 : decode mL_law.2.1 1194 = .ok (.iconst 1, 1) := by decide +kernel
theorem dL_law_1195 : decode mL_law.2.1 1195 = .ok (.iadd, 1) := by decide +kernel
theorem dL_law_1196 : decode mL_law.2.1 1196 = .ok (.iaload, 1) := by decide +kernel
theorem dL_law_1197 : decode mL_law.2.1 1197 = .ok (.aload_n 0, 1) := by decide +kernel
theorem dL_law_1198 : decode mL_law.2.1 1198 = .ok (.iload 4, 2) := by decide +kernel
theorem dL_law_1200 : decode mL_law.2.1 1200 = .ok (.iconst 2, 1) := by decide +kernel
theorem dL_law_1201 : decode mL_law.2.1 1201 = .ok (.iadd, 1) := by decide +kernel
theorem dL_law_1202 : decode mL_law.2.1 1202 = .ok (.iaload, 1) := by decide +kernel
theorem dL_law_1203 : decode mL_law.2.1 1203 = .ok (.invokevirtual 144, 3) := by decide +kernel
theorem dL_law_1206 : decode mL_law.2.1 1206 = .ok (.if_icmp .eq 351, 3) := by decide +kernel
theorem dL_law_1209 : decode mL_law.2.1 1209 = .ok (.iconst 0, 1) := by decide +kernel
theorem dL_law_1210 : decode mL_law.2.1 1210 = .ok (.ireturn, 1) := by decide +kernel
theorem dL_law_1211 : decode mL_law.2.1 1211 = .ok (.aload_n 1, 1) := by decide +kernel
theorem dL_law_1212 : decode mL_law.2.1 1212 = .ok (.aload_n 0, 1) := by decide +kernel
theorem dL_law_1213 : decode mL_law.2.1 1213 = .ok (.iload 4, 2) := by decide +kernel
theorem dL_law_1215 : decode mL_law.2.1 1215 = .ok (.iconst 1, 1) := by decide +kernel
theorem dL_law_1216 : decode mL_law.2.1 1216 = .ok (.iadd, 1) := by decide +kernel
theorem dL_law_1217 : decode mL_law.2.1 1217 = .ok (.iaload, 1) := by decide +kernel
theorem dL_law_1218 : decode mL_law.2.1 1218 = .ok (.invokevirtual 145, 3) := by decide +kernel
