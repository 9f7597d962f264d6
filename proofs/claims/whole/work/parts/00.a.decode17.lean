theorem d_Law_law_924 : decode code 924 = .ok (.invokestatic 136, 3) := by decide +kernel
theorem d_Law_law_927 : decode code 927 = .ok (.istore 5, 2) := by decide +kernel
theorem d_Law_law_929 : decode code 929 = .ok (.aload_n 2, 1) := by decide +kernel
theorem d_Law_law_930 : decode code 930 = .ok (.aload_n 0, 1) := by decide +kernel
theorem d_Law_law_931 : decode code 931 = .ok (.iload 4, 2) := by decide +kernel
theorem d_Law_law_933 : decode code 933 = .ok (.iconst 1, 1) := by decide +kernel
theorem d_Law_law_934 : decode code 934 = .ok (.iadd, 1) := by decide +kernel
theorem d_Law_law_935 : decode code 935 = .ok (.iaload, 1) := by decide +kernel
theorem d_Law_law_936 : decode code 936 = .ok (.invokevirtual 138, 3) := by decide +kernel
theorem d_Law_law_939 : decode code 939 = .ok (.istore 6, 2) := by decide +kernel
theorem d_Law_law_941 : decode code 941 = .ok (.aload_n 2, 1) := by decide +kernel
theorem d_Law_law_942 : decode code 942 = .ok (.invokevirtual 83, 3) := by decide +kernel
theorem d_Law_law_945 : decode code 945 = .ok (.iload 5, 2) := by decide +kernel
theorem d_Law_law_947 : decode code 947 = .ok (.if_icmp .eq 5, 3) := by decide +kernel
theorem d_Law_law_950 : decode code 950 = .ok (.iconst 0, 1) := by decide +kernel
theorem d_Law_law_951 : decode code 951 = .ok (.ireturn, 1) := by decide +kernel
theorem d_Law_law_952 : decode code 952 = .ok (.iload 5, 2) := by decide +kernel
theorem d_Law_law_954 : decode code 954 = .ok (.ifCond .ne 15, 3) := by decide +kernel
theorem d_Law_law_957 : decode code 957 = .ok (.aload_n 3, 1) := by decide +kernel
theorem d_Law_law_958 : decode code 958 = .ok (.iconst 0, 1) := by decide +kernel
theorem d_Law_law_959 : decode code 959 = .ok (.laload, 1) := by decide +kernel
theorem d_Law_law_960 : decode code 960 = .ok (.iload 6, 2) := by decide +kernel
theorem d_Law_law_962 : decode code 962 = .ok (.i2l, 1) := by decide +kernel
theorem d_Law_law_963 : decode code 963 = .ok (.lcmp, 1) := by decide +kernel
theorem d_Law_law_964 : decode code 964 = .ok (.ifCond .eq 5, 3) := by decide +kernel
theorem d_Law_law_967 : decode code 967 = .ok (.iconst 0, 1) := by decide +kernel
theorem d_Law_law_968 : decode code 968 = .ok (.ireturn, 1) := by decide +kernel
theorem d_Law_law_969 : decode code 969 = .ok (.goto 295, 3) := by decide +kernel
theorem d_Law_law_972 : decode code 972 = .ok (.aload_n 1, 1) := by decide +kernel
theorem d_Law_law_973 : decode code 973 = .ok (.aload_n 0, 1) := by decide +kernel
theorem d_Law_law_974 : decode code 974 = .ok (.iload 4, 2) := by decide +kernel
theorem d_Law_law_976 : decode code 976 = .ok (.iconst 1, 1) := by decide +kernel
theorem d_Law_law_977 : decode code 977 = .ok (.iadd, 1) := by decide +kernel
theorem d_Law_law_978 : decode code 978 = .ok (.iaload, 1) := by decide +kernel
theorem d_Law_law_979 : decode code 979 = .ok (.aload_n 3, 1) := by decide +kernel
theorem d_Law_law_980 : decode code 980 = .ok (.invokestatic 139, 3) := by decide +kernel
theorem d_Law_law_983 : decode code 983 = .ok (.istore 5, 2) := by decide +kernel
theorem d_Law_law_985 : decode code 985 = .ok (.aload_n 2, 1) := by decide +kernel
theorem d_Law_law_986 : decode code 986 = .ok (.aload_n 0, 1) := by decide +kernel
theorem d_Law_law_987 : decode code 987 = .ok (.iload 4, 2) := by decide +kernel
theorem d_Law_law_989 : decode code 989 = .ok (.iconst 1, 1) := by decide +kernel
theorem d_Law_law_990 : decode code 990 = .ok (.iadd, 1) := by decide +kernel
theorem d_Law_law_991 : decode code 991 = .ok (.iaload, 1) := by decide +kernel
theorem d_Law_law_992 : decode code 992 = .ok (.invokevirtual 141, 3) := by decide +kernel
theorem d_Law_law_995 : decode code 995 = .ok (.istore 6, 2) := by decide +kernel
theorem d_Law_law_997 : decode code 997 = .ok (.aload_n 2, 1) := by decide +kernel
theorem d_Law_law_998 : decode code 998 = .ok (.invokevirtual 83, 3) := by decide +kernel
theorem d_Law_law_1001 : decode code 1001 = .ok (.iload 5, 2) := by decide +kernel
theorem d_Law_law_1003 : decode code 1003 = .ok (.if_icmp .eq 5, 3) := by decide +kernel
theorem d_Law_law_1006 : decode code 1006 = .ok (.iconst 0, 1) := by decide +kernel
theorem d_Law_law_1007 : decode code 1007 = .ok (.ireturn, 1) := by decide +kernel
theorem d_Law_law_1008 : decode code 1008 = .ok (.iload 5, 2) := by decide +kernel
theorem d_Law_law_1010 : decode code 1010 = .ok (.ifCond .ne 15, 3) := by decide +kernel
theorem d_Law_law_1013 : decode code 1013 = .ok (.aload_n 3, 1) := by decide +kernel
theorem d_Law_law_1014 : decode code 1014 = .ok (.iconst 0, 1) := by decide +kernel
theorem d_Law_law_1015 : decode code 1015 = .ok (.laload, 1) := by decide +kernel
theorem d_Law_law_1016 : decode code 1016 = .ok (.iload 6, 2) := by decide +kernel
theorem d_Law_law_1018 : decode code 1018 = .ok (.i2l, 1) := by decide +kernel
theorem d_Law_law_1019 : decode code 1019 = .ok (.lcmp, 1) := by decide +kernel
theorem d_Law_law_1020 : decode code 1020 = .ok (.ifCond .eq 5, 3) := by decide +kernel
theorem d_Law_law_1023 : decode code 1023 = .ok (.iconst 0, 1) := by decide +kernel
theorem d_Law_law_1024 : decode code 1024 = .ok (.ireturn, 1) := by decide +kernel
theorem d_Law_law_1025 : decode code 1025 = .ok (.goto 239, 3) := by decide +kernel
theorem d_Law_law_1028 : decode code 1028 = .ok (.aload_n 1, 1) := by decide +kernel
theorem d_Law_law_1029 : decode code 1029 = .ok (.aload_n 3, 1) := by decide +kernel
theorem d_Law_law_1030 : decode code 1030 = .ok (.invokestatic 142, 3) := by decide +kernel
theorem d_Law_law_1033 : decode code 1033 = .ok (.istore 5, 2) := by decide +kernel
theorem d_Law_law_1035 : decode code 1035 = .ok (.aload_n 2, 1) := by decide +kernel
theorem d_Law_law_1036 : decode code 1036 = .ok (.invokevirtual 145, 3) := by decide +kernel
theorem d_Law_law_1039 : decode code 1039 = .ok (.istore 6, 2) := by decide +kernel
theorem d_Law_law_1041 : decode code 1041 = .ok (.aload_n 2, 1) := by decide +kernel
theorem d_Law_law_1042 : decode code 1042 = .ok (.invokevirtual 83, 3) := by decide +kernel
theorem d_Law_law_1045 : decode code 1045 = .ok (.iload 5, 2) := by decide +kernel
theorem d_Law_law_1047 : decode code 1047 = .ok (.if_icmp .eq 5, 3) := by decide +kernel
theorem d_Law_law_1050 : decode code 1050 = .ok (.iconst 0, 1) := by decide +kernel
theorem d_Law_law_1051 : decode code 1051 = .ok (.ireturn, 1) := by decide +kernel
theorem d_Law_law_1052 : decode code 1052 = .ok (.iload 5, 2) := by decide +kernel
theorem d_Law_law_1054 : decode code 1054 = .ok (.ifCond .ne 15, 3) := by decide +kernel
theorem d_Law_law_1057 : decode code 1057 = .ok (.aload_n 3, 1) := by decide +kernel
theorem d_Law_law_1058 : decode code 1058 = .ok (.iconst 0, 1) := by decide +kernel
theorem d_Law_law_1059 : decode code 1059 = .ok (.laload, 1) := by decide +kernel
theorem d_Law_law_1060 : decode code 1060 = .ok (.iload 6, 2) := by decide +kernel
theorem d_Law_law_1062 : decode code 1062 = .ok (.i2l, 1) := by decide +kernel
theorem d_Law_law_1063 : decode code 1063 = .ok (.lcmp, 1) := by decide +kernel
theorem d_Law_law_1064 : decode code 1064 = .ok (.ifCond .eq 5, 3) := by decide +kernel
theorem d_Law_law_1067 : decode code 1067 = .ok (.iconst 0, 1) := by decide +kernel
theorem d_Law_law_1068 : decode code 1068 = .ok (.ireturn, 1) := by decide +kernel
theorem d_Law_law_1069 : decode code 1069 = .ok (.goto 195, 3) := by decide +kernel
theorem d_Law_law_1072 : decode code 1072 = .ok (.aload_n 1, 1) := by decide +kernel
theorem d_Law_law_1073 : decode code 1073 = .ok (.aload_n 3, 1) := by decide +kernel
theorem d_Law_law_1074 : decode code 1074 = .ok (.invokestatic 146, 3) := by decide +kernel
theorem d_Law_law_1077 : decode code 1077 = .ok (.istore 5, 2) := by decide +kernel
theorem d_Law_law_1079 : decode code 1079 = .ok (.aload_n 2, 1) := by decide +kernel
theorem d_Law_law_1080 : decode code 1080 = .ok (.invokevirtual 148, 3) := by decide +kernel
theorem d_Law_law_1083 : decode code 1083 = .ok (.istore 6, 2) := by decide +kernel
theorem d_Law_law_1085 : decode code 1085 = .ok (.aload_n 2, 1) := by decide +kernel
theorem d_Law_law_1086 : decode code 1086 = .ok (.invokevirtual 83, 3) := by decide +kernel
theorem d_Law_law_1089 : decode code 1089 = .ok (.iload 5, 2) := by decide +kernel
theorem d_Law_law_1091 : decode code 1091 = .ok (.if_icmp .eq 5, 3) := by decide +kernel
theorem d_Law_law_1094 : decode code 1094 = .ok (.iconst 0, 1) := by decide +kernel
theorem d_Law_law_1095 : decode code 1095 = .ok (.ireturn, 1) := by decide +kernel
theorem d_Law_law_1096 : decode code 1096 = .ok (.iload 5, 2) := by decide +kernel
theorem d_Law_law_1098 : decode code 1098 = .ok (.ifCond .ne 15, 3) := by decide +kernel
theorem d_Law_law_1101 : decode code 1101 = .ok (.aload_n 3, 1) := by decide +kernel
theorem d_Law_law_1102 : decode code 1102 = .ok (.iconst 0, 1) := by decide +kernel
theorem d_Law_law_1103 : decode code 1103 = .ok (.laload, 1) := by decide +kernel
theorem d_Law_law_1104 : decode code 1104 = .ok (.iload 6, 2) := by decide +kernel
theorem d_Law_law_1106 : decode code 1106 = .ok (.i2l, 1) := by decide +kernel
theorem d_Law_law_1107 : decode code 1107 = .ok (.lcmp, 1) := by decide +kernel
theorem d_Law_law_1108 : decode code 1108 = .ok (.ifCond .eq 5, 3) := by decide +kernel
theorem d_Law_law_1111 : decode code 1111 = .ok (.iconst 0, 1) := by decide +kernel
theorem d_Law_law_1112 : decode code 1112 = .ok (.ireturn, 1) := by decide +kernel
theorem d_Law_law_1113 : decode code 1113 = .ok (.goto 151, 3) := by decide +kernel
theorem d_Law_law_1116 : decode code 1116 = .ok (.aload_n 1, 1) := by decide +kernel
theorem d_Law_law_1117 : decode code 1117 = .ok (.aload_n 0, 1) := by decide +kernel
theorem d_Law_law_1118 : decode code 1118 = .ok (.iload 4, 2) := by decide +kernel
theorem d_Law_law_1120 : decode code 1120 = .ok (.iconst 1, 1) := by decide +kernel
theorem d_Law_law_1121 : decode code 1121 = .ok (.iadd, 1) := by decide +kernel
theorem d_Law_law_1122 : decode code 1122 = .ok (.iaload, 1) := by decide +kernel
theorem d_Law_law_1123 : decode code 1123 = .ok (.aload_n 0, 1) := by decide +kernel
theorem d_Law_law_1124 : decode code 1124 = .ok (.iload 4, 2) := by decide +kernel
theorem d_Law_law_1126 : decode code 1126 = .ok (.iconst 2, 1) := by decide +kernel
theorem d_Law_law_1127 : decode code 1127 = .ok (.iadd, 1) := by decide +kernel
theorem d_Law_law_1128 : decode code 1128 = .ok (.iaload, 1) := by decide +kernel
theorem d_Law_law_1129 : decode code 1129 = .ok (.aload_n 3, 1) := by decide +kernel
theorem d_Law_law_1130 : decode code 1130 = .ok (.invokestatic 149, 3) := by decide +kernel
theorem d_Law_law_1133 : decode code 1133 = .ok (.istore 5, 2) := by decide +kernel
theorem d_Law_law_1135 : decode code 1135 = .ok (.aload_n 2, 1) := by decide +kernel
theorem d_Law_law_1136 : decode code 1136 = .ok (.aload_n 0, 1) := by decide +kernel
theorem d_Law_law_1137 : decode code 1137 = .ok (.iload 4, 2) := by decide +kernel
theorem d_Law_law_1139 : decode code 1139 = .ok (.iconst 1, 1) := by decide +kernel
theorem d_Law_law_1140 : decode code 1140 = .ok (.iadd, 1) := by decide +kernel
theorem d_Law_law_1141 : decode code 1141 = .ok (.iaload, 1) := by decide +kernel
theorem d_Law_law_1142 : decode code 1142 = .ok (.aload_n 0, 1) := by decide +kernel
theorem d_Law_law_1143 : decode code 1143 = .ok (.iload 4, 2) := by decide +kernel
theorem d_Law_law_1145 : decode code 1145 = .ok (.iconst 2, 1) := by decide +kernel
theorem d_Law_law_1146 : decode code 1146 = .ok (.iadd, 1) := by decide +kernel
theorem d_Law_law_1147 : decode code 1147 = .ok (.iaload, 1) := by decide +kernel
theorem d_Law_law_1148 : decode code 1148 = .ok (.invokevirtual 151, 3) := by decide +kernel
theorem d_Law_law_1151 : decode code 1151 = .ok (.istore 6, 2) := by decide +kernel
theorem d_Law_law_1153 : decode code 1153 = .ok (.aload_n 2, 1) := by decide +kernel
theorem d_Law_law_1154 : decode code 1154 = .ok (.invokevirtual 83, 3) := by decide +kernel
theorem d_Law_law_1157 : decode code 1157 = .ok (.iload 5, 2) := by decide +kernel
theorem d_Law_law_1159 : decode code 1159 = .ok (.if_icmp .eq 5, 3) := by decide +kernel
theorem d_Law_law_1162 : decode code 1162 = .ok (.iconst 0, 1) := by decide +kernel
theorem d_Law_law_1163 : decode code 1163 = .ok (.ireturn, 1) := by decide +kernel
theorem d_Law_law_1164 : decode code 1164 = .ok (.iload 5, 2) := by decide +kernel
theorem d_Law_law_1166 : decode code 1166 = .ok (.ifCond .ne 15, 3) := by decide +kernel
theorem d_Law_law_1169 : decode code 1169 = .ok (.aload_n 3, 1) := by decide +kernel
theorem d_Law_law_1170 : decode code 1170 = .ok (.iconst 0, 1) := by decide +kernel
theorem d_Law_law_1171 : decode code 1171 = .ok (.laload, 1) := by decide +kernel
theorem d_Law_law_1172 : decode code 1172 = .ok (.iload 6, 2) := by decide +kernel
theorem d_Law_law_1174 : decode code 1174 = .ok (.i2l, 1) := by decide +kernel
theorem d_Law_law_1175 : decode code 1175 = .ok (.lcmp, 1) := by decide +kernel
theorem d_Law_law_1176 : decode code 1176 = .ok (.ifCond .eq 5, 3) := by decide +kernel
theorem d_Law_law_1179 : decode code 1179 = .ok (.iconst 0, 1) := by decide +kernel
theorem d_Law_law_1180 : decode code 1180 = .ok (.ireturn, 1) := by decide +kernel
theorem d_Law_law_1181 : decode code 1181 = .ok (.goto 83, 3) := by decide +kernel
theorem d_Law_law_1184 : decode code 1184 = .ok (.aload_n 1, 1) := by decide +kernel
theorem d_Law_law_1185 : decode code 1185 = .ok (.aload_n 0, 1) := by decide +kernel
theorem d_Law_law_1186 : decode code 1186 = .ok (.iload 4, 2) := by decide +kernel
theorem d_Law_law_1188 : decode code 1188 = .ok (.iconst 1, 1) := by decide +kernel
theorem d_Law_law_1189 : decode code 1189 = .ok (.iadd, 1) := by decide +kernel
theorem d_Law_law_1190 : decode code 1190 = .ok (.iaload, 1) := by decide +kernel
theorem d_Law_law_1191 : decode code 1191 = .ok (.aload_n 0, 1) := by decide +kernel
theorem d_Law_law_1192 : decode code 1192 = .ok (.iload 4, 2) := by decide +kernel
theorem d_Law_law_1194 : decode code 1194 = .ok (.iconst 2, 1) := by decide +kernel
theorem d_Law_law_1195 : decode code 1195 = .ok (.iadd, 1) := by decide +kernel
theorem d_Law_law_1196 : decode code 1196 = .ok (.iaload, 1) := by decide +kernel
theorem d_Law_law_1197 : decode code 1197 = .ok (.aload_n 0, 1) := by decide +kernel
theorem d_Law_law_1198 : decode code 1198 = .ok (.iload 4, 2) := by decide +kernel
theorem d_Law_law_1200 : decode code 1200 = .ok (.iconst 3, 1) := by decide +kernel
theorem d_Law_law_1201 : decode code 1201 = .ok (.iadd, 1) := by decide +kernel
theorem d_Law_law_1202 : decode code 1202 = .ok (.iaload, 1) := by decide +kernel
theorem d_Law_law_1203 : decode code 1203 = .ok (.aload_n 3, 1) := by decide +kernel
theorem d_Law_law_1204 : decode code 1204 = .ok (.invokestatic 152, 3) := by decide +kernel
theorem d_Law_law_1207 : decode code 1207 = .ok (.istore 5, 2) := by decide +kernel
theorem d_Law_law_1209 : decode code 1209 = .ok (.aload_n 2, 1) := by decide +kernel
theorem d_Law_law_1210 : decode code 1210 = .ok (.aload_n 0, 1) := by decide +kernel
theorem d_Law_law_1211 : decode code 1211 = .ok (.iload 4, 2) := by decide +kernel
theorem d_Law_law_1213 : decode code 1213 = .ok (.iconst 1, 1) := by decide +kernel
theorem d_Law_law_1214 : decode code 1214 = .ok (.iadd, 1) := by decide +kernel
theorem d_Law_law_1215 : decode code 1215 = .ok (.iaload, 1) := by decide +kernel
theorem d_Law_law_1216 : decode code 1216 = .ok (.aload_n 0, 1) := by decide +kernel
theorem d_Law_law_1217 : decode code 1217 = .ok (.iload 4, 2) := by decide +kernel
theorem d_Law_law_1219 : decode code 1219 = .ok (.iconst 2, 1) := by decide +kernel
theorem d_Law_law_1220 : decode code 1220 = .ok (.iadd, 1) := by decide +kernel
theorem d_Law_law_1221 : decode code 1221 = .ok (.iaload, 1) := by decide +kernel
theorem d_Law_law_1222 : decode code 1222 = .ok (.aload_n 0, 1) := by decide +kernel
theorem d_Law_law_1223 : decode code 1223 = .ok (.iload 4, 2) := by decide +kernel
theorem d_Law_law_1225 : decode code 1225 = .ok (.iconst 3, 1) := by decide +kernel
theorem d_Law_law_1226 : decode code 1226 = .ok (.iadd, 1) := by decide +kernel
theorem d_Law_law_1227 : decode code 1227 = .ok (.iaload, 1) := by decide +kernel
theorem d_Law_law_1228 : decode code 1228 = .ok (.invokevirtual 155, 3) := by decide +kernel
theorem d_Law_law_1231 : decode code 1231 = .ok (.istore 6, 2) := by decide +kernel
theorem d_Law_law_1233 : decode code 1233 = .ok (.aload_n 2, 1) := by decide +kernel
theorem d_Law_law_1234 : decode code 1234 = .ok (.invokevirtual 83, 3) := by decide +kernel
theorem d_Law_law_1237 : decode code 1237 = .ok (.iload 5, 2) := by decide +kernel
theorem d_Law_law_1239 : decode code 1239 = .ok (.if_icmp .eq 5, 3) := by decide +kernel
theorem d_Law_law_1242 : decode code 1242 = .ok (.iconst 0, 1) := by decide +kernel
theorem d_Law_law_1243 : decode code 1243 = .ok (.ireturn, 1) := by decide +kernel
theorem d_Law_law_1244 : decode code 1244 = .ok (.iload 5, 2) := by decide +kernel
theorem d_Law_law_1246 : decode code 1246 = .ok (.ifCond .ne 15, 3) := by decide +kernel
theorem d_Law_law_1249 : decode code 1249 = .ok (.aload_n 3, 1) := by decide +kernel
theorem d_Law_law_1250 : decode code 1250 = .ok (.iconst 0, 1) := by decide +kernel
theorem d_Law_law_1251 : decode code 1251 = .ok (.laload, 1) := by decide +kernel
theorem d_Law_law_1252 : decode code 1252 = .ok (.iload 6, 2) := by decide +kernel
theorem d_Law_law_1254 : decode code 1254 = .ok (.i2l, 1) := by decide +kernel
theorem d_Law_law_1255 : decode code 1255 = .ok (.lcmp, 1) := by decide +kernel
theorem d_Law_law_1256 : decode code 1256 = .ok (.ifCond .eq 5, 3) := by decide +kernel
theorem d_Law_law_1259 : decode code 1259 = .ok (.iconst 0, 1) := by decide +kernel
theorem d_Law_law_1260 : decode code 1260 = .ok (.ireturn, 1) := by decide +kernel
theorem d_Law_law_1261 : decode code 1261 = .ok (.goto 3, 3) := by decide +kernel
theorem d_Law_law_1264 : decode code 1264 = .ok (.iinc 4 6, 3) := by decide +kernel
theorem d_Law_law_1267 : decode code 1267 = .ok (.goto (-1244), 3) := by decide +kernel
theorem d_Law_law_1270 : decode code 1270 = .ok (.iconst 1, 1) := by decide +kernel
theorem d_Law_law_1271 : decode code 1271 = .ok (.ireturn, 1) := by decide +kernel
