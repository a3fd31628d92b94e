theorem dL_law_949 : decode code 949 = .ok (.aload_n 1, 1) := by decide +kernel
theorem dL_law_950 : decode code 950 = .ok (.aload_n 0, 1) := by decide +kernel
theorem dL_law_951 : decode code 951 = .ok (.iload_n 3, 1) := by decide +kernel
theorem dL_law_952 : decode code 952 = .ok (.iconst 1, 1) := by decide +kernel
theorem dL_law_953 : decode code 953 = .ok (.iadd, 1) := by decide +kernel
theorem dL_law_954 : decode code 954 = .ok (.iaload, 1) := by decide +kernel
theorem dL_law_955 : decode code 955 = .ok (.invokevirtual 109, 3) := by decide +kernel
theorem dL_law_958 : decode code 958 = .ok (.aload_n 2, 1) := by decide +kernel
theorem dL_law_959 : decode code 959 = .ok (.aload_n 0, 1) := by decide +kernel
theorem dL_law_960 : decode code 960 = .ok (.iload_n 3, 1) := by decide +kernel
theorem dL_law_961 : decode code 961 = .ok (.iconst 1, 1) := by decide +kernel
theorem dL_law_962 : decode code 962 = .ok (.iadd, 1) := by decide +kernel
theorem dL_law_963 : decode code 963 = .ok (.iaload, 1) := by decide +kernel
theorem dL_law_964 : decode code 964 = .ok (.invokevirtual 112, 3) := by decide +kernel
theorem dL_law_967 : decode code 967 = .ok (.if_icmp .eq 1259, 3) := by decide +kernel
theorem dL_law_972 : decode code 972 = .ok (.aload_n 1, 1) := by decide +kernel
theorem dL_law_973 : decode code 973 = .ok (.aload_n 0, 1) := by decide +kernel
theorem dL_law_974 : decode code 974 = .ok (.iload_n 3, 1) := by decide +kernel
theorem dL_law_975 : decode code 975 = .ok (.iconst 1, 1) := by decide +kernel
theorem dL_law_976 : decode code 976 = .ok (.iadd, 1) := by decide +kernel
theorem dL_law_977 : decode code 977 = .ok (.iaload, 1) := by decide +kernel
theorem dL_law_978 : decode code 978 = .ok (.invokevirtual 113, 3) := by decide +kernel
theorem dL_law_981 : decode code 981 = .ok (.aload_n 2, 1) := by decide +kernel
theorem dL_law_982 : decode code 982 = .ok (.aload_n 0, 1) := by decide +kernel
theorem dL_law_983 : decode code 983 = .ok (.iload_n 3, 1) := by decide +kernel
theorem dL_law_984 : decode code 984 = .ok (.iconst 1, 1) := by decide +kernel
theorem dL_law_985 : decode code 985 = .ok (.iadd, 1) := by decide +kernel
theorem dL_law_986 : decode code 986 = .ok (.iaload, 1) := by decide +kernel
theorem dL_law_987 : decode code 987 = .ok (.invokevirtual 116, 3) := by decide +kernel
theorem dL_law_990 : decode code 990 = .ok (.if_icmp .eq 1236, 3) := by decide +kernel
theorem dL_law_995 : decode code 995 = .ok (.aload_n 1, 1) := by decide +kernel
theorem dL_law_996 : decode code 996 = .ok (.aload_n 0, 1) := by decide +kernel
theorem dL_law_997 : decode code 997 = .ok (.iload_n 3, 1) := by decide +kernel
theorem dL_law_998 : decode code 998 = .ok (.iconst 1, 1) := by decide +kernel
theorem dL_law_999 : decode code 999 = .ok (.iadd, 1) := by decide +kernel
theorem dL_law_1000 : decode code 1000 = .ok (.iaload, 1) := by decide +kernel
theorem dL_law_1001 : decode code 1001 = .ok (.aload_n 0, 1) := by decide +kernel
theorem dL_law_1002 : decode code 1002 = .ok (.iload_n 3, 1) := by decide +kernel
theorem dL_law_1003 : decode code 1003 = .ok (.iconst 2, 1) := by decide +kernel
theorem dL_law_1004 : decode code 1004 = .ok (.iadd, 1) := by decide +kernel
theorem dL_law_1005 : decode code 1005 = .ok (.iaload, 1) := by decide +kernel
theorem dL_law_1006 : decode code 1006 = .ok (.invokevirtual 117, 3) := by decide +kernel
theorem dL_law_1009 : decode code 1009 = .ok (.aload_n 2, 1) := by decide +kernel
theorem dL_law_1010 : decode code 1010 = .ok (.aload_n 0, 1) := by decide +kernel
theorem dL_law_1011 : decode code 1011 = .ok (.iload_n 3, 1) := by decide +kernel
theorem dL_law_1012 : decode code 1012 = .ok (.iconst 1, 1) := by decide +kernel
theorem dL_law_1013 : decode code 1013 = .ok (.iadd, 1) := by decide +kernel
theorem dL_law_1014 : decode code 1014 = .ok (.iaload, 1) := by decide +kernel
theorem dL_law_1015 : decode code 1015 = .ok (.aload_n 0, 1) := by decide +kernel
theorem dL_law_1016 : decode code 1016 = .ok (.iload_n 3, 1) := by decide +kernel
theorem dL_law_1017 : decode code 1017 = .ok (.iconst 2, 1) := by decide +kernel
theorem dL_law_1018 : decode code 1018 = .ok (.iadd, 1) := by decide +kernel
theorem dL_law_1019 : decode code 1019 = .ok (.iaload, 1) := by decide +kernel
theorem dL_law_1020 : decode code 1020 = .ok (.invokevirtual 120, 3) := by decide +kernel
theorem dL_law_1023 : decode code 1023 = .ok (.if_icmp .eq 1203, 3) := by decide +kernel
theorem dL_law_1028 : decode code 1028 = .ok (.aload_n 1, 1) := by decide +kernel
theorem dL_law_1029 : decode code 1029 = .ok (.aload_n 0, 1) := by decide +kernel
theorem dL_law_1030 : decode code 1030 = .ok (.iload_n 3, 1) := by decide +kernel
theorem dL_law_1031 : decode code 1031 = .ok (.iconst 1, 1) := by decide +kernel
theorem dL_law_1032 : decode code 1032 = .ok (.iadd, 1) := by decide +kernel
theorem dL_law_1033 : decode code 1033 = .ok (.iaload, 1) := by decide +kernel
theorem dL_law_1034 : decode code 1034 = .ok (.aload_n 0, 1) := by decide +kernel
theorem dL_law_1035 : decode code 1035 = .ok (.iload_n 3, 1) := by decide +kernel
theorem dL_law_1036 : decode code 1036 = .ok (.iconst 2, 1) := by decide +kernel
theorem dL_law_1037 : decode code 1037 = .ok (.iadd, 1) := by decide +kernel
theorem dL_law_1038 : decode code 1038 = .ok (.iaload, 1) := by decide +kernel
theorem dL_law_1039 : decode code 1039 = .ok (.aload_n 0, 1) := by decide +kernel
theorem dL_law_1040 : decode code 1040 = .ok (.iload_n 3, 1) := by decide +kernel
theorem dL_law_1041 : decode code 1041 = .ok (.iconst 3, 1) := by decide +kernel
theorem dL_law_1042 : decode code 1042 = .ok (.iadd, 1) := by decide +kernel
theorem dL_law_1043 : decode code 1043 = .ok (.iaload, 1) := by decide +kernel
theorem dL_law_1044 : decode code 1044 = .ok (.invokevirtual 121, 3) := by decide +kernel
theorem dL_law_1047 : decode code 1047 = .ok (.aload_n 2, 1) := by decide +kernel
theorem dL_law_1048 : decode code 1048 = .ok (.aload_n 0, 1) := by decide +kernel
theorem dL_law_1049 : decode code 1049 = .ok (.iload_n 3, 1) := by decide +kernel
theorem dL_law_1050 : decode code 1050 = .ok (.iconst 1, 1) := by decide +kernel
theorem dL_law_1051 : decode code 1051 = .ok (.iadd, 1) := by decide +kernel
theorem dL_law_1052 : decode code 1052 = .ok (.iaload, 1) := by decide +kernel
theorem dL_law_1053 : decode code 1053 = .ok (.aload_n 0, 1) := by decide +kernel
theorem dL_law_1054 : decode code 1054 = .ok (.iload_n 3, 1) := by decide +kernel
theorem dL_law_1055 : decode code 1055 = .ok (.iconst 2, 1) := by decide +kernel
theorem dL_law_1056 : decode code 1056 = .ok (.iadd, 1) := by decide +kernel
theorem dL_law_1057 : decode code 1057 = .ok (.iaload, 1) := by decide +kernel
theorem dL_law_1058 : decode code 1058 = .ok (.aload_n 0, 1) := by decide +kernel
theorem dL_law_1059 : decode code 1059 = .ok (.iload_n 3, 1) := by decide +kernel
theorem dL_law_1060 : decode code 1060 = .ok (.iconst 3, 1) := by decide +kernel
theorem dL_law_1061 : decode code 1061 = .ok (.iadd, 1) := by decide +kernel
theorem dL_law_1062 : decode code 1062 = .ok (.iaload, 1) := by decide +kernel
theorem dL_law_1063 : decode code 1063 = .ok (.invokevirtual 125, 3) := by decide +kernel
theorem dL_law_1066 : decode code 1066 = .ok (.if_icmp .eq 1160, 3) := by decide +kernel
theorem dL_law_1071 : decode code 1071 = .ok (.aload_n 1, 1) := by decide +kernel
theorem dL_law_1072 : decode code 1072 = .ok (.aload_n 0, 1) := by decide +kernel
theorem dL_law_1073 : decode code 1073 = .ok (.iload_n 3, 1) := by decide +kernel
theorem dL_law_1074 : decode code 1074 = .ok (.iconst 1, 1) := by decide +kernel
theorem dL_law_1075 : decode code 1075 = .ok (.iadd, 1) := by decide +kernel
theorem dL_law_1076 : decode code 1076 = .ok (.iaload, 1) := by decide +kernel
theorem dL_law_1077 : decode code 1077 = .ok (.aload_n 0, 1) := by decide +kernel
theorem dL_law_1078 : decode code 1078 = .ok (.iload_n 3, 1) := by decide +kernel
theorem dL_law_1079 : decode code 1079 = .ok (.iconst 2, 1) := by decide +kernel
theorem dL_law_1080 : decode code 1080 = .ok (.iadd, 1) := by decide +kernel
theorem dL_law_1081 : decode code 1081 = .ok (.iaload, 1) := by decide +kernel
theorem dL_law_1082 : decode code 1082 = .ok (.invokevirtual 126, 3) := by decide +kernel
theorem dL_law_1085 : decode code 1085 = .ok (.aload_n 2, 1) := by decide +kernel
theorem dL_law_1086 : decode code 1086 = .ok (.aload_n 0, 1) := by decide +kernel
theorem dL_law_1087 : decode code 1087 = .ok (.iload_n 3, 1) := by decide +kernel
theorem dL_law_1088 : decode code 1088 = .ok (.iconst 1, 1) := by decide +kernel
theorem dL_law_1089 : decode code 1089 = .ok (.iadd, 1) := by decide +kernel
theorem dL_law_1090 : decode code 1090 = .ok (.iaload, 1) := by decide +kernel
theorem dL_law_1091 : decode code 1091 = .ok (.aload_n 0, 1) := by decide +kernel
theorem dL_law_1092 : decode code 1092 = .ok (.iload_n 3, 1) := by decide +kernel
theorem dL_law_1093 : decode code 1093 = .ok (.iconst 2, 1) := by decide +kernel
theorem dL_law_1094 : decode code 1094 = .ok (.iadd, 1) := by decide +kernel
theorem dL_law_1095 : decode code 1095 = .ok (.iaload, 1) := by decide +kernel
theorem dL_law_1096 : decode code 1096 = .ok (.invokevirtual 129, 3) := by decide +kernel
theorem dL_law_1099 : decode code 1099 = .ok (.if_icmp .eq 1127, 3) := by decide +kernel
theorem dL_law_1104 : decode code 1104 = .ok (.aload_n 1, 1) := by decide +kernel
theorem dL_law_1105 : decode code 1105 = .ok (.aload_n 0, 1) := by decide +kernel
theorem dL_law_1106 : decode code 1106 = .ok (.iload_n 3, 1) := by decide +kernel
theorem dL_law_1107 : decode code 1107 = .ok (.iconst 1, 1) := by decide +kernel
theorem dL_law_1108 : decode code 1108 = .ok (.iadd, 1) := by decide +kernel
theorem dL_law_1109 : decode code 1109 = .ok (.iaload, 1) := by decide +kernel
theorem dL_law_1110 : decode code 1110 = .ok (.aload_n 0, 1) := by decide +kernel
theorem dL_law_1111 : decode code 1111 = .ok (.iload_n 3, 1) := by decide +kernel
theorem dL_law_1112 : decode code 1112 = .ok (.iconst 2, 1) := by decide +kernel
theorem dL_law_1113 : decode code 1113 = .ok (.iadd, 1) := by decide +kernel
theorem dL_law_1114 : decode code 1114 = .ok (.iaload, 1) := by decide +kernel
theorem dL_law_1115 : decode code 1115 = .ok (.invokevirtual 130, 3) := by decide +kernel
theorem dL_law_1118 : decode code 1118 = .ok (.aload_n 2, 1) := by decide +kernel
theorem dL_law_1119 : decode code 1119 = .ok (.aload_n 0, 1) := by decide +kernel
theorem dL_law_1120 : decode code 1120 = .ok (.iload_n 3, 1) := by decide +kernel
theorem dL_law_1121 : decode code 1121 = .ok (.iconst 1, 1) := by decide +kernel
theorem dL_law_1122 : decode code 1122 = .ok (.iadd, 1) := by decide +kernel
theorem dL_law_1123 : decode code 1123 = .ok (.iaload, 1) := by decide +kernel
theorem dL_law_1124 : decode code 1124 = .ok (.aload_n 0, 1) := by decide +kernel
theorem dL_law_1125 : decode code 1125 = .ok (.iload_n 3, 1) := by decide +kernel
theorem dL_law_1126 : decode code 1126 = .ok (.iconst 2, 1) := by decide +kernel
theorem dL_law_1127 : decode code 1127 = .ok (.iadd, 1) := by decide +kernel
theorem dL_law_1128 : decode code 1128 = .ok (.iaload, 1) := by decide +kernel
theorem dL_law_1129 : decode code 1129 = .ok (.invokevirtual 133, 3) := by decide +kernel
theorem dL_law_1132 : decode code 1132 = .ok (.if_icmp .eq 1094, 3) := by decide +kernel
theorem dL_law_1137 : decode code 1137 = .ok (.aload_n 1, 1) := by decide +kernel
theorem dL_law_1138 : decode code 1138 = .ok (.invokevirtual 134, 3) := by decide +kernel
theorem dL_law_1141 : decode code 1141 = .ok (.aload_n 2, 1) := by decide +kernel
theorem dL_law_1142 : decode code 1142 = .ok (.invokevirtual 137, 3) := by decide +kernel
theorem dL_law_1145 : decode code 1145 = .ok (.if_icmp .eq 1081, 3) := by decide +kernel
theorem dL_law_1150 : decode code 1150 = .ok (.aload_n 1, 1) := by decide +kernel
theorem dL_law_1151 : decode code 1151 = .ok (.aload_n 0, 1) := by decide +kernel
theorem dL_law_1152 : decode code 1152 = .ok (.iload_n 3, 1) := by decide +kernel
theorem dL_law_1153 : decode code 1153 = .ok (.iconst 1, 1) := by decide +kernel
theorem dL_law_1154 : decode code 1154 = .ok (.iadd, 1) := by decide +kernel
theorem dL_law_1155 : decode code 1155 = .ok (.iaload, 1) := by decide +kernel
theorem dL_law_1156 : decode code 1156 = .ok (.aload_n 0, 1) := by decide +kernel
theorem dL_law_1157 : decode code 1157 = .ok (.iload_n 3, 1) := by decide +kernel
theorem dL_law_1158 : decode code 1158 = .ok (.iconst 2, 1) := by decide +kernel
theorem dL_law_1159 : decode code 1159 = .ok (.iadd, 1) := by decide +kernel
theorem dL_law_1160 : decode code 1160 = .ok (.iaload, 1) := by decide +kernel
theorem dL_law_1161 : decode code 1161 = .ok (.invokevirtual 138, 3) := by decide +kernel
theorem dL_law_1164 : decode code 1164 = .ok (.aload_n 2, 1) := by decide +kernel
theorem dL_law_1165 : decode code 1165 = .ok (.aload_n 0, 1) := by decide +kernel
theorem dL_law_1166 : decode code 1166 = .ok (.iload_n 3, 1) := by decide +kernel
theorem dL_law_1167 : decode code 1167 = .ok (.iconst 1, 1) := by decide +kernel
theorem dL_law_1168 : decode code 1168 = .ok (.iadd, 1) := by decide +kernel
theorem dL_law_1169 : decode code 1169 = .ok (.iaload, 1) := by decide +kernel
theorem dL_law_1170 : decode code 1170 = .ok (.aload_n 0, 1) := by decide +kernel
theorem dL_law_1171 : decode code 1171 = .ok (.iload_n 3, 1) := by decide +kernel
theorem dL_law_1172 : decode code 1172 = .ok (.iconst 2, 1) := by decide +kernel
theorem dL_law_1173 : decode code 1173 = .ok (.iadd, 1) := by decide +kernel
theorem dL_law_1174 : decode code 1174 = .ok (.iaload, 1) := by decide +kernel
theorem dL_law_1175 : decode code 1175 = .ok (.invokevirtual 141, 3) := by decide +kernel
theorem dL_law_1178 : decode code 1178 = .ok (.if_icmp .eq 1048, 3) := by decide +kernel
theorem dL_law_1183 : decode code 1183 = .ok (.aload_n 1, 1) := by decide +kernel
theorem dL_law_1184 : decode code 1184 = .ok (.aload_n 0, 1) := by decide +kernel
theorem dL_law_1185 : decode code 1185 = .ok (.iload_n 3, 1) := by decide +kernel
theorem dL_law_1186 : decode code 1186 = .ok (.iconst 1, 1) := by decide +kernel
theorem dL_law_1187 : decode code 1187 = .ok (.iadd, 1) := by decide +kernel
theorem dL_law_1188 : decode code 1188 = .ok (.iaload, 1) := by decide +kernel
theorem dL_law_1189 : decode code 1189 = .ok (.invokevirtual 142, 3) := by decide +kernel
theorem dL_law_1192 : decode code 1192 = .ok (.aload_n 2, 1) := by decide +kernel
theorem dL_law_1193 : decode code 1193 = .ok (.aload_n 0, 1) := by decide +kernel
theorem dL_law_1194 : decode code 1194 = .ok (.iload_n 3, 1) := by decide +kernel
theorem dL_law_1195 : decode code 1195 = .ok (.iconst 1, 1) := by decide +kernel
theorem dL_law_1196 : decode code 1196 = .ok (.iadd, 1) := by decide +kernel
theorem dL_law_1197 : decode code 1197 = .ok (.iaload, 1) := by decide +kernel
theorem dL_law_1198 : decode code 1198 = .ok (.invokevirtual 145, 3) := by decide +kernel
theorem dL_law_1201 : decode code 1201 = .ok (.if_icmp .eq 1025, 3) := by decide +kernel
theorem dL_law_1206 : decode code 1206 = .ok (.aload_n 1, 1) := by decide +kernel
theorem dL_law_1207 : decode code 1207 = .ok (.aload_n 0, 1) := by decide +kernel
theorem dL_law_1208 : decode code 1208 = .ok (.iload_n 3, 1) := by decide +kernel
theorem dL_law_1209 : decode code 1209 = .ok (.iconst 1, 1) := by decide +kernel
theorem dL_law_1210 : decode code 1210 = .ok (.iadd, 1) := by decide +kernel
theorem dL_law_1211 : decode code 1211 = .ok (.iaload, 1) := by decide +kernel
theorem dL_law_1212 : decode code 1212 = .ok (.invokevirtual 146, 3) := by decide +kernel
theorem dL_law_1215 : decode code 1215 = .ok (.aload_n 2, 1) := by decide +kernel
theorem dL_law_1216 : decode code 1216 = .ok (.aload_n 0, 1) := by decide +kernel
theorem dL_law_1217 : decode code 1217 = .ok (.iload_n 3, 1) := by decide +kernel
theorem dL_law_1218 : decode code 1218 = .ok (.iconst 1, 1) := by decide +kernel
theorem dL_law_1219 : decode code 1219 = .ok (.iadd, 1) := by decide +kernel
theorem dL_law_1220 : decode code 1220 = .ok (.iaload, 1) := by decide +kernel
theorem dL_law_1221 : decode code 1221 = .ok (.invokevirtual 149, 3) := by decide +kernel
theorem dL_law_1224 : decode code 1224 = .ok (.if_icmp .eq 1002, 3) := by decide +kernel
theorem dL_law_1229 : decode code 1229 = .ok (.aload_n 1, 1) := by decide +kernel
theorem dL_law_1230 : decode code 1230 = .ok (.aload_n 0, 1) := by decide +kernel
theorem dL_law_1231 : decode code 1231 = .ok (.iload_n 3, 1) := by decide +kernel
theorem dL_law_1232 : decode code 1232 = .ok (.iconst 1, 1) := by decide +kernel
theorem dL_law_1233 : decode code 1233 = .ok (.iadd, 1) := by decide +kernel
theorem dL_law_1234 : decode code 1234 = .ok (.iaload, 1) := by decide +kernel
theorem dL_law_1235 : decode code 1235 = .ok (.invokevirtual 150, 3) := by decide +kernel
theorem dL_law_1238 : decode code 1238 = .ok (.aload_n 2, 1) := by decide +kernel
theorem dL_law_1239 : decode code 1239 = .ok (.aload_n 0, 1) := by decide +kernel
theorem dL_law_1240 : decode code 1240 = .ok (.iload_n 3, 1) := by decide +kernel
theorem dL_law_1241 : decode code 1241 = .ok (.iconst 1, 1) := by decide +kernel
theorem dL_law_1242 : decode code 1242 = .ok (.iadd, 1) := by decide +kernel
theorem dL_law_1243 : decode code 1243 = .ok (.iaload, 1) := by decide +kernel
theorem dL_law_1244 : decode code 1244 = .ok (.invokevirtual 153, 3) := by decide +kernel
theorem dL_law_1247 : decode code 1247 = .ok (.if_icmp .eq 979, 3) := by decide +kernel
theorem dL_law_1252 : decode code 1252 = .ok (.aload_n 1, 1) := by decide +kernel
theorem dL_law_1253 : decode code 1253 = .ok (.aload_n 0, 1) := by decide +kernel
theorem dL_law_1254 : decode code 1254 = .ok (.iload_n 3, 1) := by decide +kernel
theorem dL_law_1255 : decode code 1255 = .ok (.iconst 1, 1) := by decide +kernel
theorem dL_law_1256 : decode code 1256 = .ok (.iadd, 1) := by decide +kernel
theorem dL_law_1257 : decode code 1257 = .ok (.iaload, 1) := by decide +kernel
theorem dL_law_1258 : decode code 1258 = .ok (.aload_n 0, 1) := by decide +kernel
theorem dL_law_1259 : decode code 1259 = .ok (.iload_n 3, 1) := by decide +kernel
theorem dL_law_1260 : decode code 1260 = .ok (.iconst 2, 1) := by decide +kernel
theorem dL_law_1261 : decode code 1261 = .ok (.iadd, 1) := by decide +kernel
theorem dL_law_1262 : decode code 1262 = .ok (.iaload, 1) := by decide +kernel
theorem dL_law_1263 : decode code 1263 = .ok (.invokevirtual 154, 3) := by decide +kernel
theorem dL_law_1266 : decode code 1266 = .ok (.aload_n 2, 1) := by decide +kernel
theorem dL_law_1267 : decode code 1267 = .ok (.aload_n 0, 1) := by decide +kernel
theorem dL_law_1268 : decode code 1268 = .ok (.iload_n 3, 1) := by decide +kernel
theorem dL_law_1269 : decode code 1269 = .ok (.iconst 1, 1) := by decide +kernel
theorem dL_law_1270 : decode code 1270 = .ok (.iadd, 1) := by decide +kernel
theorem dL_law_1271 : decode code 1271 = .ok (.iaload, 1) := by decide +kernel
theorem dL_law_1272 : decode code 1272 = .ok (.aload_n 0, 1) := by decide +kernel
theorem dL_law_1273 : decode code 1273 = .ok (.iload_n 3, 1) := by decide +kernel
theorem dL_law_1274 : decode code 1274 = .ok (.iconst 2, 1) := by decide +kernel
theorem dL_law_1275 : decode code 1275 = .ok (.iadd, 1) := by decide +kernel
theorem dL_law_1276 : decode code 1276 = .ok (.iaload, 1) := by decide +kernel
theorem dL_law_1277 : decode code 1277 = .ok (.invokevirtual 157, 3) := by decide +kernel
theorem dL_law_1280 : decode code 1280 = .ok (.if_icmp .eq 946, 3) := by decide +kernel
set_option maxHeartbeats 4000000 in
set_option maxRecDepth 100000 in
theorem law_23 {p : Program} {e : Env} {s : State} {m : MethodId} {below : List Frame} {meth : Method} {c : Code} {l : Launch} {sb L : Nat} {xs : Nat → Int32} {A : Nat → Prop} {G : va_G} {cI cJ cZ cB cQ : ClassId} (h0 : Nat) (b : Nat → Nat) (br : Nat → Nat) (bt : Nat → Nat) (bi : Nat → Nat) (bc : Nat → Nat) (bn : Nat → Nat) (bs : Nat → Nat) (be : Nat → Nat) (bw : Nat → Nat) (h1 : Nat) (bm : Nat → Nat) {H : Heap} {locs : List Loc} (hL : L = 6) (C0 : lw_At p s m meth c sb L xs) (hAe : A = fun q => s.heap.size ≤ q) (hK : va_K G vwCl (TY cI cJ cZ cB cQ) s) (hZ : nz s) (hP : va_P G vwCl (wX cI cJ cZ cB cQ h0 b br bt bi bc bn bs be bw ++ wM cI cJ cZ cB cQ h1 bm) H) (hD : va_D A (wX cI cJ cZ cB cQ h0 b br bt bi bc bn bs be bw ++ wM cI cJ cZ cB cQ h1 bm)) (hS : va_S A s.heap H locs) (ls : Array Slot) (hl : lv_has ls 4 [(3, .int 0), (2, .ref h1), (1, .ref h0), (0, .ref sb)]) (v : Int32) (hv : v.toInt = 23) : W p l e room_1 s m #[Value.ref sb] below meth c H locs 88 8166 (lw_Z below #[Value.ref sb] s) (F0 m 33 ls [.int v]) := by
  have hL6 : L ≤ 6 := by omega
  obtain ⟨hx, hb, hr, hml, hown, hts0, hX, hbl, hlocks, hgv⟩ := id C0
  have hown : s.vm.findClass RL = some m.cls := hown
  have hts : ∀ q ∈ GW, q.before #[Value.ref sb] s = true := fun q h => hts0 q (List.mem_filter.mp h).1
  have hA : ∀ q : Nat, s.heap.size ≤ q → A q := fun q h => by rw [hAe]; exact h
  have hbA : ¬ A sb := by rw [hAe]; exact Nat.not_le.mpr hbl
  have hLT : (Int32.ofNat L).toInt = (L : Int) := nI_toInt (by omega)
  have hLi : (L : Int) = 6 := by omega
  refine lv_tableIn (off := 916) (tgt := 949) hx hb dL_law_33 (by rw [hv]; decide) (by rw [hv]; decide) (by rw [hv]; rfl) (by decide) ?_
  have hP : va_P G vwCl [(h0, oX9 b), (b 1, oX0 bc 0 0 0 0 0 0 0 0 0 0), (h1, oX10 bm 0 0 0 0 0 0 0 0 (-1) 0 0 0 0 0 0 0 0 0), (bm 1, .inl (cI, 149, .inl (fun _ => 0))), (bm 15, .inl (cZ, 80, .inl (fun _ => 0))), (bm 16, .inl (cI, 7, .inl (fun _ => 0))), (bm 21, .inl (cZ, 80, .inl (fun _ => 0))), (bm 24, .inl (cI, 80, .inl (fun _ => 0))), (bm 25, .inl (cI, 6, .inl (fun _ => 0))), (bm 29, .inl (cI, 6, .inl (fun _ => 0))), (bm 30, .inl (cZ, 1040, .inl (fun _ => 0))), (bm 31, .inl (cI, 1040, .inl (fun _ => 0))), (bm 32, .inl (cI, 78, .inl (fun _ => 0))), (bm 27, .inl (cI, 7, .inl (fun _ => 0)))] H := hP.sub [0, 14, 59, 60, 66, 67, 68, 71, 72, 76, 77, 78, 79, 74] rfl
  have hD : va_D A [(h0, oX9 b), (b 1, oX0 bc 0 0 0 0 0 0 0 0 0 0), (h1, oX10 bm 0 0 0 0 0 0 0 0 (-1) 0 0 0 0 0 0 0 0 0), (bm 1, .inl (cI, 149, .inl (fun _ => 0))), (bm 15, .inl (cZ, 80, .inl (fun _ => 0))), (bm 16, .inl (cI, 7, .inl (fun _ => 0))), (bm 21, .inl (cZ, 80, .inl (fun _ => 0))), (bm 24, .inl (cI, 80, .inl (fun _ => 0))), (bm 25, .inl (cI, 6, .inl (fun _ => 0))), (bm 29, .inl (cI, 6, .inl (fun _ => 0))), (bm 30, .inl (cZ, 1040, .inl (fun _ => 0))), (bm 31, .inl (cI, 1040, .inl (fun _ => 0))), (bm 32, .inl (cI, 78, .inl (fun _ => 0))), (bm 27, .inl (cI, 7, .inl (fun _ => 0)))] := hD.sub [0, 14, 59, 60, 66, 67, 68, 71, 72, 76, 77, 78, 79, 74] rfl rfl
  refine lv_aload_n hx hb dL_law_949 rfl (lv_at hl 2 rfl) ?_
  refine lv_aload_n hx hb dL_law_950 rfl (lv_at hl 3 rfl) ?_
  refine lv_iload_n hx hb dL_law_951 rfl (lv_at hl 0 rfl) ?_
  refine lv_iconst (v := 1) hx hb dL_law_952 (by decide) ?_
  refine lv_iadd hx hb dL_law_953 ?_
  refine lv_topi (fun v1 ev1 => ?_)
  obtain rfl : v1 = 1 := ev1.trans (by decide)
  refine va_sld hx hb hX hbl hbA hS (ix_in ki_1 (by omega) (by omega)) dL_law_954 ?_
  refine W.eq (g2 := F0 m 955 ls [.int (xs 1), .ref h0]) rfl ?_
  refine k_i (wc := [(h0, oX9 b), (b 1, oX0 bc 0 0 0 0 0 0 0 0 0 0)]) (wr := [(h1, oX10 bm 0 0 0 0 0 0 0 0 (-1) 0 0 0 0 0 0 0 0 0), (bm 1, .inl (cI, 149, .inl (fun _ => 0))), (bm 15, .inl (cZ, 80, .inl (fun _ => 0))), (bm 16, .inl (cI, 7, .inl (fun _ => 0))), (bm 21, .inl (cZ, 80, .inl (fun _ => 0))), (bm 24, .inl (cI, 80, .inl (fun _ => 0))), (bm 25, .inl (cI, 6, .inl (fun _ => 0))), (bm 29, .inl (cI, 6, .inl (fun _ => 0))), (bm 30, .inl (cZ, 1040, .inl (fun _ => 0))), (bm 31, .inl (cI, 1040, .inl (fun _ => 0))), (bm 32, .inl (cI, 78, .inl (fun _ => 0))), (bm 27, .inl (cI, 7, .inl (fun _ => 0)))]) hP hD hS hA [0, 1] [2, 3, 4, 5, 6, 7, 8, 9, 10, 11, 12, 13] rfl rfl rfl (by decide) (va_runV (As := [.int (xs 1)]) (rest := []) ⟨hx, hb, hml, hown, hts⟩ (f_X9_rings l G cI cJ cZ cB cQ _ h0 b bc (xs 1)) (cwV 1 hts (gV w_824 w_825 w_826 w_1 w_827) rfl rfl rfl ⟨rfl, hd_X9_rings⟩ ⟨Nat.le_of_ble_eq_true rfl, Nat.le_of_ble_eq_true rfl⟩) (mV hK hZ hP hD [0, 1] rfl rfl [.int (xs 1)] 0 9 rfl rfl) rfl rfl hl.1 rfl (lv_room (Nat.le_of_ble_eq_true rfl)) dL_law_955 ⟨Nat.le_of_ble_eq_true rfl, Nat.le_of_ble_eq_true rfl⟩) (fun r2 u3 H locs hw4 hP hD hS => ?_)
  try dsimp only at hw4
  have hP : va_P G vwCl [(h1, oX10 bm 0 0 0 0 0 0 0 0 (-1) 0 0 0 0 0 0 0 0 0), (bm 1, .inl (cI, 149, .inl (fun _ => 0))), (bm 15, .inl (cZ, 80, .inl (fun _ => 0))), (bm 16, .inl (cI, 7, .inl (fun _ => 0))), (bm 21, .inl (cZ, 80, .inl (fun _ => 0))), (bm 24, .inl (cI, 80, .inl (fun _ => 0))), (bm 25, .inl (cI, 6, .inl (fun _ => 0))), (bm 29, .inl (cI, 6, .inl (fun _ => 0))), (bm 30, .inl (cZ, 1040, .inl (fun _ => 0))), (bm 31, .inl (cI, 1040, .inl (fun _ => 0))), (bm 32, .inl (cI, 78, .inl (fun _ => 0))), (bm 27, .inl (cI, 7, .inl (fun _ => 0))), (h0, oX9 b), (b 1, oX0 bc 0 0 0 0 0 0 0 0 0 0)] H := hP
  have hD : va_D A [(h1, oX10 bm 0 0 0 0 0 0 0 0 (-1) 0 0 0 0 0 0 0 0 0), (bm 1, .inl (cI, 149, .inl (fun _ => 0))), (bm 15, .inl (cZ, 80, .inl (fun _ => 0))), (bm 16, .inl (cI, 7, .inl (fun _ => 0))), (bm 21, .inl (cZ, 80, .inl (fun _ => 0))), (bm 24, .inl (cI, 80, .inl (fun _ => 0))), (bm 25, .inl (cI, 6, .inl (fun _ => 0))), (bm 29, .inl (cI, 6, .inl (fun _ => 0))), (bm 30, .inl (cZ, 1040, .inl (fun _ => 0))), (bm 31, .inl (cI, 1040, .inl (fun _ => 0))), (bm 32, .inl (cI, 78, .inl (fun _ => 0))), (bm 27, .inl (cI, 7, .inl (fun _ => 0))), (h0, oX9 b), (b 1, oX0 bc 0 0 0 0 0 0 0 0 0 0)] := hD
  obtain rfl : r2 = (-2) := hw4
  refine lv_aload_n hx hb dL_law_958 rfl (lv_at hl 1 rfl) ?_
  refine lv_aload_n hx hb dL_law_959 rfl (lv_at hl 3 rfl) ?_
  refine lv_iload_n hx hb dL_law_960 rfl (lv_at hl 0 rfl) ?_
  refine lv_iconst (v := 1) hx hb dL_law_961 (by decide) ?_
  refine lv_iadd hx hb dL_law_962 ?_
  refine lv_topi (fun v5 ev5 => ?_)
  obtain rfl : v5 = 1 := ev5.trans (by decide)
  refine va_sld hx hb hX hbl hbA hS (ix_in ki_1 (by omega) (by omega)) dL_law_963 ?_
  refine W.eq (g2 := F0 m 964 ls [.int (xs 1), .ref h1, .int (-2)]) rfl ?_
  refine k_i (wc := [(h1, oX10 bm 0 0 0 0 0 0 0 0 (-1) 0 0 0 0 0 0 0 0 0), (bm 1, .inl (cI, 149, .inl (fun _ => 0))), (bm 15, .inl (cZ, 80, .inl (fun _ => 0))), (bm 16, .inl (cI, 7, .inl (fun _ => 0))), (bm 21, .inl (cZ, 80, .inl (fun _ => 0))), (bm 24, .inl (cI, 80, .inl (fun _ => 0))), (bm 25, .inl (cI, 6, .inl (fun _ => 0))), (bm 29, .inl (cI, 6, .inl (fun _ => 0))), (bm 30, .inl (cZ, 1040, .inl (fun _ => 0))), (bm 31, .inl (cI, 1040, .inl (fun _ => 0))), (bm 32, .inl (cI, 78, .inl (fun _ => 0))), (bm 27, .inl (cI, 7, .inl (fun _ => 0)))]) (wr := [(h0, oX9 b), (b 1, oX0 bc 0 0 0 0 0 0 0 0 0 0)]) hP hD hS hA [0, 1, 2, 3, 4, 5, 6, 7, 8, 9, 10, 11] [12, 13] rfl rfl rfl (by decide) (va_runV (As := [.int (xs 1)]) (rest := [.int (-2)]) ⟨hx, hb, hml, hown, hts⟩ (f_X10_rings l G cI cJ cZ cB cQ _ h1 bm (xs 1)) (cwV 1 hts (gV w_1719 w_1720 w_1721 w_11 w_1722) rfl rfl rfl ⟨rfl, hd_X10_rings⟩ ⟨Nat.le_of_ble_eq_true rfl, Nat.le_of_ble_eq_true rfl⟩) (mV hK hZ hP hD [0, 1, 2, 3, 4, 5, 6, 7, 8, 9, 10, 11] rfl rfl [.int (xs 1)] 0 10 rfl rfl) rfl rfl hl.1 rfl (lv_room (Nat.le_of_ble_eq_true rfl)) dL_law_964 ⟨Nat.le_of_ble_eq_true rfl, Nat.le_of_ble_eq_true rfl⟩) (fun r6 u7 H locs hw8 hP hD hS => ?_)
  obtain ⟨f09, rfl⟩ : ∃ z, z = u7 := ⟨_, rfl⟩
  try dsimp only at hw8
  have hP : va_P G vwCl [(h0, oX9 b), (b 1, oX0 bc 0 0 0 0 0 0 0 0 0 0), (h1, oX10 bm 0 0 0 0 0 0 0 0 (-1) 0 0 (-1) 0 0 0 0 0 0), (bm 1, .inl (cI, 149, .inl (fun _ => 0))), (bm 15, .inl (cZ, 80, .inl (fun _ => 0))), (bm 16, .inl (cI, 7, .inl (fun _ => 0))), (bm 21, .inl (cZ, 80, .inl (fun _ => 0))), (bm 24, .inl (cI, 80, .inl (fun _ => 0))), (bm 25, .inl (cI, 6, .inl (fun _ => 0))), (bm 29, .inl (cI, 6, .inl (fun _ => 0))), (bm 30, .inl (cZ, 1040, .inl (fun _ => 0))), (bm 31, .inl (cI, 1040, .inl (fun _ => 0))), (bm 32, .inl (cI, 78, .inl (fun _ => 0))), (bm 27, .inl (cI, 7, .inl f09))] H := hP
  have hD : va_D A [(h0, oX9 b), (b 1, oX0 bc 0 0 0 0 0 0 0 0 0 0), (h1, oX10 bm 0 0 0 0 0 0 0 0 (-1) 0 0 (-1) 0 0 0 0 0 0), (bm 1, .inl (cI, 149, .inl (fun _ => 0))), (bm 15, .inl (cZ, 80, .inl (fun _ => 0))), (bm 16, .inl (cI, 7, .inl (fun _ => 0))), (bm 21, .inl (cZ, 80, .inl (fun _ => 0))), (bm 24, .inl (cI, 80, .inl (fun _ => 0))), (bm 25, .inl (cI, 6, .inl (fun _ => 0))), (bm 29, .inl (cI, 6, .inl (fun _ => 0))), (bm 30, .inl (cZ, 1040, .inl (fun _ => 0))), (bm 31, .inl (cI, 1040, .inl (fun _ => 0))), (bm 32, .inl (cI, 78, .inl (fun _ => 0))), (bm 27, .inl (cI, 7, .inl f09))] := hD
  obtain rfl : r6 = (-2) := hw8
  refine lv_icmp_eq (tgt := 2226) hx hb dL_law_967 (by decide) (fun c10 => ?_) (fun c10 => absurd (by decide) c10)
  refine lv_iinc (v := 6) (lv' := [(3, .int 6), (2, .ref h1), (1, .ref h0), (0, .ref sb)]) hx hb dL_law_2226 hl (k := 0) rfl (by decide) (by decide) rfl (fun ls hl => ?_)
  refine lv_goto (tgt := 18) hx hb dL_law_2229 (by decide) ?_
  exact law_exit hL6 C0 hAe hS ls (lv_sub hl [3, 0] rfl) (by decide) (by decide)
set_option maxHeartbeats 4000000 in
set_option maxRecDepth 100000 in
theorem law_24 {p : Program} {e : Env} {s : State} {m : MethodId} {below : List Frame} {meth : Method} {c : Code} {l : Launch} {sb L : Nat} {xs : Nat → Int32} {A : Nat → Prop} {G : va_G} {cI cJ cZ cB cQ : ClassId} (h0 : Nat) (b : Nat → Nat) (br : Nat → Nat) (bt : Nat → Nat) (bi : Nat → Nat) (bc : Nat → Nat) (bn : Nat → Nat) (bs : Nat → Nat) (be : Nat → Nat) (bw : Nat → Nat) (h1 : Nat) (bm : Nat → Nat) {H : Heap} {locs : List Loc} (hL : L = 6) (C0 : lw_At p s m meth c sb L xs) (hAe : A = fun q => s.heap.size ≤ q) (hK : va_K G vwCl (TY cI cJ cZ cB cQ) s) (hZ : nz s) (hP : va_P G vwCl (wX cI cJ cZ cB cQ h0 b br bt bi bc bn bs be bw ++ wM cI cJ cZ cB cQ h1 bm) H) (hD : va_D A (wX cI cJ cZ cB cQ h0 b br bt bi bc bn bs be bw ++ wM cI cJ cZ cB cQ h1 bm)) (hS : va_S A s.heap H locs) (ls : Array Slot) (hl : lv_has ls 4 [(3, .int 0), (2, .ref h1), (1, .ref h0), (0, .ref sb)]) (v : Int32) (hv : v.toInt = 24) : W p l e room_1 s m #[Value.ref sb] below meth c H locs 88 8166 (lw_Z below #[Value.ref sb] s) (F0 m 33 ls [.int v]) := by
  have hL6 : L ≤ 6 := by omega
  obtain ⟨hx, hb, hr, hml, hown, hts0, hX, hbl, hlocks, hgv⟩ := id C0
  have hown : s.vm.findClass RL = some m.cls := hown
  have hts : ∀ q ∈ GW, q.before #[Value.ref sb] s = true := fun q h => hts0 q (List.mem_filter.mp h).1
  have hA : ∀ q : Nat, s.heap.size ≤ q → A q := fun q h => by rw [hAe]; exact h
  have hbA : ¬ A sb := by rw [hAe]; exact Nat.not_le.mpr hbl
  have hLT : (Int32.ofNat L).toInt = (L : Int) := nI_toInt (by omega)
  have hLi : (L : Int) = 6 := by omega
  refine lv_tableIn (off := 939) (tgt := 972) hx hb dL_law_33 (by rw [hv]; decide) (by rw [hv]; decide) (by rw [hv]; rfl) (by decide) ?_
  have hP : va_P G vwCl [(h0, oX9 b), (b 1, oX0 bc 0 0 0 0 0 0 0 0 0 0), (h1, oX10 bm 0 0 0 0 0 0 0 0 (-1) 0 0 0 0 0 0 0 0 0), (bm 1, .inl (cI, 149, .inl (fun _ => 0))), (bm 15, .inl (cZ, 80, .inl (fun _ => 0))), (bm 16, .inl (cI, 7, .inl (fun _ => 0))), (bm 21, .inl (cZ, 80, .inl (fun _ => 0))), (bm 24, .inl (cI, 80, .inl (fun _ => 0))), (bm 25, .inl (cI, 6, .inl (fun _ => 0))), (bm 29, .inl (cI, 6, .inl (fun _ => 0))), (bm 30, .inl (cZ, 1040, .inl (fun _ => 0))), (bm 31, .inl (cI, 1040, .inl (fun _ => 0))), (bm 32, .inl (cI, 78, .inl (fun _ => 0))), (bm 27, .inl (cI, 7, .inl (fun _ => 0)))] H := hP.sub [0, 14, 59, 60, 66, 67, 68, 71, 72, 76, 77, 78, 79, 74] rfl
  have hD : va_D A [(h0, oX9 b), (b 1, oX0 bc 0 0 0 0 0 0 0 0 0 0), (h1, oX10 bm 0 0 0 0 0 0 0 0 (-1) 0 0 0 0 0 0 0 0 0), (bm 1, .inl (cI, 149, .inl (fun _ => 0))), (bm 15, .inl (cZ, 80, .inl (fun _ => 0))), (bm 16, .inl (cI, 7, .inl (fun _ => 0))), (bm 21, .inl (cZ, 80, .inl (fun _ => 0))), (bm 24, .inl (cI, 80, .inl (fun _ => 0))), (bm 25, .inl (cI, 6, .inl (fun _ => 0))), (bm 29, .inl (cI, 6, .inl (fun _ => 0))), (bm 30, .inl (cZ, 1040, .inl (fun _ => 0))), (bm 31, .inl (cI, 1040, .inl (fun _ => 0))), (bm 32, .inl (cI, 78, .inl (fun _ => 0))), (bm 27, .inl (cI, 7, .inl (fun _ => 0)))] := hD.sub [0, 14, 59, 60, 66, 67, 68, 71, 72, 76, 77, 78, 79, 74] rfl rfl
  refine lv_aload_n hx hb dL_law_972 rfl (lv_at hl 2 rfl) ?_
  refine lv_aload_n hx hb dL_law_973 rfl (lv_at hl 3 rfl) ?_
  refine lv_iload_n hx hb dL_law_974 rfl (lv_at hl 0 rfl) ?_
  refine lv_iconst (v := 1) hx hb dL_law_975 (by decide) ?_
  refine lv_iadd hx hb dL_law_976 ?_
  refine lv_topi (fun v1 ev1 => ?_)
  obtain rfl : v1 = 1 := ev1.trans (by decide)
  refine va_sld hx hb hX hbl hbA hS (ix_in ki_1 (by omega) (by omega)) dL_law_977 ?_
  refine W.eq (g2 := F0 m 978 ls [.int (xs 1), .ref h0]) rfl ?_
  refine k_i (wc := [(h0, oX9 b), (b 1, oX0 bc 0 0 0 0 0 0 0 0 0 0)]) (wr := [(h1, oX10 bm 0 0 0 0 0 0 0 0 (-1) 0 0 0 0 0 0 0 0 0), (bm 1, .inl (cI, 149, .inl (fun _ => 0))), (bm 15, .inl (cZ, 80, .inl (fun _ => 0))), (bm 16, .inl (cI, 7, .inl (fun _ => 0))), (bm 21, .inl (cZ, 80, .inl (fun _ => 0))), (bm 24, .inl (cI, 80, .inl (fun _ => 0))), (bm 25, .inl (cI, 6, .inl (fun _ => 0))), (bm 29, .inl (cI, 6, .inl (fun _ => 0))), (bm 30, .inl (cZ, 1040, .inl (fun _ => 0))), (bm 31, .inl (cI, 1040, .inl (fun _ => 0))), (bm 32, .inl (cI, 78, .inl (fun _ => 0))), (bm 27, .inl (cI, 7, .inl (fun _ => 0)))]) hP hD hS hA [0, 1] [2, 3, 4, 5, 6, 7, 8, 9, 10, 11, 12, 13] rfl rfl rfl (by decide) (va_runV (As := [.int (xs 1)]) (rest := []) ⟨hx, hb, hml, hown, hts⟩ (f_X9_bridges l G cI cJ cZ cB cQ _ h0 b bc (xs 1)) (cwV 1 hts (gV w_828 w_829 w_830 w_1 w_831) rfl rfl rfl ⟨rfl, hd_X9_bridges⟩ ⟨Nat.le_of_ble_eq_true rfl, Nat.le_of_ble_eq_true rfl⟩) (mV hK hZ hP hD [0, 1] rfl rfl [.int (xs 1)] 0 9 rfl rfl) rfl rfl hl.1 rfl (lv_room (Nat.le_of_ble_eq_true rfl)) dL_law_978 ⟨Nat.le_of_ble_eq_true rfl, Nat.le_of_ble_eq_true rfl⟩) (fun r2 u3 H locs hw4 hP hD hS => ?_)
  try dsimp only at hw4
  have hP : va_P G vwCl [(h1, oX10 bm 0 0 0 0 0 0 0 0 (-1) 0 0 0 0 0 0 0 0 0), (bm 1, .inl (cI, 149, .inl (fun _ => 0))), (bm 15, .inl (cZ, 80, .inl (fun _ => 0))), (bm 16, .inl (cI, 7, .inl (fun _ => 0))), (bm 21, .inl (cZ, 80, .inl (fun _ => 0))), (bm 24, .inl (cI, 80, .inl (fun _ => 0))), (bm 25, .inl (cI, 6, .inl (fun _ => 0))), (bm 29, .inl (cI, 6, .inl (fun _ => 0))), (bm 30, .inl (cZ, 1040, .inl (fun _ => 0))), (bm 31, .inl (cI, 1040, .inl (fun _ => 0))), (bm 32, .inl (cI, 78, .inl (fun _ => 0))), (bm 27, .inl (cI, 7, .inl (fun _ => 0))), (h0, oX9 b), (b 1, oX0 bc 0 0 0 0 0 0 0 0 0 0)] H := hP
  have hD : va_D A [(h1, oX10 bm 0 0 0 0 0 0 0 0 (-1) 0 0 0 0 0 0 0 0 0), (bm 1, .inl (cI, 149, .inl (fun _ => 0))), (bm 15, .inl (cZ, 80, .inl (fun _ => 0))), (bm 16, .inl (cI, 7, .inl (fun _ => 0))), (bm 21, .inl (cZ, 80, .inl (fun _ => 0))), (bm 24, .inl (cI, 80, .inl (fun _ => 0))), (bm 25, .inl (cI, 6, .inl (fun _ => 0))), (bm 29, .inl (cI, 6, .inl (fun _ => 0))), (bm 30, .inl (cZ, 1040, .inl (fun _ => 0))), (bm 31, .inl (cI, 1040, .inl (fun _ => 0))), (bm 32, .inl (cI, 78, .inl (fun _ => 0))), (bm 27, .inl (cI, 7, .inl (fun _ => 0))), (h0, oX9 b), (b 1, oX0 bc 0 0 0 0 0 0 0 0 0 0)] := hD
  obtain rfl : r2 = (-2) := hw4
  refine lv_aload_n hx hb dL_law_981 rfl (lv_at hl 1 rfl) ?_
  refine lv_aload_n hx hb dL_law_982 rfl (lv_at hl 3 rfl) ?_
  refine lv_iload_n hx hb dL_law_983 rfl (lv_at hl 0 rfl) ?_
  refine lv_iconst (v := 1) hx hb dL_law_984 (by decide) ?_
  refine lv_iadd hx hb dL_law_985 ?_
  refine lv_topi (fun v5 ev5 => ?_)
  obtain rfl : v5 = 1 := ev5.trans (by decide)
  refine va_sld hx hb hX hbl hbA hS (ix_in ki_1 (by omega) (by omega)) dL_law_986 ?_
  refine W.eq (g2 := F0 m 987 ls [.int (xs 1), .ref h1, .int (-2)]) rfl ?_
  refine k_i (wc := [(h1, oX10 bm 0 0 0 0 0 0 0 0 (-1) 0 0 0 0 0 0 0 0 0), (bm 1, .inl (cI, 149, .inl (fun _ => 0))), (bm 15, .inl (cZ, 80, .inl (fun _ => 0))), (bm 16, .inl (cI, 7, .inl (fun _ => 0))), (bm 21, .inl (cZ, 80, .inl (fun _ => 0))), (bm 24, .inl (cI, 80, .inl (fun _ => 0))), (bm 25, .inl (cI, 6, .inl (fun _ => 0))), (bm 29, .inl (cI, 6, .inl (fun _ => 0))), (bm 30, .inl (cZ, 1040, .inl (fun _ => 0))), (bm 31, .inl (cI, 1040, .inl (fun _ => 0))), (bm 32, .inl (cI, 78, .inl (fun _ => 0))), (bm 27, .inl (cI, 7, .inl (fun _ => 0)))]) (wr := [(h0, oX9 b), (b 1, oX0 bc 0 0 0 0 0 0 0 0 0 0)]) hP hD hS hA [0, 1, 2, 3, 4, 5, 6, 7, 8, 9, 10, 11] [12, 13] rfl rfl rfl (by decide) (va_runV (As := [.int (xs 1)]) (rest := [.int (-2)]) ⟨hx, hb, hml, hown, hts⟩ (f_X10_bridges l G cI cJ cZ cB cQ _ h1 bm (xs 1)) (cwV 1 hts (gV w_1723 w_1724 w_1725 w_11 w_1726) rfl rfl rfl ⟨rfl, hd_X10_bridges⟩ ⟨Nat.le_of_ble_eq_true rfl, Nat.le_of_ble_eq_true rfl⟩) (mV hK hZ hP hD [0, 1, 2, 3, 4, 5, 6, 7, 8, 9, 10, 11] rfl rfl [.int (xs 1)] 0 10 rfl rfl) rfl rfl hl.1 rfl (lv_room (Nat.le_of_ble_eq_true rfl)) dL_law_987 ⟨Nat.le_of_ble_eq_true rfl, Nat.le_of_ble_eq_true rfl⟩) (fun r6 u7 H locs hw8 hP hD hS => ?_)
  obtain ⟨f09, rfl⟩ : ∃ z, z = u7 := ⟨_, rfl⟩
  try dsimp only at hw8
  have hP : va_P G vwCl [(h0, oX9 b), (b 1, oX0 bc 0 0 0 0 0 0 0 0 0 0), (h1, oX10 bm 0 0 0 0 0 0 0 0 (-1) 0 0 (-1) 0 0 0 0 0 0), (bm 1, .inl (cI, 149, .inl (fun _ => 0))), (bm 15, .inl (cZ, 80, .inl (fun _ => 0))), (bm 16, .inl (cI, 7, .inl (fun _ => 0))), (bm 21, .inl (cZ, 80, .inl (fun _ => 0))), (bm 24, .inl (cI, 80, .inl (fun _ => 0))), (bm 25, .inl (cI, 6, .inl (fun _ => 0))), (bm 29, .inl (cI, 6, .inl (fun _ => 0))), (bm 30, .inl (cZ, 1040, .inl (fun _ => 0))), (bm 31, .inl (cI, 1040, .inl (fun _ => 0))), (bm 32, .inl (cI, 78, .inl (fun _ => 0))), (bm 27, .inl (cI, 7, .inl f09))] H := hP
  have hD : va_D A [(h0, oX9 b), (b 1, oX0 bc 0 0 0 0 0 0 0 0 0 0), (h1, oX10 bm 0 0 0 0 0 0 0 0 (-1) 0 0 (-1) 0 0 0 0 0 0), (bm 1, .inl (cI, 149, .inl (fun _ => 0))), (bm 15, .inl (cZ, 80, .inl (fun _ => 0))), (bm 16, .inl (cI, 7, .inl (fun _ => 0))), (bm 21, .inl (cZ, 80, .inl (fun _ => 0))), (bm 24, .inl (cI, 80, .inl (fun _ => 0))), (bm 25, .inl (cI, 6, .inl (fun _ => 0))), (bm 29, .inl (cI, 6, .inl (fun _ => 0))), (bm 30, .inl (cZ, 1040, .inl (fun _ => 0))), (bm 31, .inl (cI, 1040, .inl (fun _ => 0))), (bm 32, .inl (cI, 78, .inl (fun _ => 0))), (bm 27, .inl (cI, 7, .inl f09))] := hD
  obtain rfl : r6 = (-2) := hw8
  refine lv_icmp_eq (tgt := 2226) hx hb dL_law_990 (by decide) (fun c10 => ?_) (fun c10 => absurd (by decide) c10)
  refine lv_iinc (v := 6) (lv' := [(3, .int 6), (2, .ref h1), (1, .ref h0), (0, .ref sb)]) hx hb dL_law_2226 hl (k := 0) rfl (by decide) (by decide) rfl (fun ls hl => ?_)
  refine lv_goto (tgt := 18) hx hb dL_law_2229 (by decide) ?_
  exact law_exit hL6 C0 hAe hS ls (lv_sub hl [3, 0] rfl) (by decide) (by decide)
set_option maxHeartbeats 4000000 in
set_option maxRecDepth 100000 in
theorem law_25 {p : Program} {e : Env} {s : State} {m : MethodId} {below : List Frame} {meth : Method} {c : Code} {l : Launch} {sb L : Nat} {xs : Nat → Int32} {A : Nat → Prop} {G : va_G} {cI cJ cZ cB cQ : ClassId} (h0 : Nat) (b : Nat → Nat) (br : Nat → Nat) (bt : Nat → Nat) (bi : Nat → Nat) (bc : Nat → Nat) (bn : Nat → Nat) (bs : Nat → Nat) (be : Nat → Nat) (bw : Nat → Nat) (h1 : Nat) (bm : Nat → Nat) {H : Heap} {locs : List Loc} (hL : L = 6) (C0 : lw_At p s m meth c sb L xs) (hAe : A = fun q => s.heap.size ≤ q) (hK : va_K G vwCl (TY cI cJ cZ cB cQ) s) (hZ : nz s) (hP : va_P G vwCl (wX cI cJ cZ cB cQ h0 b br bt bi bc bn bs be bw ++ wM cI cJ cZ cB cQ h1 bm) H) (hD : va_D A (wX cI cJ cZ cB cQ h0 b br bt bi bc bn bs be bw ++ wM cI cJ cZ cB cQ h1 bm)) (hS : va_S A s.heap H locs) (ls : Array Slot) (hl : lv_has ls 4 [(3, .int 0), (2, .ref h1), (1, .ref h0), (0, .ref sb)]) (v : Int32) (hv : v.toInt = 25) : W p l e room_1 s m #[Value.ref sb] below meth c H locs 88 8166 (lw_Z below #[Value.ref sb] s) (F0 m 33 ls [.int v]) := by
  have hL6 : L ≤ 6 := by omega
  obtain ⟨hx, hb, hr, hml, hown, hts0, hX, hbl, hlocks, hgv⟩ := id C0
  have hown : s.vm.findClass RL = some m.cls := hown
  have hts : ∀ q ∈ GW, q.before #[Value.ref sb] s = true := fun q h => hts0 q (List.mem_filter.mp h).1
  have hA : ∀ q : Nat, s.heap.size ≤ q → A q := fun q h => by rw [hAe]; exact h
  have hbA : ¬ A sb := by rw [hAe]; exact Nat.not_le.mpr hbl
  have hLT : (Int32.ofNat L).toInt = (L : Int) := nI_toInt (by omega)
  have hLi : (L : Int) = 6 := by omega
  refine lv_tableIn (off := 962) (tgt := 995) hx hb dL_law_33 (by rw [hv]; decide) (by rw [hv]; decide) (by rw [hv]; rfl) (by decide) ?_
  have hP : va_P G vwCl [(h0, oX9 b), (b 1, oX0 bc 0 0 0 0 0 0 0 0 0 0), (h1, oX10 bm 0 0 0 0 0 0 0 0 (-1) 0 0 0 0 0 0 0 0 0), (bm 1, .inl (cI, 149, .inl (fun _ => 0))), (bm 15, .inl (cZ, 80, .inl (fun _ => 0))), (bm 16, .inl (cI, 7, .inl (fun _ => 0))), (bm 21, .inl (cZ, 80, .inl (fun _ => 0))), (bm 24, .inl (cI, 80, .inl (fun _ => 0))), (bm 25, .inl (cI, 6, .inl (fun _ => 0))), (bm 29, .inl (cI, 6, .inl (fun _ => 0))), (bm 30, .inl (cZ, 1040, .inl (fun _ => 0))), (bm 31, .inl (cI, 1040, .inl (fun _ => 0))), (bm 32, .inl (cI, 78, .inl (fun _ => 0))), (bm 27, .inl (cI, 7, .inl (fun _ => 0)))] H := hP.sub [0, 14, 59, 60, 66, 67, 68, 71, 72, 76, 77, 78, 79, 74] rfl
  have hD : va_D A [(h0, oX9 b), (b 1, oX0 bc 0 0 0 0 0 0 0 0 0 0), (h1, oX10 bm 0 0 0 0 0 0 0 0 (-1) 0 0 0 0 0 0 0 0 0), (bm 1, .inl (cI, 149, .inl (fun _ => 0))), (bm 15, .inl (cZ, 80, .inl (fun _ => 0))), (bm 16, .inl (cI, 7, .inl (fun _ => 0))), (bm 21, .inl (cZ, 80, .inl (fun _ => 0))), (bm 24, .inl (cI, 80, .inl (fun _ => 0))), (bm 25, .inl (cI, 6, .inl (fun _ => 0))), (bm 29, .inl (cI, 6, .inl (fun _ => 0))), (bm 30, .inl (cZ, 1040, .inl (fun _ => 0))), (bm 31, .inl (cI, 1040, .inl (fun _ => 0))), (bm 32, .inl (cI, 78, .inl (fun _ => 0))), (bm 27, .inl (cI, 7, .inl (fun _ => 0)))] := hD.sub [0, 14, 59, 60, 66, 67, 68, 71, 72, 76, 77, 78, 79, 74] rfl rfl
  refine lv_aload_n hx hb dL_law_995 rfl (lv_at hl 2 rfl) ?_
  refine lv_aload_n hx hb dL_law_996 rfl (lv_at hl 3 rfl) ?_
  refine lv_iload_n hx hb dL_law_997 rfl (lv_at hl 0 rfl) ?_
  refine lv_iconst (v := 1) hx hb dL_law_998 (by decide) ?_
  refine lv_iadd hx hb dL_law_999 ?_
  refine lv_topi (fun v1 ev1 => ?_)
  obtain rfl : v1 = 1 := ev1.trans (by decide)
  refine va_sld hx hb hX hbl hbA hS (ix_in ki_1 (by omega) (by omega)) dL_law_1000 ?_
  refine W.eq (g2 := F0 m 1001 ls [.int (xs 1), .ref h0]) rfl ?_
  refine lv_aload_n hx hb dL_law_1001 rfl (lv_at hl 3 rfl) ?_
  refine lv_iload_n hx hb dL_law_1002 rfl (lv_at hl 0 rfl) ?_
  refine lv_iconst (v := 2) hx hb dL_law_1003 (by decide) ?_
  refine lv_iadd hx hb dL_law_1004 ?_
  refine lv_topi (fun v2 ev2 => ?_)
  obtain rfl : v2 = 2 := ev2.trans (by decide)
  refine va_sld hx hb hX hbl hbA hS (ix_in ki_2 (by omega) (by omega)) dL_law_1005 ?_
  refine W.eq (g2 := F0 m 1006 ls [.int (xs 2), .int (xs 1), .ref h0]) rfl ?_
  refine k_i (wc := [(h0, oX9 b), (b 1, oX0 bc 0 0 0 0 0 0 0 0 0 0)]) (wr := [(h1, oX10 bm 0 0 0 0 0 0 0 0 (-1) 0 0 0 0 0 0 0 0 0), (bm 1, .inl (cI, 149, .inl (fun _ => 0))), (bm 15, .inl (cZ, 80, .inl (fun _ => 0))), (bm 16, .inl (cI, 7, .inl (fun _ => 0))), (bm 21, .inl (cZ, 80, .inl (fun _ => 0))), (bm 24, .inl (cI, 80, .inl (fun _ => 0))), (bm 25, .inl (cI, 6, .inl (fun _ => 0))), (bm 29, .inl (cI, 6, .inl (fun _ => 0))), (bm 30, .inl (cZ, 1040, .inl (fun _ => 0))), (bm 31, .inl (cI, 1040, .inl (fun _ => 0))), (bm 32, .inl (cI, 78, .inl (fun _ => 0))), (bm 27, .inl (cI, 7, .inl (fun _ => 0)))]) hP hD hS hA [0, 1] [2, 3, 4, 5, 6, 7, 8, 9, 10, 11, 12, 13] rfl rfl rfl (by decide) (va_runV (As := [.int (xs 1), .int (xs 2)]) (rest := []) ⟨hx, hb, hml, hown, hts⟩ (f_X9_net l G cI cJ cZ cB cQ _ h0 b bc (xs 1) (xs 2)) (cwV 2 hts (gV w_836 w_837 w_838 w_1 w_839) rfl rfl rfl ⟨rfl, hd_X9_net⟩ ⟨Nat.le_of_ble_eq_true rfl, Nat.le_of_ble_eq_true rfl⟩) (mV hK hZ hP hD [0, 1] rfl rfl [.int (xs 1), .int (xs 2)] 0 9 rfl rfl) rfl rfl hl.1 rfl (lv_room (Nat.le_of_ble_eq_true rfl)) dL_law_1006 ⟨Nat.le_of_ble_eq_true rfl, Nat.le_of_ble_eq_true rfl⟩) (fun r3 u4 H locs hw5 hP hD hS => ?_)
  try dsimp only at hw5
  have hP : va_P G vwCl [(h1, oX10 bm 0 0 0 0 0 0 0 0 (-1) 0 0 0 0 0 0 0 0 0), (bm 1, .inl (cI, 149, .inl (fun _ => 0))), (bm 15, .inl (cZ, 80, .inl (fun _ => 0))), (bm 16, .inl (cI, 7, .inl (fun _ => 0))), (bm 21, .inl (cZ, 80, .inl (fun _ => 0))), (bm 24, .inl (cI, 80, .inl (fun _ => 0))), (bm 25, .inl (cI, 6, .inl (fun _ => 0))), (bm 29, .inl (cI, 6, .inl (fun _ => 0))), (bm 30, .inl (cZ, 1040, .inl (fun _ => 0))), (bm 31, .inl (cI, 1040, .inl (fun _ => 0))), (bm 32, .inl (cI, 78, .inl (fun _ => 0))), (bm 27, .inl (cI, 7, .inl (fun _ => 0))), (h0, oX9 b), (b 1, oX0 bc 0 0 0 0 0 0 0 0 0 0)] H := hP
  have hD : va_D A [(h1, oX10 bm 0 0 0 0 0 0 0 0 (-1) 0 0 0 0 0 0 0 0 0), (bm 1, .inl (cI, 149, .inl (fun _ => 0))), (bm 15, .inl (cZ, 80, .inl (fun _ => 0))), (bm 16, .inl (cI, 7, .inl (fun _ => 0))), (bm 21, .inl (cZ, 80, .inl (fun _ => 0))), (bm 24, .inl (cI, 80, .inl (fun _ => 0))), (bm 25, .inl (cI, 6, .inl (fun _ => 0))), (bm 29, .inl (cI, 6, .inl (fun _ => 0))), (bm 30, .inl (cZ, 1040, .inl (fun _ => 0))), (bm 31, .inl (cI, 1040, .inl (fun _ => 0))), (bm 32, .inl (cI, 78, .inl (fun _ => 0))), (bm 27, .inl (cI, 7, .inl (fun _ => 0))), (h0, oX9 b), (b 1, oX0 bc 0 0 0 0 0 0 0 0 0 0)] := hD
  obtain rfl : r3 = (-2) := hw5
  refine lv_aload_n hx hb dL_law_1009 rfl (lv_at hl 1 rfl) ?_
  refine lv_aload_n hx hb dL_law_1010 rfl (lv_at hl 3 rfl) ?_
  refine lv_iload_n hx hb dL_law_1011 rfl (lv_at hl 0 rfl) ?_
  refine lv_iconst (v := 1) hx hb dL_law_1012 (by decide) ?_
  refine lv_iadd hx hb dL_law_1013 ?_
  refine lv_topi (fun v6 ev6 => ?_)
  obtain rfl : v6 = 1 := ev6.trans (by decide)
  refine va_sld hx hb hX hbl hbA hS (ix_in ki_1 (by omega) (by omega)) dL_law_1014 ?_
  refine W.eq (g2 := F0 m 1015 ls [.int (xs 1), .ref h1, .int (-2)]) rfl ?_
  refine lv_aload_n hx hb dL_law_1015 rfl (lv_at hl 3 rfl) ?_
  refine lv_iload_n hx hb dL_law_1016 rfl (lv_at hl 0 rfl) ?_
  refine lv_iconst (v := 2) hx hb dL_law_1017 (by decide) ?_
  refine lv_iadd hx hb dL_law_1018 ?_
  refine lv_topi (fun v7 ev7 => ?_)
  obtain rfl : v7 = 2 := ev7.trans (by decide)
  refine va_sld hx hb hX hbl hbA hS (ix_in ki_2 (by omega) (by omega)) dL_law_1019 ?_
  refine W.eq (g2 := F0 m 1020 ls [.int (xs 2), .int (xs 1), .ref h1, .int (-2)]) rfl ?_
  refine k_i (wc := [(h1, oX10 bm 0 0 0 0 0 0 0 0 (-1) 0 0 0 0 0 0 0 0 0), (bm 1, .inl (cI, 149, .inl (fun _ => 0))), (bm 15, .inl (cZ, 80, .inl (fun _ => 0))), (bm 16, .inl (cI, 7, .inl (fun _ => 0))), (bm 21, .inl (cZ, 80, .inl (fun _ => 0))), (bm 24, .inl (cI, 80, .inl (fun _ => 0))), (bm 25, .inl (cI, 6, .inl (fun _ => 0))), (bm 29, .inl (cI, 6, .inl (fun _ => 0))), (bm 30, .inl (cZ, 1040, .inl (fun _ => 0))), (bm 31, .inl (cI, 1040, .inl (fun _ => 0))), (bm 32, .inl (cI, 78, .inl (fun _ => 0))), (bm 27, .inl (cI, 7, .inl (fun _ => 0)))]) (wr := [(h0, oX9 b), (b 1, oX0 bc 0 0 0 0 0 0 0 0 0 0)]) hP hD hS hA [0, 1, 2, 3, 4, 5, 6, 7, 8, 9, 10, 11] [12, 13] rfl rfl rfl (by decide) (va_runV (As := [.int (xs 1), .int (xs 2)]) (rest := [.int (-2)]) ⟨hx, hb, hml, hown, hts⟩ (f_X10_net l G cI cJ cZ cB cQ _ h1 bm (xs 1) (xs 2)) (cwV 2 hts (gV w_1660 w_1661 w_1662 w_11 w_1663) rfl rfl rfl ⟨rfl, hd_X10_net⟩ ⟨Nat.le_of_ble_eq_true rfl, Nat.le_of_ble_eq_true rfl⟩) (mV hK hZ hP hD [0, 1, 2, 3, 4, 5, 6, 7, 8, 9, 10, 11] rfl rfl [.int (xs 1), .int (xs 2)] 0 10 rfl rfl) rfl rfl hl.1 rfl (lv_room (Nat.le_of_ble_eq_true rfl)) dL_law_1020 ⟨Nat.le_of_ble_eq_true rfl, Nat.le_of_ble_eq_true rfl⟩) (fun r8 u9 H locs hw10 hP hD hS => ?_)
  obtain ⟨f011, rfl⟩ : ∃ z, z = u9 := ⟨_, rfl⟩
  try dsimp only at hw10
  have hP : va_P G vwCl [(h0, oX9 b), (b 1, oX0 bc 0 0 0 0 0 0 0 0 0 0), (h1, oX10 bm 0 0 0 0 0 0 0 0 (-1) 0 0 (-1) 0 0 0 0 0 0), (bm 1, .inl (cI, 149, .inl (fun _ => 0))), (bm 15, .inl (cZ, 80, .inl (fun _ => 0))), (bm 16, .inl (cI, 7, .inl (fun _ => 0))), (bm 21, .inl (cZ, 80, .inl (fun _ => 0))), (bm 24, .inl (cI, 80, .inl (fun _ => 0))), (bm 25, .inl (cI, 6, .inl (fun _ => 0))), (bm 29, .inl (cI, 6, .inl (fun _ => 0))), (bm 30, .inl (cZ, 1040, .inl (fun _ => 0))), (bm 31, .inl (cI, 1040, .inl (fun _ => 0))), (bm 32, .inl (cI, 78, .inl (fun _ => 0))), (bm 27, .inl (cI, 7, .inl f011))] H := hP
  have hD : va_D A [(h0, oX9 b), (b 1, oX0 bc 0 0 0 0 0 0 0 0 0 0), (h1, oX10 bm 0 0 0 0 0 0 0 0 (-1) 0 0 (-1) 0 0 0 0 0 0), (bm 1, .inl (cI, 149, .inl (fun _ => 0))), (bm 15, .inl (cZ, 80, .inl (fun _ => 0))), (bm 16, .inl (cI, 7, .inl (fun _ => 0))), (bm 21, .inl (cZ, 80, .inl (fun _ => 0))), (bm 24, .inl (cI, 80, .inl (fun _ => 0))), (bm 25, .inl (cI, 6, .inl (fun _ => 0))), (bm 29, .inl (cI, 6, .inl (fun _ => 0))), (bm 30, .inl (cZ, 1040, .inl (fun _ => 0))), (bm 31, .inl (cI, 1040, .inl (fun _ => 0))), (bm 32, .inl (cI, 78, .inl (fun _ => 0))), (bm 27, .inl (cI, 7, .inl f011))] := hD
  obtain rfl : r8 = (-2) := hw10
  refine lv_icmp_eq (tgt := 2226) hx hb dL_law_1023 (by decide) (fun c12 => ?_) (fun c12 => absurd (by decide) c12)
  refine lv_iinc (v := 6) (lv' := [(3, .int 6), (2, .ref h1), (1, .ref h0), (0, .ref sb)]) hx hb dL_law_2226 hl (k := 0) rfl (by decide) (by decide) rfl (fun ls hl => ?_)
  refine lv_goto (tgt := 18) hx hb dL_law_2229 (by decide) ?_
  exact law_exit hL6 C0 hAe hS ls (lv_sub hl [3, 0] rfl) (by decide) (by decide)
set_option maxHeartbeats 4000000 in
set_option maxRecDepth 100000 in
theorem law_26 {p : Program} {e : Env} {s : State} {m : MethodId} {below : List Frame} {meth : Method} {c : Code} {l : Launch} {sb L : Nat} {xs : Nat → Int32} {A : Nat → Prop} {G : va_G} {cI cJ cZ cB cQ : ClassId} (h0 : Nat) (b : Nat → Nat) (br : Nat → Nat) (bt : Nat → Nat) (bi : Nat → Nat) (bc : Nat → Nat) (bn : Nat → Nat) (bs : Nat → Nat) (be : Nat → Nat) (bw : Nat → Nat) (h1 : Nat) (bm : Nat → Nat) {H : Heap} {locs : List Loc} (hL : L = 6) (C0 : lw_At p s m meth c sb L xs) (hAe : A = fun q => s.heap.size ≤ q) (hK : va_K G vwCl (TY cI cJ cZ cB cQ) s) (hZ : nz s) (hP : va_P G vwCl (wX cI cJ cZ cB cQ h0 b br bt bi bc bn bs be bw ++ wM cI cJ cZ cB cQ h1 bm) H) (hD : va_D A (wX cI cJ cZ cB cQ h0 b br bt bi bc bn bs be bw ++ wM cI cJ cZ cB cQ h1 bm)) (hS : va_S A s.heap H locs) (ls : Array Slot) (hl : lv_has ls 4 [(3, .int 0), (2, .ref h1), (1, .ref h0), (0, .ref sb)]) (v : Int32) (hv : v.toInt = 26) : W p l e room_1 s m #[Value.ref sb] below meth c H locs 88 8166 (lw_Z below #[Value.ref sb] s) (F0 m 33 ls [.int v]) := by
  have hL6 : L ≤ 6 := by omega
  obtain ⟨hx, hb, hr, hml, hown, hts0, hX, hbl, hlocks, hgv⟩ := id C0
  have hown : s.vm.findClass RL = some m.cls := hown
  have hts : ∀ q ∈ GW, q.before #[Value.ref sb] s = true := fun q h => hts0 q (List.mem_filter.mp h).1
  have hA : ∀ q : Nat, s.heap.size ≤ q → A q := fun q h => by rw [hAe]; exact h
  have hbA : ¬ A sb := by rw [hAe]; exact Nat.not_le.mpr hbl
  have hLT : (Int32.ofNat L).toInt = (L : Int) := nI_toInt (by omega)
  have hLi : (L : Int) = 6 := by omega
  refine lv_tableIn (off := 995) (tgt := 1028) hx hb dL_law_33 (by rw [hv]; decide) (by rw [hv]; decide) (by rw [hv]; rfl) (by decide) ?_
  have hP : va_P G vwCl [(h0, oX9 b), (b 1, oX0 bc 0 0 0 0 0 0 0 0 0 0), (h1, oX10 bm 0 0 0 0 0 0 0 0 (-1) 0 0 0 0 0 0 0 0 0), (bm 1, .inl (cI, 149, .inl (fun _ => 0))), (bm 15, .inl (cZ, 80, .inl (fun _ => 0))), (bm 16, .inl (cI, 7, .inl (fun _ => 0))), (bm 21, .inl (cZ, 80, .inl (fun _ => 0))), (bm 24, .inl (cI, 80, .inl (fun _ => 0))), (bm 25, .inl (cI, 6, .inl (fun _ => 0))), (bm 29, .inl (cI, 6, .inl (fun _ => 0))), (bm 30, .inl (cZ, 1040, .inl (fun _ => 0))), (bm 31, .inl (cI, 1040, .inl (fun _ => 0))), (bm 32, .inl (cI, 78, .inl (fun _ => 0))), (bm 27, .inl (cI, 7, .inl (fun _ => 0)))] H := hP.sub [0, 14, 59, 60, 66, 67, 68, 71, 72, 76, 77, 78, 79, 74] rfl
  have hD : va_D A [(h0, oX9 b), (b 1, oX0 bc 0 0 0 0 0 0 0 0 0 0), (h1, oX10 bm 0 0 0 0 0 0 0 0 (-1) 0 0 0 0 0 0 0 0 0), (bm 1, .inl (cI, 149, .inl (fun _ => 0))), (bm 15, .inl (cZ, 80, .inl (fun _ => 0))), (bm 16, .inl (cI, 7, .inl (fun _ => 0))), (bm 21, .inl (cZ, 80, .inl (fun _ => 0))), (bm 24, .inl (cI, 80, .inl (fun _ => 0))), (bm 25, .inl (cI, 6, .inl (fun _ => 0))), (bm 29, .inl (cI, 6, .inl (fun _ => 0))), (bm 30, .inl (cZ, 1040, .inl (fun _ => 0))), (bm 31, .inl (cI, 1040, .inl (fun _ => 0))), (bm 32, .inl (cI, 78, .inl (fun _ => 0))), (bm 27, .inl (cI, 7, .inl (fun _ => 0)))] := hD.sub [0, 14, 59, 60, 66, 67, 68, 71, 72, 76, 77, 78, 79, 74] rfl rfl
  refine lv_aload_n hx hb dL_law_1028 rfl (lv_at hl 2 rfl) ?_
  refine lv_aload_n hx hb dL_law_1029 rfl (lv_at hl 3 rfl) ?_
  refine lv_iload_n hx hb dL_law_1030 rfl (lv_at hl 0 rfl) ?_
  refine lv_iconst (v := 1) hx hb dL_law_1031 (by decide) ?_
  refine lv_iadd hx hb dL_law_1032 ?_
  refine lv_topi (fun v1 ev1 => ?_)
  obtain rfl : v1 = 1 := ev1.trans (by decide)
  refine va_sld hx hb hX hbl hbA hS (ix_in ki_1 (by omega) (by omega)) dL_law_1033 ?_
  refine W.eq (g2 := F0 m 1034 ls [.int (xs 1), .ref h0]) rfl ?_
  refine lv_aload_n hx hb dL_law_1034 rfl (lv_at hl 3 rfl) ?_
  refine lv_iload_n hx hb dL_law_1035 rfl (lv_at hl 0 rfl) ?_
  refine lv_iconst (v := 2) hx hb dL_law_1036 (by decide) ?_
  refine lv_iadd hx hb dL_law_1037 ?_
  refine lv_topi (fun v2 ev2 => ?_)
  obtain rfl : v2 = 2 := ev2.trans (by decide)
  refine va_sld hx hb hX hbl hbA hS (ix_in ki_2 (by omega) (by omega)) dL_law_1038 ?_
  refine W.eq (g2 := F0 m 1039 ls [.int (xs 2), .int (xs 1), .ref h0]) rfl ?_
  refine lv_aload_n hx hb dL_law_1039 rfl (lv_at hl 3 rfl) ?_
  refine lv_iload_n hx hb dL_law_1040 rfl (lv_at hl 0 rfl) ?_
  refine lv_iconst (v := 3) hx hb dL_law_1041 (by decide) ?_
  refine lv_iadd hx hb dL_law_1042 ?_
  refine lv_topi (fun v3 ev3 => ?_)
  obtain rfl : v3 = 3 := ev3.trans (by decide)
  refine va_sld hx hb hX hbl hbA hS (ix_in ki_3 (by omega) (by omega)) dL_law_1043 ?_
  refine W.eq (g2 := F0 m 1044 ls [.int (xs 3), .int (xs 2), .int (xs 1), .ref h0]) rfl ?_
  refine k_i (wc := [(h0, oX9 b), (b 1, oX0 bc 0 0 0 0 0 0 0 0 0 0)]) (wr := [(h1, oX10 bm 0 0 0 0 0 0 0 0 (-1) 0 0 0 0 0 0 0 0 0), (bm 1, .inl (cI, 149, .inl (fun _ => 0))), (bm 15, .inl (cZ, 80, .inl (fun _ => 0))), (bm 16, .inl (cI, 7, .inl (fun _ => 0))), (bm 21, .inl (cZ, 80, .inl (fun _ => 0))), (bm 24, .inl (cI, 80, .inl (fun _ => 0))), (bm 25, .inl (cI, 6, .inl (fun _ => 0))), (bm 29, .inl (cI, 6, .inl (fun _ => 0))), (bm 30, .inl (cZ, 1040, .inl (fun _ => 0))), (bm 31, .inl (cI, 1040, .inl (fun _ => 0))), (bm 32, .inl (cI, 78, .inl (fun _ => 0))), (bm 27, .inl (cI, 7, .inl (fun _ => 0)))]) hP hD hS hA [0, 1] [2, 3, 4, 5, 6, 7, 8, 9, 10, 11, 12, 13] rfl rfl rfl (by decide) (va_runV (As := [.int (xs 1), .int (xs 2), .int (xs 3)]) (rest := []) ⟨hx, hb, hml, hown, hts⟩ (f_X9_way l G cI cJ cZ cB cQ _ h0 b bc (xs 1) (xs 2) (xs 3)) (cwV 3 hts (gV w_841 w_842 w_843 w_1 w_844) rfl rfl rfl ⟨rfl, hd_X9_way⟩ ⟨Nat.le_of_ble_eq_true rfl, Nat.le_of_ble_eq_true rfl⟩) (mV hK hZ hP hD [0, 1] rfl rfl [.int (xs 1), .int (xs 2), .int (xs 3)] 0 9 rfl rfl) rfl rfl hl.1 rfl (lv_room (Nat.le_of_ble_eq_true rfl)) dL_law_1044 ⟨Nat.le_of_ble_eq_true rfl, Nat.le_of_ble_eq_true rfl⟩) (fun r4 u5 H locs hw6 hP hD hS => ?_)
  try dsimp only at hw6
  have hP : va_P G vwCl [(h1, oX10 bm 0 0 0 0 0 0 0 0 (-1) 0 0 0 0 0 0 0 0 0), (bm 1, .inl (cI, 149, .inl (fun _ => 0))), (bm 15, .inl (cZ, 80, .inl (fun _ => 0))), (bm 16, .inl (cI, 7, .inl (fun _ => 0))), (bm 21, .inl (cZ, 80, .inl (fun _ => 0))), (bm 24, .inl (cI, 80, .inl (fun _ => 0))), (bm 25, .inl (cI, 6, .inl (fun _ => 0))), (bm 29, .inl (cI, 6, .inl (fun _ => 0))), (bm 30, .inl (cZ, 1040, .inl (fun _ => 0))), (bm 31, .inl (cI, 1040, .inl (fun _ => 0))), (bm 32, .inl (cI, 78, .inl (fun _ => 0))), (bm 27, .inl (cI, 7, .inl (fun _ => 0))), (h0, oX9 b), (b 1, oX0 bc 0 0 0 0 0 0 0 0 0 0)] H := hP
  have hD : va_D A [(h1, oX10 bm 0 0 0 0 0 0 0 0 (-1) 0 0 0 0 0 0 0 0 0), (bm 1, .inl (cI, 149, .inl (fun _ => 0))), (bm 15, .inl (cZ, 80, .inl (fun _ => 0))), (bm 16, .inl (cI, 7, .inl (fun _ => 0))), (bm 21, .inl (cZ, 80, .inl (fun _ => 0))), (bm 24, .inl (cI, 80, .inl (fun _ => 0))), (bm 25, .inl (cI, 6, .inl (fun _ => 0))), (bm 29, .inl (cI, 6, .inl (fun _ => 0))), (bm 30, .inl (cZ, 1040, .inl (fun _ => 0))), (bm 31, .inl (cI, 1040, .inl (fun _ => 0))), (bm 32, .inl (cI, 78, .inl (fun _ => 0))), (bm 27, .inl (cI, 7, .inl (fun _ => 0))), (h0, oX9 b), (b 1, oX0 bc 0 0 0 0 0 0 0 0 0 0)] := hD
  obtain rfl : r4 = (-2) := hw6
  refine lv_aload_n hx hb dL_law_1047 rfl (lv_at hl 1 rfl) ?_
  refine lv_aload_n hx hb dL_law_1048 rfl (lv_at hl 3 rfl) ?_
  refine lv_iload_n hx hb dL_law_1049 rfl (lv_at hl 0 rfl) ?_
  refine lv_iconst (v := 1) hx hb dL_law_1050 (by decide) ?_
  refine lv_iadd hx hb dL_law_1051 ?_
  refine lv_topi (fun v7 ev7 => ?_)
  obtain rfl : v7 = 1 := ev7.trans (by decide)
  refine va_sld hx hb hX hbl hbA hS (ix_in ki_1 (by omega) (by omega)) dL_law_1052 ?_
  refine W.eq (g2 := F0 m 1053 ls [.int (xs 1), .ref h1, .int (-2)]) rfl ?_
  refine lv_aload_n hx hb dL_law_1053 rfl (lv_at hl 3 rfl) ?_
  refine lv_iload_n hx hb dL_law_1054 rfl (lv_at hl 0 rfl) ?_
  refine lv_iconst (v := 2) hx hb dL_law_1055 (by decide) ?_
  refine lv_iadd hx hb dL_law_1056 ?_
  refine lv_topi (fun v8 ev8 => ?_)
  obtain rfl : v8 = 2 := ev8.trans (by decide)
  refine va_sld hx hb hX hbl hbA hS (ix_in ki_2 (by omega) (by omega)) dL_law_1057 ?_
  refine W.eq (g2 := F0 m 1058 ls [.int (xs 2), .int (xs 1), .ref h1, .int (-2)]) rfl ?_
  refine lv_aload_n hx hb dL_law_1058 rfl (lv_at hl 3 rfl) ?_
  refine lv_iload_n hx hb dL_law_1059 rfl (lv_at hl 0 rfl) ?_
  refine lv_iconst (v := 3) hx hb dL_law_1060 (by decide) ?_
  refine lv_iadd hx hb dL_law_1061 ?_
  refine lv_topi (fun v9 ev9 => ?_)
  obtain rfl : v9 = 3 := ev9.trans (by decide)
  refine va_sld hx hb hX hbl hbA hS (ix_in ki_3 (by omega) (by omega)) dL_law_1062 ?_
  refine W.eq (g2 := F0 m 1063 ls [.int (xs 3), .int (xs 2), .int (xs 1), .ref h1, .int (-2)]) rfl ?_
  refine k_i (wc := [(h1, oX10 bm 0 0 0 0 0 0 0 0 (-1) 0 0 0 0 0 0 0 0 0), (bm 1, .inl (cI, 149, .inl (fun _ => 0))), (bm 15, .inl (cZ, 80, .inl (fun _ => 0))), (bm 16, .inl (cI, 7, .inl (fun _ => 0))), (bm 21, .inl (cZ, 80, .inl (fun _ => 0))), (bm 24, .inl (cI, 80, .inl (fun _ => 0))), (bm 25, .inl (cI, 6, .inl (fun _ => 0))), (bm 29, .inl (cI, 6, .inl (fun _ => 0))), (bm 30, .inl (cZ, 1040, .inl (fun _ => 0))), (bm 31, .inl (cI, 1040, .inl (fun _ => 0))), (bm 32, .inl (cI, 78, .inl (fun _ => 0))), (bm 27, .inl (cI, 7, .inl (fun _ => 0)))]) (wr := [(h0, oX9 b), (b 1, oX0 bc 0 0 0 0 0 0 0 0 0 0)]) hP hD hS hA [0, 1, 2, 3, 4, 5, 6, 7, 8, 9, 10, 11] [12, 13] rfl rfl rfl (by decide) (va_runV (As := [.int (xs 1), .int (xs 2), .int (xs 3)]) (rest := [.int (-2)]) ⟨hx, hb, hml, hown, hts⟩ (f_X10_way l G cI cJ cZ cB cQ _ h1 bm (xs 1) (xs 2) (xs 3)) (cwV 3 hts (gV w_1652 w_1653 w_1654 w_11 w_1655) rfl rfl rfl ⟨rfl, hd_X10_way⟩ ⟨Nat.le_of_ble_eq_true rfl, Nat.le_of_ble_eq_true rfl⟩) (mV hK hZ hP hD [0, 1, 2, 3, 4, 5, 6, 7, 8, 9, 10, 11] rfl rfl [.int (xs 1), .int (xs 2), .int (xs 3)] 0 10 rfl rfl) rfl rfl hl.1 rfl (lv_room (Nat.le_of_ble_eq_true rfl)) dL_law_1063 ⟨Nat.le_of_ble_eq_true rfl, Nat.le_of_ble_eq_true rfl⟩) (fun r10 u11 H locs hw12 hP hD hS => ?_)
  obtain ⟨f013, rfl⟩ : ∃ z, z = u11 := ⟨_, rfl⟩
  try dsimp only at hw12
  have hP : va_P G vwCl [(h0, oX9 b), (b 1, oX0 bc 0 0 0 0 0 0 0 0 0 0), (h1, oX10 bm 0 0 0 0 0 0 0 0 (-1) 0 0 (-1) 0 0 0 0 0 0), (bm 1, .inl (cI, 149, .inl (fun _ => 0))), (bm 15, .inl (cZ, 80, .inl (fun _ => 0))), (bm 16, .inl (cI, 7, .inl (fun _ => 0))), (bm 21, .inl (cZ, 80, .inl (fun _ => 0))), (bm 24, .inl (cI, 80, .inl (fun _ => 0))), (bm 25, .inl (cI, 6, .inl (fun _ => 0))), (bm 29, .inl (cI, 6, .inl (fun _ => 0))), (bm 30, .inl (cZ, 1040, .inl (fun _ => 0))), (bm 31, .inl (cI, 1040, .inl (fun _ => 0))), (bm 32, .inl (cI, 78, .inl (fun _ => 0))), (bm 27, .inl (cI, 7, .inl f013))] H := hP
  have hD : va_D A [(h0, oX9 b), (b 1, oX0 bc 0 0 0 0 0 0 0 0 0 0), (h1, oX10 bm 0 0 0 0 0 0 0 0 (-1) 0 0 (-1) 0 0 0 0 0 0), (bm 1, .inl (cI, 149, .inl (fun _ => 0))), (bm 15, .inl (cZ, 80, .inl (fun _ => 0))), (bm 16, .inl (cI, 7, .inl (fun _ => 0))), (bm 21, .inl (cZ, 80, .inl (fun _ => 0))), (bm 24, .inl (cI, 80, .inl (fun _ => 0))), (bm 25, .inl (cI, 6, .inl (fun _ => 0))), (bm 29, .inl (cI, 6, .inl (fun _ => 0))), (bm 30, .inl (cZ, 1040, .inl (fun _ => 0))), (bm 31, .inl (cI, 1040, .inl (fun _ => 0))), (bm 32, .inl (cI, 78, .inl (fun _ => 0))), (bm 27, .inl (cI, 7, .inl f013))] := hD
  obtain rfl : r10 = (-2) := hw12
  refine lv_icmp_eq (tgt := 2226) hx hb dL_law_1066 (by decide) (fun c14 => ?_) (fun c14 => absurd (by decide) c14)
  refine lv_iinc (v := 6) (lv' := [(3, .int 6), (2, .ref h1), (1, .ref h0), (0, .ref sb)]) hx hb dL_law_2226 hl (k := 0) rfl (by decide) (by decide) rfl (fun ls hl => ?_)
  refine lv_goto (tgt := 18) hx hb dL_law_2229 (by decide) ?_
  exact law_exit hL6 C0 hAe hS ls (lv_sub hl [3, 0] rfl) (by decide) (by decide)
set_option maxHeartbeats 4000000 in
set_option maxRecDepth 100000 in
theorem law_27 {p : Program} {e : Env} {s : State} {m : MethodId} {below : List Frame} {meth : Method} {c : Code} {l : Launch} {sb L : Nat} {xs : Nat → Int32} {A : Nat → Prop} {G : va_G} {cI cJ cZ cB cQ : ClassId} (h0 : Nat) (b : Nat → Nat) (br : Nat → Nat) (bt : Nat → Nat) (bi : Nat → Nat) (bc : Nat → Nat) (bn : Nat → Nat) (bs : Nat → Nat) (be : Nat → Nat) (bw : Nat → Nat) (h1 : Nat) (bm : Nat → Nat) {H : Heap} {locs : List Loc} (hL : L = 6) (C0 : lw_At p s m meth c sb L xs) (hAe : A = fun q => s.heap.size ≤ q) (hK : va_K G vwCl (TY cI cJ cZ cB cQ) s) (hZ : nz s) (hP : va_P G vwCl (wX cI cJ cZ cB cQ h0 b br bt bi bc bn bs be bw ++ wM cI cJ cZ cB cQ h1 bm) H) (hD : va_D A (wX cI cJ cZ cB cQ h0 b br bt bi bc bn bs be bw ++ wM cI cJ cZ cB cQ h1 bm)) (hS : va_S A s.heap H locs) (ls : Array Slot) (hl : lv_has ls 4 [(3, .int 0), (2, .ref h1), (1, .ref h0), (0, .ref sb)]) (v : Int32) (hv : v.toInt = 27) : W p l e room_1 s m #[Value.ref sb] below meth c H locs 88 8166 (lw_Z below #[Value.ref sb] s) (F0 m 33 ls [.int v]) := by
  have hL6 : L ≤ 6 := by omega
  obtain ⟨hx, hb, hr, hml, hown, hts0, hX, hbl, hlocks, hgv⟩ := id C0
  have hown : s.vm.findClass RL = some m.cls := hown
  have hts : ∀ q ∈ GW, q.before #[Value.ref sb] s = true := fun q h => hts0 q (List.mem_filter.mp h).1
  have hA : ∀ q : Nat, s.heap.size ≤ q → A q := fun q h => by rw [hAe]; exact h
  have hbA : ¬ A sb := by rw [hAe]; exact Nat.not_le.mpr hbl
  have hLT : (Int32.ofNat L).toInt = (L : Int) := nI_toInt (by omega)
  have hLi : (L : Int) = 6 := by omega
  refine lv_tableIn (off := 1038) (tgt := 1071) hx hb dL_law_33 (by rw [hv]; decide) (by rw [hv]; decide) (by rw [hv]; rfl) (by decide) ?_
  have hP : va_P G vwCl [(h0, oX9 b), (b 1, oX0 bc 0 0 0 0 0 0 0 0 0 0), (h1, oX10 bm 0 0 0 0 0 0 0 0 (-1) 0 0 0 0 0 0 0 0 0), (bm 1, .inl (cI, 149, .inl (fun _ => 0))), (bm 15, .inl (cZ, 80, .inl (fun _ => 0))), (bm 16, .inl (cI, 7, .inl (fun _ => 0))), (bm 21, .inl (cZ, 80, .inl (fun _ => 0))), (bm 24, .inl (cI, 80, .inl (fun _ => 0))), (bm 25, .inl (cI, 6, .inl (fun _ => 0))), (bm 29, .inl (cI, 6, .inl (fun _ => 0))), (bm 30, .inl (cZ, 1040, .inl (fun _ => 0))), (bm 31, .inl (cI, 1040, .inl (fun _ => 0))), (bm 32, .inl (cI, 78, .inl (fun _ => 0))), (bm 27, .inl (cI, 7, .inl (fun _ => 0)))] H := hP.sub [0, 14, 59, 60, 66, 67, 68, 71, 72, 76, 77, 78, 79, 74] rfl
  have hD : va_D A [(h0, oX9 b), (b 1, oX0 bc 0 0 0 0 0 0 0 0 0 0), (h1, oX10 bm 0 0 0 0 0 0 0 0 (-1) 0 0 0 0 0 0 0 0 0), (bm 1, .inl (cI, 149, .inl (fun _ => 0))), (bm 15, .inl (cZ, 80, .inl (fun _ => 0))), (bm 16, .inl (cI, 7, .inl (fun _ => 0))), (bm 21, .inl (cZ, 80, .inl (fun _ => 0))), (bm 24, .inl (cI, 80, .inl (fun _ => 0))), (bm 25, .inl (cI, 6, .inl (fun _ => 0))), (bm 29, .inl (cI, 6, .inl (fun _ => 0))), (bm 30, .inl (cZ, 1040, .inl (fun _ => 0))), (bm 31, .inl (cI, 1040, .inl (fun _ => 0))), (bm 32, .inl (cI, 78, .inl (fun _ => 0))), (bm 27, .inl (cI, 7, .inl (fun _ => 0)))] := hD.sub [0, 14, 59, 60, 66, 67, 68, 71, 72, 76, 77, 78, 79, 74] rfl rfl
  refine lv_aload_n hx hb dL_law_1071 rfl (lv_at hl 2 rfl) ?_
  refine lv_aload_n hx hb dL_law_1072 rfl (lv_at hl 3 rfl) ?_
  refine lv_iload_n hx hb dL_law_1073 rfl (lv_at hl 0 rfl) ?_
  refine lv_iconst (v := 1) hx hb dL_law_1074 (by decide) ?_
  refine lv_iadd hx hb dL_law_1075 ?_
  refine lv_topi (fun v1 ev1 => ?_)
  obtain rfl : v1 = 1 := ev1.trans (by decide)
  refine va_sld hx hb hX hbl hbA hS (ix_in ki_1 (by omega) (by omega)) dL_law_1076 ?_
  refine W.eq (g2 := F0 m 1077 ls [.int (xs 1), .ref h0]) rfl ?_
  refine lv_aload_n hx hb dL_law_1077 rfl (lv_at hl 3 rfl) ?_
  refine lv_iload_n hx hb dL_law_1078 rfl (lv_at hl 0 rfl) ?_
  refine lv_iconst (v := 2) hx hb dL_law_1079 (by decide) ?_
  refine lv_iadd hx hb dL_law_1080 ?_
  refine lv_topi (fun v2 ev2 => ?_)
  obtain rfl : v2 = 2 := ev2.trans (by decide)
  refine va_sld hx hb hX hbl hbA hS (ix_in ki_2 (by omega) (by omega)) dL_law_1081 ?_
  refine W.eq (g2 := F0 m 1082 ls [.int (xs 2), .int (xs 1), .ref h0]) rfl ?_
  refine k_i (wc := [(h0, oX9 b), (b 1, oX0 bc 0 0 0 0 0 0 0 0 0 0)]) (wr := [(h1, oX10 bm 0 0 0 0 0 0 0 0 (-1) 0 0 0 0 0 0 0 0 0), (bm 1, .inl (cI, 149, .inl (fun _ => 0))), (bm 15, .inl (cZ, 80, .inl (fun _ => 0))), (bm 16, .inl (cI, 7, .inl (fun _ => 0))), (bm 21, .inl (cZ, 80, .inl (fun _ => 0))), (bm 24, .inl (cI, 80, .inl (fun _ => 0))), (bm 25, .inl (cI, 6, .inl (fun _ => 0))), (bm 29, .inl (cI, 6, .inl (fun _ => 0))), (bm 30, .inl (cZ, 1040, .inl (fun _ => 0))), (bm 31, .inl (cI, 1040, .inl (fun _ => 0))), (bm 32, .inl (cI, 78, .inl (fun _ => 0))), (bm 27, .inl (cI, 7, .inl (fun _ => 0)))]) hP hD hS hA [0, 1] [2, 3, 4, 5, 6, 7, 8, 9, 10, 11, 12, 13] rfl rfl rfl (by decide) (va_runV (As := [.int (xs 1), .int (xs 2)]) (rest := []) ⟨hx, hb, hml, hown, hts⟩ (f_X9_beeline l G cI cJ cZ cB cQ _ h0 b bc (xs 1) (xs 2)) (cwV 2 hts (gV w_845 w_846 w_847 w_1 w_848) rfl rfl rfl ⟨rfl, hd_X9_beeline⟩ ⟨Nat.le_of_ble_eq_true rfl, Nat.le_of_ble_eq_true rfl⟩) (mV hK hZ hP hD [0, 1] rfl rfl [.int (xs 1), .int (xs 2)] 0 9 rfl rfl) rfl rfl hl.1 rfl (lv_room (Nat.le_of_ble_eq_true rfl)) dL_law_1082 ⟨Nat.le_of_ble_eq_true rfl, Nat.le_of_ble_eq_true rfl⟩) (fun r3 u4 H locs hw5 hP hD hS => ?_)
  try dsimp only at hw5
  have hP : va_P G vwCl [(h1, oX10 bm 0 0 0 0 0 0 0 0 (-1) 0 0 0 0 0 0 0 0 0), (bm 1, .inl (cI, 149, .inl (fun _ => 0))), (bm 15, .inl (cZ, 80, .inl (fun _ => 0))), (bm 16, .inl (cI, 7, .inl (fun _ => 0))), (bm 21, .inl (cZ, 80, .inl (fun _ => 0))), (bm 24, .inl (cI, 80, .inl (fun _ => 0))), (bm 25, .inl (cI, 6, .inl (fun _ => 0))), (bm 29, .inl (cI, 6, .inl (fun _ => 0))), (bm 30, .inl (cZ, 1040, .inl (fun _ => 0))), (bm 31, .inl (cI, 1040, .inl (fun _ => 0))), (bm 32, .inl (cI, 78, .inl (fun _ => 0))), (bm 27, .inl (cI, 7, .inl (fun _ => 0))), (h0, oX9 b), (b 1, oX0 bc 0 0 0 0 0 0 0 0 0 0)] H := hP
  have hD : va_D A [(h1, oX10 bm 0 0 0 0 0 0 0 0 (-1) 0 0 0 0 0 0 0 0 0), (bm 1, .inl (cI, 149, .inl (fun _ => 0))), (bm 15, .inl (cZ, 80, .inl (fun _ => 0))), (bm 16, .inl (cI, 7, .inl (fun _ => 0))), (bm 21, .inl (cZ, 80, .inl (fun _ => 0))), (bm 24, .inl (cI, 80, .inl (fun _ => 0))), (bm 25, .inl (cI, 6, .inl (fun _ => 0))), (bm 29, .inl (cI, 6, .inl (fun _ => 0))), (bm 30, .inl (cZ, 1040, .inl (fun _ => 0))), (bm 31, .inl (cI, 1040, .inl (fun _ => 0))), (bm 32, .inl (cI, 78, .inl (fun _ => 0))), (bm 27, .inl (cI, 7, .inl (fun _ => 0))), (h0, oX9 b), (b 1, oX0 bc 0 0 0 0 0 0 0 0 0 0)] := hD
  obtain rfl : r3 = (-2) := hw5
  refine lv_aload_n hx hb dL_law_1085 rfl (lv_at hl 1 rfl) ?_
  refine lv_aload_n hx hb dL_law_1086 rfl (lv_at hl 3 rfl) ?_
  refine lv_iload_n hx hb dL_law_1087 rfl (lv_at hl 0 rfl) ?_
  refine lv_iconst (v := 1) hx hb dL_law_1088 (by decide) ?_
  refine lv_iadd hx hb dL_law_1089 ?_
  refine lv_topi (fun v6 ev6 => ?_)
  obtain rfl : v6 = 1 := ev6.trans (by decide)
  refine va_sld hx hb hX hbl hbA hS (ix_in ki_1 (by omega) (by omega)) dL_law_1090 ?_
  refine W.eq (g2 := F0 m 1091 ls [.int (xs 1), .ref h1, .int (-2)]) rfl ?_
  refine lv_aload_n hx hb dL_law_1091 rfl (lv_at hl 3 rfl) ?_
  refine lv_iload_n hx hb dL_law_1092 rfl (lv_at hl 0 rfl) ?_
  refine lv_iconst (v := 2) hx hb dL_law_1093 (by decide) ?_
  refine lv_iadd hx hb dL_law_1094 ?_
  refine lv_topi (fun v7 ev7 => ?_)
  obtain rfl : v7 = 2 := ev7.trans (by decide)
  refine va_sld hx hb hX hbl hbA hS (ix_in ki_2 (by omega) (by omega)) dL_law_1095 ?_
  refine W.eq (g2 := F0 m 1096 ls [.int (xs 2), .int (xs 1), .ref h1, .int (-2)]) rfl ?_
  refine k_i (wc := [(h1, oX10 bm 0 0 0 0 0 0 0 0 (-1) 0 0 0 0 0 0 0 0 0), (bm 1, .inl (cI, 149, .inl (fun _ => 0))), (bm 15, .inl (cZ, 80, .inl (fun _ => 0))), (bm 16, .inl (cI, 7, .inl (fun _ => 0))), (bm 21, .inl (cZ, 80, .inl (fun _ => 0))), (bm 24, .inl (cI, 80, .inl (fun _ => 0))), (bm 25, .inl (cI, 6, .inl (fun _ => 0))), (bm 29, .inl (cI, 6, .inl (fun _ => 0))), (bm 30, .inl (cZ, 1040, .inl (fun _ => 0))), (bm 31, .inl (cI, 1040, .inl (fun _ => 0))), (bm 32, .inl (cI, 78, .inl (fun _ => 0))), (bm 27, .inl (cI, 7, .inl (fun _ => 0)))]) (wr := [(h0, oX9 b), (b 1, oX0 bc 0 0 0 0 0 0 0 0 0 0)]) hP hD hS hA [0, 1, 2, 3, 4, 5, 6, 7, 8, 9, 10, 11] [12, 13] rfl rfl rfl (by decide) (va_runV (As := [.int (xs 1), .int (xs 2)]) (rest := [.int (-2)]) ⟨hx, hb, hml, hown, hts⟩ (f_X10_beeline l G cI cJ cZ cB cQ _ h1 bm (xs 1) (xs 2)) (cwV 2 hts (gV w_1648 w_1649 w_1650 w_11 w_1651) rfl rfl rfl ⟨rfl, hd_X10_beeline⟩ ⟨Nat.le_of_ble_eq_true rfl, Nat.le_of_ble_eq_true rfl⟩) (mV hK hZ hP hD [0, 1, 2, 3, 4, 5, 6, 7, 8, 9, 10, 11] rfl rfl [.int (xs 1), .int (xs 2)] 0 10 rfl rfl) rfl rfl hl.1 rfl (lv_room (Nat.le_of_ble_eq_true rfl)) dL_law_1096 ⟨Nat.le_of_ble_eq_true rfl, Nat.le_of_ble_eq_true rfl⟩) (fun r8 u9 H locs hw10 hP hD hS => ?_)
  obtain ⟨f011, rfl⟩ : ∃ z, z = u9 := ⟨_, rfl⟩
  try dsimp only at hw10
  have hP : va_P G vwCl [(h0, oX9 b), (b 1, oX0 bc 0 0 0 0 0 0 0 0 0 0), (h1, oX10 bm 0 0 0 0 0 0 0 0 (-1) 0 0 (-1) 0 0 0 0 0 0), (bm 1, .inl (cI, 149, .inl (fun _ => 0))), (bm 15, .inl (cZ, 80, .inl (fun _ => 0))), (bm 16, .inl (cI, 7, .inl (fun _ => 0))), (bm 21, .inl (cZ, 80, .inl (fun _ => 0))), (bm 24, .inl (cI, 80, .inl (fun _ => 0))), (bm 25, .inl (cI, 6, .inl (fun _ => 0))), (bm 29, .inl (cI, 6, .inl (fun _ => 0))), (bm 30, .inl (cZ, 1040, .inl (fun _ => 0))), (bm 31, .inl (cI, 1040, .inl (fun _ => 0))), (bm 32, .inl (cI, 78, .inl (fun _ => 0))), (bm 27, .inl (cI, 7, .inl f011))] H := hP
  have hD : va_D A [(h0, oX9 b), (b 1, oX0 bc 0 0 0 0 0 0 0 0 0 0), (h1, oX10 bm 0 0 0 0 0 0 0 0 (-1) 0 0 (-1) 0 0 0 0 0 0), (bm 1, .inl (cI, 149, .inl (fun _ => 0))), (bm 15, .inl (cZ, 80, .inl (fun _ => 0))), (bm 16, .inl (cI, 7, .inl (fun _ => 0))), (bm 21, .inl (cZ, 80, .inl (fun _ => 0))), (bm 24, .inl (cI, 80, .inl (fun _ => 0))), (bm 25, .inl (cI, 6, .inl (fun _ => 0))), (bm 29, .inl (cI, 6, .inl (fun _ => 0))), (bm 30, .inl (cZ, 1040, .inl (fun _ => 0))), (bm 31, .inl (cI, 1040, .inl (fun _ => 0))), (bm 32, .inl (cI, 78, .inl (fun _ => 0))), (bm 27, .inl (cI, 7, .inl f011))] := hD
  obtain rfl : r8 = (-2) := hw10
  refine lv_icmp_eq (tgt := 2226) hx hb dL_law_1099 (by decide) (fun c12 => ?_) (fun c12 => absurd (by decide) c12)
  refine lv_iinc (v := 6) (lv' := [(3, .int 6), (2, .ref h1), (1, .ref h0), (0, .ref sb)]) hx hb dL_law_2226 hl (k := 0) rfl (by decide) (by decide) rfl (fun ls hl => ?_)
  refine lv_goto (tgt := 18) hx hb dL_law_2229 (by decide) ?_
  exact law_exit hL6 C0 hAe hS ls (lv_sub hl [3, 0] rfl) (by decide) (by decide)
set_option maxHeartbeats 4000000 in
set_option maxRecDepth 100000 in
theorem law_28 {p : Program} {e : Env} {s : State} {m : MethodId} {below : List Frame} {meth : Method} {c : Code} {l : Launch} {sb L : Nat} {xs : Nat → Int32} {A : Nat → Prop} {G : va_G} {cI cJ cZ cB cQ : ClassId} (h0 : Nat) (b : Nat → Nat) (br : Nat → Nat) (bt : Nat → Nat) (bi : Nat → Nat) (bc : Nat → Nat) (bn : Nat → Nat) (bs : Nat → Nat) (be : Nat → Nat) (bw : Nat → Nat) (h1 : Nat) (bm : Nat → Nat) {H : Heap} {locs : List Loc} (hL : L = 6) (C0 : lw_At p s m meth c sb L xs) (hAe : A = fun q => s.heap.size ≤ q) (hK : va_K G vwCl (TY cI cJ cZ cB cQ) s) (hZ : nz s) (hP : va_P G vwCl (wX cI cJ cZ cB cQ h0 b br bt bi bc bn bs be bw ++ wM cI cJ cZ cB cQ h1 bm) H) (hD : va_D A (wX cI cJ cZ cB cQ h0 b br bt bi bc bn bs be bw ++ wM cI cJ cZ cB cQ h1 bm)) (hS : va_S A s.heap H locs) (ls : Array Slot) (hl : lv_has ls 4 [(3, .int 0), (2, .ref h1), (1, .ref h0), (0, .ref sb)]) (v : Int32) (hv : v.toInt = 28) : W p l e room_1 s m #[Value.ref sb] below meth c H locs 88 8166 (lw_Z below #[Value.ref sb] s) (F0 m 33 ls [.int v]) := by
  have hL6 : L ≤ 6 := by omega
  obtain ⟨hx, hb, hr, hml, hown, hts0, hX, hbl, hlocks, hgv⟩ := id C0
  have hown : s.vm.findClass RL = some m.cls := hown
  have hts : ∀ q ∈ GW, q.before #[Value.ref sb] s = true := fun q h => hts0 q (List.mem_filter.mp h).1
  have hA : ∀ q : Nat, s.heap.size ≤ q → A q := fun q h => by rw [hAe]; exact h
  have hbA : ¬ A sb := by rw [hAe]; exact Nat.not_le.mpr hbl
  have hLT : (Int32.ofNat L).toInt = (L : Int) := nI_toInt (by omega)
  have hLi : (L : Int) = 6 := by omega
  refine lv_tableIn (off := 1071) (tgt := 1104) hx hb dL_law_33 (by rw [hv]; decide) (by rw [hv]; decide) (by rw [hv]; rfl) (by decide) ?_
  have hP : va_P G vwCl [(h0, oX9 b), (b 1, oX0 bc 0 0 0 0 0 0 0 0 0 0), (h1, oX10 bm 0 0 0 0 0 0 0 0 (-1) 0 0 0 0 0 0 0 0 0), (bm 1, .inl (cI, 149, .inl (fun _ => 0))), (bm 15, .inl (cZ, 80, .inl (fun _ => 0))), (bm 16, .inl (cI, 7, .inl (fun _ => 0))), (bm 21, .inl (cZ, 80, .inl (fun _ => 0))), (bm 24, .inl (cI, 80, .inl (fun _ => 0))), (bm 25, .inl (cI, 6, .inl (fun _ => 0))), (bm 29, .inl (cI, 6, .inl (fun _ => 0))), (bm 30, .inl (cZ, 1040, .inl (fun _ => 0))), (bm 31, .inl (cI, 1040, .inl (fun _ => 0))), (bm 32, .inl (cI, 78, .inl (fun _ => 0))), (bm 27, .inl (cI, 7, .inl (fun _ => 0)))] H := hP.sub [0, 14, 59, 60, 66, 67, 68, 71, 72, 76, 77, 78, 79, 74] rfl
  have hD : va_D A [(h0, oX9 b), (b 1, oX0 bc 0 0 0 0 0 0 0 0 0 0), (h1, oX10 bm 0 0 0 0 0 0 0 0 (-1) 0 0 0 0 0 0 0 0 0), (bm 1, .inl (cI, 149, .inl (fun _ => 0))), (bm 15, .inl (cZ, 80, .inl (fun _ => 0))), (bm 16, .inl (cI, 7, .inl (fun _ => 0))), (bm 21, .inl (cZ, 80, .inl (fun _ => 0))), (bm 24, .inl (cI, 80, .inl (fun _ => 0))), (bm 25, .inl (cI, 6, .inl (fun _ => 0))), (bm 29, .inl (cI, 6, .inl (fun _ => 0))), (bm 30, .inl (cZ, 1040, .inl (fun _ => 0))), (bm 31, .inl (cI, 1040, .inl (fun _ => 0))), (bm 32, .inl (cI, 78, .inl (fun _ => 0))), (bm 27, .inl (cI, 7, .inl (fun _ => 0)))] := hD.sub [0, 14, 59, 60, 66, 67, 68, 71, 72, 76, 77, 78, 79, 74] rfl rfl
  refine lv_aload_n hx hb dL_law_1104 rfl (lv_at hl 2 rfl) ?_
  refine lv_aload_n hx hb dL_law_1105 rfl (lv_at hl 3 rfl) ?_
  refine lv_iload_n hx hb dL_law_1106 rfl (lv_at hl 0 rfl) ?_
  refine lv_iconst (v := 1) hx hb dL_law_1107 (by decide) ?_
  refine lv_iadd hx hb dL_law_1108 ?_
  refine lv_topi (fun v1 ev1 => ?_)
  obtain rfl : v1 = 1 := ev1.trans (by decide)
  refine va_sld hx hb hX hbl hbA hS (ix_in ki_1 (by omega) (by omega)) dL_law_1109 ?_
  refine W.eq (g2 := F0 m 1110 ls [.int (xs 1), .ref h0]) rfl ?_
  refine lv_aload_n hx hb dL_law_1110 rfl (lv_at hl 3 rfl) ?_
  refine lv_iload_n hx hb dL_law_1111 rfl (lv_at hl 0 rfl) ?_
  refine lv_iconst (v := 2) hx hb dL_law_1112 (by decide) ?_
  refine lv_iadd hx hb dL_law_1113 ?_
  refine lv_topi (fun v2 ev2 => ?_)
  obtain rfl : v2 = 2 := ev2.trans (by decide)
  refine va_sld hx hb hX hbl hbA hS (ix_in ki_2 (by omega) (by omega)) dL_law_1114 ?_
  refine W.eq (g2 := F0 m 1115 ls [.int (xs 2), .int (xs 1), .ref h0]) rfl ?_
  refine k_i (wc := [(h0, oX9 b), (b 1, oX0 bc 0 0 0 0 0 0 0 0 0 0)]) (wr := [(h1, oX10 bm 0 0 0 0 0 0 0 0 (-1) 0 0 0 0 0 0 0 0 0), (bm 1, .inl (cI, 149, .inl (fun _ => 0))), (bm 15, .inl (cZ, 80, .inl (fun _ => 0))), (bm 16, .inl (cI, 7, .inl (fun _ => 0))), (bm 21, .inl (cZ, 80, .inl (fun _ => 0))), (bm 24, .inl (cI, 80, .inl (fun _ => 0))), (bm 25, .inl (cI, 6, .inl (fun _ => 0))), (bm 29, .inl (cI, 6, .inl (fun _ => 0))), (bm 30, .inl (cZ, 1040, .inl (fun _ => 0))), (bm 31, .inl (cI, 1040, .inl (fun _ => 0))), (bm 32, .inl (cI, 78, .inl (fun _ => 0))), (bm 27, .inl (cI, 7, .inl (fun _ => 0)))]) hP hD hS hA [0, 1] [2, 3, 4, 5, 6, 7, 8, 9, 10, 11, 12, 13] rfl rfl rfl (by decide) (va_runV (As := [.int (xs 1), .int (xs 2)]) (rest := []) ⟨hx, hb, hml, hown, hts⟩ (f_X9_farthest l G cI cJ cZ cB cQ _ h0 b bc (xs 1) (xs 2)) (cwV 2 hts (gV w_849 w_850 w_851 w_1 w_852) rfl rfl rfl ⟨rfl, hd_X9_farthest⟩ ⟨Nat.le_of_ble_eq_true rfl, Nat.le_of_ble_eq_true rfl⟩) (mV hK hZ hP hD [0, 1] rfl rfl [.int (xs 1), .int (xs 2)] 0 9 rfl rfl) rfl rfl hl.1 rfl (lv_room (Nat.le_of_ble_eq_true rfl)) dL_law_1115 ⟨Nat.le_of_ble_eq_true rfl, Nat.le_of_ble_eq_true rfl⟩) (fun r3 u4 H locs hw5 hP hD hS => ?_)
  try dsimp only at hw5
  have hP : va_P G vwCl [(h1, oX10 bm 0 0 0 0 0 0 0 0 (-1) 0 0 0 0 0 0 0 0 0), (bm 1, .inl (cI, 149, .inl (fun _ => 0))), (bm 15, .inl (cZ, 80, .inl (fun _ => 0))), (bm 16, .inl (cI, 7, .inl (fun _ => 0))), (bm 21, .inl (cZ, 80, .inl (fun _ => 0))), (bm 24, .inl (cI, 80, .inl (fun _ => 0))), (bm 25, .inl (cI, 6, .inl (fun _ => 0))), (bm 29, .inl (cI, 6, .inl (fun _ => 0))), (bm 30, .inl (cZ, 1040, .inl (fun _ => 0))), (bm 31, .inl (cI, 1040, .inl (fun _ => 0))), (bm 32, .inl (cI, 78, .inl (fun _ => 0))), (bm 27, .inl (cI, 7, .inl (fun _ => 0))), (h0, oX9 b), (b 1, oX0 bc 0 0 0 0 0 0 0 0 0 0)] H := hP
  have hD : va_D A [(h1, oX10 bm 0 0 0 0 0 0 0 0 (-1) 0 0 0 0 0 0 0 0 0), (bm 1, .inl (cI, 149, .inl (fun _ => 0))), (bm 15, .inl (cZ, 80, .inl (fun _ => 0))), (bm 16, .inl (cI, 7, .inl (fun _ => 0))), (bm 21, .inl (cZ, 80, .inl (fun _ => 0))), (bm 24, .inl (cI, 80, .inl (fun _ => 0))), (bm 25, .inl (cI, 6, .inl (fun _ => 0))), (bm 29, .inl (cI, 6, .inl (fun _ => 0))), (bm 30, .inl (cZ, 1040, .inl (fun _ => 0))), (bm 31, .inl (cI, 1040, .inl (fun _ => 0))), (bm 32, .inl (cI, 78, .inl (fun _ => 0))), (bm 27, .inl (cI, 7, .inl (fun _ => 0))), (h0, oX9 b), (b 1, oX0 bc 0 0 0 0 0 0 0 0 0 0)] := hD
  obtain rfl : r3 = (-2) := hw5
  refine lv_aload_n hx hb dL_law_1118 rfl (lv_at hl 1 rfl) ?_
  refine lv_aload_n hx hb dL_law_1119 rfl (lv_at hl 3 rfl) ?_
  refine lv_iload_n hx hb dL_law_1120 rfl (lv_at hl 0 rfl) ?_
  refine lv_iconst (v := 1) hx hb dL_law_1121 (by decide) ?_
  refine lv_iadd hx hb dL_law_1122 ?_
  refine lv_topi (fun v6 ev6 => ?_)
  obtain rfl : v6 = 1 := ev6.trans (by decide)
  refine va_sld hx hb hX hbl hbA hS (ix_in ki_1 (by omega) (by omega)) dL_law_1123 ?_
  refine W.eq (g2 := F0 m 1124 ls [.int (xs 1), .ref h1, .int (-2)]) rfl ?_
  refine lv_aload_n hx hb dL_law_1124 rfl (lv_at hl 3 rfl) ?_
  refine lv_iload_n hx hb dL_law_1125 rfl (lv_at hl 0 rfl) ?_
  refine lv_iconst (v := 2) hx hb dL_law_1126 (by decide) ?_
  refine lv_iadd hx hb dL_law_1127 ?_
  refine lv_topi (fun v7 ev7 => ?_)
  obtain rfl : v7 = 2 := ev7.trans (by decide)
  refine va_sld hx hb hX hbl hbA hS (ix_in ki_2 (by omega) (by omega)) dL_law_1128 ?_
  refine W.eq (g2 := F0 m 1129 ls [.int (xs 2), .int (xs 1), .ref h1, .int (-2)]) rfl ?_
  refine k_i (wc := [(h1, oX10 bm 0 0 0 0 0 0 0 0 (-1) 0 0 0 0 0 0 0 0 0), (bm 1, .inl (cI, 149, .inl (fun _ => 0))), (bm 15, .inl (cZ, 80, .inl (fun _ => 0))), (bm 16, .inl (cI, 7, .inl (fun _ => 0))), (bm 21, .inl (cZ, 80, .inl (fun _ => 0))), (bm 24, .inl (cI, 80, .inl (fun _ => 0))), (bm 25, .inl (cI, 6, .inl (fun _ => 0))), (bm 29, .inl (cI, 6, .inl (fun _ => 0))), (bm 30, .inl (cZ, 1040, .inl (fun _ => 0))), (bm 31, .inl (cI, 1040, .inl (fun _ => 0))), (bm 32, .inl (cI, 78, .inl (fun _ => 0))), (bm 27, .inl (cI, 7, .inl (fun _ => 0)))]) (wr := [(h0, oX9 b), (b 1, oX0 bc 0 0 0 0 0 0 0 0 0 0)]) hP hD hS hA [0, 1, 2, 3, 4, 5, 6, 7, 8, 9, 10, 11] [12, 13] rfl rfl rfl (by decide) (va_runV (As := [.int (xs 1), .int (xs 2)]) (rest := [.int (-2)]) ⟨hx, hb, hml, hown, hts⟩ (f_X10_farthest l G cI cJ cZ cB cQ _ h1 bm (xs 1) (xs 2)) (cwV 2 hts (gV w_1668 w_1669 w_1670 w_11 w_1671) rfl rfl rfl ⟨rfl, hd_X10_farthest⟩ ⟨Nat.le_of_ble_eq_true rfl, Nat.le_of_ble_eq_true rfl⟩) (mV hK hZ hP hD [0, 1, 2, 3, 4, 5, 6, 7, 8, 9, 10, 11] rfl rfl [.int (xs 1), .int (xs 2)] 0 10 rfl rfl) rfl rfl hl.1 rfl (lv_room (Nat.le_of_ble_eq_true rfl)) dL_law_1129 ⟨Nat.le_of_ble_eq_true rfl, Nat.le_of_ble_eq_true rfl⟩) (fun r8 u9 H locs hw10 hP hD hS => ?_)
  obtain ⟨f011, rfl⟩ : ∃ z, z = u9 := ⟨_, rfl⟩
  try dsimp only at hw10
  have hP : va_P G vwCl [(h0, oX9 b), (b 1, oX0 bc 0 0 0 0 0 0 0 0 0 0), (h1, oX10 bm 0 0 0 0 0 0 0 0 (-1) 0 0 (-1) 0 0 0 0 0 0), (bm 1, .inl (cI, 149, .inl (fun _ => 0))), (bm 15, .inl (cZ, 80, .inl (fun _ => 0))), (bm 16, .inl (cI, 7, .inl (fun _ => 0))), (bm 21, .inl (cZ, 80, .inl (fun _ => 0))), (bm 24, .inl (cI, 80, .inl (fun _ => 0))), (bm 25, .inl (cI, 6, .inl (fun _ => 0))), (bm 29, .inl (cI, 6, .inl (fun _ => 0))), (bm 30, .inl (cZ, 1040, .inl (fun _ => 0))), (bm 31, .inl (cI, 1040, .inl (fun _ => 0))), (bm 32, .inl (cI, 78, .inl (fun _ => 0))), (bm 27, .inl (cI, 7, .inl f011))] H := hP
  have hD : va_D A [(h0, oX9 b), (b 1, oX0 bc 0 0 0 0 0 0 0 0 0 0), (h1, oX10 bm 0 0 0 0 0 0 0 0 (-1) 0 0 (-1) 0 0 0 0 0 0), (bm 1, .inl (cI, 149, .inl (fun _ => 0))), (bm 15, .inl (cZ, 80, .inl (fun _ => 0))), (bm 16, .inl (cI, 7, .inl (fun _ => 0))), (bm 21, .inl (cZ, 80, .inl (fun _ => 0))), (bm 24, .inl (cI, 80, .inl (fun _ => 0))), (bm 25, .inl (cI, 6, .inl (fun _ => 0))), (bm 29, .inl (cI, 6, .inl (fun _ => 0))), (bm 30, .inl (cZ, 1040, .inl (fun _ => 0))), (bm 31, .inl (cI, 1040, .inl (fun _ => 0))), (bm 32, .inl (cI, 78, .inl (fun _ => 0))), (bm 27, .inl (cI, 7, .inl f011))] := hD
  obtain rfl : r8 = (-2) := hw10
  refine lv_icmp_eq (tgt := 2226) hx hb dL_law_1132 (by decide) (fun c12 => ?_) (fun c12 => absurd (by decide) c12)
  refine lv_iinc (v := 6) (lv' := [(3, .int 6), (2, .ref h1), (1, .ref h0), (0, .ref sb)]) hx hb dL_law_2226 hl (k := 0) rfl (by decide) (by decide) rfl (fun ls hl => ?_)
  refine lv_goto (tgt := 18) hx hb dL_law_2229 (by decide) ?_
  exact law_exit hL6 C0 hAe hS ls (lv_sub hl [3, 0] rfl) (by decide) (by decide)
set_option maxHeartbeats 4000000 in
set_option maxRecDepth 100000 in
theorem law_29 {p : Program} {e : Env} {s : State} {m : MethodId} {below : List Frame} {meth : Method} {c : Code} {l : Launch} {sb L : Nat} {xs : Nat → Int32} {A : Nat → Prop} {G : va_G} {cI cJ cZ cB cQ : ClassId} (h0 : Nat) (b : Nat → Nat) (br : Nat → Nat) (bt : Nat → Nat) (bi : Nat → Nat) (bc : Nat → Nat) (bn : Nat → Nat) (bs : Nat → Nat) (be : Nat → Nat) (bw : Nat → Nat) (h1 : Nat) (bm : Nat → Nat) {H : Heap} {locs : List Loc} (hL : L = 6) (C0 : lw_At p s m meth c sb L xs) (hAe : A = fun q => s.heap.size ≤ q) (hK : va_K G vwCl (TY cI cJ cZ cB cQ) s) (hZ : nz s) (hP : va_P G vwCl (wX cI cJ cZ cB cQ h0 b br bt bi bc bn bs be bw ++ wM cI cJ cZ cB cQ h1 bm) H) (hD : va_D A (wX cI cJ cZ cB cQ h0 b br bt bi bc bn bs be bw ++ wM cI cJ cZ cB cQ h1 bm)) (hS : va_S A s.heap H locs) (ls : Array Slot) (hl : lv_has ls 4 [(3, .int 0), (2, .ref h1), (1, .ref h0), (0, .ref sb)]) (v : Int32) (hv : v.toInt = 29) : W p l e room_1 s m #[Value.ref sb] below meth c H locs 88 8166 (lw_Z below #[Value.ref sb] s) (F0 m 33 ls [.int v]) := by
  have hL6 : L ≤ 6 := by omega
  obtain ⟨hx, hb, hr, hml, hown, hts0, hX, hbl, hlocks, hgv⟩ := id C0
  have hown : s.vm.findClass RL = some m.cls := hown
  have hts : ∀ q ∈ GW, q.before #[Value.ref sb] s = true := fun q h => hts0 q (List.mem_filter.mp h).1
  have hA : ∀ q : Nat, s.heap.size ≤ q → A q := fun q h => by rw [hAe]; exact h
  have hbA : ¬ A sb := by rw [hAe]; exact Nat.not_le.mpr hbl
  have hLT : (Int32.ofNat L).toInt = (L : Int) := nI_toInt (by omega)
  have hLi : (L : Int) = 6 := by omega
  refine lv_tableIn (off := 1104) (tgt := 1137) hx hb dL_law_33 (by rw [hv]; decide) (by rw [hv]; decide) (by rw [hv]; rfl) (by decide) ?_
  have hP : va_P G vwCl [(h0, oX9 b), (b 1, oX0 bc 0 0 0 0 0 0 0 0 0 0), (h1, oX10 bm 0 0 0 0 0 0 0 0 (-1) 0 0 0 0 0 0 0 0 0), (bm 1, .inl (cI, 149, .inl (fun _ => 0))), (bm 15, .inl (cZ, 80, .inl (fun _ => 0))), (bm 16, .inl (cI, 7, .inl (fun _ => 0))), (bm 21, .inl (cZ, 80, .inl (fun _ => 0))), (bm 24, .inl (cI, 80, .inl (fun _ => 0))), (bm 25, .inl (cI, 6, .inl (fun _ => 0))), (bm 29, .inl (cI, 6, .inl (fun _ => 0))), (bm 30, .inl (cZ, 1040, .inl (fun _ => 0))), (bm 31, .inl (cI, 1040, .inl (fun _ => 0))), (bm 32, .inl (cI, 78, .inl (fun _ => 0))), (bm 27, .inl (cI, 7, .inl (fun _ => 0)))] H := hP.sub [0, 14, 59, 60, 66, 67, 68, 71, 72, 76, 77, 78, 79, 74] rfl
  have hD : va_D A [(h0, oX9 b), (b 1, oX0 bc 0 0 0 0 0 0 0 0 0 0), (h1, oX10 bm 0 0 0 0 0 0 0 0 (-1) 0 0 0 0 0 0 0 0 0), (bm 1, .inl (cI, 149, .inl (fun _ => 0))), (bm 15, .inl (cZ, 80, .inl (fun _ => 0))), (bm 16, .inl (cI, 7, .inl (fun _ => 0))), (bm 21, .inl (cZ, 80, .inl (fun _ => 0))), (bm 24, .inl (cI, 80, .inl (fun _ => 0))), (bm 25, .inl (cI, 6, .inl (fun _ => 0))), (bm 29, .inl (cI, 6, .inl (fun _ => 0))), (bm 30, .inl (cZ, 1040, .inl (fun _ => 0))), (bm 31, .inl (cI, 1040, .inl (fun _ => 0))), (bm 32, .inl (cI, 78, .inl (fun _ => 0))), (bm 27, .inl (cI, 7, .inl (fun _ => 0)))] := hD.sub [0, 14, 59, 60, 66, 67, 68, 71, 72, 76, 77, 78, 79, 74] rfl rfl
  refine lv_aload_n hx hb dL_law_1137 rfl (lv_at hl 2 rfl) ?_
  refine k_i (wc := [(h0, oX9 b), (b 1, oX0 bc 0 0 0 0 0 0 0 0 0 0)]) (wr := [(h1, oX10 bm 0 0 0 0 0 0 0 0 (-1) 0 0 0 0 0 0 0 0 0), (bm 1, .inl (cI, 149, .inl (fun _ => 0))), (bm 15, .inl (cZ, 80, .inl (fun _ => 0))), (bm 16, .inl (cI, 7, .inl (fun _ => 0))), (bm 21, .inl (cZ, 80, .inl (fun _ => 0))), (bm 24, .inl (cI, 80, .inl (fun _ => 0))), (bm 25, .inl (cI, 6, .inl (fun _ => 0))), (bm 29, .inl (cI, 6, .inl (fun _ => 0))), (bm 30, .inl (cZ, 1040, .inl (fun _ => 0))), (bm 31, .inl (cI, 1040, .inl (fun _ => 0))), (bm 32, .inl (cI, 78, .inl (fun _ => 0))), (bm 27, .inl (cI, 7, .inl (fun _ => 0)))]) hP hD hS hA [0, 1] [2, 3, 4, 5, 6, 7, 8, 9, 10, 11, 12, 13] rfl rfl rfl (by decide) (va_runV (As := []) (rest := []) ⟨hx, hb, hml, hown, hts⟩ (f_X9_crossing l G cI cJ cZ cB cQ _ h0 b bc) (cwV 0 hts (gV w_857 w_858 w_859 w_1 w_860) rfl rfl rfl ⟨rfl, hd_X9_crossing⟩ ⟨Nat.le_of_ble_eq_true rfl, Nat.le_of_ble_eq_true rfl⟩) (mV hK hZ hP hD [0, 1] rfl rfl [] 0 9 rfl rfl) rfl rfl hl.1 rfl (lv_room (Nat.le_of_ble_eq_true rfl)) dL_law_1138 ⟨Nat.le_of_ble_eq_true rfl, Nat.le_of_ble_eq_true rfl⟩) (fun r1 u2 H locs hw3 hP hD hS => ?_)
  try dsimp only at hw3
  have hP : va_P G vwCl [(h1, oX10 bm 0 0 0 0 0 0 0 0 (-1) 0 0 0 0 0 0 0 0 0), (bm 1, .inl (cI, 149, .inl (fun _ => 0))), (bm 15, .inl (cZ, 80, .inl (fun _ => 0))), (bm 16, .inl (cI, 7, .inl (fun _ => 0))), (bm 21, .inl (cZ, 80, .inl (fun _ => 0))), (bm 24, .inl (cI, 80, .inl (fun _ => 0))), (bm 25, .inl (cI, 6, .inl (fun _ => 0))), (bm 29, .inl (cI, 6, .inl (fun _ => 0))), (bm 30, .inl (cZ, 1040, .inl (fun _ => 0))), (bm 31, .inl (cI, 1040, .inl (fun _ => 0))), (bm 32, .inl (cI, 78, .inl (fun _ => 0))), (bm 27, .inl (cI, 7, .inl (fun _ => 0))), (h0, oX9 b), (b 1, oX0 bc 0 0 0 0 0 0 0 0 0 0)] H := hP
  have hD : va_D A [(h1, oX10 bm 0 0 0 0 0 0 0 0 (-1) 0 0 0 0 0 0 0 0 0), (bm 1, .inl (cI, 149, .inl (fun _ => 0))), (bm 15, .inl (cZ, 80, .inl (fun _ => 0))), (bm 16, .inl (cI, 7, .inl (fun _ => 0))), (bm 21, .inl (cZ, 80, .inl (fun _ => 0))), (bm 24, .inl (cI, 80, .inl (fun _ => 0))), (bm 25, .inl (cI, 6, .inl (fun _ => 0))), (bm 29, .inl (cI, 6, .inl (fun _ => 0))), (bm 30, .inl (cZ, 1040, .inl (fun _ => 0))), (bm 31, .inl (cI, 1040, .inl (fun _ => 0))), (bm 32, .inl (cI, 78, .inl (fun _ => 0))), (bm 27, .inl (cI, 7, .inl (fun _ => 0))), (h0, oX9 b), (b 1, oX0 bc 0 0 0 0 0 0 0 0 0 0)] := hD
  obtain rfl : r1 = (-2) := hw3
  refine lv_aload_n hx hb dL_law_1141 rfl (lv_at hl 1 rfl) ?_
  refine k_i (wc := [(h1, oX10 bm 0 0 0 0 0 0 0 0 (-1) 0 0 0 0 0 0 0 0 0), (bm 1, .inl (cI, 149, .inl (fun _ => 0))), (bm 15, .inl (cZ, 80, .inl (fun _ => 0))), (bm 16, .inl (cI, 7, .inl (fun _ => 0))), (bm 21, .inl (cZ, 80, .inl (fun _ => 0))), (bm 24, .inl (cI, 80, .inl (fun _ => 0))), (bm 25, .inl (cI, 6, .inl (fun _ => 0))), (bm 29, .inl (cI, 6, .inl (fun _ => 0))), (bm 30, .inl (cZ, 1040, .inl (fun _ => 0))), (bm 31, .inl (cI, 1040, .inl (fun _ => 0))), (bm 32, .inl (cI, 78, .inl (fun _ => 0))), (bm 27, .inl (cI, 7, .inl (fun _ => 0)))]) (wr := [(h0, oX9 b), (b 1, oX0 bc 0 0 0 0 0 0 0 0 0 0)]) hP hD hS hA [0, 1, 2, 3, 4, 5, 6, 7, 8, 9, 10, 11] [12, 13] rfl rfl rfl (by decide) (va_runV (As := []) (rest := [.int (-2)]) ⟨hx, hb, hml, hown, hts⟩ (f_X10_crossing l G cI cJ cZ cB cQ _ h1 bm) (cwV 0 hts (gV w_1744 w_1745 w_1746 w_11 w_1747) rfl rfl rfl ⟨rfl, hd_X10_crossing⟩ ⟨Nat.le_of_ble_eq_true rfl, Nat.le_of_ble_eq_true rfl⟩) (mV hK hZ hP hD [0, 1, 2, 3, 4, 5, 6, 7, 8, 9, 10, 11] rfl rfl [] 0 10 rfl rfl) rfl rfl hl.1 rfl (lv_room (Nat.le_of_ble_eq_true rfl)) dL_law_1142 ⟨Nat.le_of_ble_eq_true rfl, Nat.le_of_ble_eq_true rfl⟩) (fun r4 u5 H locs hw6 hP hD hS => ?_)
  obtain ⟨f07, rfl⟩ : ∃ z, z = u5 := ⟨_, rfl⟩
  try dsimp only at hw6
  have hP : va_P G vwCl [(h0, oX9 b), (b 1, oX0 bc 0 0 0 0 0 0 0 0 0 0), (h1, oX10 bm 0 0 0 0 0 0 0 0 (-1) 0 0 (-1) 0 0 0 0 0 0), (bm 1, .inl (cI, 149, .inl (fun _ => 0))), (bm 15, .inl (cZ, 80, .inl (fun _ => 0))), (bm 16, .inl (cI, 7, .inl (fun _ => 0))), (bm 21, .inl (cZ, 80, .inl (fun _ => 0))), (bm 24, .inl (cI, 80, .inl (fun _ => 0))), (bm 25, .inl (cI, 6, .inl (fun _ => 0))), (bm 29, .inl (cI, 6, .inl (fun _ => 0))), (bm 30, .inl (cZ, 1040, .inl (fun _ => 0))), (bm 31, .inl (cI, 1040, .inl (fun _ => 0))), (bm 32, .inl (cI, 78, .inl (fun _ => 0))), (bm 27, .inl (cI, 7, .inl f07))] H := hP
  have hD : va_D A [(h0, oX9 b), (b 1, oX0 bc 0 0 0 0 0 0 0 0 0 0), (h1, oX10 bm 0 0 0 0 0 0 0 0 (-1) 0 0 (-1) 0 0 0 0 0 0), (bm 1, .inl (cI, 149, .inl (fun _ => 0))), (bm 15, .inl (cZ, 80, .inl (fun _ => 0))), (bm 16, .inl (cI, 7, .inl (fun _ => 0))), (bm 21, .inl (cZ, 80, .inl (fun _ => 0))), (bm 24, .inl (cI, 80, .inl (fun _ => 0))), (bm 25, .inl (cI, 6, .inl (fun _ => 0))), (bm 29, .inl (cI, 6, .inl (fun _ => 0))), (bm 30, .inl (cZ, 1040, .inl (fun _ => 0))), (bm 31, .inl (cI, 1040, .inl (fun _ => 0))), (bm 32, .inl (cI, 78, .inl (fun _ => 0))), (bm 27, .inl (cI, 7, .inl f07))] := hD
  obtain rfl : r4 = (-2) := hw6
  refine lv_icmp_eq (tgt := 2226) hx hb dL_law_1145 (by decide) (fun c8 => ?_) (fun c8 => absurd (by decide) c8)
  refine lv_iinc (v := 6) (lv' := [(3, .int 6), (2, .ref h1), (1, .ref h0), (0, .ref sb)]) hx hb dL_law_2226 hl (k := 0) rfl (by decide) (by decide) rfl (fun ls hl => ?_)
  refine lv_goto (tgt := 18) hx hb dL_law_2229 (by decide) ?_
  exact law_exit hL6 C0 hAe hS ls (lv_sub hl [3, 0] rfl) (by decide) (by decide)
set_option maxHeartbeats 4000000 in
set_option maxRecDepth 100000 in
theorem law_30 {p : Program} {e : Env} {s : State} {m : MethodId} {below : List Frame} {meth : Method} {c : Code} {l : Launch} {sb L : Nat} {xs : Nat → Int32} {A : Nat → Prop} {G : va_G} {cI cJ cZ cB cQ : ClassId} (h0 : Nat) (b : Nat → Nat) (br : Nat → Nat) (bt : Nat → Nat) (bi : Nat → Nat) (bc : Nat → Nat) (bn : Nat → Nat) (bs : Nat → Nat) (be : Nat → Nat) (bw : Nat → Nat) (h1 : Nat) (bm : Nat → Nat) {H : Heap} {locs : List Loc} (hL : L = 6) (C0 : lw_At p s m meth c sb L xs) (hAe : A = fun q => s.heap.size ≤ q) (hK : va_K G vwCl (TY cI cJ cZ cB cQ) s) (hZ : nz s) (hP : va_P G vwCl (wX cI cJ cZ cB cQ h0 b br bt bi bc bn bs be bw ++ wM cI cJ cZ cB cQ h1 bm) H) (hD : va_D A (wX cI cJ cZ cB cQ h0 b br bt bi bc bn bs be bw ++ wM cI cJ cZ cB cQ h1 bm)) (hS : va_S A s.heap H locs) (ls : Array Slot) (hl : lv_has ls 4 [(3, .int 0), (2, .ref h1), (1, .ref h0), (0, .ref sb)]) (v : Int32) (hv : v.toInt = 30) : W p l e room_1 s m #[Value.ref sb] below meth c H locs 88 8166 (lw_Z below #[Value.ref sb] s) (F0 m 33 ls [.int v]) := by
  have hL6 : L ≤ 6 := by omega
  obtain ⟨hx, hb, hr, hml, hown, hts0, hX, hbl, hlocks, hgv⟩ := id C0
  have hown : s.vm.findClass RL = some m.cls := hown
  have hts : ∀ q ∈ GW, q.before #[Value.ref sb] s = true := fun q h => hts0 q (List.mem_filter.mp h).1
  have hA : ∀ q : Nat, s.heap.size ≤ q → A q := fun q h => by rw [hAe]; exact h
  have hbA : ¬ A sb := by rw [hAe]; exact Nat.not_le.mpr hbl
  have hLT : (Int32.ofNat L).toInt = (L : Int) := nI_toInt (by omega)
  have hLi : (L : Int) = 6 := by omega
  refine lv_tableIn (off := 1117) (tgt := 1150) hx hb dL_law_33 (by rw [hv]; decide) (by rw [hv]; decide) (by rw [hv]; rfl) (by decide) ?_
  have hP : va_P G vwCl [(h0, oX9 b), (b 1, oX0 bc 0 0 0 0 0 0 0 0 0 0), (h1, oX10 bm 0 0 0 0 0 0 0 0 (-1) 0 0 0 0 0 0 0 0 0), (bm 1, .inl (cI, 149, .inl (fun _ => 0))), (bm 15, .inl (cZ, 80, .inl (fun _ => 0))), (bm 16, .inl (cI, 7, .inl (fun _ => 0))), (bm 21, .inl (cZ, 80, .inl (fun _ => 0))), (bm 24, .inl (cI, 80, .inl (fun _ => 0))), (bm 25, .inl (cI, 6, .inl (fun _ => 0))), (bm 29, .inl (cI, 6, .inl (fun _ => 0))), (bm 30, .inl (cZ, 1040, .inl (fun _ => 0))), (bm 31, .inl (cI, 1040, .inl (fun _ => 0))), (bm 32, .inl (cI, 78, .inl (fun _ => 0))), (bm 27, .inl (cI, 7, .inl (fun _ => 0)))] H := hP.sub [0, 14, 59, 60, 66, 67, 68, 71, 72, 76, 77, 78, 79, 74] rfl
  have hD : va_D A [(h0, oX9 b), (b 1, oX0 bc 0 0 0 0 0 0 0 0 0 0), (h1, oX10 bm 0 0 0 0 0 0 0 0 (-1) 0 0 0 0 0 0 0 0 0), (bm 1, .inl (cI, 149, .inl (fun _ => 0))), (bm 15, .inl (cZ, 80, .inl (fun _ => 0))), (bm 16, .inl (cI, 7, .inl (fun _ => 0))), (bm 21, .inl (cZ, 80, .inl (fun _ => 0))), (bm 24, .inl (cI, 80, .inl (fun _ => 0))), (bm 25, .inl (cI, 6, .inl (fun _ => 0))), (bm 29, .inl (cI, 6, .inl (fun _ => 0))), (bm 30, .inl (cZ, 1040, .inl (fun _ => 0))), (bm 31, .inl (cI, 1040, .inl (fun _ => 0))), (bm 32, .inl (cI, 78, .inl (fun _ => 0))), (bm 27, .inl (cI, 7, .inl (fun _ => 0)))] := hD.sub [0, 14, 59, 60, 66, 67, 68, 71, 72, 76, 77, 78, 79, 74] rfl rfl
  refine lv_aload_n hx hb dL_law_1150 rfl (lv_at hl 2 rfl) ?_
  refine lv_aload_n hx hb dL_law_1151 rfl (lv_at hl 3 rfl) ?_
  refine lv_iload_n hx hb dL_law_1152 rfl (lv_at hl 0 rfl) ?_
  refine lv_iconst (v := 1) hx hb dL_law_1153 (by decide) ?_
  refine lv_iadd hx hb dL_law_1154 ?_
  refine lv_topi (fun v1 ev1 => ?_)
  obtain rfl : v1 = 1 := ev1.trans (by decide)
  refine va_sld hx hb hX hbl hbA hS (ix_in ki_1 (by omega) (by omega)) dL_law_1155 ?_
  refine W.eq (g2 := F0 m 1156 ls [.int (xs 1), .ref h0]) rfl ?_
  refine lv_aload_n hx hb dL_law_1156 rfl (lv_at hl 3 rfl) ?_
  refine lv_iload_n hx hb dL_law_1157 rfl (lv_at hl 0 rfl) ?_
  refine lv_iconst (v := 2) hx hb dL_law_1158 (by decide) ?_
  refine lv_iadd hx hb dL_law_1159 ?_
  refine lv_topi (fun v2 ev2 => ?_)
  obtain rfl : v2 = 2 := ev2.trans (by decide)
  refine va_sld hx hb hX hbl hbA hS (ix_in ki_2 (by omega) (by omega)) dL_law_1160 ?_
  refine W.eq (g2 := F0 m 1161 ls [.int (xs 2), .int (xs 1), .ref h0]) rfl ?_
  refine k_i (wc := [(h0, oX9 b), (b 1, oX0 bc 0 0 0 0 0 0 0 0 0 0)]) (wr := [(h1, oX10 bm 0 0 0 0 0 0 0 0 (-1) 0 0 0 0 0 0 0 0 0), (bm 1, .inl (cI, 149, .inl (fun _ => 0))), (bm 15, .inl (cZ, 80, .inl (fun _ => 0))), (bm 16, .inl (cI, 7, .inl (fun _ => 0))), (bm 21, .inl (cZ, 80, .inl (fun _ => 0))), (bm 24, .inl (cI, 80, .inl (fun _ => 0))), (bm 25, .inl (cI, 6, .inl (fun _ => 0))), (bm 29, .inl (cI, 6, .inl (fun _ => 0))), (bm 30, .inl (cZ, 1040, .inl (fun _ => 0))), (bm 31, .inl (cI, 1040, .inl (fun _ => 0))), (bm 32, .inl (cI, 78, .inl (fun _ => 0))), (bm 27, .inl (cI, 7, .inl (fun _ => 0)))]) hP hD hS hA [0, 1] [2, 3, 4, 5, 6, 7, 8, 9, 10, 11, 12, 13] rfl rfl rfl (by decide) (va_runV (As := [.int (xs 1), .int (xs 2)]) (rest := []) ⟨hx, hb, hml, hown, hts⟩ (f_X9_shared l G cI cJ cZ cB cQ _ h0 b bc (xs 1) (xs 2)) (cwV 2 hts (gV w_866 w_867 w_868 w_1 w_869) rfl rfl rfl ⟨rfl, hd_X9_shared⟩ ⟨Nat.le_of_ble_eq_true rfl, Nat.le_of_ble_eq_true rfl⟩) (mV hK hZ hP hD [0, 1] rfl rfl [.int (xs 1), .int (xs 2)] 0 9 rfl rfl) rfl rfl hl.1 rfl (lv_room (Nat.le_of_ble_eq_true rfl)) dL_law_1161 ⟨Nat.le_of_ble_eq_true rfl, Nat.le_of_ble_eq_true rfl⟩) (fun r3 u4 H locs hw5 hP hD hS => ?_)
  try dsimp only at hw5
  have hP : va_P G vwCl [(h1, oX10 bm 0 0 0 0 0 0 0 0 (-1) 0 0 0 0 0 0 0 0 0), (bm 1, .inl (cI, 149, .inl (fun _ => 0))), (bm 15, .inl (cZ, 80, .inl (fun _ => 0))), (bm 16, .inl (cI, 7, .inl (fun _ => 0))), (bm 21, .inl (cZ, 80, .inl (fun _ => 0))), (bm 24, .inl (cI, 80, .inl (fun _ => 0))), (bm 25, .inl (cI, 6, .inl (fun _ => 0))), (bm 29, .inl (cI, 6, .inl (fun _ => 0))), (bm 30, .inl (cZ, 1040, .inl (fun _ => 0))), (bm 31, .inl (cI, 1040, .inl (fun _ => 0))), (bm 32, .inl (cI, 78, .inl (fun _ => 0))), (bm 27, .inl (cI, 7, .inl (fun _ => 0))), (h0, oX9 b), (b 1, oX0 bc 0 0 0 0 0 0 0 0 0 0)] H := hP
  have hD : va_D A [(h1, oX10 bm 0 0 0 0 0 0 0 0 (-1) 0 0 0 0 0 0 0 0 0), (bm 1, .inl (cI, 149, .inl (fun _ => 0))), (bm 15, .inl (cZ, 80, .inl (fun _ => 0))), (bm 16, .inl (cI, 7, .inl (fun _ => 0))), (bm 21, .inl (cZ, 80, .inl (fun _ => 0))), (bm 24, .inl (cI, 80, .inl (fun _ => 0))), (bm 25, .inl (cI, 6, .inl (fun _ => 0))), (bm 29, .inl (cI, 6, .inl (fun _ => 0))), (bm 30, .inl (cZ, 1040, .inl (fun _ => 0))), (bm 31, .inl (cI, 1040, .inl (fun _ => 0))), (bm 32, .inl (cI, 78, .inl (fun _ => 0))), (bm 27, .inl (cI, 7, .inl (fun _ => 0))), (h0, oX9 b), (b 1, oX0 bc 0 0 0 0 0 0 0 0 0 0)] := hD
  obtain rfl : r3 = (-2) := hw5
  refine lv_aload_n hx hb dL_law_1164 rfl (lv_at hl 1 rfl) ?_
  refine lv_aload_n hx hb dL_law_1165 rfl (lv_at hl 3 rfl) ?_
  refine lv_iload_n hx hb dL_law_1166 rfl (lv_at hl 0 rfl) ?_
  refine lv_iconst (v := 1) hx hb dL_law_1167 (by decide) ?_
  refine lv_iadd hx hb dL_law_1168 ?_
  refine lv_topi (fun v6 ev6 => ?_)
  obtain rfl : v6 = 1 := ev6.trans (by decide)
  refine va_sld hx hb hX hbl hbA hS (ix_in ki_1 (by omega) (by omega)) dL_law_1169 ?_
  refine W.eq (g2 := F0 m 1170 ls [.int (xs 1), .ref h1, .int (-2)]) rfl ?_
  refine lv_aload_n hx hb dL_law_1170 rfl (lv_at hl 3 rfl) ?_
  refine lv_iload_n hx hb dL_law_1171 rfl (lv_at hl 0 rfl) ?_
  refine lv_iconst (v := 2) hx hb dL_law_1172 (by decide) ?_
  refine lv_iadd hx hb dL_law_1173 ?_
  refine lv_topi (fun v7 ev7 => ?_)
  obtain rfl : v7 = 2 := ev7.trans (by decide)
  refine va_sld hx hb hX hbl hbA hS (ix_in ki_2 (by omega) (by omega)) dL_law_1174 ?_
  refine W.eq (g2 := F0 m 1175 ls [.int (xs 2), .int (xs 1), .ref h1, .int (-2)]) rfl ?_
  refine k_i (wc := [(h1, oX10 bm 0 0 0 0 0 0 0 0 (-1) 0 0 0 0 0 0 0 0 0), (bm 1, .inl (cI, 149, .inl (fun _ => 0))), (bm 15, .inl (cZ, 80, .inl (fun _ => 0))), (bm 16, .inl (cI, 7, .inl (fun _ => 0))), (bm 21, .inl (cZ, 80, .inl (fun _ => 0))), (bm 24, .inl (cI, 80, .inl (fun _ => 0))), (bm 25, .inl (cI, 6, .inl (fun _ => 0))), (bm 29, .inl (cI, 6, .inl (fun _ => 0))), (bm 30, .inl (cZ, 1040, .inl (fun _ => 0))), (bm 31, .inl (cI, 1040, .inl (fun _ => 0))), (bm 32, .inl (cI, 78, .inl (fun _ => 0))), (bm 27, .inl (cI, 7, .inl (fun _ => 0)))]) (wr := [(h0, oX9 b), (b 1, oX0 bc 0 0 0 0 0 0 0 0 0 0)]) hP hD hS hA [0, 1, 2, 3, 4, 5, 6, 7, 8, 9, 10, 11] [12, 13] rfl rfl rfl (by decide) (va_runV (As := [.int (xs 1), .int (xs 2)]) (rest := [.int (-2)]) ⟨hx, hb, hml, hown, hts⟩ (f_X10_shared l G cI cJ cZ cB cQ _ h1 bm (xs 1) (xs 2)) (cwV 2 hts (gV w_1748 w_1749 w_1750 w_11 w_1751) rfl rfl rfl ⟨rfl, hd_X10_shared⟩ ⟨Nat.le_of_ble_eq_true rfl, Nat.le_of_ble_eq_true rfl⟩) (mV hK hZ hP hD [0, 1, 2, 3, 4, 5, 6, 7, 8, 9, 10, 11] rfl rfl [.int (xs 1), .int (xs 2)] 0 10 rfl rfl) rfl rfl hl.1 rfl (lv_room (Nat.le_of_ble_eq_true rfl)) dL_law_1175 ⟨Nat.le_of_ble_eq_true rfl, Nat.le_of_ble_eq_true rfl⟩) (fun r8 u9 H locs hw10 hP hD hS => ?_)
  obtain ⟨f011, rfl⟩ : ∃ z, z = u9 := ⟨_, rfl⟩
  try dsimp only at hw10
  have hP : va_P G vwCl [(h0, oX9 b), (b 1, oX0 bc 0 0 0 0 0 0 0 0 0 0), (h1, oX10 bm 0 0 0 0 0 0 0 0 (-1) 0 0 (-1) 0 0 0 0 0 0), (bm 1, .inl (cI, 149, .inl (fun _ => 0))), (bm 15, .inl (cZ, 80, .inl (fun _ => 0))), (bm 16, .inl (cI, 7, .inl (fun _ => 0))), (bm 21, .inl (cZ, 80, .inl (fun _ => 0))), (bm 24, .inl (cI, 80, .inl (fun _ => 0))), (bm 25, .inl (cI, 6, .inl (fun _ => 0))), (bm 29, .inl (cI, 6, .inl (fun _ => 0))), (bm 30, .inl (cZ, 1040, .inl (fun _ => 0))), (bm 31, .inl (cI, 1040, .inl (fun _ => 0))), (bm 32, .inl (cI, 78, .inl (fun _ => 0))), (bm 27, .inl (cI, 7, .inl f011))] H := hP
  have hD : va_D A [(h0, oX9 b), (b 1, oX0 bc 0 0 0 0 0 0 0 0 0 0), (h1, oX10 bm 0 0 0 0 0 0 0 0 (-1) 0 0 (-1) 0 0 0 0 0 0), (bm 1, .inl (cI, 149, .inl (fun _ => 0))), (bm 15, .inl (cZ, 80, .inl (fun _ => 0))), (bm 16, .inl (cI, 7, .inl (fun _ => 0))), (bm 21, .inl (cZ, 80, .inl (fun _ => 0))), (bm 24, .inl (cI, 80, .inl (fun _ => 0))), (bm 25, .inl (cI, 6, .inl (fun _ => 0))), (bm 29, .inl (cI, 6, .inl (fun _ => 0))), (bm 30, .inl (cZ, 1040, .inl (fun _ => 0))), (bm 31, .inl (cI, 1040, .inl (fun _ => 0))), (bm 32, .inl (cI, 78, .inl (fun _ => 0))), (bm 27, .inl (cI, 7, .inl f011))] := hD
  obtain rfl : r8 = (-2) := hw10
  refine lv_icmp_eq (tgt := 2226) hx hb dL_law_1178 (by decide) (fun c12 => ?_) (fun c12 => absurd (by decide) c12)
  refine lv_iinc (v := 6) (lv' := [(3, .int 6), (2, .ref h1), (1, .ref h0), (0, .ref sb)]) hx hb dL_law_2226 hl (k := 0) rfl (by decide) (by decide) rfl (fun ls hl => ?_)
  refine lv_goto (tgt := 18) hx hb dL_law_2229 (by decide) ?_
  exact law_exit hL6 C0 hAe hS ls (lv_sub hl [3, 0] rfl) (by decide) (by decide)
set_option maxHeartbeats 4000000 in
set_option maxRecDepth 100000 in
theorem law_31 {p : Program} {e : Env} {s : State} {m : MethodId} {below : List Frame} {meth : Method} {c : Code} {l : Launch} {sb L : Nat} {xs : Nat → Int32} {A : Nat → Prop} {G : va_G} {cI cJ cZ cB cQ : ClassId} (h0 : Nat) (b : Nat → Nat) (br : Nat → Nat) (bt : Nat → Nat) (bi : Nat → Nat) (bc : Nat → Nat) (bn : Nat → Nat) (bs : Nat → Nat) (be : Nat → Nat) (bw : Nat → Nat) (h1 : Nat) (bm : Nat → Nat) {H : Heap} {locs : List Loc} (hL : L = 6) (C0 : lw_At p s m meth c sb L xs) (hAe : A = fun q => s.heap.size ≤ q) (hK : va_K G vwCl (TY cI cJ cZ cB cQ) s) (hZ : nz s) (hP : va_P G vwCl (wX cI cJ cZ cB cQ h0 b br bt bi bc bn bs be bw ++ wM cI cJ cZ cB cQ h1 bm) H) (hD : va_D A (wX cI cJ cZ cB cQ h0 b br bt bi bc bn bs be bw ++ wM cI cJ cZ cB cQ h1 bm)) (hS : va_S A s.heap H locs) (ls : Array Slot) (hl : lv_has ls 4 [(3, .int 0), (2, .ref h1), (1, .ref h0), (0, .ref sb)]) (v : Int32) (hv : v.toInt = 31) : W p l e room_1 s m #[Value.ref sb] below meth c H locs 88 8166 (lw_Z below #[Value.ref sb] s) (F0 m 33 ls [.int v]) := by
  have hL6 : L ≤ 6 := by omega
  obtain ⟨hx, hb, hr, hml, hown, hts0, hX, hbl, hlocks, hgv⟩ := id C0
  have hown : s.vm.findClass RL = some m.cls := hown
  have hts : ∀ q ∈ GW, q.before #[Value.ref sb] s = true := fun q h => hts0 q (List.mem_filter.mp h).1
  have hA : ∀ q : Nat, s.heap.size ≤ q → A q := fun q h => by rw [hAe]; exact h
  have hbA : ¬ A sb := by rw [hAe]; exact Nat.not_le.mpr hbl
  have hLT : (Int32.ofNat L).toInt = (L : Int) := nI_toInt (by omega)
  have hLi : (L : Int) = 6 := by omega
  refine lv_tableIn (off := 1150) (tgt := 1183) hx hb dL_law_33 (by rw [hv]; decide) (by rw [hv]; decide) (by rw [hv]; rfl) (by decide) ?_
  have hP : va_P G vwCl [(h0, oX9 b), (b 1, oX0 bc 0 0 0 0 0 0 0 0 0 0), (h1, oX10 bm 0 0 0 0 0 0 0 0 (-1) 0 0 0 0 0 0 0 0 0), (bm 1, .inl (cI, 149, .inl (fun _ => 0))), (bm 15, .inl (cZ, 80, .inl (fun _ => 0))), (bm 16, .inl (cI, 7, .inl (fun _ => 0))), (bm 21, .inl (cZ, 80, .inl (fun _ => 0))), (bm 24, .inl (cI, 80, .inl (fun _ => 0))), (bm 25, .inl (cI, 6, .inl (fun _ => 0))), (bm 29, .inl (cI, 6, .inl (fun _ => 0))), (bm 30, .inl (cZ, 1040, .inl (fun _ => 0))), (bm 31, .inl (cI, 1040, .inl (fun _ => 0))), (bm 32, .inl (cI, 78, .inl (fun _ => 0))), (bm 27, .inl (cI, 7, .inl (fun _ => 0)))] H := hP.sub [0, 14, 59, 60, 66, 67, 68, 71, 72, 76, 77, 78, 79, 74] rfl
  have hD : va_D A [(h0, oX9 b), (b 1, oX0 bc 0 0 0 0 0 0 0 0 0 0), (h1, oX10 bm 0 0 0 0 0 0 0 0 (-1) 0 0 0 0 0 0 0 0 0), (bm 1, .inl (cI, 149, .inl (fun _ => 0))), (bm 15, .inl (cZ, 80, .inl (fun _ => 0))), (bm 16, .inl (cI, 7, .inl (fun _ => 0))), (bm 21, .inl (cZ, 80, .inl (fun _ => 0))), (bm 24, .inl (cI, 80, .inl (fun _ => 0))), (bm 25, .inl (cI, 6, .inl (fun _ => 0))), (bm 29, .inl (cI, 6, .inl (fun _ => 0))), (bm 30, .inl (cZ, 1040, .inl (fun _ => 0))), (bm 31, .inl (cI, 1040, .inl (fun _ => 0))), (bm 32, .inl (cI, 78, .inl (fun _ => 0))), (bm 27, .inl (cI, 7, .inl (fun _ => 0)))] := hD.sub [0, 14, 59, 60, 66, 67, 68, 71, 72, 76, 77, 78, 79, 74] rfl rfl
  refine lv_aload_n hx hb dL_law_1183 rfl (lv_at hl 2 rfl) ?_
  refine lv_aload_n hx hb dL_law_1184 rfl (lv_at hl 3 rfl) ?_
  refine lv_iload_n hx hb dL_law_1185 rfl (lv_at hl 0 rfl) ?_
  refine lv_iconst (v := 1) hx hb dL_law_1186 (by decide) ?_
  refine lv_iadd hx hb dL_law_1187 ?_
  refine lv_topi (fun v1 ev1 => ?_)
  obtain rfl : v1 = 1 := ev1.trans (by decide)
  refine va_sld hx hb hX hbl hbA hS (ix_in ki_1 (by omega) (by omega)) dL_law_1188 ?_
  refine W.eq (g2 := F0 m 1189 ls [.int (xs 1), .ref h0]) rfl ?_
  refine k_i (wc := [(h0, oX9 b), (b 1, oX0 bc 0 0 0 0 0 0 0 0 0 0)]) (wr := [(h1, oX10 bm 0 0 0 0 0 0 0 0 (-1) 0 0 0 0 0 0 0 0 0), (bm 1, .inl (cI, 149, .inl (fun _ => 0))), (bm 15, .inl (cZ, 80, .inl (fun _ => 0))), (bm 16, .inl (cI, 7, .inl (fun _ => 0))), (bm 21, .inl (cZ, 80, .inl (fun _ => 0))), (bm 24, .inl (cI, 80, .inl (fun _ => 0))), (bm 25, .inl (cI, 6, .inl (fun _ => 0))), (bm 29, .inl (cI, 6, .inl (fun _ => 0))), (bm 30, .inl (cZ, 1040, .inl (fun _ => 0))), (bm 31, .inl (cI, 1040, .inl (fun _ => 0))), (bm 32, .inl (cI, 78, .inl (fun _ => 0))), (bm 27, .inl (cI, 7, .inl (fun _ => 0)))]) hP hD hS hA [0, 1] [2, 3, 4, 5, 6, 7, 8, 9, 10, 11, 12, 13] rfl rfl rfl (by decide) (va_runV (As := [.int (xs 1)]) (rest := []) ⟨hx, hb, hml, hown, hts⟩ (f_X9_walked l G cI cJ cZ cB cQ _ h0 b bc (xs 1)) (cwV 1 hts (gV w_870 w_871 w_872 w_1 w_873) rfl rfl rfl ⟨rfl, hd_X9_walked⟩ ⟨Nat.le_of_ble_eq_true rfl, Nat.le_of_ble_eq_true rfl⟩) (mV hK hZ hP hD [0, 1] rfl rfl [.int (xs 1)] 0 9 rfl rfl) rfl rfl hl.1 rfl (lv_room (Nat.le_of_ble_eq_true rfl)) dL_law_1189 ⟨Nat.le_of_ble_eq_true rfl, Nat.le_of_ble_eq_true rfl⟩) (fun r2 u3 H locs hw4 hP hD hS => ?_)
  try dsimp only at hw4
  have hP : va_P G vwCl [(h1, oX10 bm 0 0 0 0 0 0 0 0 (-1) 0 0 0 0 0 0 0 0 0), (bm 1, .inl (cI, 149, .inl (fun _ => 0))), (bm 15, .inl (cZ, 80, .inl (fun _ => 0))), (bm 16, .inl (cI, 7, .inl (fun _ => 0))), (bm 21, .inl (cZ, 80, .inl (fun _ => 0))), (bm 24, .inl (cI, 80, .inl (fun _ => 0))), (bm 25, .inl (cI, 6, .inl (fun _ => 0))), (bm 29, .inl (cI, 6, .inl (fun _ => 0))), (bm 30, .inl (cZ, 1040, .inl (fun _ => 0))), (bm 31, .inl (cI, 1040, .inl (fun _ => 0))), (bm 32, .inl (cI, 78, .inl (fun _ => 0))), (bm 27, .inl (cI, 7, .inl (fun _ => 0))), (h0, oX9 b), (b 1, oX0 bc 0 0 0 0 0 0 0 0 0 0)] H := hP
  have hD : va_D A [(h1, oX10 bm 0 0 0 0 0 0 0 0 (-1) 0 0 0 0 0 0 0 0 0), (bm 1, .inl (cI, 149, .inl (fun _ => 0))), (bm 15, .inl (cZ, 80, .inl (fun _ => 0))), (bm 16, .inl (cI, 7, .inl (fun _ => 0))), (bm 21, .inl (cZ, 80, .inl (fun _ => 0))), (bm 24, .inl (cI, 80, .inl (fun _ => 0))), (bm 25, .inl (cI, 6, .inl (fun _ => 0))), (bm 29, .inl (cI, 6, .inl (fun _ => 0))), (bm 30, .inl (cZ, 1040, .inl (fun _ => 0))), (bm 31, .inl (cI, 1040, .inl (fun _ => 0))), (bm 32, .inl (cI, 78, .inl (fun _ => 0))), (bm 27, .inl (cI, 7, .inl (fun _ => 0))), (h0, oX9 b), (b 1, oX0 bc 0 0 0 0 0 0 0 0 0 0)] := hD
  obtain rfl : r2 = (-2) := hw4
  refine lv_aload_n hx hb dL_law_1192 rfl (lv_at hl 1 rfl) ?_
  refine lv_aload_n hx hb dL_law_1193 rfl (lv_at hl 3 rfl) ?_
  refine lv_iload_n hx hb dL_law_1194 rfl (lv_at hl 0 rfl) ?_
  refine lv_iconst (v := 1) hx hb dL_law_1195 (by decide) ?_
  refine lv_iadd hx hb dL_law_1196 ?_
  refine lv_topi (fun v5 ev5 => ?_)
  obtain rfl : v5 = 1 := ev5.trans (by decide)
  refine va_sld hx hb hX hbl hbA hS (ix_in ki_1 (by omega) (by omega)) dL_law_1197 ?_
  refine W.eq (g2 := F0 m 1198 ls [.int (xs 1), .ref h1, .int (-2)]) rfl ?_
  refine k_i (wc := [(h1, oX10 bm 0 0 0 0 0 0 0 0 (-1) 0 0 0 0 0 0 0 0 0), (bm 1, .inl (cI, 149, .inl (fun _ => 0))), (bm 15, .inl (cZ, 80, .inl (fun _ => 0))), (bm 16, .inl (cI, 7, .inl (fun _ => 0))), (bm 21, .inl (cZ, 80, .inl (fun _ => 0))), (bm 24, .inl (cI, 80, .inl (fun _ => 0))), (bm 25, .inl (cI, 6, .inl (fun _ => 0))), (bm 29, .inl (cI, 6, .inl (fun _ => 0))), (bm 30, .inl (cZ, 1040, .inl (fun _ => 0))), (bm 31, .inl (cI, 1040, .inl (fun _ => 0))), (bm 32, .inl (cI, 78, .inl (fun _ => 0))), (bm 27, .inl (cI, 7, .inl (fun _ => 0)))]) (wr := [(h0, oX9 b), (b 1, oX0 bc 0 0 0 0 0 0 0 0 0 0)]) hP hD hS hA [0, 1, 2, 3, 4, 5, 6, 7, 8, 9, 10, 11] [12, 13] rfl rfl rfl (by decide) (va_runV (As := [.int (xs 1)]) (rest := [.int (-2)]) ⟨hx, hb, hml, hown, hts⟩ (f_X10_walked l G cI cJ cZ cB cQ _ h1 bm (xs 1)) (cwV 1 hts (gV w_1736 w_1737 w_1738 w_11 w_1739) rfl rfl rfl ⟨rfl, hd_X10_walked⟩ ⟨Nat.le_of_ble_eq_true rfl, Nat.le_of_ble_eq_true rfl⟩) (mV hK hZ hP hD [0, 1, 2, 3, 4, 5, 6, 7, 8, 9, 10, 11] rfl rfl [.int (xs 1)] 0 10 rfl rfl) rfl rfl hl.1 rfl (lv_room (Nat.le_of_ble_eq_true rfl)) dL_law_1198 ⟨Nat.le_of_ble_eq_true rfl, Nat.le_of_ble_eq_true rfl⟩) (fun r6 u7 H locs hw8 hP hD hS => ?_)
  obtain ⟨f09, rfl⟩ : ∃ z, z = u7 := ⟨_, rfl⟩
  try dsimp only at hw8
  have hP : va_P G vwCl [(h0, oX9 b), (b 1, oX0 bc 0 0 0 0 0 0 0 0 0 0), (h1, oX10 bm 0 0 0 0 0 0 0 0 (-1) 0 0 (-1) 0 0 0 0 0 0), (bm 1, .inl (cI, 149, .inl (fun _ => 0))), (bm 15, .inl (cZ, 80, .inl (fun _ => 0))), (bm 16, .inl (cI, 7, .inl (fun _ => 0))), (bm 21, .inl (cZ, 80, .inl (fun _ => 0))), (bm 24, .inl (cI, 80, .inl (fun _ => 0))), (bm 25, .inl (cI, 6, .inl (fun _ => 0))), (bm 29, .inl (cI, 6, .inl (fun _ => 0))), (bm 30, .inl (cZ, 1040, .inl (fun _ => 0))), (bm 31, .inl (cI, 1040, .inl (fun _ => 0))), (bm 32, .inl (cI, 78, .inl (fun _ => 0))), (bm 27, .inl (cI, 7, .inl f09))] H := hP
  have hD : va_D A [(h0, oX9 b), (b 1, oX0 bc 0 0 0 0 0 0 0 0 0 0), (h1, oX10 bm 0 0 0 0 0 0 0 0 (-1) 0 0 (-1) 0 0 0 0 0 0), (bm 1, .inl (cI, 149, .inl (fun _ => 0))), (bm 15, .inl (cZ, 80, .inl (fun _ => 0))), (bm 16, .inl (cI, 7, .inl (fun _ => 0))), (bm 21, .inl (cZ, 80, .inl (fun _ => 0))), (bm 24, .inl (cI, 80, .inl (fun _ => 0))), (bm 25, .inl (cI, 6, .inl (fun _ => 0))), (bm 29, .inl (cI, 6, .inl (fun _ => 0))), (bm 30, .inl (cZ, 1040, .inl (fun _ => 0))), (bm 31, .inl (cI, 1040, .inl (fun _ => 0))), (bm 32, .inl (cI, 78, .inl (fun _ => 0))), (bm 27, .inl (cI, 7, .inl f09))] := hD
  obtain rfl : r6 = (-2) := hw8
  refine lv_icmp_eq (tgt := 2226) hx hb dL_law_1201 (by decide) (fun c10 => ?_) (fun c10 => absurd (by decide) c10)
  refine lv_iinc (v := 6) (lv' := [(3, .int 6), (2, .ref h1), (1, .ref h0), (0, .ref sb)]) hx hb dL_law_2226 hl (k := 0) rfl (by decide) (by decide) rfl (fun ls hl => ?_)
  refine lv_goto (tgt := 18) hx hb dL_law_2229 (by decide) ?_
  exact law_exit hL6 C0 hAe hS ls (lv_sub hl [3, 0] rfl) (by decide) (by decide)
set_option maxHeartbeats 4000000 in
set_option maxRecDepth 100000 in
theorem law_32 {p : Program} {e : Env} {s : State} {m : MethodId} {below : List Frame} {meth : Method} {c : Code} {l : Launch} {sb L : Nat} {xs : Nat → Int32} {A : Nat → Prop} {G : va_G} {cI cJ cZ cB cQ : ClassId} (h0 : Nat) (b : Nat → Nat) (br : Nat → Nat) (bt : Nat → Nat) (bi : Nat → Nat) (bc : Nat → Nat) (bn : Nat → Nat) (bs : Nat → Nat) (be : Nat → Nat) (bw : Nat → Nat) (h1 : Nat) (bm : Nat → Nat) {H : Heap} {locs : List Loc} (hL : L = 6) (C0 : lw_At p s m meth c sb L xs) (hAe : A = fun q => s.heap.size ≤ q) (hK : va_K G vwCl (TY cI cJ cZ cB cQ) s) (hZ : nz s) (hP : va_P G vwCl (wX cI cJ cZ cB cQ h0 b br bt bi bc bn bs be bw ++ wM cI cJ cZ cB cQ h1 bm) H) (hD : va_D A (wX cI cJ cZ cB cQ h0 b br bt bi bc bn bs be bw ++ wM cI cJ cZ cB cQ h1 bm)) (hS : va_S A s.heap H locs) (ls : Array Slot) (hl : lv_has ls 4 [(3, .int 0), (2, .ref h1), (1, .ref h0), (0, .ref sb)]) (v : Int32) (hv : v.toInt = 32) : W p l e room_1 s m #[Value.ref sb] below meth c H locs 88 8166 (lw_Z below #[Value.ref sb] s) (F0 m 33 ls [.int v]) := by
  have hL6 : L ≤ 6 := by omega
  obtain ⟨hx, hb, hr, hml, hown, hts0, hX, hbl, hlocks, hgv⟩ := id C0
  have hown : s.vm.findClass RL = some m.cls := hown
  have hts : ∀ q ∈ GW, q.before #[Value.ref sb] s = true := fun q h => hts0 q (List.mem_filter.mp h).1
  have hA : ∀ q : Nat, s.heap.size ≤ q → A q := fun q h => by rw [hAe]; exact h
  have hbA : ¬ A sb := by rw [hAe]; exact Nat.not_le.mpr hbl
  have hLT : (Int32.ofNat L).toInt = (L : Int) := nI_toInt (by omega)
  have hLi : (L : Int) = 6 := by omega
  refine lv_tableIn (off := 1173) (tgt := 1206) hx hb dL_law_33 (by rw [hv]; decide) (by rw [hv]; decide) (by rw [hv]; rfl) (by decide) ?_
  have hP : va_P G vwCl [(h0, oX9 b), (b 1, oX0 bc 0 0 0 0 0 0 0 0 0 0), (h1, oX10 bm 0 0 0 0 0 0 0 0 (-1) 0 0 0 0 0 0 0 0 0), (bm 1, .inl (cI, 149, .inl (fun _ => 0))), (bm 15, .inl (cZ, 80, .inl (fun _ => 0))), (bm 16, .inl (cI, 7, .inl (fun _ => 0))), (bm 21, .inl (cZ, 80, .inl (fun _ => 0))), (bm 24, .inl (cI, 80, .inl (fun _ => 0))), (bm 25, .inl (cI, 6, .inl (fun _ => 0))), (bm 29, .inl (cI, 6, .inl (fun _ => 0))), (bm 30, .inl (cZ, 1040, .inl (fun _ => 0))), (bm 31, .inl (cI, 1040, .inl (fun _ => 0))), (bm 32, .inl (cI, 78, .inl (fun _ => 0))), (bm 27, .inl (cI, 7, .inl (fun _ => 0)))] H := hP.sub [0, 14, 59, 60, 66, 67, 68, 71, 72, 76, 77, 78, 79, 74] rfl
  have hD : va_D A [(h0, oX9 b), (b 1, oX0 bc 0 0 0 0 0 0 0 0 0 0), (h1, oX10 bm 0 0 0 0 0 0 0 0 (-1) 0 0 0 0 0 0 0 0 0), (bm 1, .inl (cI, 149, .inl (fun _ => 0))), (bm 15, .inl (cZ, 80, .inl (fun _ => 0))), (bm 16, .inl (cI, 7, .inl (fun _ => 0))), (bm 21, .inl (cZ, 80, .inl (fun _ => 0))), (bm 24, .inl (cI, 80, .inl (fun _ => 0))), (bm 25, .inl (cI, 6, .inl (fun _ => 0))), (bm 29, .inl (cI, 6, .inl (fun _ => 0))), (bm 30, .inl (cZ, 1040, .inl (fun _ => 0))), (bm 31, .inl (cI, 1040, .inl (fun _ => 0))), (bm 32, .inl (cI, 78, .inl (fun _ => 0))), (bm 27, .inl (cI, 7, .inl (fun _ => 0)))] := hD.sub [0, 14, 59, 60, 66, 67, 68, 71, 72, 76, 77, 78, 79, 74] rfl rfl
  refine lv_aload_n hx hb dL_law_1206 rfl (lv_at hl 2 rfl) ?_
  refine lv_aload_n hx hb dL_law_1207 rfl (lv_at hl 3 rfl) ?_
  refine lv_iload_n hx hb dL_law_1208 rfl (lv_at hl 0 rfl) ?_
  refine lv_iconst (v := 1) hx hb dL_law_1209 (by decide) ?_
  refine lv_iadd hx hb dL_law_1210 ?_
  refine lv_topi (fun v1 ev1 => ?_)
  obtain rfl : v1 = 1 := ev1.trans (by decide)
  refine va_sld hx hb hX hbl hbA hS (ix_in ki_1 (by omega) (by omega)) dL_law_1211 ?_
  refine W.eq (g2 := F0 m 1212 ls [.int (xs 1), .ref h0]) rfl ?_
  refine k_i (wc := [(h0, oX9 b), (b 1, oX0 bc 0 0 0 0 0 0 0 0 0 0)]) (wr := [(h1, oX10 bm 0 0 0 0 0 0 0 0 (-1) 0 0 0 0 0 0 0 0 0), (bm 1, .inl (cI, 149, .inl (fun _ => 0))), (bm 15, .inl (cZ, 80, .inl (fun _ => 0))), (bm 16, .inl (cI, 7, .inl (fun _ => 0))), (bm 21, .inl (cZ, 80, .inl (fun _ => 0))), (bm 24, .inl (cI, 80, .inl (fun _ => 0))), (bm 25, .inl (cI, 6, .inl (fun _ => 0))), (bm 29, .inl (cI, 6, .inl (fun _ => 0))), (bm 30, .inl (cZ, 1040, .inl (fun _ => 0))), (bm 31, .inl (cI, 1040, .inl (fun _ => 0))), (bm 32, .inl (cI, 78, .inl (fun _ => 0))), (bm 27, .inl (cI, 7, .inl (fun _ => 0)))]) hP hD hS hA [0, 1] [2, 3, 4, 5, 6, 7, 8, 9, 10, 11, 12, 13] rfl rfl rfl (by decide) (va_runV (As := [.int (xs 1)]) (rest := []) ⟨hx, hb, hml, hown, hts⟩ (f_X9_first l G cI cJ cZ cB cQ _ h0 b bc (xs 1)) (cwV 1 hts (gV w_874 w_875 w_876 w_1 w_877) rfl rfl rfl ⟨rfl, hd_X9_first⟩ ⟨Nat.le_of_ble_eq_true rfl, Nat.le_of_ble_eq_true rfl⟩) (mV hK hZ hP hD [0, 1] rfl rfl [.int (xs 1)] 0 9 rfl rfl) rfl rfl hl.1 rfl (lv_room (Nat.le_of_ble_eq_true rfl)) dL_law_1212 ⟨Nat.le_of_ble_eq_true rfl, Nat.le_of_ble_eq_true rfl⟩) (fun r2 u3 H locs hw4 hP hD hS => ?_)
  try dsimp only at hw4
  have hP : va_P G vwCl [(h1, oX10 bm 0 0 0 0 0 0 0 0 (-1) 0 0 0 0 0 0 0 0 0), (bm 1, .inl (cI, 149, .inl (fun _ => 0))), (bm 15, .inl (cZ, 80, .inl (fun _ => 0))), (bm 16, .inl (cI, 7, .inl (fun _ => 0))), (bm 21, .inl (cZ, 80, .inl (fun _ => 0))), (bm 24, .inl (cI, 80, .inl (fun _ => 0))), (bm 25, .inl (cI, 6, .inl (fun _ => 0))), (bm 29, .inl (cI, 6, .inl (fun _ => 0))), (bm 30, .inl (cZ, 1040, .inl (fun _ => 0))), (bm 31, .inl (cI, 1040, .inl (fun _ => 0))), (bm 32, .inl (cI, 78, .inl (fun _ => 0))), (bm 27, .inl (cI, 7, .inl (fun _ => 0))), (h0, oX9 b), (b 1, oX0 bc 0 0 0 0 0 0 0 0 0 0)] H := hP
  have hD : va_D A [(h1, oX10 bm 0 0 0 0 0 0 0 0 (-1) 0 0 0 0 0 0 0 0 0), (bm 1, .inl (cI, 149, .inl (fun _ => 0))), (bm 15, .inl (cZ, 80, .inl (fun _ => 0))), (bm 16, .inl (cI, 7, .inl (fun _ => 0))), (bm 21, .inl (cZ, 80, .inl (fun _ => 0))), (bm 24, .inl (cI, 80, .inl (fun _ => 0))), (bm 25, .inl (cI, 6, .inl (fun _ => 0))), (bm 29, .inl (cI, 6, .inl (fun _ => 0))), (bm 30, .inl (cZ, 1040, .inl (fun _ => 0))), (bm 31, .inl (cI, 1040, .inl (fun _ => 0))), (bm 32, .inl (cI, 78, .inl (fun _ => 0))), (bm 27, .inl (cI, 7, .inl (fun _ => 0))), (h0, oX9 b), (b 1, oX0 bc 0 0 0 0 0 0 0 0 0 0)] := hD
  obtain rfl : r2 = (-2) := hw4
  refine lv_aload_n hx hb dL_law_1215 rfl (lv_at hl 1 rfl) ?_
  refine lv_aload_n hx hb dL_law_1216 rfl (lv_at hl 3 rfl) ?_
  refine lv_iload_n hx hb dL_law_1217 rfl (lv_at hl 0 rfl) ?_
  refine lv_iconst (v := 1) hx hb dL_law_1218 (by decide) ?_
  refine lv_iadd hx hb dL_law_1219 ?_
  refine lv_topi (fun v5 ev5 => ?_)
  obtain rfl : v5 = 1 := ev5.trans (by decide)
  refine va_sld hx hb hX hbl hbA hS (ix_in ki_1 (by omega) (by omega)) dL_law_1220 ?_
  refine W.eq (g2 := F0 m 1221 ls [.int (xs 1), .ref h1, .int (-2)]) rfl ?_
  refine k_i (wc := [(h1, oX10 bm 0 0 0 0 0 0 0 0 (-1) 0 0 0 0 0 0 0 0 0), (bm 1, .inl (cI, 149, .inl (fun _ => 0))), (bm 15, .inl (cZ, 80, .inl (fun _ => 0))), (bm 16, .inl (cI, 7, .inl (fun _ => 0))), (bm 21, .inl (cZ, 80, .inl (fun _ => 0))), (bm 24, .inl (cI, 80, .inl (fun _ => 0))), (bm 25, .inl (cI, 6, .inl (fun _ => 0))), (bm 29, .inl (cI, 6, .inl (fun _ => 0))), (bm 30, .inl (cZ, 1040, .inl (fun _ => 0))), (bm 31, .inl (cI, 1040, .inl (fun _ => 0))), (bm 32, .inl (cI, 78, .inl (fun _ => 0))), (bm 27, .inl (cI, 7, .inl (fun _ => 0)))]) (wr := [(h0, oX9 b), (b 1, oX0 bc 0 0 0 0 0 0 0 0 0 0)]) hP hD hS hA [0, 1, 2, 3, 4, 5, 6, 7, 8, 9, 10, 11] [12, 13] rfl rfl rfl (by decide) (va_runV (As := [.int (xs 1)]) (rest := [.int (-2)]) ⟨hx, hb, hml, hown, hts⟩ (f_X10_first l G cI cJ cZ cB cQ _ h1 bm (xs 1)) (cwV 1 hts (gV w_1732 w_1733 w_1734 w_11 w_1735) rfl rfl rfl ⟨rfl, hd_X10_first⟩ ⟨Nat.le_of_ble_eq_true rfl, Nat.le_of_ble_eq_true rfl⟩) (mV hK hZ hP hD [0, 1, 2, 3, 4, 5, 6, 7, 8, 9, 10, 11] rfl rfl [.int (xs 1)] 0 10 rfl rfl) rfl rfl hl.1 rfl (lv_room (Nat.le_of_ble_eq_true rfl)) dL_law_1221 ⟨Nat.le_of_ble_eq_true rfl, Nat.le_of_ble_eq_true rfl⟩) (fun r6 u7 H locs hw8 hP hD hS => ?_)
  obtain ⟨f09, rfl⟩ : ∃ z, z = u7 := ⟨_, rfl⟩
  try dsimp only at hw8
  have hP : va_P G vwCl [(h0, oX9 b), (b 1, oX0 bc 0 0 0 0 0 0 0 0 0 0), (h1, oX10 bm 0 0 0 0 0 0 0 0 (-1) 0 0 (-1) 0 0 0 0 0 0), (bm 1, .inl (cI, 149, .inl (fun _ => 0))), (bm 15, .inl (cZ, 80, .inl (fun _ => 0))), (bm 16, .inl (cI, 7, .inl (fun _ => 0))), (bm 21, .inl (cZ, 80, .inl (fun _ => 0))), (bm 24, .inl (cI, 80, .inl (fun _ => 0))), (bm 25, .inl (cI, 6, .inl (fun _ => 0))), (bm 29, .inl (cI, 6, .inl (fun _ => 0))), (bm 30, .inl (cZ, 1040, .inl (fun _ => 0))), (bm 31, .inl (cI, 1040, .inl (fun _ => 0))), (bm 32, .inl (cI, 78, .inl (fun _ => 0))), (bm 27, .inl (cI, 7, .inl f09))] H := hP
  have hD : va_D A [(h0, oX9 b), (b 1, oX0 bc 0 0 0 0 0 0 0 0 0 0), (h1, oX10 bm 0 0 0 0 0 0 0 0 (-1) 0 0 (-1) 0 0 0 0 0 0), (bm 1, .inl (cI, 149, .inl (fun _ => 0))), (bm 15, .inl (cZ, 80, .inl (fun _ => 0))), (bm 16, .inl (cI, 7, .inl (fun _ => 0))), (bm 21, .inl (cZ, 80, .inl (fun _ => 0))), (bm 24, .inl (cI, 80, .inl (fun _ => 0))), (bm 25, .inl (cI, 6, .inl (fun _ => 0))), (bm 29, .inl (cI, 6, .inl (fun _ => 0))), (bm 30, .inl (cZ, 1040, .inl (fun _ => 0))), (bm 31, .inl (cI, 1040, .inl (fun _ => 0))), (bm 32, .inl (cI, 78, .inl (fun _ => 0))), (bm 27, .inl (cI, 7, .inl f09))] := hD
  obtain rfl : r6 = (-2) := hw8
  refine lv_icmp_eq (tgt := 2226) hx hb dL_law_1224 (by decide) (fun c10 => ?_) (fun c10 => absurd (by decide) c10)
  refine lv_iinc (v := 6) (lv' := [(3, .int 6), (2, .ref h1), (1, .ref h0), (0, .ref sb)]) hx hb dL_law_2226 hl (k := 0) rfl (by decide) (by decide) rfl (fun ls hl => ?_)
  refine lv_goto (tgt := 18) hx hb dL_law_2229 (by decide) ?_
  exact law_exit hL6 C0 hAe hS ls (lv_sub hl [3, 0] rfl) (by decide) (by decide)
set_option maxHeartbeats 4000000 in
set_option maxRecDepth 100000 in
theorem law_33 {p : Program} {e : Env} {s : State} {m : MethodId} {below : List Frame} {meth : Method} {c : Code} {l : Launch} {sb L : Nat} {xs : Nat → Int32} {A : Nat → Prop} {G : va_G} {cI cJ cZ cB cQ : ClassId} (h0 : Nat) (b : Nat → Nat) (br : Nat → Nat) (bt : Nat → Nat) (bi : Nat → Nat) (bc : Nat → Nat) (bn : Nat → Nat) (bs : Nat → Nat) (be : Nat → Nat) (bw : Nat → Nat) (h1 : Nat) (bm : Nat → Nat) {H : Heap} {locs : List Loc} (hL : L = 6) (C0 : lw_At p s m meth c sb L xs) (hAe : A = fun q => s.heap.size ≤ q) (hK : va_K G vwCl (TY cI cJ cZ cB cQ) s) (hZ : nz s) (hP : va_P G vwCl (wX cI cJ cZ cB cQ h0 b br bt bi bc bn bs be bw ++ wM cI cJ cZ cB cQ h1 bm) H) (hD : va_D A (wX cI cJ cZ cB cQ h0 b br bt bi bc bn bs be bw ++ wM cI cJ cZ cB cQ h1 bm)) (hS : va_S A s.heap H locs) (ls : Array Slot) (hl : lv_has ls 4 [(3, .int 0), (2, .ref h1), (1, .ref h0), (0, .ref sb)]) (v : Int32) (hv : v.toInt = 33) : W p l e room_1 s m #[Value.ref sb] below meth c H locs 88 8166 (lw_Z below #[Value.ref sb] s) (F0 m 33 ls [.int v]) := by
  have hL6 : L ≤ 6 := by omega
  obtain ⟨hx, hb, hr, hml, hown, hts0, hX, hbl, hlocks, hgv⟩ := id C0
  have hown : s.vm.findClass RL = some m.cls := hown
  have hts : ∀ q ∈ GW, q.before #[Value.ref sb] s = true := fun q h => hts0 q (List.mem_filter.mp h).1
  have hA : ∀ q : Nat, s.heap.size ≤ q → A q := fun q h => by rw [hAe]; exact h
  have hbA : ¬ A sb := by rw [hAe]; exact Nat.not_le.mpr hbl
  have hLT : (Int32.ofNat L).toInt = (L : Int) := nI_toInt (by omega)
  have hLi : (L : Int) = 6 := by omega
  refine lv_tableIn (off := 1196) (tgt := 1229) hx hb dL_law_33 (by rw [hv]; decide) (by rw [hv]; decide) (by rw [hv]; rfl) (by decide) ?_
  have hP : va_P G vwCl [(h0, oX9 b), (b 1, oX0 bc 0 0 0 0 0 0 0 0 0 0), (h1, oX10 bm 0 0 0 0 0 0 0 0 (-1) 0 0 0 0 0 0 0 0 0), (bm 1, .inl (cI, 149, .inl (fun _ => 0))), (bm 15, .inl (cZ, 80, .inl (fun _ => 0))), (bm 16, .inl (cI, 7, .inl (fun _ => 0))), (bm 21, .inl (cZ, 80, .inl (fun _ => 0))), (bm 24, .inl (cI, 80, .inl (fun _ => 0))), (bm 25, .inl (cI, 6, .inl (fun _ => 0))), (bm 29, .inl (cI, 6, .inl (fun _ => 0))), (bm 30, .inl (cZ, 1040, .inl (fun _ => 0))), (bm 31, .inl (cI, 1040, .inl (fun _ => 0))), (bm 32, .inl (cI, 78, .inl (fun _ => 0))), (bm 27, .inl (cI, 7, .inl (fun _ => 0)))] H := hP.sub [0, 14, 59, 60, 66, 67, 68, 71, 72, 76, 77, 78, 79, 74] rfl
  have hD : va_D A [(h0, oX9 b), (b 1, oX0 bc 0 0 0 0 0 0 0 0 0 0), (h1, oX10 bm 0 0 0 0 0 0 0 0 (-1) 0 0 0 0 0 0 0 0 0), (bm 1, .inl (cI, 149, .inl (fun _ => 0))), (bm 15, .inl (cZ, 80, .inl (fun _ => 0))), (bm 16, .inl (cI, 7, .inl (fun _ => 0))), (bm 21, .inl (cZ, 80, .inl (fun _ => 0))), (bm 24, .inl (cI, 80, .inl (fun _ => 0))), (bm 25, .inl (cI, 6, .inl (fun _ => 0))), (bm 29, .inl (cI, 6, .inl (fun _ => 0))), (bm 30, .inl (cZ, 1040, .inl (fun _ => 0))), (bm 31, .inl (cI, 1040, .inl (fun _ => 0))), (bm 32, .inl (cI, 78, .inl (fun _ => 0))), (bm 27, .inl (cI, 7, .inl (fun _ => 0)))] := hD.sub [0, 14, 59, 60, 66, 67, 68, 71, 72, 76, 77, 78, 79, 74] rfl rfl
  refine lv_aload_n hx hb dL_law_1229 rfl (lv_at hl 2 rfl) ?_
  refine lv_aload_n hx hb dL_law_1230 rfl (lv_at hl 3 rfl) ?_
  refine lv_iload_n hx hb dL_law_1231 rfl (lv_at hl 0 rfl) ?_
  refine lv_iconst (v := 1) hx hb dL_law_1232 (by decide) ?_
  refine lv_iadd hx hb dL_law_1233 ?_
  refine lv_topi (fun v1 ev1 => ?_)
  obtain rfl : v1 = 1 := ev1.trans (by decide)
  refine va_sld hx hb hX hbl hbA hS (ix_in ki_1 (by omega) (by omega)) dL_law_1234 ?_
  refine W.eq (g2 := F0 m 1235 ls [.int (xs 1), .ref h0]) rfl ?_
  refine k_i (wc := [(h0, oX9 b), (b 1, oX0 bc 0 0 0 0 0 0 0 0 0 0)]) (wr := [(h1, oX10 bm 0 0 0 0 0 0 0 0 (-1) 0 0 0 0 0 0 0 0 0), (bm 1, .inl (cI, 149, .inl (fun _ => 0))), (bm 15, .inl (cZ, 80, .inl (fun _ => 0))), (bm 16, .inl (cI, 7, .inl (fun _ => 0))), (bm 21, .inl (cZ, 80, .inl (fun _ => 0))), (bm 24, .inl (cI, 80, .inl (fun _ => 0))), (bm 25, .inl (cI, 6, .inl (fun _ => 0))), (bm 29, .inl (cI, 6, .inl (fun _ => 0))), (bm 30, .inl (cZ, 1040, .inl (fun _ => 0))), (bm 31, .inl (cI, 1040, .inl (fun _ => 0))), (bm 32, .inl (cI, 78, .inl (fun _ => 0))), (bm 27, .inl (cI, 7, .inl (fun _ => 0)))]) hP hD hS hA [0, 1] [2, 3, 4, 5, 6, 7, 8, 9, 10, 11, 12, 13] rfl rfl rfl (by decide) (va_runV (As := [.int (xs 1)]) (rest := []) ⟨hx, hb, hml, hown, hts⟩ (f_X9_line l G cI cJ cZ cB cQ _ h0 b bc (xs 1)) (cwV 1 hts (gV w_878 w_879 w_880 w_1 w_881) rfl rfl rfl ⟨rfl, hd_X9_line⟩ ⟨Nat.le_of_ble_eq_true rfl, Nat.le_of_ble_eq_true rfl⟩) (mV hK hZ hP hD [0, 1] rfl rfl [.int (xs 1)] 0 9 rfl rfl) rfl rfl hl.1 rfl (lv_room (Nat.le_of_ble_eq_true rfl)) dL_law_1235 ⟨Nat.le_of_ble_eq_true rfl, Nat.le_of_ble_eq_true rfl⟩) (fun r2 u3 H locs hw4 hP hD hS => ?_)
  try dsimp only at hw4
  have hP : va_P G vwCl [(h1, oX10 bm 0 0 0 0 0 0 0 0 (-1) 0 0 0 0 0 0 0 0 0), (bm 1, .inl (cI, 149, .inl (fun _ => 0))), (bm 15, .inl (cZ, 80, .inl (fun _ => 0))), (bm 16, .inl (cI, 7, .inl (fun _ => 0))), (bm 21, .inl (cZ, 80, .inl (fun _ => 0))), (bm 24, .inl (cI, 80, .inl (fun _ => 0))), (bm 25, .inl (cI, 6, .inl (fun _ => 0))), (bm 29, .inl (cI, 6, .inl (fun _ => 0))), (bm 30, .inl (cZ, 1040, .inl (fun _ => 0))), (bm 31, .inl (cI, 1040, .inl (fun _ => 0))), (bm 32, .inl (cI, 78, .inl (fun _ => 0))), (bm 27, .inl (cI, 7, .inl (fun _ => 0))), (h0, oX9 b), (b 1, oX0 bc 0 0 0 0 0 0 0 0 0 0)] H := hP
  have hD : va_D A [(h1, oX10 bm 0 0 0 0 0 0 0 0 (-1) 0 0 0 0 0 0 0 0 0), (bm 1, .inl (cI, 149, .inl (fun _ => 0))), (bm 15, .inl (cZ, 80, .inl (fun _ => 0))), (bm 16, .inl (cI, 7, .inl (fun _ => 0))), (bm 21, .inl (cZ, 80, .inl (fun _ => 0))), (bm 24, .inl (cI, 80, .inl (fun _ => 0))), (bm 25, .inl (cI, 6, .inl (fun _ => 0))), (bm 29, .inl (cI, 6, .inl (fun _ => 0))), (bm 30, .inl (cZ, 1040, .inl (fun _ => 0))), (bm 31, .inl (cI, 1040, .inl (fun _ => 0))), (bm 32, .inl (cI, 78, .inl (fun _ => 0))), (bm 27, .inl (cI, 7, .inl (fun _ => 0))), (h0, oX9 b), (b 1, oX0 bc 0 0 0 0 0 0 0 0 0 0)] := hD
  obtain rfl : r2 = (-2) := hw4
  refine lv_aload_n hx hb dL_law_1238 rfl (lv_at hl 1 rfl) ?_
  refine lv_aload_n hx hb dL_law_1239 rfl (lv_at hl 3 rfl) ?_
  refine lv_iload_n hx hb dL_law_1240 rfl (lv_at hl 0 rfl) ?_
  refine lv_iconst (v := 1) hx hb dL_law_1241 (by decide) ?_
  refine lv_iadd hx hb dL_law_1242 ?_
  refine lv_topi (fun v5 ev5 => ?_)
  obtain rfl : v5 = 1 := ev5.trans (by decide)
  refine va_sld hx hb hX hbl hbA hS (ix_in ki_1 (by omega) (by omega)) dL_law_1243 ?_
  refine W.eq (g2 := F0 m 1244 ls [.int (xs 1), .ref h1, .int (-2)]) rfl ?_
  refine k_i (wc := [(h1, oX10 bm 0 0 0 0 0 0 0 0 (-1) 0 0 0 0 0 0 0 0 0), (bm 1, .inl (cI, 149, .inl (fun _ => 0))), (bm 15, .inl (cZ, 80, .inl (fun _ => 0))), (bm 16, .inl (cI, 7, .inl (fun _ => 0))), (bm 21, .inl (cZ, 80, .inl (fun _ => 0))), (bm 24, .inl (cI, 80, .inl (fun _ => 0))), (bm 25, .inl (cI, 6, .inl (fun _ => 0))), (bm 29, .inl (cI, 6, .inl (fun _ => 0))), (bm 30, .inl (cZ, 1040, .inl (fun _ => 0))), (bm 31, .inl (cI, 1040, .inl (fun _ => 0))), (bm 32, .inl (cI, 78, .inl (fun _ => 0))), (bm 27, .inl (cI, 7, .inl (fun _ => 0)))]) (wr := [(h0, oX9 b), (b 1, oX0 bc 0 0 0 0 0 0 0 0 0 0)]) hP hD hS hA [0, 1, 2, 3, 4, 5, 6, 7, 8, 9, 10, 11] [12, 13] rfl rfl rfl (by decide) (va_runV (As := [.int (xs 1)]) (rest := [.int (-2)]) ⟨hx, hb, hml, hown, hts⟩ (f_X10_line l G cI cJ cZ cB cQ _ h1 bm (xs 1)) (cwV 1 hts (gV w_1727 w_1728 w_1729 w_11 w_1730) rfl rfl rfl ⟨rfl, hd_X10_line⟩ ⟨Nat.le_of_ble_eq_true rfl, Nat.le_of_ble_eq_true rfl⟩) (mV hK hZ hP hD [0, 1, 2, 3, 4, 5, 6, 7, 8, 9, 10, 11] rfl rfl [.int (xs 1)] 0 10 rfl rfl) rfl rfl hl.1 rfl (lv_room (Nat.le_of_ble_eq_true rfl)) dL_law_1244 ⟨Nat.le_of_ble_eq_true rfl, Nat.le_of_ble_eq_true rfl⟩) (fun r6 u7 H locs hw8 hP hD hS => ?_)
  obtain ⟨f09, rfl⟩ : ∃ z, z = u7 := ⟨_, rfl⟩
  try dsimp only at hw8
  have hP : va_P G vwCl [(h0, oX9 b), (b 1, oX0 bc 0 0 0 0 0 0 0 0 0 0), (h1, oX10 bm 0 0 0 0 0 0 0 0 (-1) 0 0 (-1) 0 0 0 0 0 0), (bm 1, .inl (cI, 149, .inl (fun _ => 0))), (bm 15, .inl (cZ, 80, .inl (fun _ => 0))), (bm 16, .inl (cI, 7, .inl (fun _ => 0))), (bm 21, .inl (cZ, 80, .inl (fun _ => 0))), (bm 24, .inl (cI, 80, .inl (fun _ => 0))), (bm 25, .inl (cI, 6, .inl (fun _ => 0))), (bm 29, .inl (cI, 6, .inl (fun _ => 0))), (bm 30, .inl (cZ, 1040, .inl (fun _ => 0))), (bm 31, .inl (cI, 1040, .inl (fun _ => 0))), (bm 32, .inl (cI, 78, .inl (fun _ => 0))), (bm 27, .inl (cI, 7, .inl f09))] H := hP
  have hD : va_D A [(h0, oX9 b), (b 1, oX0 bc 0 0 0 0 0 0 0 0 0 0), (h1, oX10 bm 0 0 0 0 0 0 0 0 (-1) 0 0 (-1) 0 0 0 0 0 0), (bm 1, .inl (cI, 149, .inl (fun _ => 0))), (bm 15, .inl (cZ, 80, .inl (fun _ => 0))), (bm 16, .inl (cI, 7, .inl (fun _ => 0))), (bm 21, .inl (cZ, 80, .inl (fun _ => 0))), (bm 24, .inl (cI, 80, .inl (fun _ => 0))), (bm 25, .inl (cI, 6, .inl (fun _ => 0))), (bm 29, .inl (cI, 6, .inl (fun _ => 0))), (bm 30, .inl (cZ, 1040, .inl (fun _ => 0))), (bm 31, .inl (cI, 1040, .inl (fun _ => 0))), (bm 32, .inl (cI, 78, .inl (fun _ => 0))), (bm 27, .inl (cI, 7, .inl f09))] := hD
  obtain rfl : r6 = (-2) := hw8
  refine lv_icmp_eq (tgt := 2226) hx hb dL_law_1247 (by decide) (fun c10 => ?_) (fun c10 => absurd (by decide) c10)
  refine lv_iinc (v := 6) (lv' := [(3, .int 6), (2, .ref h1), (1, .ref h0), (0, .ref sb)]) hx hb dL_law_2226 hl (k := 0) rfl (by decide) (by decide) rfl (fun ls hl => ?_)
  refine lv_goto (tgt := 18) hx hb dL_law_2229 (by decide) ?_
  exact law_exit hL6 C0 hAe hS ls (lv_sub hl [3, 0] rfl) (by decide) (by decide)
set_option maxHeartbeats 4000000 in
set_option maxRecDepth 100000 in
theorem law_34 {p : Program} {e : Env} {s : State} {m : MethodId} {below : List Frame} {meth : Method} {c : Code} {l : Launch} {sb L : Nat} {xs : Nat → Int32} {A : Nat → Prop} {G : va_G} {cI cJ cZ cB cQ : ClassId} (h0 : Nat) (b : Nat → Nat) (br : Nat → Nat) (bt : Nat → Nat) (bi : Nat → Nat) (bc : Nat → Nat) (bn : Nat → Nat) (bs : Nat → Nat) (be : Nat → Nat) (bw : Nat → Nat) (h1 : Nat) (bm : Nat → Nat) {H : Heap} {locs : List Loc} (hL : L = 6) (C0 : lw_At p s m meth c sb L xs) (hAe : A = fun q => s.heap.size ≤ q) (hK : va_K G vwCl (TY cI cJ cZ cB cQ) s) (hZ : nz s) (hP : va_P G vwCl (wX cI cJ cZ cB cQ h0 b br bt bi bc bn bs be bw ++ wM cI cJ cZ cB cQ h1 bm) H) (hD : va_D A (wX cI cJ cZ cB cQ h0 b br bt bi bc bn bs be bw ++ wM cI cJ cZ cB cQ h1 bm)) (hS : va_S A s.heap H locs) (ls : Array Slot) (hl : lv_has ls 4 [(3, .int 0), (2, .ref h1), (1, .ref h0), (0, .ref sb)]) (v : Int32) (hv : v.toInt = 34) : W p l e room_1 s m #[Value.ref sb] below meth c H locs 88 8166 (lw_Z below #[Value.ref sb] s) (F0 m 33 ls [.int v]) := by
  have hL6 : L ≤ 6 := by omega
  obtain ⟨hx, hb, hr, hml, hown, hts0, hX, hbl, hlocks, hgv⟩ := id C0
  have hown : s.vm.findClass RL = some m.cls := hown
  have hts : ∀ q ∈ GW, q.before #[Value.ref sb] s = true := fun q h => hts0 q (List.mem_filter.mp h).1
  have hA : ∀ q : Nat, s.heap.size ≤ q → A q := fun q h => by rw [hAe]; exact h
  have hbA : ¬ A sb := by rw [hAe]; exact Nat.not_le.mpr hbl
  have hLT : (Int32.ofNat L).toInt = (L : Int) := nI_toInt (by omega)
  have hLi : (L : Int) = 6 := by omega
  refine lv_tableIn (off := 1219) (tgt := 1252) hx hb dL_law_33 (by rw [hv]; decide) (by rw [hv]; decide) (by rw [hv]; rfl) (by decide) ?_
  have hP : va_P G vwCl [(h0, oX9 b), (b 1, oX0 bc 0 0 0 0 0 0 0 0 0 0), (h1, oX10 bm 0 0 0 0 0 0 0 0 (-1) 0 0 0 0 0 0 0 0 0), (bm 1, .inl (cI, 149, .inl (fun _ => 0))), (bm 15, .inl (cZ, 80, .inl (fun _ => 0))), (bm 16, .inl (cI, 7, .inl (fun _ => 0))), (bm 21, .inl (cZ, 80, .inl (fun _ => 0))), (bm 24, .inl (cI, 80, .inl (fun _ => 0))), (bm 25, .inl (cI, 6, .inl (fun _ => 0))), (bm 29, .inl (cI, 6, .inl (fun _ => 0))), (bm 30, .inl (cZ, 1040, .inl (fun _ => 0))), (bm 31, .inl (cI, 1040, .inl (fun _ => 0))), (bm 32, .inl (cI, 78, .inl (fun _ => 0))), (bm 27, .inl (cI, 7, .inl (fun _ => 0)))] H := hP.sub [0, 14, 59, 60, 66, 67, 68, 71, 72, 76, 77, 78, 79, 74] rfl
  have hD : va_D A [(h0, oX9 b), (b 1, oX0 bc 0 0 0 0 0 0 0 0 0 0), (h1, oX10 bm 0 0 0 0 0 0 0 0 (-1) 0 0 0 0 0 0 0 0 0), (bm 1, .inl (cI, 149, .inl (fun _ => 0))), (bm 15, .inl (cZ, 80, .inl (fun _ => 0))), (bm 16, .inl (cI, 7, .inl (fun _ => 0))), (bm 21, .inl (cZ, 80, .inl (fun _ => 0))), (bm 24, .inl (cI, 80, .inl (fun _ => 0))), (bm 25, .inl (cI, 6, .inl (fun _ => 0))), (bm 29, .inl (cI, 6, .inl (fun _ => 0))), (bm 30, .inl (cZ, 1040, .inl (fun _ => 0))), (bm 31, .inl (cI, 1040, .inl (fun _ => 0))), (bm 32, .inl (cI, 78, .inl (fun _ => 0))), (bm 27, .inl (cI, 7, .inl (fun _ => 0)))] := hD.sub [0, 14, 59, 60, 66, 67, 68, 71, 72, 76, 77, 78, 79, 74] rfl rfl
  refine lv_aload_n hx hb dL_law_1252 rfl (lv_at hl 2 rfl) ?_
  refine lv_aload_n hx hb dL_law_1253 rfl (lv_at hl 3 rfl) ?_
  refine lv_iload_n hx hb dL_law_1254 rfl (lv_at hl 0 rfl) ?_
  refine lv_iconst (v := 1) hx hb dL_law_1255 (by decide) ?_
  refine lv_iadd hx hb dL_law_1256 ?_
  refine lv_topi (fun v1 ev1 => ?_)
  obtain rfl : v1 = 1 := ev1.trans (by decide)
  refine va_sld hx hb hX hbl hbA hS (ix_in ki_1 (by omega) (by omega)) dL_law_1257 ?_
  refine W.eq (g2 := F0 m 1258 ls [.int (xs 1), .ref h0]) rfl ?_
  refine lv_aload_n hx hb dL_law_1258 rfl (lv_at hl 3 rfl) ?_
  refine lv_iload_n hx hb dL_law_1259 rfl (lv_at hl 0 rfl) ?_
  refine lv_iconst (v := 2) hx hb dL_law_1260 (by decide) ?_
  refine lv_iadd hx hb dL_law_1261 ?_
  refine lv_topi (fun v2 ev2 => ?_)
  obtain rfl : v2 = 2 := ev2.trans (by decide)
  refine va_sld hx hb hX hbl hbA hS (ix_in ki_2 (by omega) (by omega)) dL_law_1262 ?_
  refine W.eq (g2 := F0 m 1263 ls [.int (xs 2), .int (xs 1), .ref h0]) rfl ?_
  refine k_i (wc := [(h0, oX9 b), (b 1, oX0 bc 0 0 0 0 0 0 0 0 0 0)]) (wr := [(h1, oX10 bm 0 0 0 0 0 0 0 0 (-1) 0 0 0 0 0 0 0 0 0), (bm 1, .inl (cI, 149, .inl (fun _ => 0))), (bm 15, .inl (cZ, 80, .inl (fun _ => 0))), (bm 16, .inl (cI, 7, .inl (fun _ => 0))), (bm 21, .inl (cZ, 80, .inl (fun _ => 0))), (bm 24, .inl (cI, 80, .inl (fun _ => 0))), (bm 25, .inl (cI, 6, .inl (fun _ => 0))), (bm 29, .inl (cI, 6, .inl (fun _ => 0))), (bm 30, .inl (cZ, 1040, .inl (fun _ => 0))), (bm 31, .inl (cI, 1040, .inl (fun _ => 0))), (bm 32, .inl (cI, 78, .inl (fun _ => 0))), (bm 27, .inl (cI, 7, .inl (fun _ => 0)))]) hP hD hS hA [0, 1] [2, 3, 4, 5, 6, 7, 8, 9, 10, 11, 12, 13] rfl rfl rfl (by decide) (va_runV (As := [.int (xs 1), .int (xs 2)]) (rest := []) ⟨hx, hb, hml, hown, hts⟩ (f_X9_house l G cI cJ cZ cB cQ _ h0 b bc (xs 1) (xs 2)) (cwV 2 hts (gV w_886 w_887 w_888 w_1 w_889) rfl rfl rfl ⟨rfl, hd_X9_house⟩ ⟨Nat.le_of_ble_eq_true rfl, Nat.le_of_ble_eq_true rfl⟩) (mV hK hZ hP hD [0, 1] rfl rfl [.int (xs 1), .int (xs 2)] 0 9 rfl rfl) rfl rfl hl.1 rfl (lv_room (Nat.le_of_ble_eq_true rfl)) dL_law_1263 ⟨Nat.le_of_ble_eq_true rfl, Nat.le_of_ble_eq_true rfl⟩) (fun r3 u4 H locs hw5 hP hD hS => ?_)
  try dsimp only at hw5
  have hP : va_P G vwCl [(h1, oX10 bm 0 0 0 0 0 0 0 0 (-1) 0 0 0 0 0 0 0 0 0), (bm 1, .inl (cI, 149, .inl (fun _ => 0))), (bm 15, .inl (cZ, 80, .inl (fun _ => 0))), (bm 16, .inl (cI, 7, .inl (fun _ => 0))), (bm 21, .inl (cZ, 80, .inl (fun _ => 0))), (bm 24, .inl (cI, 80, .inl (fun _ => 0))), (bm 25, .inl (cI, 6, .inl (fun _ => 0))), (bm 29, .inl (cI, 6, .inl (fun _ => 0))), (bm 30, .inl (cZ, 1040, .inl (fun _ => 0))), (bm 31, .inl (cI, 1040, .inl (fun _ => 0))), (bm 32, .inl (cI, 78, .inl (fun _ => 0))), (bm 27, .inl (cI, 7, .inl (fun _ => 0))), (h0, oX9 b), (b 1, oX0 bc 0 0 0 0 0 0 0 0 0 0)] H := hP
  have hD : va_D A [(h1, oX10 bm 0 0 0 0 0 0 0 0 (-1) 0 0 0 0 0 0 0 0 0), (bm 1, .inl (cI, 149, .inl (fun _ => 0))), (bm 15, .inl (cZ, 80, .inl (fun _ => 0))), (bm 16, .inl (cI, 7, .inl (fun _ => 0))), (bm 21, .inl (cZ, 80, .inl (fun _ => 0))), (bm 24, .inl (cI, 80, .inl (fun _ => 0))), (bm 25, .inl (cI, 6, .inl (fun _ => 0))), (bm 29, .inl (cI, 6, .inl (fun _ => 0))), (bm 30, .inl (cZ, 1040, .inl (fun _ => 0))), (bm 31, .inl (cI, 1040, .inl (fun _ => 0))), (bm 32, .inl (cI, 78, .inl (fun _ => 0))), (bm 27, .inl (cI, 7, .inl (fun _ => 0))), (h0, oX9 b), (b 1, oX0 bc 0 0 0 0 0 0 0 0 0 0)] := hD
  obtain rfl : r3 = (-2) := hw5
  refine lv_aload_n hx hb dL_law_1266 rfl (lv_at hl 1 rfl) ?_
  refine lv_aload_n hx hb dL_law_1267 rfl (lv_at hl 3 rfl) ?_
  refine lv_iload_n hx hb dL_law_1268 rfl (lv_at hl 0 rfl) ?_
  refine lv_iconst (v := 1) hx hb dL_law_1269 (by decide) ?_
  refine lv_iadd hx hb dL_law_1270 ?_
  refine lv_topi (fun v6 ev6 => ?_)
  obtain rfl : v6 = 1 := ev6.trans (by decide)
  refine va_sld hx hb hX hbl hbA hS (ix_in ki_1 (by omega) (by omega)) dL_law_1271 ?_
  refine W.eq (g2 := F0 m 1272 ls [.int (xs 1), .ref h1, .int (-2)]) rfl ?_
  refine lv_aload_n hx hb dL_law_1272 rfl (lv_at hl 3 rfl) ?_
  refine lv_iload_n hx hb dL_law_1273 rfl (lv_at hl 0 rfl) ?_
  refine lv_iconst (v := 2) hx hb dL_law_1274 (by decide) ?_
  refine lv_iadd hx hb dL_law_1275 ?_
  refine lv_topi (fun v7 ev7 => ?_)
  obtain rfl : v7 = 2 := ev7.trans (by decide)
  refine va_sld hx hb hX hbl hbA hS (ix_in ki_2 (by omega) (by omega)) dL_law_1276 ?_
  refine W.eq (g2 := F0 m 1277 ls [.int (xs 2), .int (xs 1), .ref h1, .int (-2)]) rfl ?_
  refine k_i (wc := [(h1, oX10 bm 0 0 0 0 0 0 0 0 (-1) 0 0 0 0 0 0 0 0 0), (bm 1, .inl (cI, 149, .inl (fun _ => 0))), (bm 15, .inl (cZ, 80, .inl (fun _ => 0))), (bm 16, .inl (cI, 7, .inl (fun _ => 0))), (bm 21, .inl (cZ, 80, .inl (fun _ => 0))), (bm 24, .inl (cI, 80, .inl (fun _ => 0))), (bm 25, .inl (cI, 6, .inl (fun _ => 0))), (bm 29, .inl (cI, 6, .inl (fun _ => 0))), (bm 30, .inl (cZ, 1040, .inl (fun _ => 0))), (bm 31, .inl (cI, 1040, .inl (fun _ => 0))), (bm 32, .inl (cI, 78, .inl (fun _ => 0))), (bm 27, .inl (cI, 7, .inl (fun _ => 0)))]) (wr := [(h0, oX9 b), (b 1, oX0 bc 0 0 0 0 0 0 0 0 0 0)]) hP hD hS hA [0, 1, 2, 3, 4, 5, 6, 7, 8, 9, 10, 11] [12, 13] rfl rfl rfl (by decide) (va_runV (As := [.int (xs 1), .int (xs 2)]) (rest := [.int (-2)]) ⟨hx, hb, hml, hown, hts⟩ (f_X10_house l G cI cJ cZ cB cQ _ h1 bm (xs 1) (xs 2)) (cwV 2 hts (gV w_1764 w_1765 w_1766 w_11 w_1767) rfl rfl rfl ⟨rfl, hd_X10_house⟩ ⟨Nat.le_of_ble_eq_true rfl, Nat.le_of_ble_eq_true rfl⟩) (mV hK hZ hP hD [0, 1, 2, 3, 4, 5, 6, 7, 8, 9, 10, 11] rfl rfl [.int (xs 1), .int (xs 2)] 0 10 rfl rfl) rfl rfl hl.1 rfl (lv_room (Nat.le_of_ble_eq_true rfl)) dL_law_1277 ⟨Nat.le_of_ble_eq_true rfl, Nat.le_of_ble_eq_true rfl⟩) (fun r8 u9 H locs hw10 hP hD hS => ?_)
  obtain ⟨f011, rfl⟩ : ∃ z, z = u9 := ⟨_, rfl⟩
  try dsimp only at hw10
  have hP : va_P G vwCl [(h0, oX9 b), (b 1, oX0 bc 0 0 0 0 0 0 0 0 0 0), (h1, oX10 bm 0 0 0 0 0 0 0 0 (-1) 0 0 (-1) 0 0 0 0 0 0), (bm 1, .inl (cI, 149, .inl (fun _ => 0))), (bm 15, .inl (cZ, 80, .inl (fun _ => 0))), (bm 16, .inl (cI, 7, .inl (fun _ => 0))), (bm 21, .inl (cZ, 80, .inl (fun _ => 0))), (bm 24, .inl (cI, 80, .inl (fun _ => 0))), (bm 25, .inl (cI, 6, .inl (fun _ => 0))), (bm 29, .inl (cI, 6, .inl (fun _ => 0))), (bm 30, .inl (cZ, 1040, .inl (fun _ => 0))), (bm 31, .inl (cI, 1040, .inl (fun _ => 0))), (bm 32, .inl (cI, 78, .inl (fun _ => 0))), (bm 27, .inl (cI, 7, .inl f011))] H := hP
  have hD : va_D A [(h0, oX9 b), (b 1, oX0 bc 0 0 0 0 0 0 0 0 0 0), (h1, oX10 bm 0 0 0 0 0 0 0 0 (-1) 0 0 (-1) 0 0 0 0 0 0), (bm 1, .inl (cI, 149, .inl (fun _ => 0))), (bm 15, .inl (cZ, 80, .inl (fun _ => 0))), (bm 16, .inl (cI, 7, .inl (fun _ => 0))), (bm 21, .inl (cZ, 80, .inl (fun _ => 0))), (bm 24, .inl (cI, 80, .inl (fun _ => 0))), (bm 25, .inl (cI, 6, .inl (fun _ => 0))), (bm 29, .inl (cI, 6, .inl (fun _ => 0))), (bm 30, .inl (cZ, 1040, .inl (fun _ => 0))), (bm 31, .inl (cI, 1040, .inl (fun _ => 0))), (bm 32, .inl (cI, 78, .inl (fun _ => 0))), (bm 27, .inl (cI, 7, .inl f011))] := hD
  obtain rfl : r8 = (-2) := hw10
  refine lv_icmp_eq (tgt := 2226) hx hb dL_law_1280 (by decide) (fun c12 => ?_) (fun c12 => absurd (by decide) c12)
  refine lv_iinc (v := 6) (lv' := [(3, .int 6), (2, .ref h1), (1, .ref h0), (0, .ref sb)]) hx hb dL_law_2226 hl (k := 0) rfl (by decide) (by decide) rfl (fun ls hl => ?_)
  refine lv_goto (tgt := 18) hx hb dL_law_2229 (by decide) ?_
  exact law_exit hL6 C0 hAe hS ls (lv_sub hl [3, 0] rfl) (by decide) (by decide)
