/-! THE LAW: instructions -/
theorem eL_1025 : decode ML.2.1 1025 = .ok (.iload_n 3, 1) := by decide +kernel
theorem eL_1026 : decode ML.2.1 1026 = .ok (.iconst 2, 1) := by decide +kernel
theorem eL_1027 : decode ML.2.1 1027 = .ok (.iadd, 1) := by decide +kernel
theorem eL_1028 : decode ML.2.1 1028 = .ok (.iaload, 1) := by decide +kernel
theorem eL_1029 : decode ML.2.1 1029 = .ok (.invokevirtual 116, 3) := by decide +kernel
theorem eL_1032 : decode ML.2.1 1032 = .ok (.if_icmp .eq 277, 3) := by decide +kernel
theorem eL_1037 : decode ML.2.1 1037 = .ok (.aload_n 1, 1) := by decide +kernel
theorem eL_1038 : decode ML.2.1 1038 = .ok (.aload_n 0, 1) := by decide +kernel
theorem eL_1039 : decode ML.2.1 1039 = .ok (.iload_n 3, 1) := by decide +kernel
theorem eL_1040 : decode ML.2.1 1040 = .ok (.iconst 1, 1) := by decide +kernel
theorem eL_1041 : decode ML.2.1 1041 = .ok (.iadd, 1) := by decide +kernel
theorem eL_1042 : decode ML.2.1 1042 = .ok (.iaload, 1) := by decide +kernel
theorem eL_1043 : decode ML.2.1 1043 = .ok (.invokevirtual 117, 3) := by decide +kernel
theorem eL_1046 : decode ML.2.1 1046 = .ok (.aload_n 2, 1) := by decide +kernel
theorem eL_1047 : decode ML.2.1 1047 = .ok (.aload_n 0, 1) := by decide +kernel
theorem eL_1048 : decode ML.2.1 1048 = .ok (.iload_n 3, 1) := by decide +kernel
theorem eL_1049 : decode ML.2.1 1049 = .ok (.iconst 1, 1) := by decide +kernel
theorem eL_1050 : decode ML.2.1 1050 = .ok (.iadd, 1) := by decide +kernel
theorem eL_1051 : decode ML.2.1 1051 = .ok (.iaload, 1) := by decide +kernel
theorem eL_1052 : decode ML.2.1 1052 = .ok (.invokevirtual 120, 3) := by decide +kernel
theorem eL_1055 : decode ML.2.1 1055 = .ok (.if_icmp .eq 254, 3) := by decide +kernel
theorem eL_1060 : decode ML.2.1 1060 = .ok (.aload_n 1, 1) := by decide +kernel
theorem eL_1061 : decode ML.2.1 1061 = .ok (.aload_n 0, 1) := by decide +kernel
theorem eL_1062 : decode ML.2.1 1062 = .ok (.iload_n 3, 1) := by decide +kernel
theorem eL_1063 : decode ML.2.1 1063 = .ok (.iconst 1, 1) := by decide +kernel
theorem eL_1064 : decode ML.2.1 1064 = .ok (.iadd, 1) := by decide +kernel
theorem eL_1065 : decode ML.2.1 1065 = .ok (.iaload, 1) := by decide +kernel
theorem eL_1066 : decode ML.2.1 1066 = .ok (.aload_n 0, 1) := by decide +kernel
theorem eL_1067 : decode ML.2.1 1067 = .ok (.iload_n 3, 1) := by decide +kernel
theorem eL_1068 : decode ML.2.1 1068 = .ok (.iconst 2, 1) := by decide +kernel
theorem eL_1069 : decode ML.2.1 1069 = .ok (.iadd, 1) := by decide +kernel
theorem eL_1070 : decode ML.2.1 1070 = .ok (.iaload, 1) := by decide +kernel
theorem eL_1071 : decode ML.2.1 1071 = .ok (.invokevirtual 121, 3) := by decide +kernel
theorem eL_1074 : decode ML.2.1 1074 = .ok (.aload_n 2, 1) := by decide +kernel
theorem eL_1075 : decode ML.2.1 1075 = .ok (.aload_n 0, 1) := by decide +kernel
theorem eL_1076 : decode ML.2.1 1076 = .ok (.iload_n 3, 1) := by decide +kernel
theorem eL_1077 : decode ML.2.1 1077 = .ok (.iconst 1, 1) := by decide +kernel
theorem eL_1078 : decode ML.2.1 1078 = .ok (.iadd, 1) := by decide +kernel
theorem eL_1079 : decode ML.2.1 1079 = .ok (.iaload, 1) := by decide +kernel
theorem eL_1080 : decode ML.2.1 1080 = .ok (.aload_n 0, 1) := by decide +kernel
theorem eL_1081 : decode ML.2.1 1081 = .ok (.iload_n 3, 1) := by decide +kernel
theorem eL_1082 : decode ML.2.1 1082 = .ok (.iconst 2, 1) := by decide +kernel
theorem eL_1083 : decode ML.2.1 1083 = .ok (.iadd, 1) := by decide +kernel
theorem eL_1084 : decode ML.2.1 1084 = .ok (.iaload, 1) := by decide +kernel
theorem eL_1085 : decode ML.2.1 1085 = .ok (.invokevirtual 124, 3) := by decide +kernel
theorem eL_1088 : decode ML.2.1 1088 = .ok (.if_icmp .eq 221, 3) := by decide +kernel
theorem eL_1093 : decode ML.2.1 1093 = .ok (.aload_n 1, 1) := by decide +kernel
theorem eL_1094 : decode ML.2.1 1094 = .ok (.aload_n 0, 1) := by decide +kernel
theorem eL_1095 : decode ML.2.1 1095 = .ok (.iload_n 3, 1) := by decide +kernel
theorem eL_1096 : decode ML.2.1 1096 = .ok (.iconst 1, 1) := by decide +kernel
theorem eL_1097 : decode ML.2.1 1097 = .ok (.iadd, 1) := by decide +kernel
theorem eL_1098 : decode ML.2.1 1098 = .ok (.iaload, 1) := by decide +kernel
theorem eL_1099 : decode ML.2.1 1099 = .ok (.aload_n 0, 1) := by decide +kernel
theorem eL_1100 : decode ML.2.1 1100 = .ok (.iload_n 3, 1) := by decide +kernel
theorem eL_1101 : decode ML.2.1 1101 = .ok (.iconst 2, 1) := by decide +kernel
theorem eL_1102 : decode ML.2.1 1102 = .ok (.iadd, 1) := by decide +kernel
theorem eL_1103 : decode ML.2.1 1103 = .ok (.iaload, 1) := by decide +kernel
theorem eL_1104 : decode ML.2.1 1104 = .ok (.aload_n 0, 1) := by decide +kernel
theorem eL_1105 : decode ML.2.1 1105 = .ok (.iload_n 3, 1) := by decide +kernel
theorem eL_1106 : decode ML.2.1 1106 = .ok (.iconst 3, 1) := by decide +kernel
theorem eL_1107 : decode ML.2.1 1107 = .ok (.iadd, 1) := by decide +kernel
theorem eL_1108 : decode ML.2.1 1108 = .ok (.iaload, 1) := by decide +kernel
theorem eL_1109 : decode ML.2.1 1109 = .ok (.aload_n 0, 1) := by decide +kernel
theorem eL_1110 : decode ML.2.1 1110 = .ok (.iload_n 3, 1) := by decide +kernel
theorem eL_1111 : decode ML.2.1 1111 = .ok (.iconst 4, 1) := by decide +kernel
theorem eL_1112 : decode ML.2.1 1112 = .ok (.iadd, 1) := by decide +kernel
theorem eL_1113 : decode ML.2.1 1113 = .ok (.iaload, 1) := by decide +kernel
theorem eL_1114 : decode ML.2.1 1114 = .ok (.invokevirtual 125, 3) := by decide +kernel
theorem eL_1117 : decode ML.2.1 1117 = .ok (.aload_n 2, 1) := by decide +kernel
theorem eL_1118 : decode ML.2.1 1118 = .ok (.aload_n 0, 1) := by decide +kernel
theorem eL_1119 : decode ML.2.1 1119 = .ok (.iload_n 3, 1) := by decide +kernel
theorem eL_1120 : decode ML.2.1 1120 = .ok (.iconst 1, 1) := by decide +kernel
theorem eL_1121 : decode ML.2.1 1121 = .ok (.iadd, 1) := by decide +kernel
theorem eL_1122 : decode ML.2.1 1122 = .ok (.iaload, 1) := by decide +kernel
theorem eL_1123 : decode ML.2.1 1123 = .ok (.aload_n 0, 1) := by decide +kernel
theorem eL_1124 : decode ML.2.1 1124 = .ok (.iload_n 3, 1) := by decide +kernel
theorem eL_1125 : decode ML.2.1 1125 = .ok (.iconst 2, 1) := by decide +kernel
theorem eL_1126 : decode ML.2.1 1126 = .ok (.iadd, 1) := by decide +kernel
theorem eL_1127 : decode ML.2.1 1127 = .ok (.iaload, 1) := by decide +kernel
theorem eL_1128 : decode ML.2.1 1128 = .ok (.aload_n 0, 1) := by decide +kernel
theorem eL_1129 : decode ML.2.1 1129 = .ok (.iload_n 3, 1) := by decide +kernel
theorem eL_1130 : decode ML.2.1 1130 = .ok (.iconst 3, 1) := by decide +kernel
theorem eL_1131 : decode ML.2.1 1131 = .ok (.iadd, 1) := by decide +kernel
theorem eL_1132 : decode ML.2.1 1132 = .ok (.iaload, 1) := by decide +kernel
theorem eL_1133 : decode ML.2.1 1133 = .ok (.aload_n 0, 1) := by decide +kernel
theorem eL_1134 : decode ML.2.1 1134 = .ok (.iload_n 3, 1) := by decide +kernel
theorem eL_1135 : decode ML.2.1 1135 = .ok (.iconst 4, 1) := by decide +kernel
theorem eL_1136 : decode ML.2.1 1136 = .ok (.iadd, 1) := by decide +kernel
theorem eL_1137 : decode ML.2.1 1137 = .ok (.iaload, 1) := by decide +kernel
theorem eL_1138 : decode ML.2.1 1138 = .ok (.invokevirtual 128, 3) := by decide +kernel
theorem eL_1141 : decode ML.2.1 1141 = .ok (.lcmp, 1) := by decide +kernel
theorem eL_1142 : decode ML.2.1 1142 = .ok (.ifCond .eq 167, 3) := by decide +kernel
theorem eL_1147 : decode ML.2.1 1147 = .ok (.aload_n 1, 1) := by decide +kernel
theorem eL_1148 : decode ML.2.1 1148 = .ok (.aload_n 0, 1) := by decide +kernel
theorem eL_1149 : decode ML.2.1 1149 = .ok (.iload_n 3, 1) := by decide +kernel
theorem eL_1150 : decode ML.2.1 1150 = .ok (.iconst 1, 1) := by decide +kernel
theorem eL_1151 : decode ML.2.1 1151 = .ok (.iadd, 1) := by decide +kernel
theorem eL_1152 : decode ML.2.1 1152 = .ok (.iaload, 1) := by decide +kernel
theorem eL_1153 : decode ML.2.1 1153 = .ok (.aload_n 0, 1) := by decide +kernel
theorem eL_1154 : decode ML.2.1 1154 = .ok (.iload_n 3, 1) := by decide +kernel
theorem eL_1155 : decode ML.2.1 1155 = .ok (.iconst 2, 1) := by decide +kernel
theorem eL_1156 : decode ML.2.1 1156 = .ok (.iadd, 1) := by decide +kernel
theorem eL_1157 : decode ML.2.1 1157 = .ok (.iaload, 1) := by decide +kernel
theorem eL_1158 : decode ML.2.1 1158 = .ok (.aload_n 0, 1) := by decide +kernel
theorem eL_1159 : decode ML.2.1 1159 = .ok (.iload_n 3, 1) := by decide +kernel
theorem eL_1160 : decode ML.2.1 1160 = .ok (.iconst 3, 1) := by decide +kernel
theorem eL_1161 : decode ML.2.1 1161 = .ok (.iadd, 1) := by decide +kernel
theorem eL_1162 : decode ML.2.1 1162 = .ok (.iaload, 1) := by decide +kernel
theorem eL_1163 : decode ML.2.1 1163 = .ok (.invokevirtual 129, 3) := by decide +kernel
theorem eL_1166 : decode ML.2.1 1166 = .ok (.aload_n 2, 1) := by decide +kernel
theorem eL_1167 : decode ML.2.1 1167 = .ok (.aload_n 0, 1) := by decide +kernel
theorem eL_1168 : decode ML.2.1 1168 = .ok (.iload_n 3, 1) := by decide +kernel
theorem eL_1169 : decode ML.2.1 1169 = .ok (.iconst 1, 1) := by decide +kernel
theorem eL_1170 : decode ML.2.1 1170 = .ok (.iadd, 1) := by decide +kernel
theorem eL_1171 : decode ML.2.1 1171 = .ok (.iaload, 1) := by decide +kernel
theorem eL_1172 : decode ML.2.1 1172 = .ok (.aload_n 0, 1) := by decide +kernel
theorem eL_1173 : decode ML.2.1 1173 = .ok (.iload_n 3, 1) := by decide +kernel
theorem eL_1174 : decode ML.2.1 1174 = .ok (.iconst 2, 1) := by decide +kernel
theorem eL_1175 : decode ML.2.1 1175 = .ok (.iadd, 1) := by decide +kernel
theorem eL_1176 : decode ML.2.1 1176 = .ok (.iaload, 1) := by decide +kernel
theorem eL_1177 : decode ML.2.1 1177 = .ok (.aload_n 0, 1) := by decide +kernel
theorem eL_1178 : decode ML.2.1 1178 = .ok (.iload_n 3, 1) := by decide +kernel
theorem eL_1179 : decode ML.2.1 1179 = .ok (.iconst 3, 1) := by decide +kernel
theorem eL_1180 : decode ML.2.1 1180 = .ok (.iadd, 1) := by decide +kernel
theorem eL_1181 : decode ML.2.1 1181 = .ok (.iaload, 1) := by decide +kernel
theorem eL_1182 : decode ML.2.1 1182 = .ok (.invokevirtual 132, 3) := by decide +kernel
theorem eL_1185 : decode ML.2.1 1185 = .ok (.if_icmp .eq 124, 3) := by decide +kernel
theorem eL_1190 : decode ML.2.1 1190 = .ok (.aload_n 1, 1) := by decide +kernel
theorem eL_1191 : decode ML.2.1 1191 = .ok (.aload_n 0, 1) := by decide +kernel
theorem eL_1192 : decode ML.2.1 1192 = .ok (.iload_n 3, 1) := by decide +kernel
theorem eL_1193 : decode ML.2.1 1193 = .ok (.iconst 1, 1) := by decide +kernel
theorem eL_1194 : decode ML.2.1 1194 = .ok (.iadd, 1) := by decide +kernel
theorem eL_1195 : decode ML.2.1 1195 = .ok (.iaload, 1) := by decide +kernel
theorem eL_1196 : decode ML.2.1 1196 = .ok (.aload_n 0, 1) := by decide +kernel
theorem eL_1197 : decode ML.2.1 1197 = .ok (.iload_n 3, 1) := by decide +kernel
theorem eL_1198 : decode ML.2.1 1198 = .ok (.iconst 2, 1) := by decide +kernel
theorem eL_1199 : decode ML.2.1 1199 = .ok (.iadd, 1) := by decide +kernel
theorem eL_1200 : decode ML.2.1 1200 = .ok (.iaload, 1) := by decide +kernel
theorem eL_1201 : decode ML.2.1 1201 = .ok (.aload_n 0, 1) := by decide +kernel
theorem eL_1202 : decode ML.2.1 1202 = .ok (.iload_n 3, 1) := by decide +kernel
theorem eL_1203 : decode ML.2.1 1203 = .ok (.iconst 3, 1) := by decide +kernel
theorem eL_1204 : decode ML.2.1 1204 = .ok (.iadd, 1) := by decide +kernel
theorem eL_1205 : decode ML.2.1 1205 = .ok (.iaload, 1) := by decide +kernel
theorem eL_1206 : decode ML.2.1 1206 = .ok (.invokevirtual 133, 3) := by decide +kernel
theorem eL_1209 : decode ML.2.1 1209 = .ok (.aload_n 2, 1) := by decide +kernel
theorem eL_1210 : decode ML.2.1 1210 = .ok (.aload_n 0, 1) := by decide +kernel
theorem eL_1211 : decode ML.2.1 1211 = .ok (.iload_n 3, 1) := by decide +kernel
theorem eL_1212 : decode ML.2.1 1212 = .ok (.iconst 1, 1) := by decide +kernel
theorem eL_1213 : decode ML.2.1 1213 = .ok (.iadd, 1) := by decide +kernel
theorem eL_1214 : decode ML.2.1 1214 = .ok (.iaload, 1) := by decide +kernel
theorem eL_1215 : decode ML.2.1 1215 = .ok (.aload_n 0, 1) := by decide +kernel
theorem eL_1216 : decode ML.2.1 1216 = .ok (.iload_n 3, 1) := by decide +kernel
theorem eL_1217 : decode ML.2.1 1217 = .ok (.iconst 2, 1) := by decide +kernel
theorem eL_1218 : decode ML.2.1 1218 = .ok (.iadd, 1) := by decide +kernel
theorem eL_1219 : decode ML.2.1 1219 = .ok (.iaload, 1) := by decide +kernel
theorem eL_1220 : decode ML.2.1 1220 = .ok (.aload_n 0, 1) := by decide +kernel
theorem eL_1221 : decode ML.2.1 1221 = .ok (.iload_n 3, 1) := by decide +kernel
theorem eL_1222 : decode ML.2.1 1222 = .ok (.iconst 3, 1) := by decide +kernel
theorem eL_1223 : decode ML.2.1 1223 = .ok (.iadd, 1) := by decide +kernel
theorem eL_1224 : decode ML.2.1 1224 = .ok (.iaload, 1) := by decide +kernel
theorem eL_1225 : decode ML.2.1 1225 = .ok (.invokevirtual 136, 3) := by decide +kernel
theorem eL_1228 : decode ML.2.1 1228 = .ok (.if_icmp .eq 81, 3) := by decide +kernel
theorem eL_1233 : decode ML.2.1 1233 = .ok (.aload_n 1, 1) := by decide +kernel
theorem eL_1234 : decode ML.2.1 1234 = .ok (.aload_n 0, 1) := by decide +kernel
theorem eL_1235 : decode ML.2.1 1235 = .ok (.iload_n 3, 1) := by decide +kernel
theorem eL_1236 : decode ML.2.1 1236 = .ok (.iconst 1, 1) := by decide +kernel
theorem eL_1237 : decode ML.2.1 1237 = .ok (.iadd, 1) := by decide +kernel
theorem eL_1238 : decode ML.2.1 1238 = .ok (.iaload, 1) := by decide +kernel
theorem eL_1239 : decode ML.2.1 1239 = .ok (.aload_n 0, 1) := by decide +kernel
theorem eL_1240 : decode ML.2.1 1240 = .ok (.iload_n 3, 1) := by decide +kernel
theorem eL_1241 : decode ML.2.1 1241 = .ok (.iconst 2, 1) := by decide +kernel
theorem eL_1242 : decode ML.2.1 1242 = .ok (.iadd, 1) := by decide +kernel
theorem eL_1243 : decode ML.2.1 1243 = .ok (.iaload, 1) := by decide +kernel
theorem eL_1244 : decode ML.2.1 1244 = .ok (.aload_n 0, 1) := by decide +kernel
theorem eL_1245 : decode ML.2.1 1245 = .ok (.iload_n 3, 1) := by decide +kernel
theorem eL_1246 : decode ML.2.1 1246 = .ok (.iconst 3, 1) := by decide +kernel
theorem eL_1247 : decode ML.2.1 1247 = .ok (.iadd, 1) := by decide +kernel
theorem eL_1248 : decode ML.2.1 1248 = .ok (.iaload, 1) := by decide +kernel
theorem eL_1249 : decode ML.2.1 1249 = .ok (.aload_n 0, 1) := by decide +kernel
theorem eL_1250 : decode ML.2.1 1250 = .ok (.iload_n 3, 1) := by decide +kernel
theorem eL_1251 : decode ML.2.1 1251 = .ok (.iconst 4, 1) := by decide +kernel
theorem eL_1252 : decode ML.2.1 1252 = .ok (.iadd, 1) := by decide +kernel
theorem eL_1253 : decode ML.2.1 1253 = .ok (.iaload, 1) := by decide +kernel
theorem eL_1254 : decode ML.2.1 1254 = .ok (.invokevirtual 137, 3) := by decide +kernel
theorem eL_1257 : decode ML.2.1 1257 = .ok (.aload_n 2, 1) := by decide +kernel
theorem eL_1258 : decode ML.2.1 1258 = .ok (.aload_n 0, 1) := by decide +kernel
theorem eL_1259 : decode ML.2.1 1259 = .ok (.iload_n 3, 1) := by decide +kernel
theorem eL_1260 : decode ML.2.1 1260 = .ok (.iconst 1, 1) := by decide +kernel
theorem eL_1261 : decode ML.2.1 1261 = .ok (.iadd, 1) := by decide +kernel
theorem eL_1262 : decode ML.2.1 1262 = .ok (.iaload, 1) := by decide +kernel
theorem eL_1263 : decode ML.2.1 1263 = .ok (.aload_n 0, 1) := by decide +kernel
theorem eL_1264 : decode ML.2.1 1264 = .ok (.iload_n 3, 1) := by decide +kernel
theorem eL_1265 : decode ML.2.1 1265 = .ok (.iconst 2, 1) := by decide +kernel
theorem eL_1266 : decode ML.2.1 1266 = .ok (.iadd, 1) := by decide +kernel
theorem eL_1267 : decode ML.2.1 1267 = .ok (.iaload, 1) := by decide +kernel
theorem eL_1268 : decode ML.2.1 1268 = .ok (.aload_n 0, 1) := by decide +kernel
theorem eL_1269 : decode ML.2.1 1269 = .ok (.iload_n 3, 1) := by decide +kernel
theorem eL_1270 : decode ML.2.1 1270 = .ok (.iconst 3, 1) := by decide +kernel
theorem eL_1271 : decode ML.2.1 1271 = .ok (.iadd, 1) := by decide +kernel
theorem eL_1272 : decode ML.2.1 1272 = .ok (.iaload, 1) := by decide +kernel
theorem eL_1273 : decode ML.2.1 1273 = .ok (.aload_n 0, 1) := by decide +kernel
theorem eL_1274 : decode ML.2.1 1274 = .ok (.iload_n 3, 1) := by decide +kernel
theorem eL_1275 : decode ML.2.1 1275 = .ok (.iconst 4, 1) := by decide +kernel
theorem eL_1276 : decode ML.2.1 1276 = .ok (.iadd, 1) := by decide +kernel
theorem eL_1277 : decode ML.2.1 1277 = .ok (.iaload, 1) := by decide +kernel
theorem eL_1278 : decode ML.2.1 1278 = .ok (.invokevirtual 140, 3) := by decide +kernel
theorem eL_1281 : decode ML.2.1 1281 = .ok (.if_icmp .eq 28, 3) := by decide +kernel
theorem eL_1286 : decode ML.2.1 1286 = .ok (.aload_n 1, 1) := by decide +kernel
theorem eL_1287 : decode ML.2.1 1287 = .ok (.aload_n 0, 1) := by decide +kernel
theorem eL_1288 : decode ML.2.1 1288 = .ok (.iload_n 3, 1) := by decide +kernel
theorem eL_1289 : decode ML.2.1 1289 = .ok (.iconst 1, 1) := by decide +kernel
theorem eL_1290 : decode ML.2.1 1290 = .ok (.iadd, 1) := by decide +kernel
theorem eL_1291 : decode ML.2.1 1291 = .ok (.iaload, 1) := by decide +kernel
theorem eL_1292 : decode ML.2.1 1292 = .ok (.invokevirtual 141, 3) := by decide +kernel
theorem eL_1295 : decode ML.2.1 1295 = .ok (.aload_n 2, 1) := by decide +kernel
theorem eL_1296 : decode ML.2.1 1296 = .ok (.aload_n 0, 1) := by decide +kernel
theorem eL_1297 : decode ML.2.1 1297 = .ok (.iload_n 3, 1) := by decide +kernel
theorem eL_1298 : decode ML.2.1 1298 = .ok (.iconst 1, 1) := by decide +kernel
theorem eL_1299 : decode ML.2.1 1299 = .ok (.iadd, 1) := by decide +kernel
theorem eL_1300 : decode ML.2.1 1300 = .ok (.iaload, 1) := by decide +kernel
theorem eL_1301 : decode ML.2.1 1301 = .ok (.invokevirtual 144, 3) := by decide +kernel
theorem eL_1304 : decode ML.2.1 1304 = .ok (.if_icmp .eq 5, 3) := by decide +kernel
theorem eL_1309 : decode ML.2.1 1309 = .ok (.iinc 3 6, 3) := by decide +kernel
theorem eL_1312 : decode ML.2.1 1312 = .ok (.goto (-1294), 3) := by decide +kernel
theorem eL_1315 : decode ML.2.1 1315 = .ok (.iconst 1, 1) := by decide +kernel
theorem eL_1316 : decode ML.2.1 1316 = .ok (.ireturn, 1) := by decide +kernel
