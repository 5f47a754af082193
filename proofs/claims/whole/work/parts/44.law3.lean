theorem d_Law_law_1023 : decode code 1023 = .ok (.iadd, 1) := by decide +kernel
theorem d_Law_law_1024 : decode code 1024 = .ok (.iaload, 1) := by decide +kernel
theorem d_Law_law_1025 : decode code 1025 = .ok (.invokevirtual 76, 3) := by decide +kernel
theorem d_Law_law_1028 : decode code 1028 = .ok (.aload_n 2, 1) := by decide +kernel
theorem d_Law_law_1029 : decode code 1029 = .ok (.aload_n 0, 1) := by decide +kernel
theorem d_Law_law_1030 : decode code 1030 = .ok (.iload 4, 2) := by decide +kernel
theorem d_Law_law_1032 : decode code 1032 = .ok (.iconst 1, 1) := by decide +kernel
theorem d_Law_law_1033 : decode code 1033 = .ok (.iadd, 1) := by decide +kernel
theorem d_Law_law_1034 : decode code 1034 = .ok (.iaload, 1) := by decide +kernel
theorem d_Law_law_1035 : decode code 1035 = .ok (.invokevirtual 80, 3) := by decide +kernel
theorem d_Law_law_1038 : decode code 1038 = .ok (.lcmp, 1) := by decide +kernel
theorem d_Law_law_1039 : decode code 1039 = .ok (.ifCond .eq 288, 3) := by decide +kernel
theorem d_Law_law_1042 : decode code 1042 = .ok (.iconst 0, 1) := by decide +kernel
theorem d_Law_law_1043 : decode code 1043 = .ok (.ireturn, 1) := by decide +kernel
theorem d_Law_law_1044 : decode code 1044 = .ok (.aload_n 1, 1) := by decide +kernel
theorem d_Law_law_1045 : decode code 1045 = .ok (.aload_n 0, 1) := by decide +kernel
theorem d_Law_law_1046 : decode code 1046 = .ok (.iload 4, 2) := by decide +kernel
theorem d_Law_law_1048 : decode code 1048 = .ok (.iconst 1, 1) := by decide +kernel
theorem d_Law_law_1049 : decode code 1049 = .ok (.iadd, 1) := by decide +kernel
theorem d_Law_law_1050 : decode code 1050 = .ok (.iaload, 1) := by decide +kernel
theorem d_Law_law_1051 : decode code 1051 = .ok (.aload_n 0, 1) := by decide +kernel
theorem d_Law_law_1052 : decode code 1052 = .ok (.iload 4, 2) := by decide +kernel
theorem d_Law_law_1054 : decode code 1054 = .ok (.iconst 2, 1) := by decide +kernel
theorem d_Law_law_1055 : decode code 1055 = .ok (.iadd, 1) := by decide +kernel
theorem d_Law_law_1056 : decode code 1056 = .ok (.iaload, 1) := by decide +kernel
theorem d_Law_law_1057 : decode code 1057 = .ok (.aload_n 0, 1) := by decide +kernel
theorem d_Law_law_1058 : decode code 1058 = .ok (.iload 4, 2) := by decide +kernel
theorem d_Law_law_1060 : decode code 1060 = .ok (.iconst 3, 1) := by decide +kernel
theorem d_Law_law_1061 : decode code 1061 = .ok (.iadd, 1) := by decide +kernel
theorem d_Law_law_1062 : decode code 1062 = .ok (.iaload, 1) := by decide +kernel
theorem d_Law_law_1063 : decode code 1063 = .ok (.invokevirtual 81, 3) := by decide +kernel
theorem d_Law_law_1066 : decode code 1066 = .ok (.aload_n 2, 1) := by decide +kernel
theorem d_Law_law_1067 : decode code 1067 = .ok (.aload_n 0, 1) := by decide +kernel
theorem d_Law_law_1068 : decode code 1068 = .ok (.iload 4, 2) := by decide +kernel
theorem d_Law_law_1070 : decode code 1070 = .ok (.iconst 1, 1) := by decide +kernel
theorem d_Law_law_1071 : decode code 1071 = .ok (.iadd, 1) := by decide +kernel
theorem d_Law_law_1072 : decode code 1072 = .ok (.iaload, 1) := by decide +kernel
theorem d_Law_law_1073 : decode code 1073 = .ok (.aload_n 0, 1) := by decide +kernel
theorem d_Law_law_1074 : decode code 1074 = .ok (.iload 4, 2) := by decide +kernel
theorem d_Law_law_1076 : decode code 1076 = .ok (.iconst 2, 1) := by decide +kernel
theorem d_Law_law_1077 : decode code 1077 = .ok (.iadd, 1) := by decide +kernel
theorem d_Law_law_1078 : decode code 1078 = .ok (.iaload, 1) := by decide +kernel
theorem d_Law_law_1079 : decode code 1079 = .ok (.aload_n 0, 1) := by decide +kernel
theorem d_Law_law_1080 : decode code 1080 = .ok (.iload 4, 2) := by decide +kernel
theorem d_Law_law_1082 : decode code 1082 = .ok (.iconst 3, 1) := by decide +kernel
theorem d_Law_law_1083 : decode code 1083 = .ok (.iadd, 1) := by decide +kernel
theorem d_Law_law_1084 : decode code 1084 = .ok (.iaload, 1) := by decide +kernel
theorem d_Law_law_1085 : decode code 1085 = .ok (.invokevirtual 84, 3) := by decide +kernel
theorem d_Law_law_1088 : decode code 1088 = .ok (.lcmp, 1) := by decide +kernel
theorem d_Law_law_1089 : decode code 1089 = .ok (.ifCond .eq 238, 3) := by decide +kernel
theorem d_Law_law_1092 : decode code 1092 = .ok (.iconst 0, 1) := by decide +kernel
theorem d_Law_law_1093 : decode code 1093 = .ok (.ireturn, 1) := by decide +kernel
theorem d_Law_law_1094 : decode code 1094 = .ok (.aload_n 1, 1) := by decide +kernel
theorem d_Law_law_1095 : decode code 1095 = .ok (.aload_n 0, 1) := by decide +kernel
theorem d_Law_law_1096 : decode code 1096 = .ok (.iload 4, 2) := by decide +kernel
theorem d_Law_law_1098 : decode code 1098 = .ok (.iconst 1, 1) := by decide +kernel
theorem d_Law_law_1099 : decode code 1099 = .ok (.iadd, 1) := by decide +kernel
theorem d_Law_law_1100 : decode code 1100 = .ok (.iaload, 1) := by decide +kernel
theorem d_Law_law_1101 : decode code 1101 = .ok (.invokevirtual 85, 3) := by decide +kernel
theorem d_Law_law_1104 : decode code 1104 = .ok (.aload_n 2, 1) := by decide +kernel
theorem d_Law_law_1105 : decode code 1105 = .ok (.aload_n 0, 1) := by decide +kernel
theorem d_Law_law_1106 : decode code 1106 = .ok (.iload 4, 2) := by decide +kernel
theorem d_Law_law_1108 : decode code 1108 = .ok (.iconst 1, 1) := by decide +kernel
theorem d_Law_law_1109 : decode code 1109 = .ok (.iadd, 1) := by decide +kernel
theorem d_Law_law_1110 : decode code 1110 = .ok (.iaload, 1) := by decide +kernel
theorem d_Law_law_1111 : decode code 1111 = .ok (.invokevirtual 88, 3) := by decide +kernel
theorem d_Law_law_1114 : decode code 1114 = .ok (.if_icmp .eq 213, 3) := by decide +kernel
theorem d_Law_law_1117 : decode code 1117 = .ok (.iconst 0, 1) := by decide +kernel
theorem d_Law_law_1118 : decode code 1118 = .ok (.ireturn, 1) := by decide +kernel
theorem d_Law_law_1119 : decode code 1119 = .ok (.aload_n 1, 1) := by decide +kernel
theorem d_Law_law_1120 : decode code 1120 = .ok (.aload_n 0, 1) := by decide +kernel
theorem d_Law_law_1121 : decode code 1121 = .ok (.iload 4, 2) := by decide +kernel
theorem d_Law_law_1123 : decode code 1123 = .ok (.iconst 1, 1) := by decide +kernel
theorem d_Law_law_1124 : decode code 1124 = .ok (.iadd, 1) := by decide +kernel
theorem d_Law_law_1125 : decode code 1125 = .ok (.iaload, 1) := by decide +kernel
theorem d_Law_law_1126 : decode code 1126 = .ok (.aload_n 0, 1) := by decide +kernel
theorem d_Law_law_1127 : decode code 1127 = .ok (.iload 4, 2) := by decide +kernel
theorem d_Law_law_1129 : decode code 1129 = .ok (.iconst 2, 1) := by decide +kernel
theorem d_Law_law_1130 : decode code 1130 = .ok (.iadd, 1) := by decide +kernel
theorem d_Law_law_1131 : decode code 1131 = .ok (.iaload, 1) := by decide +kernel
theorem d_Law_law_1132 : decode code 1132 = .ok (.invokevirtual 89, 3) := by decide +kernel
theorem d_Law_law_1135 : decode code 1135 = .ok (.aload_n 2, 1) := by decide +kernel
theorem d_Law_law_1136 : decode code 1136 = .ok (.aload_n 0, 1) := by decide +kernel
theorem d_Law_law_1137 : decode code 1137 = .ok (.iload 4, 2) := by decide +kernel
theorem d_Law_law_1139 : decode code 1139 = .ok (.iconst 1, 1) := by decide +kernel
theorem d_Law_law_1140 : decode code 1140 = .ok (.iadd, 1) := by decide +kernel
theorem d_Law_law_1141 : decode code 1141 = .ok (.iaload, 1) := by decide +kernel
theorem d_Law_law_1142 : decode code 1142 = .ok (.aload_n 0, 1) := by decide +kernel
theorem d_Law_law_1143 : decode code 1143 = .ok (.iload 4, 2) := by decide +kernel
theorem d_Law_law_1145 : decode code 1145 = .ok (.iconst 2, 1) := by decide +kernel
theorem d_Law_law_1146 : decode code 1146 = .ok (.iadd, 1) := by decide +kernel
theorem d_Law_law_1147 : decode code 1147 = .ok (.iaload, 1) := by decide +kernel
theorem d_Law_law_1148 : decode code 1148 = .ok (.invokevirtual 93, 3) := by decide +kernel
theorem d_Law_law_1151 : decode code 1151 = .ok (.lcmp, 1) := by decide +kernel
theorem d_Law_law_1152 : decode code 1152 = .ok (.ifCond .eq 175, 3) := by decide +kernel
theorem d_Law_law_1155 : decode code 1155 = .ok (.iconst 0, 1) := by decide +kernel
theorem d_Law_law_1156 : decode code 1156 = .ok (.ireturn, 1) := by decide +kernel
theorem d_Law_law_1157 : decode code 1157 = .ok (.aload_n 1, 1) := by decide +kernel
theorem d_Law_law_1158 : decode code 1158 = .ok (.aload_n 0, 1) := by decide +kernel
theorem d_Law_law_1159 : decode code 1159 = .ok (.iload 4, 2) := by decide +kernel
theorem d_Law_law_1161 : decode code 1161 = .ok (.iconst 1, 1) := by decide +kernel
theorem d_Law_law_1162 : decode code 1162 = .ok (.iadd, 1) := by decide +kernel
theorem d_Law_law_1163 : decode code 1163 = .ok (.iaload, 1) := by decide +kernel
theorem d_Law_law_1164 : decode code 1164 = .ok (.aload_n 0, 1) := by decide +kernel
theorem d_Law_law_1165 : decode code 1165 = .ok (.iload 4, 2) := by decide +kernel
theorem d_Law_law_1167 : decode code 1167 = .ok (.iconst 2, 1) := by decide +kernel
theorem d_Law_law_1168 : decode code 1168 = .ok (.iadd, 1) := by decide +kernel
theorem d_Law_law_1169 : decode code 1169 = .ok (.iaload, 1) := by decide +kernel
theorem d_Law_law_1170 : decode code 1170 = .ok (.aload_n 0, 1) := by decide +kernel
theorem d_Law_law_1171 : decode code 1171 = .ok (.iload 4, 2) := by decide +kernel
theorem d_Law_law_1173 : decode code 1173 = .ok (.iconst 3, 1) := by decide +kernel
theorem d_Law_law_1174 : decode code 1174 = .ok (.iadd, 1) := by decide +kernel
theorem d_Law_law_1175 : decode code 1175 = .ok (.iaload, 1) := by decide +kernel
theorem d_Law_law_1176 : decode code 1176 = .ok (.invokevirtual 94, 3) := by decide +kernel
theorem d_Law_law_1179 : decode code 1179 = .ok (.aload_n 2, 1) := by decide +kernel
theorem d_Law_law_1180 : decode code 1180 = .ok (.aload_n 0, 1) := by decide +kernel
theorem d_Law_law_1181 : decode code 1181 = .ok (.iload 4, 2) := by decide +kernel
theorem d_Law_law_1183 : decode code 1183 = .ok (.iconst 1, 1) := by decide +kernel
theorem d_Law_law_1184 : decode code 1184 = .ok (.iadd, 1) := by decide +kernel
theorem d_Law_law_1185 : decode code 1185 = .ok (.iaload, 1) := by decide +kernel
theorem d_Law_law_1186 : decode code 1186 = .ok (.aload_n 0, 1) := by decide +kernel
theorem d_Law_law_1187 : decode code 1187 = .ok (.iload 4, 2) := by decide +kernel
theorem d_Law_law_1189 : decode code 1189 = .ok (.iconst 2, 1) := by decide +kernel
theorem d_Law_law_1190 : decode code 1190 = .ok (.iadd, 1) := by decide +kernel
theorem d_Law_law_1191 : decode code 1191 = .ok (.iaload, 1) := by decide +kernel
theorem d_Law_law_1192 : decode code 1192 = .ok (.aload_n 0, 1) := by decide +kernel
theorem d_Law_law_1193 : decode code 1193 = .ok (.iload 4, 2) := by decide +kernel
theorem d_Law_law_1195 : decode code 1195 = .ok (.iconst 3, 1) := by decide +kernel
theorem d_Law_law_1196 : decode code 1196 = .ok (.iadd, 1) := by decide +kernel
theorem d_Law_law_1197 : decode code 1197 = .ok (.iaload, 1) := by decide +kernel
theorem d_Law_law_1198 : decode code 1198 = .ok (.invokevirtual 98, 3) := by decide +kernel
theorem d_Law_law_1201 : decode code 1201 = .ok (.if_icmp .eq 126, 3) := by decide +kernel
theorem d_Law_law_1204 : decode code 1204 = .ok (.iconst 0, 1) := by decide +kernel
theorem d_Law_law_1205 : decode code 1205 = .ok (.ireturn, 1) := by decide +kernel
theorem d_Law_law_1206 : decode code 1206 = .ok (.aload_n 1, 1) := by decide +kernel
theorem d_Law_law_1207 : decode code 1207 = .ok (.aload_n 0, 1) := by decide +kernel
theorem d_Law_law_1208 : decode code 1208 = .ok (.iload 4, 2) := by decide +kernel
theorem d_Law_law_1210 : decode code 1210 = .ok (.iconst 1, 1) := by decide +kernel
theorem d_Law_law_1211 : decode code 1211 = .ok (.iadd, 1) := by decide +kernel
theorem d_Law_law_1212 : decode code 1212 = .ok (.iaload, 1) := by decide +kernel
theorem d_Law_law_1213 : decode code 1213 = .ok (.i2l, 1) := by decide +kernel
theorem d_Law_law_1214 : decode code 1214 = .ok (.bipush 32, 2) := by decide +kernel
theorem d_Law_law_1216 : decode code 1216 = .ok (.lshl, 1) := by decide +kernel
theorem d_Law_law_1217 : decode code 1217 = .ok (.aload_n 0, 1) := by decide +kernel
theorem d_Law_law_1218 : decode code 1218 = .ok (.iload 4, 2) := by decide +kernel
theorem d_Law_law_1220 : decode code 1220 = .ok (.iconst 2, 1) := by decide +kernel
theorem d_Law_law_1221 : decode code 1221 = .ok (.iadd, 1) := by decide +kernel
theorem d_Law_law_1222 : decode code 1222 = .ok (.iaload, 1) := by decide +kernel
theorem d_Law_law_1223 : decode code 1223 = .ok (.i2l, 1) := by decide +kernel
theorem d_Law_law_1224 : decode code 1224 = .ok (.ldc2_w 19, 3) := by decide +kernel
theorem d_Law_law_1227 : decode code 1227 = .ok (.land, 1) := by decide +kernel
theorem d_Law_law_1228 : decode code 1228 = .ok (.lor, 1) := by decide +kernel
theorem d_Law_law_1229 : decode code 1229 = .ok (.aload_n 0, 1) := by decide +kernel
theorem d_Law_law_1230 : decode code 1230 = .ok (.iload 4, 2) := by decide +kernel
theorem d_Law_law_1232 : decode code 1232 = .ok (.iconst 3, 1) := by decide +kernel
theorem d_Law_law_1233 : decode code 1233 = .ok (.iadd, 1) := by decide +kernel
theorem d_Law_law_1234 : decode code 1234 = .ok (.iaload, 1) := by decide +kernel
theorem d_Law_law_1235 : decode code 1235 = .ok (.invokevirtual 99, 3) := by decide +kernel
theorem d_Law_law_1238 : decode code 1238 = .ok (.aload_n 2, 1) := by decide +kernel
theorem d_Law_law_1239 : decode code 1239 = .ok (.aload_n 0, 1) := by decide +kernel
theorem d_Law_law_1240 : decode code 1240 = .ok (.iload 4, 2) := by decide +kernel
theorem d_Law_law_1242 : decode code 1242 = .ok (.iconst 1, 1) := by decide +kernel
theorem d_Law_law_1243 : decode code 1243 = .ok (.iadd, 1) := by decide +kernel
theorem d_Law_law_1244 : decode code 1244 = .ok (.iaload, 1) := by decide +kernel
theorem d_Law_law_1245 : decode code 1245 = .ok (.i2l, 1) := by decide +kernel
theorem d_Law_law_1246 : decode code 1246 = .ok (.bipush 32, 2) := by decide +kernel
theorem d_Law_law_1248 : decode code 1248 = .ok (.lshl, 1) := by decide +kernel
theorem d_Law_law_1249 : decode code 1249 = .ok (.aload_n 0, 1) := by decide +kernel
theorem d_Law_law_1250 : decode code 1250 = .ok (.iload 4, 2) := by decide +kernel
theorem d_Law_law_1252 : decode code 1252 = .ok (.iconst 2, 1) := by decide +kernel
theorem d_Law_law_1253 : decode code 1253 = .ok (.iadd, 1) := by decide +kernel
theorem d_Law_law_1254 : decode code 1254 = .ok (.iaload, 1) := by decide +kernel
theorem d_Law_law_1255 : decode code 1255 = .ok (.i2l, 1) := by decide +kernel
theorem d_Law_law_1256 : decode code 1256 = .ok (.ldc2_w 19, 3) := by decide +kernel
theorem d_Law_law_1259 : decode code 1259 = .ok (.land, 1) := by decide +kernel
theorem d_Law_law_1260 : decode code 1260 = .ok (.lor, 1) := by decide +kernel
theorem d_Law_law_1261 : decode code 1261 = .ok (.aload_n 0, 1) := by decide +kernel
theorem d_Law_law_1262 : decode code 1262 = .ok (.iload 4, 2) := by decide +kernel
theorem d_Law_law_1264 : decode code 1264 = .ok (.iconst 3, 1) := by decide +kernel
theorem d_Law_law_1265 : decode code 1265 = .ok (.iadd, 1) := by decide +kernel
theorem d_Law_law_1266 : decode code 1266 = .ok (.iaload, 1) := by decide +kernel
theorem d_Law_law_1267 : decode code 1267 = .ok (.invokevirtual 103, 3) := by decide +kernel
theorem d_Law_law_1270 : decode code 1270 = .ok (.lcmp, 1) := by decide +kernel
theorem d_Law_law_1271 : decode code 1271 = .ok (.ifCond .eq 56, 3) := by decide +kernel
theorem d_Law_law_1274 : decode code 1274 = .ok (.iconst 0, 1) := by decide +kernel
theorem d_Law_law_1275 : decode code 1275 = .ok (.ireturn, 1) := by decide +kernel
theorem d_Law_law_1276 : decode code 1276 = .ok (.aload_n 1, 1) := by decide +kernel
theorem d_Law_law_1277 : decode code 1277 = .ok (.invokevirtual 104, 3) := by decide +kernel
theorem d_Law_law_1280 : decode code 1280 = .ok (.aload_n 2, 1) := by decide +kernel
theorem d_Law_law_1281 : decode code 1281 = .ok (.invokevirtual 107, 3) := by decide +kernel
theorem d_Law_law_1284 : decode code 1284 = .ok (.if_icmp .eq 43, 3) := by decide +kernel
theorem d_Law_law_1287 : decode code 1287 = .ok (.iconst 0, 1) := by decide +kernel
theorem d_Law_law_1288 : decode code 1288 = .ok (.ireturn, 1) := by decide +kernel
theorem d_Law_law_1289 : decode code 1289 = .ok (.aload_n 1, 1) := by decide +kernel
theorem d_Law_law_1290 : decode code 1290 = .ok (.aload_n 0, 1) := by decide +kernel
theorem d_Law_law_1291 : decode code 1291 = .ok (.iload 4, 2) := by decide +kernel
theorem d_Law_law_1293 : decode code 1293 = .ok (.iconst 1, 1) := by decide +kernel
theorem d_Law_law_1294 : decode code 1294 = .ok (.iadd, 1) := by decide +kernel
theorem d_Law_law_1295 : decode code 1295 = .ok (.iaload, 1) := by decide +kernel
theorem d_Law_law_1296 : decode code 1296 = .ok (.aload_n 0, 1) := by decide +kernel
theorem d_Law_law_1297 : decode code 1297 = .ok (.iload 4, 2) := by decide +kernel
theorem d_Law_law_1299 : decode code 1299 = .ok (.iconst 2, 1) := by decide +kernel
theorem d_Law_law_1300 : decode code 1300 = .ok (.iadd, 1) := by decide +kernel
theorem d_Law_law_1301 : decode code 1301 = .ok (.iaload, 1) := by decide +kernel
theorem d_Law_law_1302 : decode code 1302 = .ok (.invokevirtual 108, 3) := by decide +kernel
theorem d_Law_law_1305 : decode code 1305 = .ok (.aload_n 2, 1) := by decide +kernel
theorem d_Law_law_1306 : decode code 1306 = .ok (.aload_n 0, 1) := by decide +kernel
theorem d_Law_law_1307 : decode code 1307 = .ok (.iload 4, 2) := by decide +kernel
theorem d_Law_law_1309 : decode code 1309 = .ok (.iconst 1, 1) := by decide +kernel
theorem d_Law_law_1310 : decode code 1310 = .ok (.iadd, 1) := by decide +kernel
theorem d_Law_law_1311 : decode code 1311 = .ok (.iaload, 1) := by decide +kernel
theorem d_Law_law_1312 : decode code 1312 = .ok (.aload_n 0, 1) := by decide +kernel
theorem d_Law_law_1313 : decode code 1313 = .ok (.iload 4, 2) := by decide +kernel
theorem d_Law_law_1315 : decode code 1315 = .ok (.iconst 2, 1) := by decide +kernel
theorem d_Law_law_1316 : decode code 1316 = .ok (.iadd, 1) := by decide +kernel
theorem d_Law_law_1317 : decode code 1317 = .ok (.iaload, 1) := by decide +kernel
theorem d_Law_law_1318 : decode code 1318 = .ok (.invokevirtual 111, 3) := by decide +kernel
theorem d_Law_law_1321 : decode code 1321 = .ok (.lcmp, 1) := by decide +kernel
theorem d_Law_law_1322 : decode code 1322 = .ok (.ifCond .eq 5, 3) := by decide +kernel
theorem d_Law_law_1325 : decode code 1325 = .ok (.iconst 0, 1) := by decide +kernel
theorem d_Law_law_1326 : decode code 1326 = .ok (.ireturn, 1) := by decide +kernel
theorem d_Law_law_1327 : decode code 1327 = .ok (.iinc 4 7, 3) := by decide +kernel
theorem d_Law_law_1330 : decode code 1330 = .ok (.goto (-1307), 3) := by decide +kernel
theorem d_Law_law_1333 : decode code 1333 = .ok (.iconst 1, 1) := by decide +kernel
theorem d_Law_law_1334 : decode code 1334 = .ok (.ireturn, 1) := by decide +kernel
