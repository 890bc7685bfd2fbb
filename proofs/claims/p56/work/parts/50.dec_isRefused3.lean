theorem dL_isRefused_994 : decode cL_isRefused 994 = .ok (.ifCond .eq 12, 3) := by decide +kernel
theorem dL_isRefused_997 : decode cL_isRefused 997 = .ok (.iconst (-1), 1) := by decide +kernel
theorem dL_isRefused_998 : decode cL_isRefused 998 = .ok (.iload_n 3, 1) := by decide +kernel
theorem dL_isRefused_999 : decode cL_isRefused 999 = .ok (.bipush 30, 2) := by decide +kernel
theorem dL_isRefused_1001 : decode cL_isRefused 1001 = .ok (.irem, 1) := by decide +kernel
theorem dL_isRefused_1002 : decode cL_isRefused 1002 = .ok (.isub, 1) := by decide +kernel
theorem dL_isRefused_1003 : decode cL_isRefused 1003 = .ok (.goto 14, 3) := by decide +kernel
theorem dL_isRefused_1006 : decode cL_isRefused 1006 = .ok (.aload_n 0, 1) := by decide +kernel
theorem dL_isRefused_1007 : decode cL_isRefused 1007 = .ok (.iload 13, 2) := by decide +kernel
theorem dL_isRefused_1009 : decode cL_isRefused 1009 = .ok (.invokevirtual 127, 3) := by decide +kernel
theorem dL_isRefused_1012 : decode cL_isRefused 1012 = .ok (.iload_n 3, 1) := by decide +kernel
theorem dL_isRefused_1013 : decode cL_isRefused 1013 = .ok (.bipush 30, 2) := by decide +kernel
theorem dL_isRefused_1015 : decode cL_isRefused 1015 = .ok (.irem, 1) := by decide +kernel
theorem dL_isRefused_1016 : decode cL_isRefused 1016 = .ok (.iadd, 1) := by decide +kernel
theorem dL_isRefused_1017 : decode cL_isRefused 1017 = .ok (.istore 14, 2) := by decide +kernel
theorem dL_isRefused_1019 : decode cL_isRefused 1019 = .ok (.aload_n 0, 1) := by decide +kernel
theorem dL_isRefused_1020 : decode cL_isRefused 1020 = .ok (.iconst 1, 1) := by decide +kernel
theorem dL_isRefused_1021 : decode cL_isRefused 1021 = .ok (.iload 13, 2) := by decide +kernel
theorem dL_isRefused_1023 : decode cL_isRefused 1023 = .ok (.iload 14, 2) := by decide +kernel
theorem dL_isRefused_1025 : decode cL_isRefused 1025 = .ok (.iconst 0, 1) := by decide +kernel
theorem dL_isRefused_1026 : decode cL_isRefused 1026 = .ok (.iconst 0, 1) := by decide +kernel
theorem dL_isRefused_1027 : decode cL_isRefused 1027 = .ok (.iconst 0, 1) := by decide +kernel
theorem dL_isRefused_1028 : decode cL_isRefused 1028 = .ok (.invokestatic 241, 3) := by decide +kernel
theorem dL_isRefused_1031 : decode cL_isRefused 1031 = .ok (.sipush (-1261), 3) := by decide +kernel
theorem dL_isRefused_1034 : decode cL_isRefused 1034 = .ok (.if_icmp .ne 395, 3) := by decide +kernel
theorem dL_isRefused_1037 : decode cL_isRefused 1037 = .ok (.aload_n 0, 1) := by decide +kernel
theorem dL_isRefused_1038 : decode cL_isRefused 1038 = .ok (.bipush 10, 2) := by decide +kernel
theorem dL_isRefused_1040 : decode cL_isRefused 1040 = .ok (.iload 13, 2) := by decide +kernel
theorem dL_isRefused_1042 : decode cL_isRefused 1042 = .ok (.iload 4, 2) := by decide +kernel
theorem dL_isRefused_1044 : decode cL_isRefused 1044 = .ok (.ifCond .eq 13, 3) := by decide +kernel
theorem dL_isRefused_1047 : decode cL_isRefused 1047 = .ok (.bipush (-2), 2) := by decide +kernel
theorem dL_isRefused_1049 : decode cL_isRefused 1049 = .ok (.iload_n 3, 1) := by decide +kernel
theorem dL_isRefused_1050 : decode cL_isRefused 1050 = .ok (.bipush 30, 2) := by decide +kernel
theorem dL_isRefused_1052 : decode cL_isRefused 1052 = .ok (.irem, 1) := by decide +kernel
theorem dL_isRefused_1053 : decode cL_isRefused 1053 = .ok (.isub, 1) := by decide +kernel
theorem dL_isRefused_1054 : decode cL_isRefused 1054 = .ok (.goto 4, 3) := by decide +kernel
theorem dL_isRefused_1057 : decode cL_isRefused 1057 = .ok (.iconst 4, 1) := by decide +kernel
theorem dL_isRefused_1058 : decode cL_isRefused 1058 = .ok (.iconst 0, 1) := by decide +kernel
theorem dL_isRefused_1059 : decode cL_isRefused 1059 = .ok (.iconst 0, 1) := by decide +kernel
theorem dL_isRefused_1060 : decode cL_isRefused 1060 = .ok (.iconst 0, 1) := by decide +kernel
theorem dL_isRefused_1061 : decode cL_isRefused 1061 = .ok (.invokestatic 241, 3) := by decide +kernel
theorem dL_isRefused_1064 : decode cL_isRefused 1064 = .ok (.sipush (-1262), 3) := by decide +kernel
theorem dL_isRefused_1067 : decode cL_isRefused 1067 = .ok (.if_icmp .ne 362, 3) := by decide +kernel
theorem dL_isRefused_1070 : decode cL_isRefused 1070 = .ok (.aload_n 0, 1) := by decide +kernel
theorem dL_isRefused_1071 : decode cL_isRefused 1071 = .ok (.bipush 13, 2) := by decide +kernel
theorem dL_isRefused_1073 : decode cL_isRefused 1073 = .ok (.iload 13, 2) := by decide +kernel
theorem dL_isRefused_1075 : decode cL_isRefused 1075 = .ok (.iconst (-1), 1) := by decide +kernel
theorem dL_isRefused_1076 : decode cL_isRefused 1076 = .ok (.iload_n 3, 1) := by decide +kernel
theorem dL_isRefused_1077 : decode cL_isRefused 1077 = .ok (.bipush 30, 2) := by decide +kernel
theorem dL_isRefused_1079 : decode cL_isRefused 1079 = .ok (.irem, 1) := by decide +kernel
theorem dL_isRefused_1080 : decode cL_isRefused 1080 = .ok (.isub, 1) := by decide +kernel
theorem dL_isRefused_1081 : decode cL_isRefused 1081 = .ok (.iconst 0, 1) := by decide +kernel
theorem dL_isRefused_1082 : decode cL_isRefused 1082 = .ok (.iconst 0, 1) := by decide +kernel
theorem dL_isRefused_1083 : decode cL_isRefused 1083 = .ok (.iconst 0, 1) := by decide +kernel
theorem dL_isRefused_1084 : decode cL_isRefused 1084 = .ok (.invokestatic 241, 3) := by decide +kernel
theorem dL_isRefused_1087 : decode cL_isRefused 1087 = .ok (.sipush (-1262), 3) := by decide +kernel
theorem dL_isRefused_1090 : decode cL_isRefused 1090 = .ok (.if_icmp .ne 339, 3) := by decide +kernel
theorem dL_isRefused_1093 : decode cL_isRefused 1093 = .ok (.aload_n 0, 1) := by decide +kernel
theorem dL_isRefused_1094 : decode cL_isRefused 1094 = .ok (.bipush 15, 2) := by decide +kernel
theorem dL_isRefused_1096 : decode cL_isRefused 1096 = .ok (.iconst 0, 1) := by decide +kernel
theorem dL_isRefused_1097 : decode cL_isRefused 1097 = .ok (.iload 13, 2) := by decide +kernel
theorem dL_isRefused_1099 : decode cL_isRefused 1099 = .ok (.iload 14, 2) := by decide +kernel
theorem dL_isRefused_1101 : decode cL_isRefused 1101 = .ok (.bipush 9, 2) := by decide +kernel
theorem dL_isRefused_1103 : decode cL_isRefused 1103 = .ok (.bipush 9, 2) := by decide +kernel
theorem dL_isRefused_1105 : decode cL_isRefused 1105 = .ok (.invokestatic 241, 3) := by decide +kernel
theorem dL_isRefused_1108 : decode cL_isRefused 1108 = .ok (.sipush (-1261), 3) := by decide +kernel
theorem dL_isRefused_1111 : decode cL_isRefused 1111 = .ok (.if_icmp .ne 318, 3) := by decide +kernel
theorem dL_isRefused_1114 : decode cL_isRefused 1114 = .ok (.aload_n 0, 1) := by decide +kernel
theorem dL_isRefused_1115 : decode cL_isRefused 1115 = .ok (.bipush 15, 2) := by decide +kernel
theorem dL_isRefused_1117 : decode cL_isRefused 1117 = .ok (.iconst 0, 1) := by decide +kernel
theorem dL_isRefused_1118 : decode cL_isRefused 1118 = .ok (.iload 13, 2) := by decide +kernel
theorem dL_isRefused_1120 : decode cL_isRefused 1120 = .ok (.iconst 0, 1) := by decide +kernel
theorem dL_isRefused_1121 : decode cL_isRefused 1121 = .ok (.iload 9, 2) := by decide +kernel
theorem dL_isRefused_1123 : decode cL_isRefused 1123 = .ok (.iconst 0, 1) := by decide +kernel
theorem dL_isRefused_1124 : decode cL_isRefused 1124 = .ok (.invokestatic 241, 3) := by decide +kernel
theorem dL_isRefused_1127 : decode cL_isRefused 1127 = .ok (.sipush (-1262), 3) := by decide +kernel
theorem dL_isRefused_1130 : decode cL_isRefused 1130 = .ok (.if_icmp .ne 299, 3) := by decide +kernel
theorem dL_isRefused_1133 : decode cL_isRefused 1133 = .ok (.aload_n 0, 1) := by decide +kernel
theorem dL_isRefused_1134 : decode cL_isRefused 1134 = .ok (.bipush 15, 2) := by decide +kernel
theorem dL_isRefused_1136 : decode cL_isRefused 1136 = .ok (.iconst 0, 1) := by decide +kernel
theorem dL_isRefused_1137 : decode cL_isRefused 1137 = .ok (.iload 13, 2) := by decide +kernel
theorem dL_isRefused_1139 : decode cL_isRefused 1139 = .ok (.iconst 0, 1) := by decide +kernel
theorem dL_isRefused_1140 : decode cL_isRefused 1140 = .ok (.iconst 1, 1) := by decide +kernel
theorem dL_isRefused_1141 : decode cL_isRefused 1141 = .ok (.iload 4, 2) := by decide +kernel
theorem dL_isRefused_1143 : decode cL_isRefused 1143 = .ok (.ifCond .eq 8, 3) := by decide +kernel
theorem dL_isRefused_1146 : decode cL_isRefused 1146 = .ok (.bipush (-2), 2) := by decide +kernel
theorem dL_isRefused_1148 : decode cL_isRefused 1148 = .ok (.goto 4, 3) := by decide +kernel
theorem dL_isRefused_1151 : decode cL_isRefused 1151 = .ok (.iconst 2, 1) := by decide +kernel
theorem dL_isRefused_1152 : decode cL_isRefused 1152 = .ok (.invokestatic 241, 3) := by decide +kernel
theorem dL_isRefused_1155 : decode cL_isRefused 1155 = .ok (.sipush (-1262), 3) := by decide +kernel
theorem dL_isRefused_1158 : decode cL_isRefused 1158 = .ok (.if_icmp .ne 271, 3) := by decide +kernel
theorem dL_isRefused_1161 : decode cL_isRefused 1161 = .ok (.aload_n 0, 1) := by decide +kernel
theorem dL_isRefused_1162 : decode cL_isRefused 1162 = .ok (.iconst 0, 1) := by decide +kernel
theorem dL_isRefused_1163 : decode cL_isRefused 1163 = .ok (.iload 13, 2) := by decide +kernel
theorem dL_isRefused_1165 : decode cL_isRefused 1165 = .ok (.iload 14, 2) := by decide +kernel
theorem dL_isRefused_1167 : decode cL_isRefused 1167 = .ok (.iconst 0, 1) := by decide +kernel
theorem dL_isRefused_1168 : decode cL_isRefused 1168 = .ok (.iconst 0, 1) := by decide +kernel
theorem dL_isRefused_1169 : decode cL_isRefused 1169 = .ok (.iconst 0, 1) := by decide +kernel
theorem dL_isRefused_1170 : decode cL_isRefused 1170 = .ok (.invokestatic 246, 3) := by decide +kernel
theorem dL_isRefused_1173 : decode cL_isRefused 1173 = .ok (.sipush (-1261), 3) := by decide +kernel
theorem dL_isRefused_1176 : decode cL_isRefused 1176 = .ok (.if_icmp .ne 253, 3) := by decide +kernel
theorem dL_isRefused_1179 : decode cL_isRefused 1179 = .ok (.aload_n 0, 1) := by decide +kernel
theorem dL_isRefused_1180 : decode cL_isRefused 1180 = .ok (.iconst 0, 1) := by decide +kernel
theorem dL_isRefused_1181 : decode cL_isRefused 1181 = .ok (.iload 13, 2) := by decide +kernel
theorem dL_isRefused_1183 : decode cL_isRefused 1183 = .ok (.iconst 0, 1) := by decide +kernel
theorem dL_isRefused_1184 : decode cL_isRefused 1184 = .ok (.iload 8, 2) := by decide +kernel
theorem dL_isRefused_1186 : decode cL_isRefused 1186 = .ok (.iconst 0, 1) := by decide +kernel
theorem dL_isRefused_1187 : decode cL_isRefused 1187 = .ok (.iconst 0, 1) := by decide +kernel
theorem dL_isRefused_1188 : decode cL_isRefused 1188 = .ok (.invokestatic 246, 3) := by decide +kernel
theorem dL_isRefused_1191 : decode cL_isRefused 1191 = .ok (.sipush (-1261), 3) := by decide +kernel
theorem dL_isRefused_1194 : decode cL_isRefused 1194 = .ok (.if_icmp .ne 235, 3) := by decide +kernel
theorem dL_isRefused_1197 : decode cL_isRefused 1197 = .ok (.aload_n 0, 1) := by decide +kernel
theorem dL_isRefused_1198 : decode cL_isRefused 1198 = .ok (.iconst 0, 1) := by decide +kernel
theorem dL_isRefused_1199 : decode cL_isRefused 1199 = .ok (.iload 13, 2) := by decide +kernel
theorem dL_isRefused_1201 : decode cL_isRefused 1201 = .ok (.iconst 0, 1) := by decide +kernel
theorem dL_isRefused_1202 : decode cL_isRefused 1202 = .ok (.iconst 0, 1) := by decide +kernel
theorem dL_isRefused_1203 : decode cL_isRefused 1203 = .ok (.iload 4, 2) := by decide +kernel
theorem dL_isRefused_1205 : decode cL_isRefused 1205 = .ok (.ifCond .eq 7, 3) := by decide +kernel
theorem dL_isRefused_1208 : decode cL_isRefused 1208 = .ok (.iconst (-1), 1) := by decide +kernel
theorem dL_isRefused_1209 : decode cL_isRefused 1209 = .ok (.goto 5, 3) := by decide +kernel
theorem dL_isRefused_1212 : decode cL_isRefused 1212 = .ok (.bipush 10, 2) := by decide +kernel
theorem dL_isRefused_1214 : decode cL_isRefused 1214 = .ok (.iconst 1, 1) := by decide +kernel
theorem dL_isRefused_1215 : decode cL_isRefused 1215 = .ok (.invokestatic 246, 3) := by decide +kernel
theorem dL_isRefused_1218 : decode cL_isRefused 1218 = .ok (.sipush (-1262), 3) := by decide +kernel
theorem dL_isRefused_1221 : decode cL_isRefused 1221 = .ok (.if_icmp .ne 208, 3) := by decide +kernel
theorem dL_isRefused_1224 : decode cL_isRefused 1224 = .ok (.aload_n 0, 1) := by decide +kernel
theorem dL_isRefused_1225 : decode cL_isRefused 1225 = .ok (.iconst 0, 1) := by decide +kernel
theorem dL_isRefused_1226 : decode cL_isRefused 1226 = .ok (.iload 13, 2) := by decide +kernel
theorem dL_isRefused_1228 : decode cL_isRefused 1228 = .ok (.iconst 0, 1) := by decide +kernel
theorem dL_isRefused_1229 : decode cL_isRefused 1229 = .ok (.iconst 0, 1) := by decide +kernel
theorem dL_isRefused_1230 : decode cL_isRefused 1230 = .ok (.iconst 0, 1) := by decide +kernel
theorem dL_isRefused_1231 : decode cL_isRefused 1231 = .ok (.iload 4, 2) := by decide +kernel
theorem dL_isRefused_1233 : decode cL_isRefused 1233 = .ok (.ifCond .eq 12, 3) := by decide +kernel
theorem dL_isRefused_1236 : decode cL_isRefused 1236 = .ok (.iconst 0, 1) := by decide +kernel
theorem dL_isRefused_1237 : decode cL_isRefused 1237 = .ok (.iload_n 3, 1) := by decide +kernel
theorem dL_isRefused_1238 : decode cL_isRefused 1238 = .ok (.bipush 30, 2) := by decide +kernel
theorem dL_isRefused_1240 : decode cL_isRefused 1240 = .ok (.irem, 1) := by decide +kernel
theorem dL_isRefused_1241 : decode cL_isRefused 1241 = .ok (.isub, 1) := by decide +kernel
theorem dL_isRefused_1242 : decode cL_isRefused 1242 = .ok (.goto 5, 3) := by decide +kernel
theorem dL_isRefused_1245 : decode cL_isRefused 1245 = .ok (.bipush 11, 2) := by decide +kernel
theorem dL_isRefused_1247 : decode cL_isRefused 1247 = .ok (.invokestatic 246, 3) := by decide +kernel
theorem dL_isRefused_1250 : decode cL_isRefused 1250 = .ok (.sipush (-1262), 3) := by decide +kernel
theorem dL_isRefused_1253 : decode cL_isRefused 1253 = .ok (.if_icmp .ne 176, 3) := by decide +kernel
theorem dL_isRefused_1256 : decode cL_isRefused 1256 = .ok (.aload_n 0, 1) := by decide +kernel
theorem dL_isRefused_1257 : decode cL_isRefused 1257 = .ok (.iload 13, 2) := by decide +kernel
theorem dL_isRefused_1259 : decode cL_isRefused 1259 = .ok (.iconst 0, 1) := by decide +kernel
theorem dL_isRefused_1260 : decode cL_isRefused 1260 = .ok (.iconst 0, 1) := by decide +kernel
theorem dL_isRefused_1261 : decode cL_isRefused 1261 = .ok (.iload 4, 2) := by decide +kernel
theorem dL_isRefused_1263 : decode cL_isRefused 1263 = .ok (.ifCond .eq 7, 3) := by decide +kernel
theorem dL_isRefused_1266 : decode cL_isRefused 1266 = .ok (.iconst (-1), 1) := by decide +kernel
theorem dL_isRefused_1267 : decode cL_isRefused 1267 = .ok (.goto 5, 3) := by decide +kernel
theorem dL_isRefused_1270 : decode cL_isRefused 1270 = .ok (.bipush 11, 2) := by decide +kernel
theorem dL_isRefused_1272 : decode cL_isRefused 1272 = .ok (.iconst 0, 1) := by decide +kernel
theorem dL_isRefused_1273 : decode cL_isRefused 1273 = .ok (.iconst 5, 1) := by decide +kernel
theorem dL_isRefused_1274 : decode cL_isRefused 1274 = .ok (.invokestatic 249, 3) := by decide +kernel
theorem dL_isRefused_1277 : decode cL_isRefused 1277 = .ok (.sipush (-1262), 3) := by decide +kernel
theorem dL_isRefused_1280 : decode cL_isRefused 1280 = .ok (.if_icmp .ne 149, 3) := by decide +kernel
theorem dL_isRefused_1283 : decode cL_isRefused 1283 = .ok (.aload_n 0, 1) := by decide +kernel
theorem dL_isRefused_1284 : decode cL_isRefused 1284 = .ok (.iload 13, 2) := by decide +kernel
theorem dL_isRefused_1286 : decode cL_isRefused 1286 = .ok (.iconst 0, 1) := by decide +kernel
theorem dL_isRefused_1287 : decode cL_isRefused 1287 = .ok (.iconst 0, 1) := by decide +kernel
theorem dL_isRefused_1288 : decode cL_isRefused 1288 = .ok (.iconst 0, 1) := by decide +kernel
theorem dL_isRefused_1289 : decode cL_isRefused 1289 = .ok (.iload 4, 2) := by decide +kernel
theorem dL_isRefused_1291 : decode cL_isRefused 1291 = .ok (.ifCond .eq 12, 3) := by decide +kernel
theorem dL_isRefused_1294 : decode cL_isRefused 1294 = .ok (.iconst (-1), 1) := by decide +kernel
theorem dL_isRefused_1295 : decode cL_isRefused 1295 = .ok (.iload_n 3, 1) := by decide +kernel
theorem dL_isRefused_1296 : decode cL_isRefused 1296 = .ok (.bipush 30, 2) := by decide +kernel
theorem dL_isRefused_1298 : decode cL_isRefused 1298 = .ok (.irem, 1) := by decide +kernel
theorem dL_isRefused_1299 : decode cL_isRefused 1299 = .ok (.isub, 1) := by decide +kernel
theorem dL_isRefused_1300 : decode cL_isRefused 1300 = .ok (.goto 5, 3) := by decide +kernel
theorem dL_isRefused_1303 : decode cL_isRefused 1303 = .ok (.bipush 11, 2) := by decide +kernel
theorem dL_isRefused_1305 : decode cL_isRefused 1305 = .ok (.iconst 5, 1) := by decide +kernel
theorem dL_isRefused_1306 : decode cL_isRefused 1306 = .ok (.invokestatic 249, 3) := by decide +kernel
theorem dL_isRefused_1309 : decode cL_isRefused 1309 = .ok (.sipush (-1262), 3) := by decide +kernel
theorem dL_isRefused_1312 : decode cL_isRefused 1312 = .ok (.if_icmp .ne 117, 3) := by decide +kernel
theorem dL_isRefused_1315 : decode cL_isRefused 1315 = .ok (.aload_n 0, 1) := by decide +kernel
theorem dL_isRefused_1316 : decode cL_isRefused 1316 = .ok (.iload 13, 2) := by decide +kernel
theorem dL_isRefused_1318 : decode cL_isRefused 1318 = .ok (.iconst 0, 1) := by decide +kernel
theorem dL_isRefused_1319 : decode cL_isRefused 1319 = .ok (.iconst 0, 1) := by decide +kernel
theorem dL_isRefused_1320 : decode cL_isRefused 1320 = .ok (.iconst 0, 1) := by decide +kernel
theorem dL_isRefused_1321 : decode cL_isRefused 1321 = .ok (.iconst 0, 1) := by decide +kernel
theorem dL_isRefused_1322 : decode cL_isRefused 1322 = .ok (.iload 4, 2) := by decide +kernel
theorem dL_isRefused_1324 : decode cL_isRefused 1324 = .ok (.ifCond .eq 13, 3) := by decide +kernel
theorem dL_isRefused_1327 : decode cL_isRefused 1327 = .ok (.bipush (-2), 2) := by decide +kernel
theorem dL_isRefused_1329 : decode cL_isRefused 1329 = .ok (.iload_n 3, 1) := by decide +kernel
theorem dL_isRefused_1330 : decode cL_isRefused 1330 = .ok (.bipush 30, 2) := by decide +kernel
theorem dL_isRefused_1332 : decode cL_isRefused 1332 = .ok (.irem, 1) := by decide +kernel
theorem dL_isRefused_1333 : decode cL_isRefused 1333 = .ok (.isub, 1) := by decide +kernel
theorem dL_isRefused_1334 : decode cL_isRefused 1334 = .ok (.goto 6, 3) := by decide +kernel
theorem dL_isRefused_1337 : decode cL_isRefused 1337 = .ok (.sipush 400, 3) := by decide +kernel
theorem dL_isRefused_1340 : decode cL_isRefused 1340 = .ok (.invokestatic 249, 3) := by decide +kernel
theorem dL_isRefused_1343 : decode cL_isRefused 1343 = .ok (.sipush (-1262), 3) := by decide +kernel
theorem dL_isRefused_1346 : decode cL_isRefused 1346 = .ok (.if_icmp .ne 83, 3) := by decide +kernel
theorem dL_isRefused_1349 : decode cL_isRefused 1349 = .ok (.aload_n 0, 1) := by decide +kernel
theorem dL_isRefused_1350 : decode cL_isRefused 1350 = .ok (.bipush 20, 2) := by decide +kernel
theorem dL_isRefused_1352 : decode cL_isRefused 1352 = .ok (.iload 13, 2) := by decide +kernel
theorem dL_isRefused_1354 : decode cL_isRefused 1354 = .ok (.iconst 0, 1) := by decide +kernel
theorem dL_isRefused_1355 : decode cL_isRefused 1355 = .ok (.iload 14, 2) := by decide +kernel
theorem dL_isRefused_1357 : decode cL_isRefused 1357 = .ok (.iconst 0, 1) := by decide +kernel
theorem dL_isRefused_1358 : decode cL_isRefused 1358 = .ok (.invokestatic 218, 3) := by decide +kernel
theorem dL_isRefused_1361 : decode cL_isRefused 1361 = .ok (.sipush (-1261), 3) := by decide +kernel
theorem dL_isRefused_1364 : decode cL_isRefused 1364 = .ok (.if_icmp .ne 65, 3) := by decide +kernel
theorem dL_isRefused_1367 : decode cL_isRefused 1367 = .ok (.aload_n 0, 1) := by decide +kernel
theorem dL_isRefused_1368 : decode cL_isRefused 1368 = .ok (.bipush 21, 2) := by decide +kernel
theorem dL_isRefused_1370 : decode cL_isRefused 1370 = .ok (.iload 13, 2) := by decide +kernel
theorem dL_isRefused_1372 : decode cL_isRefused 1372 = .ok (.iconst 0, 1) := by decide +kernel
theorem dL_isRefused_1373 : decode cL_isRefused 1373 = .ok (.iconst 0, 1) := by decide +kernel
theorem dL_isRefused_1374 : decode cL_isRefused 1374 = .ok (.iconst (-1), 1) := by decide +kernel
theorem dL_isRefused_1375 : decode cL_isRefused 1375 = .ok (.iload_n 3, 1) := by decide +kernel
theorem dL_isRefused_1376 : decode cL_isRefused 1376 = .ok (.bipush 30, 2) := by decide +kernel
theorem dL_isRefused_1378 : decode cL_isRefused 1378 = .ok (.irem, 1) := by decide +kernel
theorem dL_isRefused_1379 : decode cL_isRefused 1379 = .ok (.isub, 1) := by decide +kernel
theorem dL_isRefused_1380 : decode cL_isRefused 1380 = .ok (.invokestatic 218, 3) := by decide +kernel
theorem dL_isRefused_1383 : decode cL_isRefused 1383 = .ok (.sipush (-1261), 3) := by decide +kernel
theorem dL_isRefused_1386 : decode cL_isRefused 1386 = .ok (.if_icmp .ne 43, 3) := by decide +kernel
theorem dL_isRefused_1389 : decode cL_isRefused 1389 = .ok (.aload_n 0, 1) := by decide +kernel
theorem dL_isRefused_1390 : decode cL_isRefused 1390 = .ok (.bipush 10, 2) := by decide +kernel
theorem dL_isRefused_1392 : decode cL_isRefused 1392 = .ok (.iload 5, 2) := by decide +kernel
theorem dL_isRefused_1394 : decode cL_isRefused 1394 = .ok (.iload 13, 2) := by decide +kernel
theorem dL_isRefused_1396 : decode cL_isRefused 1396 = .ok (.iconst 0, 1) := by decide +kernel
theorem dL_isRefused_1397 : decode cL_isRefused 1397 = .ok (.iconst 0, 1) := by decide +kernel
theorem dL_isRefused_1398 : decode cL_isRefused 1398 = .ok (.invokestatic 218, 3) := by decide +kernel
theorem dL_isRefused_1401 : decode cL_isRefused 1401 = .ok (.sipush (-1261), 3) := by decide +kernel
theorem dL_isRefused_1404 : decode cL_isRefused 1404 = .ok (.if_icmp .ne 25, 3) := by decide +kernel
theorem dL_isRefused_1407 : decode cL_isRefused 1407 = .ok (.aload_n 0, 1) := by decide +kernel
theorem dL_isRefused_1408 : decode cL_isRefused 1408 = .ok (.bipush 10, 2) := by decide +kernel
theorem dL_isRefused_1410 : decode cL_isRefused 1410 = .ok (.iconst 0, 1) := by decide +kernel
theorem dL_isRefused_1411 : decode cL_isRefused 1411 = .ok (.iload 13, 2) := by decide +kernel
theorem dL_isRefused_1413 : decode cL_isRefused 1413 = .ok (.iconst 0, 1) := by decide +kernel
theorem dL_isRefused_1414 : decode cL_isRefused 1414 = .ok (.iload 9, 2) := by decide +kernel
theorem dL_isRefused_1416 : decode cL_isRefused 1416 = .ok (.invokestatic 218, 3) := by decide +kernel
theorem dL_isRefused_1419 : decode cL_isRefused 1419 = .ok (.sipush (-1262), 3) := by decide +kernel
theorem dL_isRefused_1422 : decode cL_isRefused 1422 = .ok (.if_icmp .ne 7, 3) := by decide +kernel
theorem dL_isRefused_1425 : decode cL_isRefused 1425 = .ok (.iconst 1, 1) := by decide +kernel
theorem dL_isRefused_1426 : decode cL_isRefused 1426 = .ok (.goto 4, 3) := by decide +kernel
theorem dL_isRefused_1429 : decode cL_isRefused 1429 = .ok (.iconst 0, 1) := by decide +kernel
theorem dL_isRefused_1430 : decode cL_isRefused 1430 = .ok (.istore 12, 2) := by decide +kernel
theorem dL_isRefused_1432 : decode cL_isRefused 1432 = .ok (.iinc 13 1, 3) := by decide +kernel
theorem dL_isRefused_1435 : decode cL_isRefused 1435 = .ok (.goto (-457), 3) := by decide +kernel
theorem dL_isRefused_1438 : decode cL_isRefused 1438 = .ok (.iconst 4, 1) := by decide +kernel
theorem dL_isRefused_1439 : decode cL_isRefused 1439 = .ok (.istore 13, 2) := by decide +kernel
theorem dL_isRefused_1441 : decode cL_isRefused 1441 = .ok (.iload 13, 2) := by decide +kernel
theorem dL_isRefused_1443 : decode cL_isRefused 1443 = .ok (.bipush 19, 2) := by decide +kernel
theorem dL_isRefused_1445 : decode cL_isRefused 1445 = .ok (.if_icmp .ge 59, 3) := by decide +kernel
theorem dL_isRefused_1448 : decode cL_isRefused 1448 = .ok (.iload 12, 2) := by decide +kernel
theorem dL_isRefused_1450 : decode cL_isRefused 1450 = .ok (.ifCond .eq 54, 3) := by decide +kernel
theorem dL_isRefused_1453 : decode cL_isRefused 1453 = .ok (.iload 13, 2) := by decide +kernel
theorem dL_isRefused_1455 : decode cL_isRefused 1455 = .ok (.bipush 9, 2) := by decide +kernel
theorem dL_isRefused_1457 : decode cL_isRefused 1457 = .ok (.if_icmp .eq 34, 3) := by decide +kernel
theorem dL_isRefused_1460 : decode cL_isRefused 1460 = .ok (.iload 13, 2) := by decide +kernel
theorem dL_isRefused_1462 : decode cL_isRefused 1462 = .ok (.bipush 10, 2) := by decide +kernel
theorem dL_isRefused_1464 : decode cL_isRefused 1464 = .ok (.if_icmp .eq 27, 3) := by decide +kernel
theorem dL_isRefused_1467 : decode cL_isRefused 1467 = .ok (.iload 13, 2) := by decide +kernel
theorem dL_isRefused_1469 : decode cL_isRefused 1469 = .ok (.bipush 15, 2) := by decide +kernel
theorem dL_isRefused_1471 : decode cL_isRefused 1471 = .ok (.if_icmp .eq 20, 3) := by decide +kernel
theorem dL_isRefused_1474 : decode cL_isRefused 1474 = .ok (.aload_n 0, 1) := by decide +kernel
theorem dL_isRefused_1475 : decode cL_isRefused 1475 = .ok (.iload 13, 2) := by decide +kernel
theorem dL_isRefused_1477 : decode cL_isRefused 1477 = .ok (.iload 6, 2) := by decide +kernel
theorem dL_isRefused_1479 : decode cL_isRefused 1479 = .ok (.iconst 0, 1) := by decide +kernel
theorem dL_isRefused_1480 : decode cL_isRefused 1480 = .ok (.iconst 0, 1) := by decide +kernel
theorem dL_isRefused_1481 : decode cL_isRefused 1481 = .ok (.iconst 0, 1) := by decide +kernel
theorem dL_isRefused_1482 : decode cL_isRefused 1482 = .ok (.invokestatic 218, 3) := by decide +kernel
theorem dL_isRefused_1485 : decode cL_isRefused 1485 = .ok (.sipush (-1261), 3) := by decide +kernel
theorem dL_isRefused_1488 : decode cL_isRefused 1488 = .ok (.if_icmp .ne 7, 3) := by decide +kernel
theorem dL_isRefused_1491 : decode cL_isRefused 1491 = .ok (.iconst 1, 1) := by decide +kernel
theorem dL_isRefused_1492 : decode cL_isRefused 1492 = .ok (.goto 4, 3) := by decide +kernel
theorem dL_isRefused_1495 : decode cL_isRefused 1495 = .ok (.iconst 0, 1) := by decide +kernel
theorem dL_isRefused_1496 : decode cL_isRefused 1496 = .ok (.istore 12, 2) := by decide +kernel
theorem dL_isRefused_1498 : decode cL_isRefused 1498 = .ok (.iinc 13 1, 3) := by decide +kernel
theorem dL_isRefused_1501 : decode cL_isRefused 1501 = .ok (.goto (-60), 3) := by decide +kernel
theorem dL_isRefused_1504 : decode cL_isRefused 1504 = .ok (.iload 12, 2) := by decide +kernel
theorem dL_isRefused_1506 : decode cL_isRefused 1506 = .ok (.ifCond .eq 17, 3) := by decide +kernel
theorem dL_isRefused_1509 : decode cL_isRefused 1509 = .ok (.aload_n 0, 1) := by decide +kernel
theorem dL_isRefused_1510 : decode cL_isRefused 1510 = .ok (.invokestatic 237, 3) := by decide +kernel
theorem dL_isRefused_1513 : decode cL_isRefused 1513 = .ok (.lload 10, 2) := by decide +kernel
theorem dL_isRefused_1515 : decode cL_isRefused 1515 = .ok (.lcmp, 1) := by decide +kernel
theorem dL_isRefused_1516 : decode cL_isRefused 1516 = .ok (.ifCond .ne 7, 3) := by decide +kernel
theorem dL_isRefused_1519 : decode cL_isRefused 1519 = .ok (.iconst 1, 1) := by decide +kernel
theorem dL_isRefused_1520 : decode cL_isRefused 1520 = .ok (.goto 4, 3) := by decide +kernel
theorem dL_isRefused_1523 : decode cL_isRefused 1523 = .ok (.iconst 0, 1) := by decide +kernel
theorem dL_isRefused_1524 : decode cL_isRefused 1524 = .ok (.ireturn, 1) := by decide +kernel
