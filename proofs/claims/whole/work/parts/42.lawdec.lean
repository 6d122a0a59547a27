theorem D_W_law_1114 : decode code 1114 = .ok (.iadd, 1) ∧ 1114 + 1 = 1115 := by decide +kernel
theorem D_W_law_1115 : decode code 1115 = .ok (.iaload, 1) ∧ 1115 + 1 = 1116 := by decide +kernel
theorem D_W_law_1116 : decode code 1116 = .ok (.aload_n 0, 1) ∧ 1116 + 1 = 1117 := by decide +kernel
theorem D_W_law_1117 : decode code 1117 = .ok (.iload_n 3, 1) ∧ 1117 + 1 = 1118 := by decide +kernel
theorem D_W_law_1118 : decode code 1118 = .ok (.iconst 2, 1) ∧ 1118 + 1 = 1119 := by decide +kernel
theorem D_W_law_1119 : decode code 1119 = .ok (.iadd, 1) ∧ 1119 + 1 = 1120 := by decide +kernel
theorem D_W_law_1120 : decode code 1120 = .ok (.iaload, 1) ∧ 1120 + 1 = 1121 := by decide +kernel
theorem D_W_law_1121 : decode code 1121 = .ok (.aload_n 0, 1) ∧ 1121 + 1 = 1122 := by decide +kernel
theorem D_W_law_1122 : decode code 1122 = .ok (.iload_n 3, 1) ∧ 1122 + 1 = 1123 := by decide +kernel
theorem D_W_law_1123 : decode code 1123 = .ok (.iconst 3, 1) ∧ 1123 + 1 = 1124 := by decide +kernel
theorem D_W_law_1124 : decode code 1124 = .ok (.iadd, 1) ∧ 1124 + 1 = 1125 := by decide +kernel
theorem D_W_law_1125 : decode code 1125 = .ok (.iaload, 1) ∧ 1125 + 1 = 1126 := by decide +kernel
theorem D_W_law_1126 : decode code 1126 = .ok (.invokevirtual 137, 3) ∧ 1126 + 3 = 1129 := by decide +kernel
theorem D_W_law_1129 : decode code 1129 = .ok (.aload_n 2, 1) ∧ 1129 + 1 = 1130 := by decide +kernel
theorem D_W_law_1130 : decode code 1130 = .ok (.aload_n 0, 1) ∧ 1130 + 1 = 1131 := by decide +kernel
theorem D_W_law_1131 : decode code 1131 = .ok (.iload_n 3, 1) ∧ 1131 + 1 = 1132 := by decide +kernel
theorem D_W_law_1132 : decode code 1132 = .ok (.iconst 1, 1) ∧ 1132 + 1 = 1133 := by decide +kernel
theorem D_W_law_1133 : decode code 1133 = .ok (.iadd, 1) ∧ 1133 + 1 = 1134 := by decide +kernel
theorem D_W_law_1134 : decode code 1134 = .ok (.iaload, 1) ∧ 1134 + 1 = 1135 := by decide +kernel
theorem D_W_law_1135 : decode code 1135 = .ok (.aload_n 0, 1) ∧ 1135 + 1 = 1136 := by decide +kernel
theorem D_W_law_1136 : decode code 1136 = .ok (.iload_n 3, 1) ∧ 1136 + 1 = 1137 := by decide +kernel
theorem D_W_law_1137 : decode code 1137 = .ok (.iconst 2, 1) ∧ 1137 + 1 = 1138 := by decide +kernel
theorem D_W_law_1138 : decode code 1138 = .ok (.iadd, 1) ∧ 1138 + 1 = 1139 := by decide +kernel
theorem D_W_law_1139 : decode code 1139 = .ok (.iaload, 1) ∧ 1139 + 1 = 1140 := by decide +kernel
theorem D_W_law_1140 : decode code 1140 = .ok (.aload_n 0, 1) ∧ 1140 + 1 = 1141 := by decide +kernel
theorem D_W_law_1141 : decode code 1141 = .ok (.iload_n 3, 1) ∧ 1141 + 1 = 1142 := by decide +kernel
theorem D_W_law_1142 : decode code 1142 = .ok (.iconst 3, 1) ∧ 1142 + 1 = 1143 := by decide +kernel
theorem D_W_law_1143 : decode code 1143 = .ok (.iadd, 1) ∧ 1143 + 1 = 1144 := by decide +kernel
theorem D_W_law_1144 : decode code 1144 = .ok (.iaload, 1) ∧ 1144 + 1 = 1145 := by decide +kernel
theorem D_W_law_1145 : decode code 1145 = .ok (.invokevirtual 140, 3) ∧ 1145 + 3 = 1148 := by decide +kernel
theorem D_W_law_1148 : decode code 1148 = .ok (.if_icmp .eq 351, 3) ∧ ((1148 : Nat) : Int) + 351 = ((1499 : Nat) : Int) ∧ 1148 + 3 = 1151 := by decide +kernel
theorem D_W_law_1151 : decode code 1151 = .ok (.iconst 0, 1) ∧ 1151 + 1 = 1152 := by decide +kernel
theorem D_W_law_1153 : decode code 1153 = .ok (.aload_n 1, 1) ∧ 1153 + 1 = 1154 := by decide +kernel
theorem D_W_law_1154 : decode code 1154 = .ok (.aload_n 0, 1) ∧ 1154 + 1 = 1155 := by decide +kernel
theorem D_W_law_1155 : decode code 1155 = .ok (.iload_n 3, 1) ∧ 1155 + 1 = 1156 := by decide +kernel
theorem D_W_law_1156 : decode code 1156 = .ok (.iconst 1, 1) ∧ 1156 + 1 = 1157 := by decide +kernel
theorem D_W_law_1157 : decode code 1157 = .ok (.iadd, 1) ∧ 1157 + 1 = 1158 := by decide +kernel
theorem D_W_law_1158 : decode code 1158 = .ok (.iaload, 1) ∧ 1158 + 1 = 1159 := by decide +kernel
theorem D_W_law_1159 : decode code 1159 = .ok (.invokevirtual 141, 3) ∧ 1159 + 3 = 1162 := by decide +kernel
theorem D_W_law_1162 : decode code 1162 = .ok (.aload_n 2, 1) ∧ 1162 + 1 = 1163 := by decide +kernel
theorem D_W_law_1163 : decode code 1163 = .ok (.aload_n 0, 1) ∧ 1163 + 1 = 1164 := by decide +kernel
theorem D_W_law_1164 : decode code 1164 = .ok (.iload_n 3, 1) ∧ 1164 + 1 = 1165 := by decide +kernel
theorem D_W_law_1165 : decode code 1165 = .ok (.iconst 1, 1) ∧ 1165 + 1 = 1166 := by decide +kernel
theorem D_W_law_1166 : decode code 1166 = .ok (.iadd, 1) ∧ 1166 + 1 = 1167 := by decide +kernel
theorem D_W_law_1167 : decode code 1167 = .ok (.iaload, 1) ∧ 1167 + 1 = 1168 := by decide +kernel
theorem D_W_law_1168 : decode code 1168 = .ok (.invokevirtual 144, 3) ∧ 1168 + 3 = 1171 := by decide +kernel
theorem D_W_law_1171 : decode code 1171 = .ok (.if_icmp .eq 328, 3) ∧ ((1171 : Nat) : Int) + 328 = ((1499 : Nat) : Int) ∧ 1171 + 3 = 1174 := by decide +kernel
theorem D_W_law_1174 : decode code 1174 = .ok (.iconst 0, 1) ∧ 1174 + 1 = 1175 := by decide +kernel
theorem D_W_law_1176 : decode code 1176 = .ok (.aload_n 1, 1) ∧ 1176 + 1 = 1177 := by decide +kernel
theorem D_W_law_1177 : decode code 1177 = .ok (.aload_n 0, 1) ∧ 1177 + 1 = 1178 := by decide +kernel
theorem D_W_law_1178 : decode code 1178 = .ok (.iload_n 3, 1) ∧ 1178 + 1 = 1179 := by decide +kernel
theorem D_W_law_1179 : decode code 1179 = .ok (.iconst 1, 1) ∧ 1179 + 1 = 1180 := by decide +kernel
theorem D_W_law_1180 : decode code 1180 = .ok (.iadd, 1) ∧ 1180 + 1 = 1181 := by decide +kernel
theorem D_W_law_1181 : decode code 1181 = .ok (.iaload, 1) ∧ 1181 + 1 = 1182 := by decide +kernel
theorem D_W_law_1182 : decode code 1182 = .ok (.invokevirtual 145, 3) ∧ 1182 + 3 = 1185 := by decide +kernel
theorem D_W_law_1185 : decode code 1185 = .ok (.aload_n 2, 1) ∧ 1185 + 1 = 1186 := by decide +kernel
theorem D_W_law_1186 : decode code 1186 = .ok (.aload_n 0, 1) ∧ 1186 + 1 = 1187 := by decide +kernel
theorem D_W_law_1187 : decode code 1187 = .ok (.iload_n 3, 1) ∧ 1187 + 1 = 1188 := by decide +kernel
theorem D_W_law_1188 : decode code 1188 = .ok (.iconst 1, 1) ∧ 1188 + 1 = 1189 := by decide +kernel
theorem D_W_law_1189 : decode code 1189 = .ok (.iadd, 1) ∧ 1189 + 1 = 1190 := by decide +kernel
theorem D_W_law_1190 : decode code 1190 = .ok (.iaload, 1) ∧ 1190 + 1 = 1191 := by decide +kernel
theorem D_W_law_1191 : decode code 1191 = .ok (.invokevirtual 148, 3) ∧ 1191 + 3 = 1194 := by decide +kernel
theorem D_W_law_1194 : decode code 1194 = .ok (.if_icmp .eq 305, 3) ∧ ((1194 : Nat) : Int) + 305 = ((1499 : Nat) : Int) ∧ 1194 + 3 = 1197 := by decide +kernel
theorem D_W_law_1197 : decode code 1197 = .ok (.iconst 0, 1) ∧ 1197 + 1 = 1198 := by decide +kernel
theorem D_W_law_1199 : decode code 1199 = .ok (.aload_n 1, 1) ∧ 1199 + 1 = 1200 := by decide +kernel
theorem D_W_law_1200 : decode code 1200 = .ok (.aload_n 0, 1) ∧ 1200 + 1 = 1201 := by decide +kernel
theorem D_W_law_1201 : decode code 1201 = .ok (.iload_n 3, 1) ∧ 1201 + 1 = 1202 := by decide +kernel
theorem D_W_law_1202 : decode code 1202 = .ok (.iconst 1, 1) ∧ 1202 + 1 = 1203 := by decide +kernel
theorem D_W_law_1203 : decode code 1203 = .ok (.iadd, 1) ∧ 1203 + 1 = 1204 := by decide +kernel
theorem D_W_law_1204 : decode code 1204 = .ok (.iaload, 1) ∧ 1204 + 1 = 1205 := by decide +kernel
theorem D_W_law_1205 : decode code 1205 = .ok (.aload_n 0, 1) ∧ 1205 + 1 = 1206 := by decide +kernel
theorem D_W_law_1206 : decode code 1206 = .ok (.iload_n 3, 1) ∧ 1206 + 1 = 1207 := by decide +kernel
theorem D_W_law_1207 : decode code 1207 = .ok (.iconst 2, 1) ∧ 1207 + 1 = 1208 := by decide +kernel
theorem D_W_law_1208 : decode code 1208 = .ok (.iadd, 1) ∧ 1208 + 1 = 1209 := by decide +kernel
theorem D_W_law_1209 : decode code 1209 = .ok (.iaload, 1) ∧ 1209 + 1 = 1210 := by decide +kernel
theorem D_W_law_1210 : decode code 1210 = .ok (.aload_n 0, 1) ∧ 1210 + 1 = 1211 := by decide +kernel
theorem D_W_law_1211 : decode code 1211 = .ok (.iload_n 3, 1) ∧ 1211 + 1 = 1212 := by decide +kernel
theorem D_W_law_1212 : decode code 1212 = .ok (.iconst 3, 1) ∧ 1212 + 1 = 1213 := by decide +kernel
theorem D_W_law_1213 : decode code 1213 = .ok (.iadd, 1) ∧ 1213 + 1 = 1214 := by decide +kernel
theorem D_W_law_1214 : decode code 1214 = .ok (.iaload, 1) ∧ 1214 + 1 = 1215 := by decide +kernel
theorem D_W_law_1215 : decode code 1215 = .ok (.aload_n 0, 1) ∧ 1215 + 1 = 1216 := by decide +kernel
theorem D_W_law_1216 : decode code 1216 = .ok (.iload_n 3, 1) ∧ 1216 + 1 = 1217 := by decide +kernel
theorem D_W_law_1217 : decode code 1217 = .ok (.iconst 4, 1) ∧ 1217 + 1 = 1218 := by decide +kernel
theorem D_W_law_1218 : decode code 1218 = .ok (.iadd, 1) ∧ 1218 + 1 = 1219 := by decide +kernel
theorem D_W_law_1219 : decode code 1219 = .ok (.iaload, 1) ∧ 1219 + 1 = 1220 := by decide +kernel
theorem D_W_law_1220 : decode code 1220 = .ok (.aload_n 0, 1) ∧ 1220 + 1 = 1221 := by decide +kernel
theorem D_W_law_1221 : decode code 1221 = .ok (.iload_n 3, 1) ∧ 1221 + 1 = 1222 := by decide +kernel
theorem D_W_law_1222 : decode code 1222 = .ok (.iconst 5, 1) ∧ 1222 + 1 = 1223 := by decide +kernel
theorem D_W_law_1223 : decode code 1223 = .ok (.iadd, 1) ∧ 1223 + 1 = 1224 := by decide +kernel
theorem D_W_law_1224 : decode code 1224 = .ok (.iaload, 1) ∧ 1224 + 1 = 1225 := by decide +kernel
theorem D_W_law_1225 : decode code 1225 = .ok (.invokevirtual 149, 3) ∧ 1225 + 3 = 1228 := by decide +kernel
theorem D_W_law_1228 : decode code 1228 = .ok (.aload_n 2, 1) ∧ 1228 + 1 = 1229 := by decide +kernel
theorem D_W_law_1229 : decode code 1229 = .ok (.aload_n 0, 1) ∧ 1229 + 1 = 1230 := by decide +kernel
theorem D_W_law_1230 : decode code 1230 = .ok (.iload_n 3, 1) ∧ 1230 + 1 = 1231 := by decide +kernel
theorem D_W_law_1231 : decode code 1231 = .ok (.iconst 1, 1) ∧ 1231 + 1 = 1232 := by decide +kernel
theorem D_W_law_1232 : decode code 1232 = .ok (.iadd, 1) ∧ 1232 + 1 = 1233 := by decide +kernel
theorem D_W_law_1233 : decode code 1233 = .ok (.iaload, 1) ∧ 1233 + 1 = 1234 := by decide +kernel
theorem D_W_law_1234 : decode code 1234 = .ok (.aload_n 0, 1) ∧ 1234 + 1 = 1235 := by decide +kernel
theorem D_W_law_1235 : decode code 1235 = .ok (.iload_n 3, 1) ∧ 1235 + 1 = 1236 := by decide +kernel
theorem D_W_law_1236 : decode code 1236 = .ok (.iconst 2, 1) ∧ 1236 + 1 = 1237 := by decide +kernel
theorem D_W_law_1237 : decode code 1237 = .ok (.iadd, 1) ∧ 1237 + 1 = 1238 := by decide +kernel
theorem D_W_law_1238 : decode code 1238 = .ok (.iaload, 1) ∧ 1238 + 1 = 1239 := by decide +kernel
theorem D_W_law_1239 : decode code 1239 = .ok (.aload_n 0, 1) ∧ 1239 + 1 = 1240 := by decide +kernel
theorem D_W_law_1240 : decode code 1240 = .ok (.iload_n 3, 1) ∧ 1240 + 1 = 1241 := by decide +kernel
theorem D_W_law_1241 : decode code 1241 = .ok (.iconst 3, 1) ∧ 1241 + 1 = 1242 := by decide +kernel
theorem D_W_law_1242 : decode code 1242 = .ok (.iadd, 1) ∧ 1242 + 1 = 1243 := by decide +kernel
theorem D_W_law_1243 : decode code 1243 = .ok (.iaload, 1) ∧ 1243 + 1 = 1244 := by decide +kernel
theorem D_W_law_1244 : decode code 1244 = .ok (.aload_n 0, 1) ∧ 1244 + 1 = 1245 := by decide +kernel
theorem D_W_law_1245 : decode code 1245 = .ok (.iload_n 3, 1) ∧ 1245 + 1 = 1246 := by decide +kernel
theorem D_W_law_1246 : decode code 1246 = .ok (.iconst 4, 1) ∧ 1246 + 1 = 1247 := by decide +kernel
theorem D_W_law_1247 : decode code 1247 = .ok (.iadd, 1) ∧ 1247 + 1 = 1248 := by decide +kernel
theorem D_W_law_1248 : decode code 1248 = .ok (.iaload, 1) ∧ 1248 + 1 = 1249 := by decide +kernel
theorem D_W_law_1249 : decode code 1249 = .ok (.aload_n 0, 1) ∧ 1249 + 1 = 1250 := by decide +kernel
theorem D_W_law_1250 : decode code 1250 = .ok (.iload_n 3, 1) ∧ 1250 + 1 = 1251 := by decide +kernel
theorem D_W_law_1251 : decode code 1251 = .ok (.iconst 5, 1) ∧ 1251 + 1 = 1252 := by decide +kernel
theorem D_W_law_1252 : decode code 1252 = .ok (.iadd, 1) ∧ 1252 + 1 = 1253 := by decide +kernel
theorem D_W_law_1253 : decode code 1253 = .ok (.iaload, 1) ∧ 1253 + 1 = 1254 := by decide +kernel
theorem D_W_law_1254 : decode code 1254 = .ok (.invokevirtual 153, 3) ∧ 1254 + 3 = 1257 := by decide +kernel
theorem D_W_law_1257 : decode code 1257 = .ok (.if_icmp .eq 242, 3) ∧ ((1257 : Nat) : Int) + 242 = ((1499 : Nat) : Int) ∧ 1257 + 3 = 1260 := by decide +kernel
theorem D_W_law_1260 : decode code 1260 = .ok (.iconst 0, 1) ∧ 1260 + 1 = 1261 := by decide +kernel
theorem D_W_law_1262 : decode code 1262 = .ok (.aload_n 1, 1) ∧ 1262 + 1 = 1263 := by decide +kernel
theorem D_W_law_1263 : decode code 1263 = .ok (.aload_n 0, 1) ∧ 1263 + 1 = 1264 := by decide +kernel
theorem D_W_law_1264 : decode code 1264 = .ok (.iload_n 3, 1) ∧ 1264 + 1 = 1265 := by decide +kernel
theorem D_W_law_1265 : decode code 1265 = .ok (.iconst 1, 1) ∧ 1265 + 1 = 1266 := by decide +kernel
theorem D_W_law_1266 : decode code 1266 = .ok (.iadd, 1) ∧ 1266 + 1 = 1267 := by decide +kernel
theorem D_W_law_1267 : decode code 1267 = .ok (.iaload, 1) ∧ 1267 + 1 = 1268 := by decide +kernel
theorem D_W_law_1268 : decode code 1268 = .ok (.aload_n 0, 1) ∧ 1268 + 1 = 1269 := by decide +kernel
theorem D_W_law_1269 : decode code 1269 = .ok (.iload_n 3, 1) ∧ 1269 + 1 = 1270 := by decide +kernel
theorem D_W_law_1270 : decode code 1270 = .ok (.iconst 2, 1) ∧ 1270 + 1 = 1271 := by decide +kernel
theorem D_W_law_1271 : decode code 1271 = .ok (.iadd, 1) ∧ 1271 + 1 = 1272 := by decide +kernel
theorem D_W_law_1272 : decode code 1272 = .ok (.iaload, 1) ∧ 1272 + 1 = 1273 := by decide +kernel
theorem D_W_law_1273 : decode code 1273 = .ok (.aload_n 0, 1) ∧ 1273 + 1 = 1274 := by decide +kernel
theorem D_W_law_1274 : decode code 1274 = .ok (.iload_n 3, 1) ∧ 1274 + 1 = 1275 := by decide +kernel
theorem D_W_law_1275 : decode code 1275 = .ok (.iconst 3, 1) ∧ 1275 + 1 = 1276 := by decide +kernel
theorem D_W_law_1276 : decode code 1276 = .ok (.iadd, 1) ∧ 1276 + 1 = 1277 := by decide +kernel
theorem D_W_law_1277 : decode code 1277 = .ok (.iaload, 1) ∧ 1277 + 1 = 1278 := by decide +kernel
theorem D_W_law_1278 : decode code 1278 = .ok (.invokevirtual 154, 3) ∧ 1278 + 3 = 1281 := by decide +kernel
theorem D_W_law_1281 : decode code 1281 = .ok (.aload_n 2, 1) ∧ 1281 + 1 = 1282 := by decide +kernel
theorem D_W_law_1282 : decode code 1282 = .ok (.aload_n 0, 1) ∧ 1282 + 1 = 1283 := by decide +kernel
theorem D_W_law_1283 : decode code 1283 = .ok (.iload_n 3, 1) ∧ 1283 + 1 = 1284 := by decide +kernel
theorem D_W_law_1284 : decode code 1284 = .ok (.iconst 1, 1) ∧ 1284 + 1 = 1285 := by decide +kernel
theorem D_W_law_1285 : decode code 1285 = .ok (.iadd, 1) ∧ 1285 + 1 = 1286 := by decide +kernel
theorem D_W_law_1286 : decode code 1286 = .ok (.iaload, 1) ∧ 1286 + 1 = 1287 := by decide +kernel
theorem D_W_law_1287 : decode code 1287 = .ok (.aload_n 0, 1) ∧ 1287 + 1 = 1288 := by decide +kernel
theorem D_W_law_1288 : decode code 1288 = .ok (.iload_n 3, 1) ∧ 1288 + 1 = 1289 := by decide +kernel
theorem D_W_law_1289 : decode code 1289 = .ok (.iconst 2, 1) ∧ 1289 + 1 = 1290 := by decide +kernel
theorem D_W_law_1290 : decode code 1290 = .ok (.iadd, 1) ∧ 1290 + 1 = 1291 := by decide +kernel
theorem D_W_law_1291 : decode code 1291 = .ok (.iaload, 1) ∧ 1291 + 1 = 1292 := by decide +kernel
theorem D_W_law_1292 : decode code 1292 = .ok (.aload_n 0, 1) ∧ 1292 + 1 = 1293 := by decide +kernel
theorem D_W_law_1293 : decode code 1293 = .ok (.iload_n 3, 1) ∧ 1293 + 1 = 1294 := by decide +kernel
theorem D_W_law_1294 : decode code 1294 = .ok (.iconst 3, 1) ∧ 1294 + 1 = 1295 := by decide +kernel
theorem D_W_law_1295 : decode code 1295 = .ok (.iadd, 1) ∧ 1295 + 1 = 1296 := by decide +kernel
theorem D_W_law_1296 : decode code 1296 = .ok (.iaload, 1) ∧ 1296 + 1 = 1297 := by decide +kernel
theorem D_W_law_1297 : decode code 1297 = .ok (.invokevirtual 157, 3) ∧ 1297 + 3 = 1300 := by decide +kernel
theorem D_W_law_1300 : decode code 1300 = .ok (.if_icmp .eq 199, 3) ∧ ((1300 : Nat) : Int) + 199 = ((1499 : Nat) : Int) ∧ 1300 + 3 = 1303 := by decide +kernel
theorem D_W_law_1303 : decode code 1303 = .ok (.iconst 0, 1) ∧ 1303 + 1 = 1304 := by decide +kernel
theorem D_W_law_1305 : decode code 1305 = .ok (.aload_n 1, 1) ∧ 1305 + 1 = 1306 := by decide +kernel
theorem D_W_law_1306 : decode code 1306 = .ok (.aload_n 0, 1) ∧ 1306 + 1 = 1307 := by decide +kernel
theorem D_W_law_1307 : decode code 1307 = .ok (.iload_n 3, 1) ∧ 1307 + 1 = 1308 := by decide +kernel
theorem D_W_law_1308 : decode code 1308 = .ok (.iconst 1, 1) ∧ 1308 + 1 = 1309 := by decide +kernel
theorem D_W_law_1309 : decode code 1309 = .ok (.iadd, 1) ∧ 1309 + 1 = 1310 := by decide +kernel
theorem D_W_law_1310 : decode code 1310 = .ok (.iaload, 1) ∧ 1310 + 1 = 1311 := by decide +kernel
theorem D_W_law_1311 : decode code 1311 = .ok (.aload_n 0, 1) ∧ 1311 + 1 = 1312 := by decide +kernel
theorem D_W_law_1312 : decode code 1312 = .ok (.iload_n 3, 1) ∧ 1312 + 1 = 1313 := by decide +kernel
theorem D_W_law_1313 : decode code 1313 = .ok (.iconst 2, 1) ∧ 1313 + 1 = 1314 := by decide +kernel
theorem D_W_law_1314 : decode code 1314 = .ok (.iadd, 1) ∧ 1314 + 1 = 1315 := by decide +kernel
theorem D_W_law_1315 : decode code 1315 = .ok (.iaload, 1) ∧ 1315 + 1 = 1316 := by decide +kernel
theorem D_W_law_1316 : decode code 1316 = .ok (.invokevirtual 158, 3) ∧ 1316 + 3 = 1319 := by decide +kernel
theorem D_W_law_1319 : decode code 1319 = .ok (.aload_n 2, 1) ∧ 1319 + 1 = 1320 := by decide +kernel
theorem D_W_law_1320 : decode code 1320 = .ok (.aload_n 0, 1) ∧ 1320 + 1 = 1321 := by decide +kernel
theorem D_W_law_1321 : decode code 1321 = .ok (.iload_n 3, 1) ∧ 1321 + 1 = 1322 := by decide +kernel
theorem D_W_law_1322 : decode code 1322 = .ok (.iconst 1, 1) ∧ 1322 + 1 = 1323 := by decide +kernel
theorem D_W_law_1323 : decode code 1323 = .ok (.iadd, 1) ∧ 1323 + 1 = 1324 := by decide +kernel
theorem D_W_law_1324 : decode code 1324 = .ok (.iaload, 1) ∧ 1324 + 1 = 1325 := by decide +kernel
theorem D_W_law_1325 : decode code 1325 = .ok (.aload_n 0, 1) ∧ 1325 + 1 = 1326 := by decide +kernel
theorem D_W_law_1326 : decode code 1326 = .ok (.iload_n 3, 1) ∧ 1326 + 1 = 1327 := by decide +kernel
theorem D_W_law_1327 : decode code 1327 = .ok (.iconst 2, 1) ∧ 1327 + 1 = 1328 := by decide +kernel
theorem D_W_law_1328 : decode code 1328 = .ok (.iadd, 1) ∧ 1328 + 1 = 1329 := by decide +kernel
theorem D_W_law_1329 : decode code 1329 = .ok (.iaload, 1) ∧ 1329 + 1 = 1330 := by decide +kernel
theorem D_W_law_1330 : decode code 1330 = .ok (.invokevirtual 161, 3) ∧ 1330 + 3 = 1333 := by decide +kernel
theorem D_W_law_1333 : decode code 1333 = .ok (.if_icmp .eq 166, 3) ∧ ((1333 : Nat) : Int) + 166 = ((1499 : Nat) : Int) ∧ 1333 + 3 = 1336 := by decide +kernel
theorem D_W_law_1336 : decode code 1336 = .ok (.iconst 0, 1) ∧ 1336 + 1 = 1337 := by decide +kernel
theorem D_W_law_1338 : decode code 1338 = .ok (.aload_n 1, 1) ∧ 1338 + 1 = 1339 := by decide +kernel
theorem D_W_law_1339 : decode code 1339 = .ok (.aload_n 0, 1) ∧ 1339 + 1 = 1340 := by decide +kernel
theorem D_W_law_1340 : decode code 1340 = .ok (.iload_n 3, 1) ∧ 1340 + 1 = 1341 := by decide +kernel
theorem D_W_law_1341 : decode code 1341 = .ok (.iconst 1, 1) ∧ 1341 + 1 = 1342 := by decide +kernel
theorem D_W_law_1342 : decode code 1342 = .ok (.iadd, 1) ∧ 1342 + 1 = 1343 := by decide +kernel
theorem D_W_law_1343 : decode code 1343 = .ok (.iaload, 1) ∧ 1343 + 1 = 1344 := by decide +kernel
theorem D_W_law_1344 : decode code 1344 = .ok (.aload_n 0, 1) ∧ 1344 + 1 = 1345 := by decide +kernel
theorem D_W_law_1345 : decode code 1345 = .ok (.iload_n 3, 1) ∧ 1345 + 1 = 1346 := by decide +kernel
theorem D_W_law_1346 : decode code 1346 = .ok (.iconst 2, 1) ∧ 1346 + 1 = 1347 := by decide +kernel
theorem D_W_law_1347 : decode code 1347 = .ok (.iadd, 1) ∧ 1347 + 1 = 1348 := by decide +kernel
theorem D_W_law_1348 : decode code 1348 = .ok (.iaload, 1) ∧ 1348 + 1 = 1349 := by decide +kernel
theorem D_W_law_1349 : decode code 1349 = .ok (.invokevirtual 162, 3) ∧ 1349 + 3 = 1352 := by decide +kernel
theorem D_W_law_1352 : decode code 1352 = .ok (.aload_n 2, 1) ∧ 1352 + 1 = 1353 := by decide +kernel
theorem D_W_law_1353 : decode code 1353 = .ok (.aload_n 0, 1) ∧ 1353 + 1 = 1354 := by decide +kernel
theorem D_W_law_1354 : decode code 1354 = .ok (.iload_n 3, 1) ∧ 1354 + 1 = 1355 := by decide +kernel
theorem D_W_law_1355 : decode code 1355 = .ok (.iconst 1, 1) ∧ 1355 + 1 = 1356 := by decide +kernel
theorem D_W_law_1356 : decode code 1356 = .ok (.iadd, 1) ∧ 1356 + 1 = 1357 := by decide +kernel
theorem D_W_law_1357 : decode code 1357 = .ok (.iaload, 1) ∧ 1357 + 1 = 1358 := by decide +kernel
theorem D_W_law_1358 : decode code 1358 = .ok (.aload_n 0, 1) ∧ 1358 + 1 = 1359 := by decide +kernel
theorem D_W_law_1359 : decode code 1359 = .ok (.iload_n 3, 1) ∧ 1359 + 1 = 1360 := by decide +kernel
theorem D_W_law_1360 : decode code 1360 = .ok (.iconst 2, 1) ∧ 1360 + 1 = 1361 := by decide +kernel
theorem D_W_law_1361 : decode code 1361 = .ok (.iadd, 1) ∧ 1361 + 1 = 1362 := by decide +kernel
theorem D_W_law_1362 : decode code 1362 = .ok (.iaload, 1) ∧ 1362 + 1 = 1363 := by decide +kernel
theorem D_W_law_1363 : decode code 1363 = .ok (.invokevirtual 165, 3) ∧ 1363 + 3 = 1366 := by decide +kernel
theorem D_W_law_1366 : decode code 1366 = .ok (.if_icmp .eq 133, 3) ∧ ((1366 : Nat) : Int) + 133 = ((1499 : Nat) : Int) ∧ 1366 + 3 = 1369 := by decide +kernel
theorem D_W_law_1369 : decode code 1369 = .ok (.iconst 0, 1) ∧ 1369 + 1 = 1370 := by decide +kernel
theorem D_W_law_1371 : decode code 1371 = .ok (.aload_n 1, 1) ∧ 1371 + 1 = 1372 := by decide +kernel
theorem D_W_law_1372 : decode code 1372 = .ok (.aload_n 0, 1) ∧ 1372 + 1 = 1373 := by decide +kernel
theorem D_W_law_1373 : decode code 1373 = .ok (.iload_n 3, 1) ∧ 1373 + 1 = 1374 := by decide +kernel
theorem D_W_law_1374 : decode code 1374 = .ok (.iconst 1, 1) ∧ 1374 + 1 = 1375 := by decide +kernel
theorem D_W_law_1375 : decode code 1375 = .ok (.iadd, 1) ∧ 1375 + 1 = 1376 := by decide +kernel
theorem D_W_law_1376 : decode code 1376 = .ok (.iaload, 1) ∧ 1376 + 1 = 1377 := by decide +kernel
theorem D_W_law_1377 : decode code 1377 = .ok (.aload_n 0, 1) ∧ 1377 + 1 = 1378 := by decide +kernel
theorem D_W_law_1378 : decode code 1378 = .ok (.iload_n 3, 1) ∧ 1378 + 1 = 1379 := by decide +kernel
theorem D_W_law_1379 : decode code 1379 = .ok (.iconst 2, 1) ∧ 1379 + 1 = 1380 := by decide +kernel
theorem D_W_law_1380 : decode code 1380 = .ok (.iadd, 1) ∧ 1380 + 1 = 1381 := by decide +kernel
theorem D_W_law_1381 : decode code 1381 = .ok (.iaload, 1) ∧ 1381 + 1 = 1382 := by decide +kernel
theorem D_W_law_1382 : decode code 1382 = .ok (.invokevirtual 166, 3) ∧ 1382 + 3 = 1385 := by decide +kernel
theorem D_W_law_1385 : decode code 1385 = .ok (.aload_n 2, 1) ∧ 1385 + 1 = 1386 := by decide +kernel
theorem D_W_law_1386 : decode code 1386 = .ok (.aload_n 0, 1) ∧ 1386 + 1 = 1387 := by decide +kernel
theorem D_W_law_1387 : decode code 1387 = .ok (.iload_n 3, 1) ∧ 1387 + 1 = 1388 := by decide +kernel
theorem D_W_law_1388 : decode code 1388 = .ok (.iconst 1, 1) ∧ 1388 + 1 = 1389 := by decide +kernel
theorem D_W_law_1389 : decode code 1389 = .ok (.iadd, 1) ∧ 1389 + 1 = 1390 := by decide +kernel
theorem D_W_law_1390 : decode code 1390 = .ok (.iaload, 1) ∧ 1390 + 1 = 1391 := by decide +kernel
theorem D_W_law_1391 : decode code 1391 = .ok (.aload_n 0, 1) ∧ 1391 + 1 = 1392 := by decide +kernel
theorem D_W_law_1392 : decode code 1392 = .ok (.iload_n 3, 1) ∧ 1392 + 1 = 1393 := by decide +kernel
theorem D_W_law_1393 : decode code 1393 = .ok (.iconst 2, 1) ∧ 1393 + 1 = 1394 := by decide +kernel
theorem D_W_law_1394 : decode code 1394 = .ok (.iadd, 1) ∧ 1394 + 1 = 1395 := by decide +kernel
theorem D_W_law_1395 : decode code 1395 = .ok (.iaload, 1) ∧ 1395 + 1 = 1396 := by decide +kernel
theorem D_W_law_1396 : decode code 1396 = .ok (.invokevirtual 169, 3) ∧ 1396 + 3 = 1399 := by decide +kernel
theorem D_W_law_1399 : decode code 1399 = .ok (.if_icmp .eq 100, 3) ∧ ((1399 : Nat) : Int) + 100 = ((1499 : Nat) : Int) ∧ 1399 + 3 = 1402 := by decide +kernel
theorem D_W_law_1402 : decode code 1402 = .ok (.iconst 0, 1) ∧ 1402 + 1 = 1403 := by decide +kernel
theorem D_W_law_1404 : decode code 1404 = .ok (.aload_n 1, 1) ∧ 1404 + 1 = 1405 := by decide +kernel
theorem D_W_law_1405 : decode code 1405 = .ok (.aload_n 0, 1) ∧ 1405 + 1 = 1406 := by decide +kernel
theorem D_W_law_1406 : decode code 1406 = .ok (.iload_n 3, 1) ∧ 1406 + 1 = 1407 := by decide +kernel
theorem D_W_law_1407 : decode code 1407 = .ok (.iconst 1, 1) ∧ 1407 + 1 = 1408 := by decide +kernel
theorem D_W_law_1408 : decode code 1408 = .ok (.iadd, 1) ∧ 1408 + 1 = 1409 := by decide +kernel
theorem D_W_law_1409 : decode code 1409 = .ok (.iaload, 1) ∧ 1409 + 1 = 1410 := by decide +kernel
theorem D_W_law_1410 : decode code 1410 = .ok (.invokevirtual 170, 3) ∧ 1410 + 3 = 1413 := by decide +kernel
theorem D_W_law_1413 : decode code 1413 = .ok (.aload_n 2, 1) ∧ 1413 + 1 = 1414 := by decide +kernel
theorem D_W_law_1414 : decode code 1414 = .ok (.aload_n 0, 1) ∧ 1414 + 1 = 1415 := by decide +kernel
theorem D_W_law_1415 : decode code 1415 = .ok (.iload_n 3, 1) ∧ 1415 + 1 = 1416 := by decide +kernel
theorem D_W_law_1416 : decode code 1416 = .ok (.iconst 1, 1) ∧ 1416 + 1 = 1417 := by decide +kernel
theorem D_W_law_1417 : decode code 1417 = .ok (.iadd, 1) ∧ 1417 + 1 = 1418 := by decide +kernel
theorem D_W_law_1418 : decode code 1418 = .ok (.iaload, 1) ∧ 1418 + 1 = 1419 := by decide +kernel
theorem D_W_law_1419 : decode code 1419 = .ok (.invokevirtual 173, 3) ∧ 1419 + 3 = 1422 := by decide +kernel
theorem D_W_law_1422 : decode code 1422 = .ok (.if_icmp .eq 77, 3) ∧ ((1422 : Nat) : Int) + 77 = ((1499 : Nat) : Int) ∧ 1422 + 3 = 1425 := by decide +kernel
theorem D_W_law_1425 : decode code 1425 = .ok (.iconst 0, 1) ∧ 1425 + 1 = 1426 := by decide +kernel
theorem D_W_law_1427 : decode code 1427 = .ok (.aload_n 1, 1) ∧ 1427 + 1 = 1428 := by decide +kernel
theorem D_W_law_1428 : decode code 1428 = .ok (.aload_n 0, 1) ∧ 1428 + 1 = 1429 := by decide +kernel
theorem D_W_law_1429 : decode code 1429 = .ok (.iload_n 3, 1) ∧ 1429 + 1 = 1430 := by decide +kernel
theorem D_W_law_1430 : decode code 1430 = .ok (.iconst 1, 1) ∧ 1430 + 1 = 1431 := by decide +kernel
theorem D_W_law_1431 : decode code 1431 = .ok (.iadd, 1) ∧ 1431 + 1 = 1432 := by decide +kernel
theorem D_W_law_1432 : decode code 1432 = .ok (.iaload, 1) ∧ 1432 + 1 = 1433 := by decide +kernel
theorem D_W_law_1433 : decode code 1433 = .ok (.invokevirtual 174, 3) ∧ 1433 + 3 = 1436 := by decide +kernel
theorem D_W_law_1436 : decode code 1436 = .ok (.aload_n 2, 1) ∧ 1436 + 1 = 1437 := by decide +kernel
theorem D_W_law_1437 : decode code 1437 = .ok (.aload_n 0, 1) ∧ 1437 + 1 = 1438 := by decide +kernel
theorem D_W_law_1438 : decode code 1438 = .ok (.iload_n 3, 1) ∧ 1438 + 1 = 1439 := by decide +kernel
theorem D_W_law_1439 : decode code 1439 = .ok (.iconst 1, 1) ∧ 1439 + 1 = 1440 := by decide +kernel
theorem D_W_law_1440 : decode code 1440 = .ok (.iadd, 1) ∧ 1440 + 1 = 1441 := by decide +kernel
theorem D_W_law_1441 : decode code 1441 = .ok (.iaload, 1) ∧ 1441 + 1 = 1442 := by decide +kernel
theorem D_W_law_1442 : decode code 1442 = .ok (.invokevirtual 177, 3) ∧ 1442 + 3 = 1445 := by decide +kernel
theorem D_W_law_1445 : decode code 1445 = .ok (.if_icmp .eq 54, 3) ∧ ((1445 : Nat) : Int) + 54 = ((1499 : Nat) : Int) ∧ 1445 + 3 = 1448 := by decide +kernel
theorem D_W_law_1448 : decode code 1448 = .ok (.iconst 0, 1) ∧ 1448 + 1 = 1449 := by decide +kernel
theorem D_W_law_1450 : decode code 1450 = .ok (.aload_n 1, 1) ∧ 1450 + 1 = 1451 := by decide +kernel
theorem D_W_law_1451 : decode code 1451 = .ok (.invokevirtual 178, 3) ∧ 1451 + 3 = 1454 := by decide +kernel
theorem D_W_law_1454 : decode code 1454 = .ok (.aload_n 2, 1) ∧ 1454 + 1 = 1455 := by decide +kernel
theorem D_W_law_1455 : decode code 1455 = .ok (.invokevirtual 181, 3) ∧ 1455 + 3 = 1458 := by decide +kernel
theorem D_W_law_1458 : decode code 1458 = .ok (.if_icmp .eq 41, 3) ∧ ((1458 : Nat) : Int) + 41 = ((1499 : Nat) : Int) ∧ 1458 + 3 = 1461 := by decide +kernel
theorem D_W_law_1461 : decode code 1461 = .ok (.iconst 0, 1) ∧ 1461 + 1 = 1462 := by decide +kernel
theorem D_W_law_1463 : decode code 1463 = .ok (.aload_n 1, 1) ∧ 1463 + 1 = 1464 := by decide +kernel
theorem D_W_law_1464 : decode code 1464 = .ok (.invokevirtual 182, 3) ∧ 1464 + 3 = 1467 := by decide +kernel
theorem D_W_law_1467 : decode code 1467 = .ok (.aload_n 2, 1) ∧ 1467 + 1 = 1468 := by decide +kernel
theorem D_W_law_1468 : decode code 1468 = .ok (.invokevirtual 185, 3) ∧ 1468 + 3 = 1471 := by decide +kernel
theorem D_W_law_1471 : decode code 1471 = .ok (.if_icmp .eq 28, 3) ∧ ((1471 : Nat) : Int) + 28 = ((1499 : Nat) : Int) ∧ 1471 + 3 = 1474 := by decide +kernel
theorem D_W_law_1474 : decode code 1474 = .ok (.iconst 0, 1) ∧ 1474 + 1 = 1475 := by decide +kernel
theorem D_W_law_1476 : decode code 1476 = .ok (.aload_n 1, 1) ∧ 1476 + 1 = 1477 := by decide +kernel
theorem D_W_law_1477 : decode code 1477 = .ok (.aload_n 0, 1) ∧ 1477 + 1 = 1478 := by decide +kernel
theorem D_W_law_1478 : decode code 1478 = .ok (.iload_n 3, 1) ∧ 1478 + 1 = 1479 := by decide +kernel
theorem D_W_law_1479 : decode code 1479 = .ok (.iconst 1, 1) ∧ 1479 + 1 = 1480 := by decide +kernel
theorem D_W_law_1480 : decode code 1480 = .ok (.iadd, 1) ∧ 1480 + 1 = 1481 := by decide +kernel
theorem D_W_law_1481 : decode code 1481 = .ok (.iaload, 1) ∧ 1481 + 1 = 1482 := by decide +kernel
theorem D_W_law_1482 : decode code 1482 = .ok (.invokevirtual 186, 3) ∧ 1482 + 3 = 1485 := by decide +kernel
theorem D_W_law_1485 : decode code 1485 = .ok (.aload_n 2, 1) ∧ 1485 + 1 = 1486 := by decide +kernel
theorem D_W_law_1486 : decode code 1486 = .ok (.aload_n 0, 1) ∧ 1486 + 1 = 1487 := by decide +kernel
theorem D_W_law_1487 : decode code 1487 = .ok (.iload_n 3, 1) ∧ 1487 + 1 = 1488 := by decide +kernel
theorem D_W_law_1488 : decode code 1488 = .ok (.iconst 1, 1) ∧ 1488 + 1 = 1489 := by decide +kernel
theorem D_W_law_1489 : decode code 1489 = .ok (.iadd, 1) ∧ 1489 + 1 = 1490 := by decide +kernel
theorem D_W_law_1490 : decode code 1490 = .ok (.iaload, 1) ∧ 1490 + 1 = 1491 := by decide +kernel
theorem D_W_law_1491 : decode code 1491 = .ok (.invokevirtual 189, 3) ∧ 1491 + 3 = 1494 := by decide +kernel
theorem D_W_law_1494 : decode code 1494 = .ok (.if_icmp .eq 5, 3) ∧ ((1494 : Nat) : Int) + 5 = ((1499 : Nat) : Int) ∧ 1494 + 3 = 1497 := by decide +kernel
theorem D_W_law_1497 : decode code 1497 = .ok (.iconst 0, 1) ∧ 1497 + 1 = 1498 := by decide +kernel
theorem D_W_law_33o : decode code 33 = .ok (.tableswitch 1466 0 42 #[187, 230, 263, 306, 339, 372, 415, 448, 481, 514, 537, 560, 583, 606, 629, 652, 685, 708, 731, 774, 797, 810, 843, 886, 899, 942, 965, 978, 1011, 1034, 1077, 1120, 1143, 1166, 1229, 1272, 1305, 1338, 1371, 1394, 1417, 1430, 1443], 187) ∧ ((33 : Nat) : Int) + 1466 = ((1499 : Nat) : Int) := by decide +kernel
