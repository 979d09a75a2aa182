/-! the law: decode rows (printed by gen/law.py) -/
theorem d_La_law_1152 : decode code 1152 = .ok (.aload_n 2, 1) := by decide +kernel
theorem d_La_law_1153 : decode code 1153 = .ok (.aload_n 0, 1) := by decide +kernel
theorem d_La_law_1154 : decode code 1154 = .ok (.iload_n 3, 1) := by decide +kernel
theorem d_La_law_1155 : decode code 1155 = .ok (.iconst 1, 1) := by decide +kernel
theorem d_La_law_1156 : decode code 1156 = .ok (.iadd, 1) := by decide +kernel
theorem d_La_law_1157 : decode code 1157 = .ok (.iaload, 1) := by decide +kernel
theorem d_La_law_1158 : decode code 1158 = .ok (.aload_n 0, 1) := by decide +kernel
theorem d_La_law_1159 : decode code 1159 = .ok (.iload_n 3, 1) := by decide +kernel
theorem d_La_law_1160 : decode code 1160 = .ok (.iconst 2, 1) := by decide +kernel
theorem d_La_law_1161 : decode code 1161 = .ok (.iadd, 1) := by decide +kernel
theorem d_La_law_1162 : decode code 1162 = .ok (.iaload, 1) := by decide +kernel
theorem d_La_law_1163 : decode code 1163 = .ok (.invokevirtual 162, 3) := by decide +kernel
theorem d_La_law_1166 : decode code 1166 = .ok (.if_icmp .eq 120, 3) := by decide +kernel
theorem d_La_law_1169 : decode code 1169 = .ok (.iconst 0, 1) := by decide +kernel
theorem d_La_law_1170 : decode code 1170 = .ok (.ireturn, 1) := by decide +kernel
theorem d_La_law_1171 : decode code 1171 = .ok (.aload_n 1, 1) := by decide +kernel
theorem d_La_law_1172 : decode code 1172 = .ok (.aload_n 0, 1) := by decide +kernel
theorem d_La_law_1173 : decode code 1173 = .ok (.iload_n 3, 1) := by decide +kernel
theorem d_La_law_1174 : decode code 1174 = .ok (.iconst 1, 1) := by decide +kernel
theorem d_La_law_1175 : decode code 1175 = .ok (.iadd, 1) := by decide +kernel
theorem d_La_law_1176 : decode code 1176 = .ok (.iaload, 1) := by decide +kernel
theorem d_La_law_1177 : decode code 1177 = .ok (.aload_n 0, 1) := by decide +kernel
theorem d_La_law_1178 : decode code 1178 = .ok (.iload_n 3, 1) := by decide +kernel
theorem d_La_law_1179 : decode code 1179 = .ok (.iconst 2, 1) := by decide +kernel
theorem d_La_law_1180 : decode code 1180 = .ok (.iadd, 1) := by decide +kernel
theorem d_La_law_1181 : decode code 1181 = .ok (.iaload, 1) := by decide +kernel
theorem d_La_law_1182 : decode code 1182 = .ok (.invokevirtual 163, 3) := by decide +kernel
theorem d_La_law_1185 : decode code 1185 = .ok (.aload_n 2, 1) := by decide +kernel
theorem d_La_law_1186 : decode code 1186 = .ok (.aload_n 0, 1) := by decide +kernel
theorem d_La_law_1187 : decode code 1187 = .ok (.iload_n 3, 1) := by decide +kernel
theorem d_La_law_1188 : decode code 1188 = .ok (.iconst 1, 1) := by decide +kernel
theorem d_La_law_1189 : decode code 1189 = .ok (.iadd, 1) := by decide +kernel
theorem d_La_law_1190 : decode code 1190 = .ok (.iaload, 1) := by decide +kernel
theorem d_La_law_1191 : decode code 1191 = .ok (.aload_n 0, 1) := by decide +kernel
theorem d_La_law_1192 : decode code 1192 = .ok (.iload_n 3, 1) := by decide +kernel
theorem d_La_law_1193 : decode code 1193 = .ok (.iconst 2, 1) := by decide +kernel
theorem d_La_law_1194 : decode code 1194 = .ok (.iadd, 1) := by decide +kernel
theorem d_La_law_1195 : decode code 1195 = .ok (.iaload, 1) := by decide +kernel
theorem d_La_law_1196 : decode code 1196 = .ok (.invokevirtual 166, 3) := by decide +kernel
theorem d_La_law_1199 : decode code 1199 = .ok (.if_icmp .eq 87, 3) := by decide +kernel
theorem d_La_law_1202 : decode code 1202 = .ok (.iconst 0, 1) := by decide +kernel
theorem d_La_law_1203 : decode code 1203 = .ok (.ireturn, 1) := by decide +kernel
theorem d_La_law_1204 : decode code 1204 = .ok (.aload_n 1, 1) := by decide +kernel
theorem d_La_law_1205 : decode code 1205 = .ok (.aload_n 0, 1) := by decide +kernel
theorem d_La_law_1206 : decode code 1206 = .ok (.iload_n 3, 1) := by decide +kernel
theorem d_La_law_1207 : decode code 1207 = .ok (.iconst 1, 1) := by decide +kernel
theorem d_La_law_1208 : decode code 1208 = .ok (.iadd, 1) := by decide +kernel
theorem d_La_law_1209 : decode code 1209 = .ok (.iaload, 1) := by decide +kernel
theorem d_La_law_1210 : decode code 1210 = .ok (.invokevirtual 167, 3) := by decide +kernel
theorem d_La_law_1213 : decode code 1213 = .ok (.aload_n 2, 1) := by decide +kernel
theorem d_La_law_1214 : decode code 1214 = .ok (.aload_n 0, 1) := by decide +kernel
theorem d_La_law_1215 : decode code 1215 = .ok (.iload_n 3, 1) := by decide +kernel
theorem d_La_law_1216 : decode code 1216 = .ok (.iconst 1, 1) := by decide +kernel
theorem d_La_law_1217 : decode code 1217 = .ok (.iadd, 1) := by decide +kernel
theorem d_La_law_1218 : decode code 1218 = .ok (.iaload, 1) := by decide +kernel
theorem d_La_law_1219 : decode code 1219 = .ok (.invokevirtual 170, 3) := by decide +kernel
theorem d_La_law_1222 : decode code 1222 = .ok (.if_icmp .eq 64, 3) := by decide +kernel
theorem d_La_law_1225 : decode code 1225 = .ok (.iconst 0, 1) := by decide +kernel
theorem d_La_law_1226 : decode code 1226 = .ok (.ireturn, 1) := by decide +kernel
theorem d_La_law_1227 : decode code 1227 = .ok (.aload_n 1, 1) := by decide +kernel
theorem d_La_law_1228 : decode code 1228 = .ok (.aload_n 0, 1) := by decide +kernel
theorem d_La_law_1229 : decode code 1229 = .ok (.iload_n 3, 1) := by decide +kernel
theorem d_La_law_1230 : decode code 1230 = .ok (.iconst 1, 1) := by decide +kernel
theorem d_La_law_1231 : decode code 1231 = .ok (.iadd, 1) := by decide +kernel
theorem d_La_law_1232 : decode code 1232 = .ok (.iaload, 1) := by decide +kernel
theorem d_La_law_1233 : decode code 1233 = .ok (.invokevirtual 171, 3) := by decide +kernel
theorem d_La_law_1236 : decode code 1236 = .ok (.aload_n 2, 1) := by decide +kernel
theorem d_La_law_1237 : decode code 1237 = .ok (.aload_n 0, 1) := by decide +kernel
theorem d_La_law_1238 : decode code 1238 = .ok (.iload_n 3, 1) := by decide +kernel
theorem d_La_law_1239 : decode code 1239 = .ok (.iconst 1, 1) := by decide +kernel
theorem d_La_law_1240 : decode code 1240 = .ok (.iadd, 1) := by decide +kernel
theorem d_La_law_1241 : decode code 1241 = .ok (.iaload, 1) := by decide +kernel
theorem d_La_law_1242 : decode code 1242 = .ok (.invokevirtual 174, 3) := by decide +kernel
theorem d_La_law_1245 : decode code 1245 = .ok (.if_icmp .eq 41, 3) := by decide +kernel
theorem d_La_law_1248 : decode code 1248 = .ok (.iconst 0, 1) := by decide +kernel
theorem d_La_law_1249 : decode code 1249 = .ok (.ireturn, 1) := by decide +kernel
theorem d_La_law_1250 : decode code 1250 = .ok (.aload_n 1, 1) := by decide +kernel
theorem d_La_law_1251 : decode code 1251 = .ok (.aload_n 0, 1) := by decide +kernel
theorem d_La_law_1252 : decode code 1252 = .ok (.iload_n 3, 1) := by decide +kernel
theorem d_La_law_1253 : decode code 1253 = .ok (.iconst 1, 1) := by decide +kernel
theorem d_La_law_1254 : decode code 1254 = .ok (.iadd, 1) := by decide +kernel
theorem d_La_law_1255 : decode code 1255 = .ok (.iaload, 1) := by decide +kernel
theorem d_La_law_1256 : decode code 1256 = .ok (.invokevirtual 175, 3) := by decide +kernel
theorem d_La_law_1259 : decode code 1259 = .ok (.aload_n 2, 1) := by decide +kernel
theorem d_La_law_1260 : decode code 1260 = .ok (.aload_n 0, 1) := by decide +kernel
theorem d_La_law_1261 : decode code 1261 = .ok (.iload_n 3, 1) := by decide +kernel
theorem d_La_law_1262 : decode code 1262 = .ok (.iconst 1, 1) := by decide +kernel
theorem d_La_law_1263 : decode code 1263 = .ok (.iadd, 1) := by decide +kernel
theorem d_La_law_1264 : decode code 1264 = .ok (.iaload, 1) := by decide +kernel
theorem d_La_law_1265 : decode code 1265 = .ok (.invokevirtual 178, 3) := by decide +kernel
theorem d_La_law_1268 : decode code 1268 = .ok (.if_icmp .eq 18, 3) := by decide +kernel
theorem d_La_law_1271 : decode code 1271 = .ok (.iconst 0, 1) := by decide +kernel
theorem d_La_law_1272 : decode code 1272 = .ok (.ireturn, 1) := by decide +kernel
theorem d_La_law_1273 : decode code 1273 = .ok (.aload_n 1, 1) := by decide +kernel
theorem d_La_law_1274 : decode code 1274 = .ok (.invokevirtual 179, 3) := by decide +kernel
theorem d_La_law_1277 : decode code 1277 = .ok (.aload_n 2, 1) := by decide +kernel
theorem d_La_law_1278 : decode code 1278 = .ok (.invokevirtual 182, 3) := by decide +kernel
theorem d_La_law_1281 : decode code 1281 = .ok (.if_icmp .eq 5, 3) := by decide +kernel
theorem d_La_law_1284 : decode code 1284 = .ok (.iconst 0, 1) := by decide +kernel
theorem d_La_law_1285 : decode code 1285 = .ok (.ireturn, 1) := by decide +kernel
theorem d_La_law_1286 : decode code 1286 = .ok (.iinc 3 6, 3) := by decide +kernel
theorem d_La_law_1289 : decode code 1289 = .ok (.goto (-1271), 3) := by decide +kernel
theorem d_La_law_1292 : decode code 1292 = .ok (.iconst 1, 1) := by decide +kernel
theorem d_La_law_1293 : decode code 1293 = .ok (.ireturn, 1) := by decide +kernel
