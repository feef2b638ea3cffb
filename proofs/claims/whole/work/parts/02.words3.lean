theorem qw_1164 : Cond.constantLong "NameHatModel" 131 (500135191653 : Int64) ∈ tb_G := tb_mem 1164 (by decide +kernel) rfl
theorem qw_1165 : Cond.fieldLink "NameHatModel" 1 "NameHatModel" "thrown" "I" ∈ tb_G := tb_mem 1165 (by decide +kernel) rfl
theorem qw_1166 : Cond.fieldLink "NameHatModel" 14 "NameHatModel" "tape" "[B" ∈ tb_G := tb_mem 1166 (by decide +kernel) rfl
theorem qw_1167 : Cond.fieldLink "NameHatModel" 7 "NameHatModel" "length" "I" ∈ tb_G := tb_mem 1167 (by decide +kernel) rfl
theorem qw_1168 : Cond.fieldLink "NameHatModel" 18 "NameHatModel" "size" "I" ∈ tb_G := tb_mem 1168 (by decide +kernel) rfl
theorem qw_1169 : Cond.fieldLink "NameHatModel" 21 "NameHatModel" "p" "I" ∈ tb_G := tb_mem 1169 (by decide +kernel) rfl
theorem qw_1170 : Cond.fieldLink "NameHatModel" 24 "NameHatModel" "limit" "I" ∈ tb_G := tb_mem 1170 (by decide +kernel) rfl
theorem qw_1171 : Cond.fieldLink "NameHatModel" 33 "NameHatModel" "s" "[I" ∈ tb_G := tb_mem 1171 (by decide +kernel) rfl
theorem qw_1172 : Cond.fieldLink "NameHatModel" 37 "NameHatModel" "h" "[I" ∈ tb_G := tb_mem 1172 (by decide +kernel) rfl
theorem qw_1173 : Cond.fieldLink "NameHatModel" 40 "NameHatModel" "read" "[I" ∈ tb_G := tb_mem 1173 (by decide +kernel) rfl
theorem qw_1174 : Cond.fieldLink "NameHatModel" 43 "NameHatModel" "names" "[J" ∈ tb_G := tb_mem 1174 (by decide +kernel) rfl
theorem qw_1175 : Cond.fieldLink "NameHatModel" 47 "NameHatModel" "reserved" "[J" ∈ tb_G := tb_mem 1175 (by decide +kernel) rfl
theorem qw_1176 : Cond.fieldLink "NameHatModel" 143 "NameHatModel" "token" "I" ∈ tb_G := tb_mem 1176 (by decide +kernel) rfl
theorem qw_1177 : Cond.fieldLink "NameHatModel" 137 "NameHatModel" "at" "I" ∈ tb_G := tb_mem 1177 (by decide +kernel) rfl
theorem qw_1178 : Cond.fieldLink "NameHatModel" 140 "NameHatModel" "span" "I" ∈ tb_G := tb_mem 1178 (by decide +kernel) rfl
theorem qw_1179 : Cond.fieldLink "NameHatModel" 153 "NameHatModel" "number" "I" ∈ tb_G := tb_mem 1179 (by decide +kernel) rfl
theorem qw_1180 : Cond.fieldLink "NameHatModel" 160 "NameHatModel" "fault" "I" ∈ tb_G := tb_mem 1180 (by decide +kernel) rfl
theorem qw_1181 : Cond.fieldLink "NameHatModel" 163 "NameHatModel" "faultAt" "I" ∈ tb_G := tb_mem 1181 (by decide +kernel) rfl
theorem qw_1182 : Cond.fieldLink "NameHatModel" 156 "NameHatModel" "word" "J" ∈ tb_G := tb_mem 1182 (by decide +kernel) rfl
theorem qw_1183 : Cond.fieldLink "NameHatModel" 179 "NameHatModel" "got" "I" ∈ tb_G := tb_mem 1183 (by decide +kernel) rfl
theorem qw_1184 : Cond.fieldLink "NameHatModel" 232 "NameHatModel" "lines" "I" ∈ tb_G := tb_mem 1184 (by decide +kernel) rfl
theorem qw_1185 : Cond.fieldLink "NameHatModel" 210 "NameHatModel" "sat" "I" ∈ tb_G := tb_mem 1185 (by decide +kernel) rfl
theorem qw_1186 : Cond.fieldLink "NameHatModel" 206 "NameHatModel" "hasPews" "Z" ∈ tb_G := tb_mem 1186 (by decide +kernel) rfl
theorem qw_1187 : Cond.fieldLink "NameHatModel" 220 "NameHatModel" "hasField" "Z" ∈ tb_G := tb_mem 1187 (by decide +kernel) rfl
theorem qw_1188 : Cond.fieldLink "NameHatModel" 258 "NameHatModel" "seed" "I" ∈ tb_G := tb_mem 1188 (by decide +kernel) rfl
theorem qw_1189 : Cond.fieldLink "NameHatModel" 50 "NameHatModel" "ring" "[I" ∈ tb_G := tb_mem 1189 (by decide +kernel) rfl
theorem qw_1190 : Cond.fieldLink "NameHatModel" 53 "NameHatModel" "ringKept" "[I" ∈ tb_G := tb_mem 1190 (by decide +kernel) rfl
theorem qw_1191 : Cond.fieldLink "NameHatModel" 56 "NameHatModel" "ringMany" "I" ∈ tb_G := tb_mem 1191 (by decide +kernel) rfl
theorem qw_1192 : Cond.fieldLink "NameHatModel" 59 "NameHatModel" "points" "[I" ∈ tb_G := tb_mem 1192 (by decide +kernel) rfl
theorem qw_1193 : Cond.fieldLink "NameHatModel" 62 "NameHatModel" "held" "[I" ∈ tb_G := tb_mem 1193 (by decide +kernel) rfl
theorem qw_1194 : Cond.fieldLink "NameHatModel" 296 "NameHatModel" "coming" "I" ∈ tb_G := tb_mem 1194 (by decide +kernel) rfl
theorem qw_1195 : Cond.fieldLink "NameHatModel" 65 "NameHatModel" "went" "[I" ∈ tb_G := tb_mem 1195 (by decide +kernel) rfl
theorem qw_1196 : Cond.fieldLink "NameHatModel" 68 "NameHatModel" "heldKept" "[I" ∈ tb_G := tb_mem 1196 (by decide +kernel) rfl
theorem qw_1197 : Cond.fieldLink "NameHatModel" 309 "NameHatModel" "hasGone" "Z" ∈ tb_G := tb_mem 1197 (by decide +kernel) rfl
theorem qw_1198 : Cond.fieldLink "NameHatModel" 71 "NameHatModel" "tried" "[I" ∈ tb_G := tb_mem 1198 (by decide +kernel) rfl
theorem qw_1199 : Cond.fieldLink "NameHatModel" 74 "NameHatModel" "seated" "[I" ∈ tb_G := tb_mem 1199 (by decide +kernel) rfl
theorem qw_1200 : Cond.fieldLink "NameHatModel" 77 "NameHatModel" "seatedMany" "I" ∈ tb_G := tb_mem 1200 (by decide +kernel) rfl
theorem qw_1201 : Cond.fieldLink "NameHatModel" 80 "NameHatModel" "ways" "[I" ∈ tb_G := tb_mem 1201 (by decide +kernel) rfl
theorem qw_1202 : Cond.fieldLink "NameHatModel" 83 "NameHatModel" "may" "[I" ∈ tb_G := tb_mem 1202 (by decide +kernel) rfl
theorem qw_1203 : Cond.fieldLink "NameHatModel" 342 "NameHatModel" "luckUp" "J" ∈ tb_G := tb_mem 1203 (by decide +kernel) rfl
theorem qw_1204 : Cond.fieldLink "NameHatModel" 339 "NameHatModel" "luckBelow" "J" ∈ tb_G := tb_mem 1204 (by decide +kernel) rfl
theorem qw_1205 : Cond.fieldLink "NameHatModel" 336 "NameHatModel" "luckDrew" "I" ∈ tb_G := tb_mem 1205 (by decide +kernel) rfl
theorem qw_1206 : Cond.fieldLink "NameHatModel" 86 "NameHatModel" "chance" "[J" ∈ tb_G := tb_mem 1206 (by decide +kernel) rfl
theorem qw_1207 : Cond.fieldLink "NameHatModel" 89 "NameHatModel" "kept" "[I" ∈ tb_G := tb_mem 1207 (by decide +kernel) rfl
theorem qw_1208 : Cond.fieldLink "NameHatModel" 92 "NameHatModel" "namesKept" "[J" ∈ tb_G := tb_mem 1208 (by decide +kernel) rfl
theorem qw_1209 : Cond.fieldLink "NameHatModel" 95 "NameHatModel" "isKept" "[Z" ∈ tb_G := tb_mem 1209 (by decide +kernel) rfl
theorem qw_1210 : Cond.lays "NameHatModel" "NameHatModel" "thrown" "I" ∈ tb_G := tb_mem 1210 (by decide +kernel) rfl
theorem qw_1212 : Cond.laysFinal "NameHatModel" "NameHatModel" "tape" "[B" ∈ tb_G := tb_mem 1212 (by decide +kernel) rfl
theorem qw_1214 : Cond.lays "NameHatModel" "NameHatModel" "length" "I" ∈ tb_G := tb_mem 1214 (by decide +kernel) rfl
theorem qw_1216 : Cond.lays "NameHatModel" "NameHatModel" "size" "I" ∈ tb_G := tb_mem 1216 (by decide +kernel) rfl
theorem qw_1218 : Cond.lays "NameHatModel" "NameHatModel" "p" "I" ∈ tb_G := tb_mem 1218 (by decide +kernel) rfl
theorem qw_1220 : Cond.lays "NameHatModel" "NameHatModel" "limit" "I" ∈ tb_G := tb_mem 1220 (by decide +kernel) rfl
theorem qw_1222 : Cond.laysFinal "NameHatModel" "NameHatModel" "s" "[I" ∈ tb_G := tb_mem 1222 (by decide +kernel) rfl
theorem qw_1224 : Cond.laysFinal "NameHatModel" "NameHatModel" "h" "[I" ∈ tb_G := tb_mem 1224 (by decide +kernel) rfl
theorem qw_1226 : Cond.laysFinal "NameHatModel" "NameHatModel" "read" "[I" ∈ tb_G := tb_mem 1226 (by decide +kernel) rfl
theorem qw_1228 : Cond.laysFinal "NameHatModel" "NameHatModel" "names" "[J" ∈ tb_G := tb_mem 1228 (by decide +kernel) rfl
theorem qw_1230 : Cond.laysFinal "NameHatModel" "NameHatModel" "reserved" "[J" ∈ tb_G := tb_mem 1230 (by decide +kernel) rfl
theorem qw_1232 : Cond.lays "NameHatModel" "NameHatModel" "token" "I" ∈ tb_G := tb_mem 1232 (by decide +kernel) rfl
theorem qw_1234 : Cond.lays "NameHatModel" "NameHatModel" "at" "I" ∈ tb_G := tb_mem 1234 (by decide +kernel) rfl
theorem qw_1236 : Cond.lays "NameHatModel" "NameHatModel" "span" "I" ∈ tb_G := tb_mem 1236 (by decide +kernel) rfl
theorem qw_1238 : Cond.lays "NameHatModel" "NameHatModel" "number" "I" ∈ tb_G := tb_mem 1238 (by decide +kernel) rfl
theorem qw_1240 : Cond.lays "NameHatModel" "NameHatModel" "fault" "I" ∈ tb_G := tb_mem 1240 (by decide +kernel) rfl
theorem qw_1242 : Cond.lays "NameHatModel" "NameHatModel" "faultAt" "I" ∈ tb_G := tb_mem 1242 (by decide +kernel) rfl
theorem qw_1244 : Cond.lays "NameHatModel" "NameHatModel" "word" "J" ∈ tb_G := tb_mem 1244 (by decide +kernel) rfl
theorem qw_1246 : Cond.lays "NameHatModel" "NameHatModel" "got" "I" ∈ tb_G := tb_mem 1246 (by decide +kernel) rfl
theorem qw_1248 : Cond.lays "NameHatModel" "NameHatModel" "lines" "I" ∈ tb_G := tb_mem 1248 (by decide +kernel) rfl
theorem qw_1250 : Cond.lays "NameHatModel" "NameHatModel" "sat" "I" ∈ tb_G := tb_mem 1250 (by decide +kernel) rfl
theorem qw_1252 : Cond.lays "NameHatModel" "NameHatModel" "hasPews" "Z" ∈ tb_G := tb_mem 1252 (by decide +kernel) rfl
theorem qw_1254 : Cond.lays "NameHatModel" "NameHatModel" "hasField" "Z" ∈ tb_G := tb_mem 1254 (by decide +kernel) rfl
theorem qw_1256 : Cond.lays "NameHatModel" "NameHatModel" "seed" "I" ∈ tb_G := tb_mem 1256 (by decide +kernel) rfl
theorem qw_1258 : Cond.laysFinal "NameHatModel" "NameHatModel" "ring" "[I" ∈ tb_G := tb_mem 1258 (by decide +kernel) rfl
theorem qw_1260 : Cond.laysFinal "NameHatModel" "NameHatModel" "ringKept" "[I" ∈ tb_G := tb_mem 1260 (by decide +kernel) rfl
theorem qw_1262 : Cond.lays "NameHatModel" "NameHatModel" "ringMany" "I" ∈ tb_G := tb_mem 1262 (by decide +kernel) rfl
theorem qw_1264 : Cond.laysFinal "NameHatModel" "NameHatModel" "points" "[I" ∈ tb_G := tb_mem 1264 (by decide +kernel) rfl
theorem qw_1266 : Cond.laysFinal "NameHatModel" "NameHatModel" "held" "[I" ∈ tb_G := tb_mem 1266 (by decide +kernel) rfl
theorem qw_1268 : Cond.lays "NameHatModel" "NameHatModel" "coming" "I" ∈ tb_G := tb_mem 1268 (by decide +kernel) rfl
theorem qw_1270 : Cond.laysFinal "NameHatModel" "NameHatModel" "went" "[I" ∈ tb_G := tb_mem 1270 (by decide +kernel) rfl
theorem qw_1272 : Cond.laysFinal "NameHatModel" "NameHatModel" "heldKept" "[I" ∈ tb_G := tb_mem 1272 (by decide +kernel) rfl
theorem qw_1274 : Cond.lays "NameHatModel" "NameHatModel" "hasGone" "Z" ∈ tb_G := tb_mem 1274 (by decide +kernel) rfl
theorem qw_1276 : Cond.laysFinal "NameHatModel" "NameHatModel" "tried" "[I" ∈ tb_G := tb_mem 1276 (by decide +kernel) rfl
theorem qw_1278 : Cond.laysFinal "NameHatModel" "NameHatModel" "seated" "[I" ∈ tb_G := tb_mem 1278 (by decide +kernel) rfl
theorem qw_1280 : Cond.lays "NameHatModel" "NameHatModel" "seatedMany" "I" ∈ tb_G := tb_mem 1280 (by decide +kernel) rfl
theorem qw_1282 : Cond.laysFinal "NameHatModel" "NameHatModel" "ways" "[I" ∈ tb_G := tb_mem 1282 (by decide +kernel) rfl
theorem qw_1284 : Cond.laysFinal "NameHatModel" "NameHatModel" "may" "[I" ∈ tb_G := tb_mem 1284 (by decide +kernel) rfl
theorem qw_1286 : Cond.lays "NameHatModel" "NameHatModel" "luckUp" "J" ∈ tb_G := tb_mem 1286 (by decide +kernel) rfl
theorem qw_1288 : Cond.lays "NameHatModel" "NameHatModel" "luckBelow" "J" ∈ tb_G := tb_mem 1288 (by decide +kernel) rfl
theorem qw_1290 : Cond.lays "NameHatModel" "NameHatModel" "luckDrew" "I" ∈ tb_G := tb_mem 1290 (by decide +kernel) rfl
theorem qw_1292 : Cond.laysFinal "NameHatModel" "NameHatModel" "chance" "[J" ∈ tb_G := tb_mem 1292 (by decide +kernel) rfl
theorem qw_1294 : Cond.laysFinal "NameHatModel" "NameHatModel" "kept" "[I" ∈ tb_G := tb_mem 1294 (by decide +kernel) rfl
theorem qw_1296 : Cond.laysFinal "NameHatModel" "NameHatModel" "namesKept" "[J" ∈ tb_G := tb_mem 1296 (by decide +kernel) rfl
theorem qw_1298 : Cond.laysFinal "NameHatModel" "NameHatModel" "isKept" "[Z" ∈ tb_G := tb_mem 1298 (by decide +kernel) rfl
theorem qw_1301 : Cond.arrayClass FieldType.boolean ∈ tb_G := tb_mem 1301 (by decide +kernel) rfl
theorem qw_1302 : Cond.methodLink "NameHatLaw" 50 ⟨"NameHatModel", "island", "()I"⟩ ∈ tb_G := tb_mem 1302 (by decide +kernel) rfl
theorem qw_1303 : Cond.instanceMethod ⟨"NameHatModel", "island", "()I"⟩ ∈ tb_G := tb_mem 1303 (by decide +kernel) rfl
theorem qw_1304 : Cond.selects "NameHatModel" ⟨"NameHatModel", "island", "()I"⟩ ⟨"NameHatModel", "island", "()I"⟩ ∈ tb_G := tb_mem 1304 (by decide +kernel) rfl
theorem qw_1305 : Cond.code ⟨"NameHatModel", "island", "()I"⟩ prog_14_method_30_code 2 (Option.some FieldType.int) ∈ tb_G := tb_mem 1305 (by decide +kernel) rfl
theorem qw_1306 : Cond.methodLink "NameHatModel" 229 ⟨"NameHatModel", "taken", "(I)V"⟩ ∈ tb_G := tb_mem 1306 (by decide +kernel) rfl
theorem qw_1308 : Cond.instanceMethod ⟨"NameHatModel", "taken", "(I)V"⟩ ∈ tb_G := tb_mem 1308 (by decide +kernel) rfl
theorem qw_1309 : Cond.code ⟨"NameHatModel", "taken", "(I)V"⟩ prog_14_method_6_code 2 (none : Option FieldType) ∈ tb_G := tb_mem 1309 (by decide +kernel) rfl
theorem qw_1310 : Cond.methodLink "NameHatModel" 172 ⟨"NameHatModel", "next", "()V"⟩ ∈ tb_G := tb_mem 1310 (by decide +kernel) rfl
theorem qw_1312 : Cond.instanceMethod ⟨"NameHatModel", "next", "()V"⟩ ∈ tb_G := tb_mem 1312 (by decide +kernel) rfl
theorem qw_1313 : Cond.code ⟨"NameHatModel", "next", "()V"⟩ prog_14_method_15_code 4 (none : Option FieldType) ∈ tb_G := tb_mem 1313 (by decide +kernel) rfl
theorem qw_1314 : Cond.methodLink "NameHatModel" 133 ⟨"NameHatModel", "peek", "()I"⟩ ∈ tb_G := tb_mem 1314 (by decide +kernel) rfl
theorem qw_1316 : Cond.instanceMethod ⟨"NameHatModel", "peek", "()I"⟩ ∈ tb_G := tb_mem 1316 (by decide +kernel) rfl
theorem qw_1317 : Cond.code ⟨"NameHatModel", "peek", "()I"⟩ prog_14_method_12_code 1 (Option.some FieldType.int) ∈ tb_G := tb_mem 1317 (by decide +kernel) rfl
theorem qw_1318 : Cond.methodLink "NameHatModel" 146 ⟨"NameHatModel", "isSmall", "(I)Z"⟩ ∈ tb_G := tb_mem 1318 (by decide +kernel) rfl
theorem qw_1319 : Cond.static ⟨"NameHatModel", "isSmall", "(I)Z"⟩ ∈ tb_G := tb_mem 1319 (by decide +kernel) rfl
theorem qw_1320 : Cond.code ⟨"NameHatModel", "isSmall", "(I)Z"⟩ prog_14_method_13_code 1 (Option.some FieldType.boolean) ∈ tb_G := tb_mem 1320 (by decide +kernel) rfl
theorem qw_1321 : Cond.methodLink "NameHatModel" 150 ⟨"NameHatModel", "isDigit", "(I)Z"⟩ ∈ tb_G := tb_mem 1321 (by decide +kernel) rfl
theorem qw_1322 : Cond.static ⟨"NameHatModel", "isDigit", "(I)Z"⟩ ∈ tb_G := tb_mem 1322 (by decide +kernel) rfl
theorem qw_1323 : Cond.code ⟨"NameHatModel", "isDigit", "(I)Z"⟩ prog_14_method_14_code 1 (Option.some FieldType.boolean) ∈ tb_G := tb_mem 1323 (by decide +kernel) rfl
theorem qw_1324 : Cond.methodLink "NameHatModel" 235 ⟨"NameHatModel", "line", "()Z"⟩ ∈ tb_G := tb_mem 1324 (by decide +kernel) rfl
theorem qw_1326 : Cond.instanceMethod ⟨"NameHatModel", "line", "()Z"⟩ ∈ tb_G := tb_mem 1326 (by decide +kernel) rfl
theorem qw_1327 : Cond.code ⟨"NameHatModel", "line", "()Z"⟩ prog_14_method_25_code 2 (Option.some FieldType.boolean) ∈ tb_G := tb_mem 1327 (by decide +kernel) rfl
theorem qw_1328 : Cond.methodLink "NameHatModel" 190 ⟨"NameHatModel", "isWord", "(J)Z"⟩ ∈ tb_G := tb_mem 1328 (by decide +kernel) rfl
theorem qw_1330 : Cond.instanceMethod ⟨"NameHatModel", "isWord", "(J)Z"⟩ ∈ tb_G := tb_mem 1330 (by decide +kernel) rfl
theorem qw_1331 : Cond.code ⟨"NameHatModel", "isWord", "(J)Z"⟩ prog_14_method_17_code 3 (Option.some FieldType.boolean) ∈ tb_G := tb_mem 1331 (by decide +kernel) rfl
theorem qw_1332 : Cond.methodLink "NameHatModel" 194 ⟨"NameHatModel", "readName", "()Z"⟩ ∈ tb_G := tb_mem 1332 (by decide +kernel) rfl
theorem qw_1334 : Cond.instanceMethod ⟨"NameHatModel", "readName", "()Z"⟩ ∈ tb_G := tb_mem 1334 (by decide +kernel) rfl
theorem qw_1335 : Cond.code ⟨"NameHatModel", "readName", "()Z"⟩ prog_14_method_26_code 2 (Option.some FieldType.boolean) ∈ tb_G := tb_mem 1335 (by decide +kernel) rfl
theorem qw_1336 : Cond.methodLink "NameHatModel" 169 ⟨"NameHatModel", "bad", "(I)Z"⟩ ∈ tb_G := tb_mem 1336 (by decide +kernel) rfl
theorem qw_1338 : Cond.instanceMethod ⟨"NameHatModel", "bad", "(I)Z"⟩ ∈ tb_G := tb_mem 1338 (by decide +kernel) rfl
theorem qw_1339 : Cond.code ⟨"NameHatModel", "bad", "(I)Z"⟩ prog_14_method_16_code 2 (Option.some FieldType.boolean) ∈ tb_G := tb_mem 1339 (by decide +kernel) rfl
theorem qw_1340 : Cond.methodLink "NameHatModel" 223 ⟨"NameHatModel", "fresh", "(I)Z"⟩ ∈ tb_G := tb_mem 1340 (by decide +kernel) rfl
theorem qw_1342 : Cond.instanceMethod ⟨"NameHatModel", "fresh", "(I)Z"⟩ ∈ tb_G := tb_mem 1342 (by decide +kernel) rfl
theorem qw_1343 : Cond.code ⟨"NameHatModel", "fresh", "(I)Z"⟩ prog_14_method_24_code 2 (Option.some FieldType.boolean) ∈ tb_G := tb_mem 1343 (by decide +kernel) rfl
theorem qw_1344 : Cond.methodLink "NameHatModel" 182 ⟨"NameHatModel", "isName", "()Z"⟩ ∈ tb_G := tb_mem 1344 (by decide +kernel) rfl
theorem qw_1346 : Cond.instanceMethod ⟨"NameHatModel", "isName", "()Z"⟩ ∈ tb_G := tb_mem 1346 (by decide +kernel) rfl
theorem qw_1347 : Cond.code ⟨"NameHatModel", "isName", "()Z"⟩ prog_14_method_20_code 3 (Option.some FieldType.boolean) ∈ tb_G := tb_mem 1347 (by decide +kernel) rfl
theorem qw_1348 : Cond.methodLink "NameHatModel" 186 ⟨"NameHatModel", "find", "(II)I"⟩ ∈ tb_G := tb_mem 1348 (by decide +kernel) rfl
theorem qw_1350 : Cond.instanceMethod ⟨"NameHatModel", "find", "(II)I"⟩ ∈ tb_G := tb_mem 1350 (by decide +kernel) rfl
theorem qw_1351 : Cond.code ⟨"NameHatModel", "find", "(II)I"⟩ prog_14_method_22_code 4 (Option.some FieldType.int) ∈ tb_G := tb_mem 1351 (by decide +kernel) rfl
theorem qw_1352 : Cond.methodLink "NameHatModel" 213 ⟨"NameHatModel", "takes", "(II)Z"⟩ ∈ tb_G := tb_mem 1352 (by decide +kernel) rfl
theorem qw_1354 : Cond.instanceMethod ⟨"NameHatModel", "takes", "(II)Z"⟩ ∈ tb_G := tb_mem 1354 (by decide +kernel) rfl
theorem qw_1355 : Cond.code ⟨"NameHatModel", "takes", "(II)Z"⟩ prog_14_method_21_code 3 (Option.some FieldType.boolean) ∈ tb_G := tb_mem 1355 (by decide +kernel) rfl
theorem qw_1356 : Cond.methodLink "NameHatModel" 175 ⟨"NameHatModel", "isIn", "(III)Z"⟩ ∈ tb_G := tb_mem 1356 (by decide +kernel) rfl
theorem qw_1357 : Cond.static ⟨"NameHatModel", "isIn", "(III)Z"⟩ ∈ tb_G := tb_mem 1357 (by decide +kernel) rfl
theorem qw_1358 : Cond.code ⟨"NameHatModel", "isIn", "(III)Z"⟩ prog_14_method_7_code 3 (Option.some FieldType.boolean) ∈ tb_G := tb_mem 1358 (by decide +kernel) rfl
theorem qw_1359 : Cond.methodLink "NameHatModel" 197 ⟨"NameHatModel", "readHouse", "()Z"⟩ ∈ tb_G := tb_mem 1359 (by decide +kernel) rfl
theorem qw_1361 : Cond.instanceMethod ⟨"NameHatModel", "readHouse", "()Z"⟩ ∈ tb_G := tb_mem 1361 (by decide +kernel) rfl
theorem qw_1362 : Cond.code ⟨"NameHatModel", "readHouse", "()Z"⟩ prog_14_method_27_code 4 (Option.some FieldType.boolean) ∈ tb_G := tb_mem 1362 (by decide +kernel) rfl
theorem qw_1363 : Cond.methodLink "NameHatModel" 200 ⟨"NameHatModel", "readWants", "()Z"⟩ ∈ tb_G := tb_mem 1363 (by decide +kernel) rfl
theorem qw_1365 : Cond.instanceMethod ⟨"NameHatModel", "readWants", "()Z"⟩ ∈ tb_G := tb_mem 1365 (by decide +kernel) rfl
theorem qw_1366 : Cond.code ⟨"NameHatModel", "readWants", "()Z"⟩ prog_14_method_28_code 3 (Option.some FieldType.boolean) ∈ tb_G := tb_mem 1366 (by decide +kernel) rfl
theorem qw_1367 : Cond.methodLink "NameHatModel" 226 ⟨"NameHatModel", "takesName", "(II)Z"⟩ ∈ tb_G := tb_mem 1367 (by decide +kernel) rfl
theorem qw_1369 : Cond.instanceMethod ⟨"NameHatModel", "takesName", "(II)Z"⟩ ∈ tb_G := tb_mem 1369 (by decide +kernel) rfl
theorem qw_1370 : Cond.code ⟨"NameHatModel", "takesName", "(II)Z"⟩ prog_14_method_23_code 3 (Option.some FieldType.boolean) ∈ tb_G := tb_mem 1370 (by decide +kernel) rfl
theorem qw_1371 : Cond.methodLink "NameHatModel" 203 ⟨"NameHatModel", "readFeud", "()Z"⟩ ∈ tb_G := tb_mem 1371 (by decide +kernel) rfl
theorem qw_1373 : Cond.instanceMethod ⟨"NameHatModel", "readFeud", "()Z"⟩ ∈ tb_G := tb_mem 1373 (by decide +kernel) rfl
theorem qw_1374 : Cond.code ⟨"NameHatModel", "readFeud", "()Z"⟩ prog_14_method_29_code 3 (Option.some FieldType.boolean) ∈ tb_G := tb_mem 1374 (by decide +kernel) rfl
theorem qw_1375 : Cond.methodLink "NameHatModel" 217 ⟨"NameHatModel", "has", "(II)Z"⟩ ∈ tb_G := tb_mem 1375 (by decide +kernel) rfl
theorem qw_1376 : Cond.static ⟨"NameHatModel", "has", "(II)Z"⟩ ∈ tb_G := tb_mem 1376 (by decide +kernel) rfl
theorem qw_1377 : Cond.code ⟨"NameHatModel", "has", "(II)Z"⟩ prog_14_method_8_code 2 (Option.some FieldType.boolean) ∈ tb_G := tb_mem 1377 (by decide +kernel) rfl
theorem qw_1378 : Cond.methodLink "NameHatModel" 238 ⟨"NameHatModel", "sign", "(I)Z"⟩ ∈ tb_G := tb_mem 1378 (by decide +kernel) rfl
theorem qw_1380 : Cond.instanceMethod ⟨"NameHatModel", "sign", "(I)Z"⟩ ∈ tb_G := tb_mem 1380 (by decide +kernel) rfl
theorem qw_1381 : Cond.code ⟨"NameHatModel", "sign", "(I)Z"⟩ prog_14_method_19_code 2 (Option.some FieldType.boolean) ∈ tb_G := tb_mem 1381 (by decide +kernel) rfl
theorem qw_1382 : Cond.methodLink "NameHatModel" 166 ⟨"NameHatModel", "isSign", "(I)Z"⟩ ∈ tb_G := tb_mem 1382 (by decide +kernel) rfl
theorem qw_1384 : Cond.instanceMethod ⟨"NameHatModel", "isSign", "(I)Z"⟩ ∈ tb_G := tb_mem 1384 (by decide +kernel) rfl
theorem qw_1385 : Cond.code ⟨"NameHatModel", "isSign", "(I)Z"⟩ prog_14_method_18_code 2 (Option.some FieldType.boolean) ∈ tb_G := tb_mem 1385 (by decide +kernel) rfl
theorem qw_1386 : Cond.methodLink "NameHatLaw" 54 ⟨"NameHatModel", "fault", "()I"⟩ ∈ tb_G := tb_mem 1386 (by decide +kernel) rfl
theorem qw_1387 : Cond.instanceMethod ⟨"NameHatModel", "fault", "()I"⟩ ∈ tb_G := tb_mem 1387 (by decide +kernel) rfl
theorem qw_1388 : Cond.selects "NameHatModel" ⟨"NameHatModel", "fault", "()I"⟩ ⟨"NameHatModel", "fault", "()I"⟩ ∈ tb_G := tb_mem 1388 (by decide +kernel) rfl
theorem qw_1389 : Cond.code ⟨"NameHatModel", "fault", "()I"⟩ prog_14_method_31_code 1 (Option.some FieldType.int) ∈ tb_G := tb_mem 1389 (by decide +kernel) rfl
theorem qw_1390 : Cond.methodLink "NameHatLaw" 60 ⟨"NameHatModel", "surname", "(II)I"⟩ ∈ tb_G := tb_mem 1390 (by decide +kernel) rfl
theorem qw_1391 : Cond.instanceMethod ⟨"NameHatModel", "surname", "(II)I"⟩ ∈ tb_G := tb_mem 1391 (by decide +kernel) rfl
theorem qw_1392 : Cond.selects "NameHatModel" ⟨"NameHatModel", "surname", "(II)I"⟩ ⟨"NameHatModel", "surname", "(II)I"⟩ ∈ tb_G := tb_mem 1392 (by decide +kernel) rfl
theorem qw_1393 : Cond.code ⟨"NameHatModel", "surname", "(II)I"⟩ prog_14_method_36_code 3 (Option.some FieldType.int) ∈ tb_G := tb_mem 1393 (by decide +kernel) rfl
theorem qw_1394 : Cond.methodLink "NameHatModel" 241 ⟨"NameHatModel", "isSurname", "(I)Z"⟩ ∈ tb_G := tb_mem 1394 (by decide +kernel) rfl
theorem qw_1396 : Cond.instanceMethod ⟨"NameHatModel", "isSurname", "(I)Z"⟩ ∈ tb_G := tb_mem 1396 (by decide +kernel) rfl
theorem qw_1397 : Cond.code ⟨"NameHatModel", "isSurname", "(I)Z"⟩ prog_14_method_32_code 2 (Option.some FieldType.boolean) ∈ tb_G := tb_mem 1397 (by decide +kernel) rfl
theorem qw_1398 : Cond.methodLink "NameHatModel" 244 ⟨"NameHatModel", "throwsIf", "(Z)Z"⟩ ∈ tb_G := tb_mem 1398 (by decide +kernel) rfl
theorem qw_1400 : Cond.instanceMethod ⟨"NameHatModel", "throwsIf", "(Z)Z"⟩ ∈ tb_G := tb_mem 1400 (by decide +kernel) rfl
theorem qw_1401 : Cond.code ⟨"NameHatModel", "throwsIf", "(Z)Z"⟩ prog_14_method_2_code 2 (Option.some FieldType.boolean) ∈ tb_G := tb_mem 1401 (by decide +kernel) rfl
theorem qw_1402 : Cond.methodLink "NameHatModel" 248 ⟨"NameHatModel", "holderOf", "(I)I"⟩ ∈ tb_G := tb_mem 1402 (by decide +kernel) rfl
theorem qw_1404 : Cond.instanceMethod ⟨"NameHatModel", "holderOf", "(I)I"⟩ ∈ tb_G := tb_mem 1404 (by decide +kernel) rfl
theorem qw_1405 : Cond.code ⟨"NameHatModel", "holderOf", "(I)I"⟩ prog_14_method_34_code 3 (Option.some FieldType.int) ∈ tb_G := tb_mem 1405 (by decide +kernel) rfl
theorem qw_1406 : Cond.methodLink "NameHatLaw" 66 ⟨"NameHatModel", "house", "(II)I"⟩ ∈ tb_G := tb_mem 1406 (by decide +kernel) rfl
theorem qw_1407 : Cond.instanceMethod ⟨"NameHatModel", "house", "(II)I"⟩ ∈ tb_G := tb_mem 1407 (by decide +kernel) rfl
theorem qw_1408 : Cond.selects "NameHatModel" ⟨"NameHatModel", "house", "(II)I"⟩ ⟨"NameHatModel", "house", "(II)I"⟩ ∈ tb_G := tb_mem 1408 (by decide +kernel) rfl
theorem qw_1409 : Cond.code ⟨"NameHatModel", "house", "(II)I"⟩ prog_14_method_37_code 3 (Option.some FieldType.int) ∈ tb_G := tb_mem 1409 (by decide +kernel) rfl
theorem qw_1410 : Cond.methodLink "NameHatModel" 252 ⟨"NameHatModel", "isHouse", "(I)Z"⟩ ∈ tb_G := tb_mem 1410 (by decide +kernel) rfl
theorem qw_1412 : Cond.instanceMethod ⟨"NameHatModel", "isHouse", "(I)Z"⟩ ∈ tb_G := tb_mem 1412 (by decide +kernel) rfl
theorem qw_1413 : Cond.code ⟨"NameHatModel", "isHouse", "(I)Z"⟩ prog_14_method_33_code 2 (Option.some FieldType.boolean) ∈ tb_G := tb_mem 1413 (by decide +kernel) rfl
theorem qw_1414 : Cond.methodLink "NameHatLaw" 69 ⟨"NameHatModel", "value", "(II)I"⟩ ∈ tb_G := tb_mem 1414 (by decide +kernel) rfl
theorem qw_1415 : Cond.instanceMethod ⟨"NameHatModel", "value", "(II)I"⟩ ∈ tb_G := tb_mem 1415 (by decide +kernel) rfl
theorem qw_1416 : Cond.selects "NameHatModel" ⟨"NameHatModel", "value", "(II)I"⟩ ⟨"NameHatModel", "value", "(II)I"⟩ ∈ tb_G := tb_mem 1416 (by decide +kernel) rfl
theorem qw_1417 : Cond.code ⟨"NameHatModel", "value", "(II)I"⟩ prog_14_method_38_code 3 (Option.some FieldType.int) ∈ tb_G := tb_mem 1417 (by decide +kernel) rfl
theorem qw_1418 : Cond.methodLink "NameHatModel" 255 ⟨"NameHatModel", "valueOf", "(II)I"⟩ ∈ tb_G := tb_mem 1418 (by decide +kernel) rfl
theorem qw_1420 : Cond.instanceMethod ⟨"NameHatModel", "valueOf", "(II)I"⟩ ∈ tb_G := tb_mem 1420 (by decide +kernel) rfl
theorem qw_1421 : Cond.code ⟨"NameHatModel", "valueOf", "(II)I"⟩ prog_14_method_35_code 4 (Option.some FieldType.int) ∈ tb_G := tb_mem 1421 (by decide +kernel) rfl
theorem qw_1422 : Cond.methodLink "NameHatLaw" 74 ⟨"NameHatModel", "spring", "(I)I"⟩ ∈ tb_G := tb_mem 1422 (by decide +kernel) rfl
theorem qw_1423 : Cond.instanceMethod ⟨"NameHatModel", "spring", "(I)I"⟩ ∈ tb_G := tb_mem 1423 (by decide +kernel) rfl
theorem qw_1424 : Cond.selects "NameHatModel" ⟨"NameHatModel", "spring", "(I)I"⟩ ⟨"NameHatModel", "spring", "(I)I"⟩ ∈ tb_G := tb_mem 1424 (by decide +kernel) rfl
theorem qw_1425 : Cond.code ⟨"NameHatModel", "spring", "(I)I"⟩ prog_14_method_40_code 6 (Option.some FieldType.int) ∈ tb_G := tb_mem 1425 (by decide +kernel) rfl
theorem qw_1426 : Cond.methodLink "NameHatModel" 262 ⟨"NameHatModel", "bits", "(I)I"⟩ ∈ tb_G := tb_mem 1426 (by decide +kernel) rfl
theorem qw_1427 : Cond.static ⟨"NameHatModel", "bits", "(I)I"⟩ ∈ tb_G := tb_mem 1427 (by decide +kernel) rfl
theorem qw_1428 : Cond.code ⟨"NameHatModel", "bits", "(I)I"⟩ prog_14_method_9_code 3 (Option.some FieldType.int) ∈ tb_G := tb_mem 1428 (by decide +kernel) rfl
theorem qw_1429 : Cond.methodLink "NameHatModel" 265 ⟨"NameHatModel", "draw", "(I)I"⟩ ∈ tb_G := tb_mem 1429 (by decide +kernel) rfl
theorem qw_1431 : Cond.instanceMethod ⟨"NameHatModel", "draw", "(I)I"⟩ ∈ tb_G := tb_mem 1431 (by decide +kernel) rfl
theorem qw_1432 : Cond.code ⟨"NameHatModel", "draw", "(I)I"⟩ prog_14_method_39_code 2 (Option.some FieldType.int) ∈ tb_G := tb_mem 1432 (by decide +kernel) rfl
theorem qw_1433 : Cond.constant "NameHatModel" 261 (1103515245 : Int32) ∈ tb_G := tb_mem 1433 (by decide +kernel) rfl
theorem qw_1434 : Cond.methodLink "NameHatLaw" 78 ⟨"NameHatModel", "held", "(II)I"⟩ ∈ tb_G := tb_mem 1434 (by decide +kernel) rfl
theorem qw_1435 : Cond.instanceMethod ⟨"NameHatModel", "held", "(II)I"⟩ ∈ tb_G := tb_mem 1435 (by decide +kernel) rfl
theorem qw_1436 : Cond.selects "NameHatModel" ⟨"NameHatModel", "held", "(II)I"⟩ ⟨"NameHatModel", "held", "(II)I"⟩ ∈ tb_G := tb_mem 1436 (by decide +kernel) rfl
theorem qw_1437 : Cond.code ⟨"NameHatModel", "held", "(II)I"⟩ prog_14_method_43_code 3 (Option.some FieldType.int) ∈ tb_G := tb_mem 1437 (by decide +kernel) rfl
theorem qw_1438 : Cond.methodLink "NameHatModel" 268 ⟨"NameHatModel", "isSpring", "(I)Z"⟩ ∈ tb_G := tb_mem 1438 (by decide +kernel) rfl
theorem qw_1440 : Cond.instanceMethod ⟨"NameHatModel", "isSpring", "(I)Z"⟩ ∈ tb_G := tb_mem 1440 (by decide +kernel) rfl
theorem qw_1441 : Cond.code ⟨"NameHatModel", "isSpring", "(I)Z"⟩ prog_14_method_41_code 2 (Option.some FieldType.boolean) ∈ tb_G := tb_mem 1441 (by decide +kernel) rfl
theorem qw_1442 : Cond.methodLink "NameHatModel" 271 ⟨"NameHatModel", "heldAt", "(II)I"⟩ ∈ tb_G := tb_mem 1442 (by decide +kernel) rfl
theorem qw_1444 : Cond.instanceMethod ⟨"NameHatModel", "heldAt", "(II)I"⟩ ∈ tb_G := tb_mem 1444 (by decide +kernel) rfl
theorem qw_1445 : Cond.code ⟨"NameHatModel", "heldAt", "(II)I"⟩ prog_14_method_42_code 3 (Option.some FieldType.int) ∈ tb_G := tb_mem 1445 (by decide +kernel) rfl
theorem qw_1446 : Cond.methodLink "NameHatLaw" 111 ⟨"NameHatModel", "keeper", "(II)I"⟩ ∈ tb_G := tb_mem 1446 (by decide +kernel) rfl
theorem qw_1447 : Cond.instanceMethod ⟨"NameHatModel", "keeper", "(II)I"⟩ ∈ tb_G := tb_mem 1447 (by decide +kernel) rfl
theorem qw_1448 : Cond.selects "NameHatModel" ⟨"NameHatModel", "keeper", "(II)I"⟩ ⟨"NameHatModel", "keeper", "(II)I"⟩ ∈ tb_G := tb_mem 1448 (by decide +kernel) rfl
theorem qw_1449 : Cond.code ⟨"NameHatModel", "keeper", "(II)I"⟩ prog_14_method_44_code 4 (Option.some FieldType.int) ∈ tb_G := tb_mem 1449 (by decide +kernel) rfl
theorem qw_1450 : Cond.methodLink "NameHatLaw" 83 ⟨"NameHatModel", "swap", "(II)Z"⟩ ∈ tb_G := tb_mem 1450 (by decide +kernel) rfl
theorem qw_1451 : Cond.instanceMethod ⟨"NameHatModel", "swap", "(II)Z"⟩ ∈ tb_G := tb_mem 1451 (by decide +kernel) rfl
theorem qw_1452 : Cond.selects "NameHatModel" ⟨"NameHatModel", "swap", "(II)Z"⟩ ⟨"NameHatModel", "swap", "(II)Z"⟩ ∈ tb_G := tb_mem 1452 (by decide +kernel) rfl
theorem qw_1453 : Cond.code ⟨"NameHatModel", "swap", "(II)Z"⟩ prog_14_method_47_code 3 (Option.some FieldType.boolean) ∈ tb_G := tb_mem 1453 (by decide +kernel) rfl
theorem qw_1454 : Cond.methodLink "NameHatModel" 274 ⟨"NameHatModel", "isPawned", "(I)Z"⟩ ∈ tb_G := tb_mem 1454 (by decide +kernel) rfl
theorem qw_1456 : Cond.instanceMethod ⟨"NameHatModel", "isPawned", "(I)Z"⟩ ∈ tb_G := tb_mem 1456 (by decide +kernel) rfl
theorem qw_1457 : Cond.code ⟨"NameHatModel", "isPawned", "(I)Z"⟩ prog_14_method_45_code 2 (Option.some FieldType.boolean) ∈ tb_G := tb_mem 1457 (by decide +kernel) rfl
theorem qw_1458 : Cond.methodLink "NameHatModel" 277 ⟨"NameHatModel", "exchange", "(II)V"⟩ ∈ tb_G := tb_mem 1458 (by decide +kernel) rfl
theorem qw_1460 : Cond.instanceMethod ⟨"NameHatModel", "exchange", "(II)V"⟩ ∈ tb_G := tb_mem 1460 (by decide +kernel) rfl
theorem qw_1461 : Cond.code ⟨"NameHatModel", "exchange", "(II)V"⟩ prog_14_method_46_code 4 (none : Option FieldType) ∈ tb_G := tb_mem 1461 (by decide +kernel) rfl
theorem qw_1462 : Cond.methodLink "NameHatLaw" 87 ⟨"NameHatModel", "ring", "()I"⟩ ∈ tb_G := tb_mem 1462 (by decide +kernel) rfl
theorem qw_1463 : Cond.instanceMethod ⟨"NameHatModel", "ring", "()I"⟩ ∈ tb_G := tb_mem 1463 (by decide +kernel) rfl
theorem qw_1464 : Cond.selects "NameHatModel" ⟨"NameHatModel", "ring", "()I"⟩ ⟨"NameHatModel", "ring", "()I"⟩ ∈ tb_G := tb_mem 1464 (by decide +kernel) rfl
theorem qw_1465 : Cond.code ⟨"NameHatModel", "ring", "()I"⟩ prog_14_method_51_code 3 (Option.some FieldType.int) ∈ tb_G := tb_mem 1465 (by decide +kernel) rfl
theorem qw_1466 : Cond.methodLink "NameHatModel" 287 ⟨"NameHatModel", "findsRing", "(I)Z"⟩ ∈ tb_G := tb_mem 1466 (by decide +kernel) rfl
theorem qw_1468 : Cond.instanceMethod ⟨"NameHatModel", "findsRing", "(I)Z"⟩ ∈ tb_G := tb_mem 1468 (by decide +kernel) rfl
theorem qw_1469 : Cond.code ⟨"NameHatModel", "findsRing", "(I)Z"⟩ prog_14_method_50_code 4 (Option.some FieldType.boolean) ∈ tb_G := tb_mem 1469 (by decide +kernel) rfl
theorem qw_1470 : Cond.methodLink "NameHatModel" 281 ⟨"NameHatModel", "isNew", "(I)Z"⟩ ∈ tb_G := tb_mem 1470 (by decide +kernel) rfl
theorem qw_1472 : Cond.instanceMethod ⟨"NameHatModel", "isNew", "(I)Z"⟩ ∈ tb_G := tb_mem 1472 (by decide +kernel) rfl
theorem qw_1473 : Cond.code ⟨"NameHatModel", "isNew", "(I)Z"⟩ prog_14_method_49_code 3 (Option.some FieldType.boolean) ∈ tb_G := tb_mem 1473 (by decide +kernel) rfl
theorem qw_1474 : Cond.methodLink "NameHatModel" 284 ⟨"NameHatModel", "isMore", "(II)Z"⟩ ∈ tb_G := tb_mem 1474 (by decide +kernel) rfl
theorem qw_1476 : Cond.instanceMethod ⟨"NameHatModel", "isMore", "(II)Z"⟩ ∈ tb_G := tb_mem 1476 (by decide +kernel) rfl
theorem qw_1477 : Cond.code ⟨"NameHatModel", "isMore", "(II)Z"⟩ prog_14_method_48_code 3 (Option.some FieldType.boolean) ∈ tb_G := tb_mem 1477 (by decide +kernel) rfl
theorem qw_1478 : Cond.methodLink "NameHatLaw" 91 ⟨"NameHatModel", "ringAt", "(I)I"⟩ ∈ tb_G := tb_mem 1478 (by decide +kernel) rfl
theorem qw_1479 : Cond.instanceMethod ⟨"NameHatModel", "ringAt", "(I)I"⟩ ∈ tb_G := tb_mem 1479 (by decide +kernel) rfl
theorem qw_1480 : Cond.selects "NameHatModel" ⟨"NameHatModel", "ringAt", "(I)I"⟩ ⟨"NameHatModel", "ringAt", "(I)I"⟩ ∈ tb_G := tb_mem 1480 (by decide +kernel) rfl
theorem qw_1481 : Cond.code ⟨"NameHatModel", "ringAt", "(I)I"⟩ prog_14_method_52_code 2 (Option.some FieldType.int) ∈ tb_G := tb_mem 1481 (by decide +kernel) rfl
theorem qw_1482 : Cond.methodLink "NameHatLaw" 95 ⟨"NameHatModel", "trade", "()I"⟩ ∈ tb_G := tb_mem 1482 (by decide +kernel) rfl
theorem qw_1483 : Cond.instanceMethod ⟨"NameHatModel", "trade", "()I"⟩ ∈ tb_G := tb_mem 1483 (by decide +kernel) rfl
theorem qw_1484 : Cond.selects "NameHatModel" ⟨"NameHatModel", "trade", "()I"⟩ ⟨"NameHatModel", "trade", "()I"⟩ ∈ tb_G := tb_mem 1484 (by decide +kernel) rfl
theorem qw_1485 : Cond.code ⟨"NameHatModel", "trade", "()I"⟩ prog_14_method_55_code 1 (Option.some FieldType.int) ∈ tb_G := tb_mem 1485 (by decide +kernel) rfl
theorem qw_1486 : Cond.methodLink "NameHatModel" 293 ⟨"NameHatModel", "trades", "()I"⟩ ∈ tb_G := tb_mem 1486 (by decide +kernel) rfl
theorem qw_1488 : Cond.instanceMethod ⟨"NameHatModel", "trades", "()I"⟩ ∈ tb_G := tb_mem 1488 (by decide +kernel) rfl
theorem qw_1489 : Cond.code ⟨"NameHatModel", "trades", "()I"⟩ prog_14_method_54_code 8 (Option.some FieldType.int) ∈ tb_G := tb_mem 1489 (by decide +kernel) rfl
theorem qw_1490 : Cond.methodLink "NameHatModel" 290 ⟨"NameHatModel", "pointOf", "(II)I"⟩ ∈ tb_G := tb_mem 1490 (by decide +kernel) rfl
theorem qw_1492 : Cond.instanceMethod ⟨"NameHatModel", "pointOf", "(II)I"⟩ ∈ tb_G := tb_mem 1492 (by decide +kernel) rfl
theorem qw_1493 : Cond.code ⟨"NameHatModel", "pointOf", "(II)I"⟩ prog_14_method_53_code 7 (Option.some FieldType.int) ∈ tb_G := tb_mem 1493 (by decide +kernel) rfl
theorem qw_1494 : Cond.methodLink "NameHatLaw" 99 ⟨"NameHatModel", "book", "()I"⟩ ∈ tb_G := tb_mem 1494 (by decide +kernel) rfl
theorem qw_1495 : Cond.instanceMethod ⟨"NameHatModel", "book", "()I"⟩ ∈ tb_G := tb_mem 1495 (by decide +kernel) rfl
theorem qw_1496 : Cond.selects "NameHatModel" ⟨"NameHatModel", "book", "()I"⟩ ⟨"NameHatModel", "book", "()I"⟩ ∈ tb_G := tb_mem 1496 (by decide +kernel) rfl
theorem qw_1497 : Cond.code ⟨"NameHatModel", "book", "()I"⟩ prog_14_method_57_code 2 (Option.some FieldType.int) ∈ tb_G := tb_mem 1497 (by decide +kernel) rfl
theorem qw_1498 : Cond.methodLink "NameHatModel" 299 ⟨"NameHatModel", "bookLine", "()Z"⟩ ∈ tb_G := tb_mem 1498 (by decide +kernel) rfl
theorem qw_1500 : Cond.instanceMethod ⟨"NameHatModel", "bookLine", "()Z"⟩ ∈ tb_G := tb_mem 1500 (by decide +kernel) rfl
theorem qw_1501 : Cond.code ⟨"NameHatModel", "bookLine", "()Z"⟩ prog_14_method_56_code 3 (Option.some FieldType.boolean) ∈ tb_G := tb_mem 1501 (by decide +kernel) rfl
theorem qw_1502 : Cond.methodLink "NameHatLaw" 103 ⟨"NameHatModel", "go", "(I)I"⟩ ∈ tb_G := tb_mem 1502 (by decide +kernel) rfl
theorem qw_1503 : Cond.instanceMethod ⟨"NameHatModel", "go", "(I)I"⟩ ∈ tb_G := tb_mem 1503 (by decide +kernel) rfl
theorem qw_1504 : Cond.selects "NameHatModel" ⟨"NameHatModel", "go", "(I)I"⟩ ⟨"NameHatModel", "go", "(I)I"⟩ ∈ tb_G := tb_mem 1504 (by decide +kernel) rfl
theorem qw_1505 : Cond.code ⟨"NameHatModel", "go", "(I)I"⟩ prog_14_method_59_code 5 (Option.some FieldType.int) ∈ tb_G := tb_mem 1505 (by decide +kernel) rfl
theorem qw_1506 : Cond.methodLink "NameHatModel" 302 ⟨"NameHatModel", "does", "(III)I"⟩ ∈ tb_G := tb_mem 1506 (by decide +kernel) rfl
theorem qw_1508 : Cond.instanceMethod ⟨"NameHatModel", "does", "(III)I"⟩ ∈ tb_G := tb_mem 1508 (by decide +kernel) rfl
theorem qw_1509 : Cond.code ⟨"NameHatModel", "does", "(III)I"⟩ prog_14_method_58_code 7 (Option.some FieldType.int) ∈ tb_G := tb_mem 1509 (by decide +kernel) rfl
theorem qw_1510 : Cond.methodLink "NameHatModel" 306 ⟨"NameHatModel", "worthOf", "()I"⟩ ∈ tb_G := tb_mem 1510 (by decide +kernel) rfl
theorem qw_1512 : Cond.instanceMethod ⟨"NameHatModel", "worthOf", "()I"⟩ ∈ tb_G := tb_mem 1512 (by decide +kernel) rfl
theorem qw_1513 : Cond.code ⟨"NameHatModel", "worthOf", "()I"⟩ prog_14_method_61_code 3 (Option.some FieldType.int) ∈ tb_G := tb_mem 1513 (by decide +kernel) rfl
theorem qw_1514 : Cond.methodLink "NameHatLaw" 107 ⟨"NameHatModel", "went", "(I)I"⟩ ∈ tb_G := tb_mem 1514 (by decide +kernel) rfl
theorem qw_1515 : Cond.instanceMethod ⟨"NameHatModel", "went", "(I)I"⟩ ∈ tb_G := tb_mem 1515 (by decide +kernel) rfl
theorem qw_1516 : Cond.selects "NameHatModel" ⟨"NameHatModel", "went", "(I)I"⟩ ⟨"NameHatModel", "went", "(I)I"⟩ ∈ tb_G := tb_mem 1516 (by decide +kernel) rfl
theorem qw_1517 : Cond.code ⟨"NameHatModel", "went", "(I)I"⟩ prog_14_method_60_code 2 (Option.some FieldType.int) ∈ tb_G := tb_mem 1517 (by decide +kernel) rfl
theorem qw_1518 : Cond.methodLink "NameHatLaw" 119 ⟨"NameHatModel", "worth", "()I"⟩ ∈ tb_G := tb_mem 1518 (by decide +kernel) rfl
theorem qw_1519 : Cond.instanceMethod ⟨"NameHatModel", "worth", "()I"⟩ ∈ tb_G := tb_mem 1519 (by decide +kernel) rfl
theorem qw_1520 : Cond.selects "NameHatModel" ⟨"NameHatModel", "worth", "()I"⟩ ⟨"NameHatModel", "worth", "()I"⟩ ∈ tb_G := tb_mem 1520 (by decide +kernel) rfl
theorem qw_1521 : Cond.code ⟨"NameHatModel", "worth", "()I"⟩ prog_14_method_62_code 1 (Option.some FieldType.int) ∈ tb_G := tb_mem 1521 (by decide +kernel) rfl
theorem qw_1522 : Cond.methodLink "NameHatLaw" 115 ⟨"NameHatModel", "envy", "(I)I"⟩ ∈ tb_G := tb_mem 1522 (by decide +kernel) rfl
theorem qw_1523 : Cond.instanceMethod ⟨"NameHatModel", "envy", "(I)I"⟩ ∈ tb_G := tb_mem 1523 (by decide +kernel) rfl
theorem qw_1524 : Cond.selects "NameHatModel" ⟨"NameHatModel", "envy", "(I)I"⟩ ⟨"NameHatModel", "envy", "(I)I"⟩ ∈ tb_G := tb_mem 1524 (by decide +kernel) rfl
theorem qw_1525 : Cond.code ⟨"NameHatModel", "envy", "(I)I"⟩ prog_14_method_63_code 4 (Option.some FieldType.int) ∈ tb_G := tb_mem 1525 (by decide +kernel) rfl
theorem qw_1526 : Cond.methodLink "NameHatLaw" 122 ⟨"NameHatModel", "waiting", "(II)I"⟩ ∈ tb_G := tb_mem 1526 (by decide +kernel) rfl
theorem qw_1527 : Cond.instanceMethod ⟨"NameHatModel", "waiting", "(II)I"⟩ ∈ tb_G := tb_mem 1527 (by decide +kernel) rfl
theorem qw_1528 : Cond.selects "NameHatModel" ⟨"NameHatModel", "waiting", "(II)I"⟩ ⟨"NameHatModel", "waiting", "(II)I"⟩ ∈ tb_G := tb_mem 1528 (by decide +kernel) rfl
theorem qw_1529 : Cond.code ⟨"NameHatModel", "waiting", "(II)I"⟩ prog_14_method_66_code 5 (Option.some FieldType.int) ∈ tb_G := tb_mem 1529 (by decide +kernel) rfl
theorem qw_1530 : Cond.methodLink "NameHatModel" 316 ⟨"NameHatModel", "part", "(JJI)J"⟩ ∈ tb_G := tb_mem 1530 (by decide +kernel) rfl
theorem qw_1531 : Cond.static ⟨"NameHatModel", "part", "(JJI)J"⟩ ∈ tb_G := tb_mem 1531 (by decide +kernel) rfl
theorem qw_1532 : Cond.code ⟨"NameHatModel", "part", "(JJI)J"⟩ prog_14_method_65_code 5 (Option.some FieldType.long) ∈ tb_G := tb_mem 1532 (by decide +kernel) rfl
theorem qw_1533 : Cond.methodLink "NameHatModel" 312 ⟨"NameHatModel", "common", "(JJ)J"⟩ ∈ tb_G := tb_mem 1533 (by decide +kernel) rfl
theorem qw_1534 : Cond.static ⟨"NameHatModel", "common", "(JJ)J"⟩ ∈ tb_G := tb_mem 1534 (by decide +kernel) rfl
theorem qw_1535 : Cond.code ⟨"NameHatModel", "common", "(JJ)J"⟩ prog_14_method_64_code 10 (Option.some FieldType.long) ∈ tb_G := tb_mem 1535 (by decide +kernel) rfl
theorem qw_1536 : Cond.methodLink "NameHatLaw" 126 ⟨"NameHatModel", "wedding", "(IIII)I"⟩ ∈ tb_G := tb_mem 1536 (by decide +kernel) rfl
theorem qw_1537 : Cond.instanceMethod ⟨"NameHatModel", "wedding", "(IIII)I"⟩ ∈ tb_G := tb_mem 1537 (by decide +kernel) rfl
theorem qw_1538 : Cond.selects "NameHatModel" ⟨"NameHatModel", "wedding", "(IIII)I"⟩ ⟨"NameHatModel", "wedding", "(IIII)I"⟩ ∈ tb_G := tb_mem 1538 (by decide +kernel) rfl
theorem qw_1539 : Cond.code ⟨"NameHatModel", "wedding", "(IIII)I"⟩ prog_14_method_67_code 11 (Option.some FieldType.int) ∈ tb_G := tb_mem 1539 (by decide +kernel) rfl
theorem qw_1540 : Cond.methodLink "NameHatLaw" 130 ⟨"NameHatModel", "broken", "()I"⟩ ∈ tb_G := tb_mem 1540 (by decide +kernel) rfl
theorem qw_1541 : Cond.instanceMethod ⟨"NameHatModel", "broken", "()I"⟩ ∈ tb_G := tb_mem 1541 (by decide +kernel) rfl
theorem qw_1542 : Cond.selects "NameHatModel" ⟨"NameHatModel", "broken", "()I"⟩ ⟨"NameHatModel", "broken", "()I"⟩ ∈ tb_G := tb_mem 1542 (by decide +kernel) rfl
theorem qw_1543 : Cond.code ⟨"NameHatModel", "broken", "()I"⟩ prog_14_method_69_code 4 (Option.some FieldType.int) ∈ tb_G := tb_mem 1543 (by decide +kernel) rfl
theorem qw_1544 : Cond.methodLink "NameHatModel" 320 ⟨"NameHatModel", "areFoes", "(II)Z"⟩ ∈ tb_G := tb_mem 1544 (by decide +kernel) rfl
theorem qw_1546 : Cond.instanceMethod ⟨"NameHatModel", "areFoes", "(II)Z"⟩ ∈ tb_G := tb_mem 1546 (by decide +kernel) rfl
theorem qw_1547 : Cond.code ⟨"NameHatModel", "areFoes", "(II)Z"⟩ prog_14_method_68_code 3 (Option.some FieldType.boolean) ∈ tb_G := tb_mem 1547 (by decide +kernel) rfl
theorem qw_1548 : Cond.methodLink "NameHatLaw" 134 ⟨"NameHatModel", "seats", "()I"⟩ ∈ tb_G := tb_mem 1548 (by decide +kernel) rfl
theorem qw_1549 : Cond.instanceMethod ⟨"NameHatModel", "seats", "()I"⟩ ∈ tb_G := tb_mem 1549 (by decide +kernel) rfl
theorem qw_1550 : Cond.selects "NameHatModel" ⟨"NameHatModel", "seats", "()I"⟩ ⟨"NameHatModel", "seats", "()I"⟩ ∈ tb_G := tb_mem 1550 (by decide +kernel) rfl
theorem qw_1551 : Cond.code ⟨"NameHatModel", "seats", "()I"⟩ prog_14_method_71_code 5 (Option.some FieldType.int) ∈ tb_G := tb_mem 1551 (by decide +kernel) rfl
theorem qw_1552 : Cond.constant "NameHatModel" 323 (1000000000 : Int32) ∈ tb_G := tb_mem 1552 (by decide +kernel) rfl
theorem qw_1553 : Cond.methodLink "NameHatModel" 324 ⟨"NameHatModel", "canSit", "(I)Z"⟩ ∈ tb_G := tb_mem 1553 (by decide +kernel) rfl
theorem qw_1555 : Cond.instanceMethod ⟨"NameHatModel", "canSit", "(I)Z"⟩ ∈ tb_G := tb_mem 1555 (by decide +kernel) rfl
theorem qw_1556 : Cond.code ⟨"NameHatModel", "canSit", "(I)Z"⟩ prog_14_method_70_code 4 (Option.some FieldType.boolean) ∈ tb_G := tb_mem 1556 (by decide +kernel) rfl
theorem qw_1557 : Cond.methodLink "NameHatLaw" 138 ⟨"NameHatModel", "seatOf", "(I)I"⟩ ∈ tb_G := tb_mem 1557 (by decide +kernel) rfl
theorem qw_1558 : Cond.instanceMethod ⟨"NameHatModel", "seatOf", "(I)I"⟩ ∈ tb_G := tb_mem 1558 (by decide +kernel) rfl
theorem qw_1559 : Cond.selects "NameHatModel" ⟨"NameHatModel", "seatOf", "(I)I"⟩ ⟨"NameHatModel", "seatOf", "(I)I"⟩ ∈ tb_G := tb_mem 1559 (by decide +kernel) rfl
theorem qw_1560 : Cond.code ⟨"NameHatModel", "seatOf", "(I)I"⟩ prog_14_method_72_code 2 (Option.some FieldType.int) ∈ tb_G := tb_mem 1560 (by decide +kernel) rfl
theorem qw_1561 : Cond.methodLink "NameHatLaw" 143 ⟨"NameHatModel", "sit", "()Z"⟩ ∈ tb_G := tb_mem 1561 (by decide +kernel) rfl
theorem qw_1562 : Cond.instanceMethod ⟨"NameHatModel", "sit", "()Z"⟩ ∈ tb_G := tb_mem 1562 (by decide +kernel) rfl
theorem qw_1563 : Cond.selects "NameHatModel" ⟨"NameHatModel", "sit", "()Z"⟩ ⟨"NameHatModel", "sit", "()Z"⟩ ∈ tb_G := tb_mem 1563 (by decide +kernel) rfl
theorem qw_1564 : Cond.code ⟨"NameHatModel", "sit", "()Z"⟩ prog_14_method_73_code 2 (Option.some FieldType.boolean) ∈ tb_G := tb_mem 1564 (by decide +kernel) rfl
theorem qw_1565 : Cond.methodLink "NameHatLaw" 147 ⟨"NameHatModel", "roll", "()I"⟩ ∈ tb_G := tb_mem 1565 (by decide +kernel) rfl
theorem qw_1566 : Cond.instanceMethod ⟨"NameHatModel", "roll", "()I"⟩ ∈ tb_G := tb_mem 1566 (by decide +kernel) rfl
theorem qw_1567 : Cond.selects "NameHatModel" ⟨"NameHatModel", "roll", "()I"⟩ ⟨"NameHatModel", "roll", "()I"⟩ ∈ tb_G := tb_mem 1567 (by decide +kernel) rfl
theorem qw_1568 : Cond.code ⟨"NameHatModel", "roll", "()I"⟩ prog_14_method_75_code 2 (Option.some FieldType.int) ∈ tb_G := tb_mem 1568 (by decide +kernel) rfl
theorem qw_1569 : Cond.methodLink "NameHatModel" 327 ⟨"NameHatModel", "rollLine", "()Z"⟩ ∈ tb_G := tb_mem 1569 (by decide +kernel) rfl
theorem qw_1571 : Cond.instanceMethod ⟨"NameHatModel", "rollLine", "()Z"⟩ ∈ tb_G := tb_mem 1571 (by decide +kernel) rfl
theorem qw_1572 : Cond.code ⟨"NameHatModel", "rollLine", "()Z"⟩ prog_14_method_74_code 3 (Option.some FieldType.boolean) ∈ tb_G := tb_mem 1572 (by decide +kernel) rfl
theorem qw_1573 : Cond.methodLink "NameHatLaw" 151 ⟨"NameHatModel", "dealings", "()I"⟩ ∈ tb_G := tb_mem 1573 (by decide +kernel) rfl
theorem qw_1574 : Cond.instanceMethod ⟨"NameHatModel", "dealings", "()I"⟩ ∈ tb_G := tb_mem 1574 (by decide +kernel) rfl
theorem qw_1575 : Cond.selects "NameHatModel" ⟨"NameHatModel", "dealings", "()I"⟩ ⟨"NameHatModel", "dealings", "()I"⟩ ∈ tb_G := tb_mem 1575 (by decide +kernel) rfl
theorem qw_1576 : Cond.code ⟨"NameHatModel", "dealings", "()I"⟩ prog_14_method_77_code 1 (Option.some FieldType.int) ∈ tb_G := tb_mem 1576 (by decide +kernel) rfl
theorem qw_1577 : Cond.methodLink "NameHatModel" 330 ⟨"NameHatModel", "waysBy", "(II)I"⟩ ∈ tb_G := tb_mem 1577 (by decide +kernel) rfl
theorem qw_1579 : Cond.instanceMethod ⟨"NameHatModel", "waysBy", "(II)I"⟩ ∈ tb_G := tb_mem 1579 (by decide +kernel) rfl
theorem qw_1580 : Cond.code ⟨"NameHatModel", "waysBy", "(II)I"⟩ prog_14_method_76_code 8 (Option.some FieldType.int) ∈ tb_G := tb_mem 1580 (by decide +kernel) rfl
theorem qw_1581 : Cond.methodLink "NameHatLaw" 155 ⟨"NameHatModel", "dealt", "(II)I"⟩ ∈ tb_G := tb_mem 1581 (by decide +kernel) rfl
theorem qw_1582 : Cond.instanceMethod ⟨"NameHatModel", "dealt", "(II)I"⟩ ∈ tb_G := tb_mem 1582 (by decide +kernel) rfl
theorem qw_1583 : Cond.selects "NameHatModel" ⟨"NameHatModel", "dealt", "(II)I"⟩ ⟨"NameHatModel", "dealt", "(II)I"⟩ ∈ tb_G := tb_mem 1583 (by decide +kernel) rfl
theorem qw_1584 : Cond.code ⟨"NameHatModel", "dealt", "(II)I"⟩ prog_14_method_78_code 3 (Option.some FieldType.int) ∈ tb_G := tb_mem 1584 (by decide +kernel) rfl
theorem qw_1585 : Cond.methodLink "NameHatLaw" 159 ⟨"NameHatModel", "could", "(I)I"⟩ ∈ tb_G := tb_mem 1585 (by decide +kernel) rfl
theorem qw_1586 : Cond.instanceMethod ⟨"NameHatModel", "could", "(I)I"⟩ ∈ tb_G := tb_mem 1586 (by decide +kernel) rfl
theorem qw_1587 : Cond.selects "NameHatModel" ⟨"NameHatModel", "could", "(I)I"⟩ ⟨"NameHatModel", "could", "(I)I"⟩ ∈ tb_G := tb_mem 1587 (by decide +kernel) rfl
theorem qw_1588 : Cond.code ⟨"NameHatModel", "could", "(I)I"⟩ prog_14_method_79_code 4 (Option.some FieldType.int) ∈ tb_G := tb_mem 1588 (by decide +kernel) rfl
theorem qw_1589 : Cond.methodLink "NameHatLaw" 163 ⟨"NameHatModel", "grave", "()I"⟩ ∈ tb_G := tb_mem 1589 (by decide +kernel) rfl
theorem qw_1590 : Cond.instanceMethod ⟨"NameHatModel", "grave", "()I"⟩ ∈ tb_G := tb_mem 1590 (by decide +kernel) rfl
theorem qw_1591 : Cond.selects "NameHatModel" ⟨"NameHatModel", "grave", "()I"⟩ ⟨"NameHatModel", "grave", "()I"⟩ ∈ tb_G := tb_mem 1591 (by decide +kernel) rfl
theorem qw_1592 : Cond.code ⟨"NameHatModel", "grave", "()I"⟩ prog_14_method_80_code 5 (Option.some FieldType.int) ∈ tb_G := tb_mem 1592 (by decide +kernel) rfl
theorem qw_1593 : Cond.methodLink "NameHatModel" 333 ⟨"NameHatModel", "octet", "(I)I"⟩ ∈ tb_G := tb_mem 1593 (by decide +kernel) rfl
theorem qw_1595 : Cond.instanceMethod ⟨"NameHatModel", "octet", "(I)I"⟩ ∈ tb_G := tb_mem 1595 (by decide +kernel) rfl
theorem qw_1596 : Cond.code ⟨"NameHatModel", "octet", "(I)I"⟩ prog_14_method_10_code 2 (Option.some FieldType.int) ∈ tb_G := tb_mem 1596 (by decide +kernel) rfl
theorem qw_1597 : Cond.methodLink "NameHatLaw" 167 ⟨"NameHatModel", "lapsed", "(I)I"⟩ ∈ tb_G := tb_mem 1597 (by decide +kernel) rfl
theorem qw_1598 : Cond.instanceMethod ⟨"NameHatModel", "lapsed", "(I)I"⟩ ∈ tb_G := tb_mem 1598 (by decide +kernel) rfl
theorem qw_1599 : Cond.selects "NameHatModel" ⟨"NameHatModel", "lapsed", "(I)I"⟩ ⟨"NameHatModel", "lapsed", "(I)I"⟩ ∈ tb_G := tb_mem 1599 (by decide +kernel) rfl
theorem qw_1600 : Cond.code ⟨"NameHatModel", "lapsed", "(I)I"⟩ prog_14_method_81_code 5 (Option.some FieldType.int) ∈ tb_G := tb_mem 1600 (by decide +kernel) rfl
theorem qw_1601 : Cond.methodLink "NameHatLaw" 171 ⟨"NameHatModel", "luck", "(III)J"⟩ ∈ tb_G := tb_mem 1601 (by decide +kernel) rfl
theorem qw_1602 : Cond.instanceMethod ⟨"NameHatModel", "luck", "(III)J"⟩ ∈ tb_G := tb_mem 1602 (by decide +kernel) rfl
theorem qw_1603 : Cond.selects "NameHatModel" ⟨"NameHatModel", "luck", "(III)J"⟩ ⟨"NameHatModel", "luck", "(III)J"⟩ ∈ tb_G := tb_mem 1603 (by decide +kernel) rfl
theorem qw_1604 : Cond.code ⟨"NameHatModel", "luck", "(III)J"⟩ prog_14_method_83_code 4 (Option.some FieldType.long) ∈ tb_G := tb_mem 1604 (by decide +kernel) rfl
theorem qw_1605 : Cond.methodLink "NameHatModel" 345 ⟨"NameHatModel", "hasLuck", "(II)Z"⟩ ∈ tb_G := tb_mem 1605 (by decide +kernel) rfl
theorem qw_1607 : Cond.instanceMethod ⟨"NameHatModel", "hasLuck", "(II)Z"⟩ ∈ tb_G := tb_mem 1607 (by decide +kernel) rfl
theorem qw_1608 : Cond.code ⟨"NameHatModel", "hasLuck", "(II)Z"⟩ prog_14_method_82_code 7 (Option.some FieldType.boolean) ∈ tb_G := tb_mem 1608 (by decide +kernel) rfl
theorem qw_1609 : Cond.methodLink "NameHatLaw" 175 ⟨"NameHatModel", "unfair", "(IIII)I"⟩ ∈ tb_G := tb_mem 1609 (by decide +kernel) rfl
theorem qw_1610 : Cond.instanceMethod ⟨"NameHatModel", "unfair", "(IIII)I"⟩ ∈ tb_G := tb_mem 1610 (by decide +kernel) rfl
theorem qw_1611 : Cond.selects "NameHatModel" ⟨"NameHatModel", "unfair", "(IIII)I"⟩ ⟨"NameHatModel", "unfair", "(IIII)I"⟩ ∈ tb_G := tb_mem 1611 (by decide +kernel) rfl
theorem qw_1612 : Cond.code ⟨"NameHatModel", "unfair", "(IIII)I"⟩ prog_14_method_84_code 5 (Option.some FieldType.int) ∈ tb_G := tb_mem 1612 (by decide +kernel) rfl
theorem qw_1613 : Cond.methodLink "NameHatLaw" 179 ⟨"NameHatModel", "image", "(I)Z"⟩ ∈ tb_G := tb_mem 1613 (by decide +kernel) rfl
theorem qw_1614 : Cond.instanceMethod ⟨"NameHatModel", "image", "(I)Z"⟩ ∈ tb_G := tb_mem 1614 (by decide +kernel) rfl
theorem qw_1615 : Cond.selects "NameHatModel" ⟨"NameHatModel", "image", "(I)Z"⟩ ⟨"NameHatModel", "image", "(I)Z"⟩ ∈ tb_G := tb_mem 1615 (by decide +kernel) rfl
theorem qw_1616 : Cond.code ⟨"NameHatModel", "image", "(I)Z"⟩ prog_14_method_85_code 3 (Option.some FieldType.boolean) ∈ tb_G := tb_mem 1616 (by decide +kernel) rfl
theorem qw_1617 : Cond.methodLink "NameHatLaw" 183 ⟨"NameHatModel", "restore", "(I)Z"⟩ ∈ tb_G := tb_mem 1617 (by decide +kernel) rfl
theorem qw_1618 : Cond.instanceMethod ⟨"NameHatModel", "restore", "(I)Z"⟩ ∈ tb_G := tb_mem 1618 (by decide +kernel) rfl
theorem qw_1619 : Cond.selects "NameHatModel" ⟨"NameHatModel", "restore", "(I)Z"⟩ ⟨"NameHatModel", "restore", "(I)Z"⟩ ∈ tb_G := tb_mem 1619 (by decide +kernel) rfl
theorem qw_1620 : Cond.code ⟨"NameHatModel", "restore", "(I)Z"⟩ prog_14_method_86_code 3 (Option.some FieldType.boolean) ∈ tb_G := tb_mem 1620 (by decide +kernel) rfl
theorem qw_1621 : Cond.methodLink "NameHatLaw" 187 ⟨"NameHatModel", "count", "(I)I"⟩ ∈ tb_G := tb_mem 1621 (by decide +kernel) rfl
theorem qw_1622 : Cond.instanceMethod ⟨"NameHatModel", "count", "(I)I"⟩ ∈ tb_G := tb_mem 1622 (by decide +kernel) rfl
theorem qw_1623 : Cond.selects "NameHatModel" ⟨"NameHatModel", "count", "(I)I"⟩ ⟨"NameHatModel", "count", "(I)I"⟩ ∈ tb_G := tb_mem 1623 (by decide +kernel) rfl
theorem qw_1624 : Cond.code ⟨"NameHatModel", "count", "(I)I"⟩ prog_14_method_87_code 2 (Option.some FieldType.int) ∈ tb_G := tb_mem 1624 (by decide +kernel) rfl
theorem qw_1641 : Cond.fieldLink "java/lang/String" 9 "java/lang/String" "value" "[B" ∈ tb_G := tb_mem 1641 (by decide +kernel) rfl
theorem qw_1642 : Cond.fieldLink "java/lang/String" 15 "java/lang/String" "coder" "B" ∈ tb_G := tb_mem 1642 (by decide +kernel) rfl
theorem qs_0 : Cond.selects "NameHat" ⟨"NameHat", "feedNumber", "(I)V"⟩ ⟨"NameHat", "feedNumber", "(I)V"⟩ ∈ tb_G := tb_memS (q := (⟨"NameHat", "feedNumber", "(I)V"⟩, 16)) 0 (by decide +kernel)
theorem qs_1 : Cond.selects "NameHat$Tokens" ⟨"NameHat$Tokens", "readRun", "()V"⟩ ⟨"NameHat$Tokens", "readRun", "()V"⟩ ∈ tb_G := tb_memS (q := (⟨"NameHat$Tokens", "readRun", "()V"⟩, 9)) 1 (by decide +kernel)
theorem qs_2 : Cond.selects "NameHat$Reader" ⟨"NameHat$Reader", "islandLine", "()Z"⟩ ⟨"NameHat$Reader", "islandLine", "()Z"⟩ ∈ tb_G := tb_memS (q := (⟨"NameHat$Reader", "islandLine", "()Z"⟩, 9)) 2 (by decide +kernel)
theorem qs_3 : Cond.selects "NameHat$Reader" ⟨"NameHat$Reader", "nameLine", "()Z"⟩ ⟨"NameHat$Reader", "nameLine", "()Z"⟩ ∈ tb_G := tb_memS (q := (⟨"NameHat$Reader", "nameLine", "()Z"⟩, 9)) 3 (by decide +kernel)
theorem qs_4 : Cond.selects "NameHat$Reader" ⟨"NameHat$Reader", "fail", "(I)Z"⟩ ⟨"NameHat$Reader", "fail", "(I)Z"⟩ ∈ tb_G := tb_memS (q := (⟨"NameHat$Reader", "fail", "(I)Z"⟩, 9)) 4 (by decide +kernel)
theorem qs_5 : Cond.selects "NameHat$Reader" ⟨"NameHat$Reader", "isNewName", "()Z"⟩ ⟨"NameHat$Reader", "isNewName", "()Z"⟩ ∈ tb_G := tb_memS (q := (⟨"NameHat$Reader", "isNewName", "()Z"⟩, 9)) 5 (by decide +kernel)
theorem qs_6 : Cond.selects "NameHat$Reader" ⟨"NameHat$Reader", "isName", "()Z"⟩ ⟨"NameHat$Reader", "isName", "()Z"⟩ ∈ tb_G := tb_memS (q := (⟨"NameHat$Reader", "isName", "()Z"⟩, 9)) 6 (by decide +kernel)
theorem qs_7 : Cond.selects "NameHat$Reader" ⟨"NameHat$Reader", "isNumber", "(II)Z"⟩ ⟨"NameHat$Reader", "isNumber", "(II)Z"⟩ ∈ tb_G := tb_memS (q := (⟨"NameHat$Reader", "isNumber", "(II)Z"⟩, 9)) 7 (by decide +kernel)
theorem qs_8 : Cond.selects "NameHat$Reader" ⟨"NameHat$Reader", "houseLine", "()Z"⟩ ⟨"NameHat$Reader", "houseLine", "()Z"⟩ ∈ tb_G := tb_memS (q := (⟨"NameHat$Reader", "houseLine", "()Z"⟩, 9)) 8 (by decide +kernel)
theorem qs_9 : Cond.selects "NameHat$Reader" ⟨"NameHat$Reader", "isOneOf", "(LNameHat$Names;)Z"⟩ ⟨"NameHat$Reader", "isOneOf", "(LNameHat$Names;)Z"⟩ ∈ tb_G := tb_memS (q := (⟨"NameHat$Reader", "isOneOf", "(LNameHat$Names;)Z"⟩, 9)) 9 (by decide +kernel)
theorem qs_10 : Cond.selects "NameHat$Reader" ⟨"NameHat$Reader", "wantsLine", "()Z"⟩ ⟨"NameHat$Reader", "wantsLine", "()Z"⟩ ∈ tb_G := tb_memS (q := (⟨"NameHat$Reader", "wantsLine", "()Z"⟩, 9)) 10 (by decide +kernel)
theorem qs_11 : Cond.selects "NameHat$Reader" ⟨"NameHat$Reader", "feudLine", "()Z"⟩ ⟨"NameHat$Reader", "feudLine", "()Z"⟩ ∈ tb_G := tb_memS (q := (⟨"NameHat$Reader", "feudLine", "()Z"⟩, 9)) 11 (by decide +kernel)
theorem qs_12 : Cond.selects "NameHat$Reader" ⟨"NameHat$Reader", "pewsLine", "()Z"⟩ ⟨"NameHat$Reader", "pewsLine", "()Z"⟩ ∈ tb_G := tb_memS (q := (⟨"NameHat$Reader", "pewsLine", "()Z"⟩, 9)) 12 (by decide +kernel)
theorem qs_13 : Cond.selects "NameHat$Reader" ⟨"NameHat$Reader", "sitsLine", "()Z"⟩ ⟨"NameHat$Reader", "sitsLine", "()Z"⟩ ∈ tb_G := tb_memS (q := (⟨"NameHat$Reader", "sitsLine", "()Z"⟩, 9)) 13 (by decide +kernel)
theorem qs_14 : Cond.selects "NameHat$Reader" ⟨"NameHat$Reader", "fieldLine", "()Z"⟩ ⟨"NameHat$Reader", "fieldLine", "()Z"⟩ ∈ tb_G := tb_memS (q := (⟨"NameHat$Reader", "fieldLine", "()Z"⟩, 9)) 14 (by decide +kernel)
theorem qs_15 : Cond.selects "NameHat$Reader" ⟨"NameHat$Reader", "rollLine", "()Z"⟩ ⟨"NameHat$Reader", "rollLine", "()Z"⟩ ∈ tb_G := tb_memS (q := (⟨"NameHat$Reader", "rollLine", "()Z"⟩, 9)) 15 (by decide +kernel)
theorem qs_16 : Cond.selects "NameHat$Reader" ⟨"NameHat$Reader", "bookLine", "()Z"⟩ ⟨"NameHat$Reader", "bookLine", "()Z"⟩ ∈ tb_G := tb_memS (q := (⟨"NameHat$Reader", "bookLine", "()Z"⟩, 9)) 16 (by decide +kernel)
theorem qs_17 : Cond.selects "NameHat$Reader" ⟨"NameHat$Reader", "isSecond", "(I)Z"⟩ ⟨"NameHat$Reader", "isSecond", "(I)Z"⟩ ∈ tb_G := tb_memS (q := (⟨"NameHat$Reader", "isSecond", "(I)Z"⟩, 9)) 17 (by decide +kernel)
theorem qs_18 : Cond.selects "NameHat$Reader" ⟨"NameHat$Reader", "isSemicolon", "()Z"⟩ ⟨"NameHat$Reader", "isSemicolon", "()Z"⟩ ∈ tb_G := tb_memS (q := (⟨"NameHat$Reader", "isSemicolon", "()Z"⟩, 9)) 18 (by decide +kernel)
theorem qs_19 : Cond.selects "NameHat" ⟨"NameHat", "takeDraft", "()I"⟩ ⟨"NameHat", "takeDraft", "()I"⟩ ∈ tb_G := tb_memS (q := (⟨"NameHat", "takeDraft", "()I"⟩, 16)) 19 (by decide +kernel)
theorem qs_20 : Cond.selects "NameHat$Rings" ⟨"NameHat$Rings", "wishAll", "(LNameHat$Island;LNameHat$Hands;)V"⟩ ⟨"NameHat$Rings", "wishAll", "(LNameHat$Island;LNameHat$Hands;)V"⟩ ∈ tb_G := tb_memS (q := (⟨"NameHat$Rings", "wishAll", "(LNameHat$Island;LNameHat$Hands;)V"⟩, 4)) 20 (by decide +kernel)
theorem qs_21 : Cond.selects "NameHat$Hands" ⟨"NameHat$Hands", "pointAll", "(LNameHat$Island;I)V"⟩ ⟨"NameHat$Hands", "pointAll", "(LNameHat$Island;I)V"⟩ ∈ tb_G := tb_memS (q := (⟨"NameHat$Hands", "pointAll", "(LNameHat$Island;I)V"⟩, 4)) 21 (by decide +kernel)
theorem qs_22 : Cond.selects "NameHat$Hands" ⟨"NameHat$Hands", "circleOf", "(I)I"⟩ ⟨"NameHat$Hands", "circleOf", "(I)I"⟩ ∈ tb_G := tb_memS (q := (⟨"NameHat$Hands", "circleOf", "(I)I"⟩, 4)) 22 (by decide +kernel)
theorem qs_23 : Cond.selects "NameHat$Hands" ⟨"NameHat$Hands", "takeWhatTheyPointTo", "(I)V"⟩ ⟨"NameHat$Hands", "takeWhatTheyPointTo", "(I)V"⟩ ∈ tb_G := tb_memS (q := (⟨"NameHat$Hands", "takeWhatTheyPointTo", "(I)V"⟩, 4)) 23 (by decide +kernel)
theorem qs_24 : Cond.selects "NameHat$Hands" ⟨"NameHat$Hands", "doSwap", "(LNameHat$Island;II)I"⟩ ⟨"NameHat$Hands", "doSwap", "(LNameHat$Island;II)I"⟩ ∈ tb_G := tb_memS (q := (⟨"NameHat$Hands", "doSwap", "(LNameHat$Island;II)I"⟩, 4)) 24 (by decide +kernel)
theorem qs_25 : Cond.selects "NameHat$Hands" ⟨"NameHat$Hands", "doGive", "(LNameHat$Island;II)I"⟩ ⟨"NameHat$Hands", "doGive", "(LNameHat$Island;II)I"⟩ ∈ tb_G := tb_memS (q := (⟨"NameHat$Hands", "doGive", "(LNameHat$Island;II)I"⟩, 4)) 25 (by decide +kernel)
theorem qs_26 : Cond.selects "NameHat$Hands" ⟨"NameHat$Hands", "doDrop", "(LNameHat$Island;I)I"⟩ ⟨"NameHat$Hands", "doDrop", "(LNameHat$Island;I)I"⟩ ∈ tb_G := tb_memS (q := (⟨"NameHat$Hands", "doDrop", "(LNameHat$Island;I)I"⟩, 4)) 26 (by decide +kernel)
theorem qs_27 : Cond.selects "NameHat$Hands" ⟨"NameHat$Hands", "doTake", "(LNameHat$Island;II)I"⟩ ⟨"NameHat$Hands", "doTake", "(LNameHat$Island;II)I"⟩ ∈ tb_G := tb_memS (q := (⟨"NameHat$Hands", "doTake", "(LNameHat$Island;II)I"⟩, 4)) 27 (by decide +kernel)
theorem qs_28 : Cond.selects "NameHat$Hands" ⟨"NameHat$Hands", "doSit", "(LNameHat$Island;II)I"⟩ ⟨"NameHat$Hands", "doSit", "(LNameHat$Island;II)I"⟩ ∈ tb_G := tb_memS (q := (⟨"NameHat$Hands", "doSit", "(LNameHat$Island;II)I"⟩, 4)) 28 (by decide +kernel)
theorem qs_29 : Cond.selects "NameHat" ⟨"NameHat", "waysToHave", "(II)I"⟩ ⟨"NameHat", "waysToHave", "(II)I"⟩ ∈ tb_G := tb_memS (q := (⟨"NameHat", "waysToHave", "(II)I"⟩, 16)) 29 (by decide +kernel)
theorem qs_30 : Cond.selects "NameHat" ⟨"NameHat", "tellsLuck", "(II)Z"⟩ ⟨"NameHat", "tellsLuck", "(II)Z"⟩ ∈ tb_G := tb_memS (q := (⟨"NameHat", "tellsLuck", "(II)Z"⟩, 16)) 30 (by decide +kernel)
theorem qs_31 : Cond.selects "NameHat" ⟨"NameHat", "luckyWays", "(II)J"⟩ ⟨"NameHat", "luckyWays", "(II)J"⟩ ∈ tb_G := tb_memS (q := (⟨"NameHat", "luckyWays", "(II)J"⟩, 16)) 31 (by decide +kernel)
theorem qs_32 : Cond.selects "NameHat" ⟨"NameHat", "allWays", "()J"⟩ ⟨"NameHat", "allWays", "()J"⟩ ∈ tb_G := tb_memS (q := (⟨"NameHat", "allWays", "()J"⟩, 16)) 32 (by decide +kernel)
theorem qs_33 : Cond.selects "java/lang/Throwable" ⟨"java/lang/Throwable", "fillInStackTrace", "(I)Ljava/lang/Throwable;"⟩ ⟨"java/lang/Throwable", "fillInStackTrace", "(I)Ljava/lang/Throwable;"⟩ ∈ tb_G := tb_memS (q := (⟨"java/lang/Throwable", "fillInStackTrace", "(I)Ljava/lang/Throwable;"⟩, 6)) 33 (by decide +kernel)
theorem qs_34 : Cond.selects "NameHat" ⟨"NameHat", "bothOfOne", "(II)I"⟩ ⟨"NameHat", "bothOfOne", "(II)I"⟩ ∈ tb_G := tb_memS (q := (⟨"NameHat", "bothOfOne", "(II)I"⟩, 16)) 34 (by decide +kernel)
theorem qs_35 : Cond.selects "NameHat" ⟨"NameHat", "bothOfTheBetter", "(II)I"⟩ ⟨"NameHat", "bothOfTheBetter", "(II)I"⟩ ∈ tb_G := tb_memS (q := (⟨"NameHat", "bothOfTheBetter", "(II)I"⟩, 16)) 35 (by decide +kernel)
theorem qs_36 : Cond.selects "NameHatModel" ⟨"NameHatModel", "four", "(I)V"⟩ ⟨"NameHatModel", "four", "(I)V"⟩ ∈ tb_G := tb_memS (q := (⟨"NameHatModel", "four", "(I)V"⟩, 45)) 36 (by decide +kernel)
theorem qs_37 : Cond.selects "NameHatModel" ⟨"NameHatModel", "taken", "(I)V"⟩ ⟨"NameHatModel", "taken", "(I)V"⟩ ∈ tb_G := tb_memS (q := (⟨"NameHatModel", "taken", "(I)V"⟩, 45)) 37 (by decide +kernel)
theorem qs_38 : Cond.selects "NameHatModel" ⟨"NameHatModel", "next", "()V"⟩ ⟨"NameHatModel", "next", "()V"⟩ ∈ tb_G := tb_memS (q := (⟨"NameHatModel", "next", "()V"⟩, 45)) 38 (by decide +kernel)
theorem qs_39 : Cond.selects "NameHatModel" ⟨"NameHatModel", "peek", "()I"⟩ ⟨"NameHatModel", "peek", "()I"⟩ ∈ tb_G := tb_memS (q := (⟨"NameHatModel", "peek", "()I"⟩, 45)) 39 (by decide +kernel)
theorem qs_40 : Cond.selects "NameHatModel" ⟨"NameHatModel", "line", "()Z"⟩ ⟨"NameHatModel", "line", "()Z"⟩ ∈ tb_G := tb_memS (q := (⟨"NameHatModel", "line", "()Z"⟩, 45)) 40 (by decide +kernel)
theorem qs_41 : Cond.selects "NameHatModel" ⟨"NameHatModel", "isWord", "(J)Z"⟩ ⟨"NameHatModel", "isWord", "(J)Z"⟩ ∈ tb_G := tb_memS (q := (⟨"NameHatModel", "isWord", "(J)Z"⟩, 45)) 41 (by decide +kernel)
theorem qs_42 : Cond.selects "NameHatModel" ⟨"NameHatModel", "readName", "()Z"⟩ ⟨"NameHatModel", "readName", "()Z"⟩ ∈ tb_G := tb_memS (q := (⟨"NameHatModel", "readName", "()Z"⟩, 45)) 42 (by decide +kernel)
theorem qs_43 : Cond.selects "NameHatModel" ⟨"NameHatModel", "bad", "(I)Z"⟩ ⟨"NameHatModel", "bad", "(I)Z"⟩ ∈ tb_G := tb_memS (q := (⟨"NameHatModel", "bad", "(I)Z"⟩, 45)) 43 (by decide +kernel)
theorem qs_44 : Cond.selects "NameHatModel" ⟨"NameHatModel", "fresh", "(I)Z"⟩ ⟨"NameHatModel", "fresh", "(I)Z"⟩ ∈ tb_G := tb_memS (q := (⟨"NameHatModel", "fresh", "(I)Z"⟩, 45)) 44 (by decide +kernel)
theorem qs_45 : Cond.selects "NameHatModel" ⟨"NameHatModel", "isName", "()Z"⟩ ⟨"NameHatModel", "isName", "()Z"⟩ ∈ tb_G := tb_memS (q := (⟨"NameHatModel", "isName", "()Z"⟩, 45)) 45 (by decide +kernel)
theorem qs_46 : Cond.selects "NameHatModel" ⟨"NameHatModel", "find", "(II)I"⟩ ⟨"NameHatModel", "find", "(II)I"⟩ ∈ tb_G := tb_memS (q := (⟨"NameHatModel", "find", "(II)I"⟩, 45)) 46 (by decide +kernel)
theorem qs_47 : Cond.selects "NameHatModel" ⟨"NameHatModel", "takes", "(II)Z"⟩ ⟨"NameHatModel", "takes", "(II)Z"⟩ ∈ tb_G := tb_memS (q := (⟨"NameHatModel", "takes", "(II)Z"⟩, 45)) 47 (by decide +kernel)
theorem qs_48 : Cond.selects "NameHatModel" ⟨"NameHatModel", "readHouse", "()Z"⟩ ⟨"NameHatModel", "readHouse", "()Z"⟩ ∈ tb_G := tb_memS (q := (⟨"NameHatModel", "readHouse", "()Z"⟩, 45)) 48 (by decide +kernel)
theorem qs_49 : Cond.selects "NameHatModel" ⟨"NameHatModel", "readWants", "()Z"⟩ ⟨"NameHatModel", "readWants", "()Z"⟩ ∈ tb_G := tb_memS (q := (⟨"NameHatModel", "readWants", "()Z"⟩, 45)) 49 (by decide +kernel)
theorem qs_50 : Cond.selects "NameHatModel" ⟨"NameHatModel", "takesName", "(II)Z"⟩ ⟨"NameHatModel", "takesName", "(II)Z"⟩ ∈ tb_G := tb_memS (q := (⟨"NameHatModel", "takesName", "(II)Z"⟩, 45)) 50 (by decide +kernel)
theorem qs_51 : Cond.selects "NameHatModel" ⟨"NameHatModel", "readFeud", "()Z"⟩ ⟨"NameHatModel", "readFeud", "()Z"⟩ ∈ tb_G := tb_memS (q := (⟨"NameHatModel", "readFeud", "()Z"⟩, 45)) 51 (by decide +kernel)
theorem qs_52 : Cond.selects "NameHatModel" ⟨"NameHatModel", "sign", "(I)Z"⟩ ⟨"NameHatModel", "sign", "(I)Z"⟩ ∈ tb_G := tb_memS (q := (⟨"NameHatModel", "sign", "(I)Z"⟩, 45)) 52 (by decide +kernel)
theorem qs_53 : Cond.selects "NameHatModel" ⟨"NameHatModel", "isSign", "(I)Z"⟩ ⟨"NameHatModel", "isSign", "(I)Z"⟩ ∈ tb_G := tb_memS (q := (⟨"NameHatModel", "isSign", "(I)Z"⟩, 45)) 53 (by decide +kernel)
theorem qs_54 : Cond.selects "NameHatModel" ⟨"NameHatModel", "isSurname", "(I)Z"⟩ ⟨"NameHatModel", "isSurname", "(I)Z"⟩ ∈ tb_G := tb_memS (q := (⟨"NameHatModel", "isSurname", "(I)Z"⟩, 45)) 54 (by decide +kernel)
theorem qs_55 : Cond.selects "NameHatModel" ⟨"NameHatModel", "throwsIf", "(Z)Z"⟩ ⟨"NameHatModel", "throwsIf", "(Z)Z"⟩ ∈ tb_G := tb_memS (q := (⟨"NameHatModel", "throwsIf", "(Z)Z"⟩, 45)) 55 (by decide +kernel)
theorem qs_56 : Cond.selects "NameHatModel" ⟨"NameHatModel", "holderOf", "(I)I"⟩ ⟨"NameHatModel", "holderOf", "(I)I"⟩ ∈ tb_G := tb_memS (q := (⟨"NameHatModel", "holderOf", "(I)I"⟩, 45)) 56 (by decide +kernel)
theorem qs_57 : Cond.selects "NameHatModel" ⟨"NameHatModel", "isHouse", "(I)Z"⟩ ⟨"NameHatModel", "isHouse", "(I)Z"⟩ ∈ tb_G := tb_memS (q := (⟨"NameHatModel", "isHouse", "(I)Z"⟩, 45)) 57 (by decide +kernel)
theorem qs_58 : Cond.selects "NameHatModel" ⟨"NameHatModel", "valueOf", "(II)I"⟩ ⟨"NameHatModel", "valueOf", "(II)I"⟩ ∈ tb_G := tb_memS (q := (⟨"NameHatModel", "valueOf", "(II)I"⟩, 45)) 58 (by decide +kernel)
theorem qs_59 : Cond.selects "NameHatModel" ⟨"NameHatModel", "draw", "(I)I"⟩ ⟨"NameHatModel", "draw", "(I)I"⟩ ∈ tb_G := tb_memS (q := (⟨"NameHatModel", "draw", "(I)I"⟩, 45)) 59 (by decide +kernel)
theorem qs_60 : Cond.selects "NameHatModel" ⟨"NameHatModel", "isSpring", "(I)Z"⟩ ⟨"NameHatModel", "isSpring", "(I)Z"⟩ ∈ tb_G := tb_memS (q := (⟨"NameHatModel", "isSpring", "(I)Z"⟩, 45)) 60 (by decide +kernel)
theorem qs_61 : Cond.selects "NameHatModel" ⟨"NameHatModel", "heldAt", "(II)I"⟩ ⟨"NameHatModel", "heldAt", "(II)I"⟩ ∈ tb_G := tb_memS (q := (⟨"NameHatModel", "heldAt", "(II)I"⟩, 45)) 61 (by decide +kernel)
theorem qs_62 : Cond.selects "NameHatModel" ⟨"NameHatModel", "isPawned", "(I)Z"⟩ ⟨"NameHatModel", "isPawned", "(I)Z"⟩ ∈ tb_G := tb_memS (q := (⟨"NameHatModel", "isPawned", "(I)Z"⟩, 45)) 62 (by decide +kernel)
theorem qs_63 : Cond.selects "NameHatModel" ⟨"NameHatModel", "exchange", "(II)V"⟩ ⟨"NameHatModel", "exchange", "(II)V"⟩ ∈ tb_G := tb_memS (q := (⟨"NameHatModel", "exchange", "(II)V"⟩, 45)) 63 (by decide +kernel)
theorem qs_64 : Cond.selects "NameHatModel" ⟨"NameHatModel", "findsRing", "(I)Z"⟩ ⟨"NameHatModel", "findsRing", "(I)Z"⟩ ∈ tb_G := tb_memS (q := (⟨"NameHatModel", "findsRing", "(I)Z"⟩, 45)) 64 (by decide +kernel)
theorem qs_65 : Cond.selects "NameHatModel" ⟨"NameHatModel", "isNew", "(I)Z"⟩ ⟨"NameHatModel", "isNew", "(I)Z"⟩ ∈ tb_G := tb_memS (q := (⟨"NameHatModel", "isNew", "(I)Z"⟩, 45)) 65 (by decide +kernel)
theorem qs_66 : Cond.selects "NameHatModel" ⟨"NameHatModel", "isMore", "(II)Z"⟩ ⟨"NameHatModel", "isMore", "(II)Z"⟩ ∈ tb_G := tb_memS (q := (⟨"NameHatModel", "isMore", "(II)Z"⟩, 45)) 66 (by decide +kernel)
theorem qs_67 : Cond.selects "NameHatModel" ⟨"NameHatModel", "trades", "()I"⟩ ⟨"NameHatModel", "trades", "()I"⟩ ∈ tb_G := tb_memS (q := (⟨"NameHatModel", "trades", "()I"⟩, 45)) 67 (by decide +kernel)
theorem qs_68 : Cond.selects "NameHatModel" ⟨"NameHatModel", "pointOf", "(II)I"⟩ ⟨"NameHatModel", "pointOf", "(II)I"⟩ ∈ tb_G := tb_memS (q := (⟨"NameHatModel", "pointOf", "(II)I"⟩, 45)) 68 (by decide +kernel)
theorem qs_69 : Cond.selects "NameHatModel" ⟨"NameHatModel", "bookLine", "()Z"⟩ ⟨"NameHatModel", "bookLine", "()Z"⟩ ∈ tb_G := tb_memS (q := (⟨"NameHatModel", "bookLine", "()Z"⟩, 45)) 69 (by decide +kernel)
theorem qs_70 : Cond.selects "NameHatModel" ⟨"NameHatModel", "does", "(III)I"⟩ ⟨"NameHatModel", "does", "(III)I"⟩ ∈ tb_G := tb_memS (q := (⟨"NameHatModel", "does", "(III)I"⟩, 45)) 70 (by decide +kernel)
theorem qs_71 : Cond.selects "NameHatModel" ⟨"NameHatModel", "worthOf", "()I"⟩ ⟨"NameHatModel", "worthOf", "()I"⟩ ∈ tb_G := tb_memS (q := (⟨"NameHatModel", "worthOf", "()I"⟩, 45)) 71 (by decide +kernel)
theorem qs_72 : Cond.selects "NameHatModel" ⟨"NameHatModel", "areFoes", "(II)Z"⟩ ⟨"NameHatModel", "areFoes", "(II)Z"⟩ ∈ tb_G := tb_memS (q := (⟨"NameHatModel", "areFoes", "(II)Z"⟩, 45)) 72 (by decide +kernel)
theorem qs_73 : Cond.selects "NameHatModel" ⟨"NameHatModel", "canSit", "(I)Z"⟩ ⟨"NameHatModel", "canSit", "(I)Z"⟩ ∈ tb_G := tb_memS (q := (⟨"NameHatModel", "canSit", "(I)Z"⟩, 45)) 73 (by decide +kernel)
theorem qs_74 : Cond.selects "NameHatModel" ⟨"NameHatModel", "rollLine", "()Z"⟩ ⟨"NameHatModel", "rollLine", "()Z"⟩ ∈ tb_G := tb_memS (q := (⟨"NameHatModel", "rollLine", "()Z"⟩, 45)) 74 (by decide +kernel)
theorem qs_75 : Cond.selects "NameHatModel" ⟨"NameHatModel", "waysBy", "(II)I"⟩ ⟨"NameHatModel", "waysBy", "(II)I"⟩ ∈ tb_G := tb_memS (q := (⟨"NameHatModel", "waysBy", "(II)I"⟩, 45)) 75 (by decide +kernel)
theorem qs_76 : Cond.selects "NameHatModel" ⟨"NameHatModel", "octet", "(I)I"⟩ ⟨"NameHatModel", "octet", "(I)I"⟩ ∈ tb_G := tb_memS (q := (⟨"NameHatModel", "octet", "(I)I"⟩, 45)) 76 (by decide +kernel)
theorem qs_77 : Cond.selects "NameHatModel" ⟨"NameHatModel", "hasLuck", "(II)Z"⟩ ⟨"NameHatModel", "hasLuck", "(II)Z"⟩ ∈ tb_G := tb_memS (q := (⟨"NameHatModel", "hasLuck", "(II)Z"⟩, 45)) 77 (by decide +kernel)
