/-! THE LAW: cases 30 to 35 (printed by wip/whole/law.py) -/
theorem dL_law_1017 : decode code 1017 = .ok (.aload_n 1, 1) := by decide +kernel
theorem dL_law_1018 : decode code 1018 = .ok (.invokevirtual 140, 3) := by decide +kernel
theorem dL_law_1021 : decode code 1021 = .ok (.aload_n 2, 1) := by decide +kernel
theorem dL_law_1022 : decode code 1022 = .ok (.invokevirtual 143, 3) := by decide +kernel
theorem dL_law_1025 : decode code 1025 = .ok (.if_icmp .eq 353, 3) := by decide +kernel
theorem dL_law_1030 : decode code 1030 = .ok (.aload_n 1, 1) := by decide +kernel
theorem dL_law_1031 : decode code 1031 = .ok (.invokevirtual 144, 3) := by decide +kernel
theorem dL_law_1034 : decode code 1034 = .ok (.aload_n 2, 1) := by decide +kernel
theorem dL_law_1035 : decode code 1035 = .ok (.invokevirtual 147, 3) := by decide +kernel
theorem dL_law_1038 : decode code 1038 = .ok (.if_icmp .eq 340, 3) := by decide +kernel
theorem dL_law_1043 : decode code 1043 = .ok (.aload_n 1, 1) := by decide +kernel
theorem dL_law_1044 : decode code 1044 = .ok (.aload_n 0, 1) := by decide +kernel
theorem dL_law_1045 : decode code 1045 = .ok (.iload_n 3, 1) := by decide +kernel
theorem dL_law_1046 : decode code 1046 = .ok (.iconst 1, 1) := by decide +kernel
theorem dL_law_1047 : decode code 1047 = .ok (.iadd, 1) := by decide +kernel
theorem dL_law_1048 : decode code 1048 = .ok (.iaload, 1) := by decide +kernel
theorem dL_law_1049 : decode code 1049 = .ok (.aload_n 0, 1) := by decide +kernel
theorem dL_law_1050 : decode code 1050 = .ok (.iload_n 3, 1) := by decide +kernel
theorem dL_law_1051 : decode code 1051 = .ok (.iconst 2, 1) := by decide +kernel
theorem dL_law_1052 : decode code 1052 = .ok (.iadd, 1) := by decide +kernel
theorem dL_law_1053 : decode code 1053 = .ok (.iaload, 1) := by decide +kernel
theorem dL_law_1054 : decode code 1054 = .ok (.aload_n 0, 1) := by decide +kernel
theorem dL_law_1055 : decode code 1055 = .ok (.iload_n 3, 1) := by decide +kernel
theorem dL_law_1056 : decode code 1056 = .ok (.iconst 3, 1) := by decide +kernel
theorem dL_law_1057 : decode code 1057 = .ok (.iadd, 1) := by decide +kernel
theorem dL_law_1058 : decode code 1058 = .ok (.iaload, 1) := by decide +kernel
theorem dL_law_1059 : decode code 1059 = .ok (.invokevirtual 148, 3) := by decide +kernel
theorem dL_law_1062 : decode code 1062 = .ok (.aload_n 2, 1) := by decide +kernel
theorem dL_law_1063 : decode code 1063 = .ok (.aload_n 0, 1) := by decide +kernel
theorem dL_law_1064 : decode code 1064 = .ok (.iload_n 3, 1) := by decide +kernel
theorem dL_law_1065 : decode code 1065 = .ok (.iconst 1, 1) := by decide +kernel
theorem dL_law_1066 : decode code 1066 = .ok (.iadd, 1) := by decide +kernel
theorem dL_law_1067 : decode code 1067 = .ok (.iaload, 1) := by decide +kernel
theorem dL_law_1068 : decode code 1068 = .ok (.aload_n 0, 1) := by decide +kernel
theorem dL_law_1069 : decode code 1069 = .ok (.iload_n 3, 1) := by decide +kernel
theorem dL_law_1070 : decode code 1070 = .ok (.iconst 2, 1) := by decide +kernel
theorem dL_law_1071 : decode code 1071 = .ok (.iadd, 1) := by decide +kernel
theorem dL_law_1072 : decode code 1072 = .ok (.iaload, 1) := by decide +kernel
theorem dL_law_1073 : decode code 1073 = .ok (.aload_n 0, 1) := by decide +kernel
theorem dL_law_1074 : decode code 1074 = .ok (.iload_n 3, 1) := by decide +kernel
theorem dL_law_1075 : decode code 1075 = .ok (.iconst 3, 1) := by decide +kernel
theorem dL_law_1076 : decode code 1076 = .ok (.iadd, 1) := by decide +kernel
theorem dL_law_1077 : decode code 1077 = .ok (.iaload, 1) := by decide +kernel
theorem dL_law_1078 : decode code 1078 = .ok (.invokevirtual 151, 3) := by decide +kernel
theorem dL_law_1081 : decode code 1081 = .ok (.if_icmp .eq 297, 3) := by decide +kernel
theorem dL_law_1086 : decode code 1086 = .ok (.aload_n 1, 1) := by decide +kernel
theorem dL_law_1087 : decode code 1087 = .ok (.aload_n 0, 1) := by decide +kernel
theorem dL_law_1088 : decode code 1088 = .ok (.iload_n 3, 1) := by decide +kernel
theorem dL_law_1089 : decode code 1089 = .ok (.iconst 1, 1) := by decide +kernel
theorem dL_law_1090 : decode code 1090 = .ok (.iadd, 1) := by decide +kernel
theorem dL_law_1091 : decode code 1091 = .ok (.iaload, 1) := by decide +kernel
theorem dL_law_1092 : decode code 1092 = .ok (.aload_n 0, 1) := by decide +kernel
theorem dL_law_1093 : decode code 1093 = .ok (.iload_n 3, 1) := by decide +kernel
theorem dL_law_1094 : decode code 1094 = .ok (.iconst 2, 1) := by decide +kernel
theorem dL_law_1095 : decode code 1095 = .ok (.iadd, 1) := by decide +kernel
theorem dL_law_1096 : decode code 1096 = .ok (.iaload, 1) := by decide +kernel
theorem dL_law_1097 : decode code 1097 = .ok (.aload_n 0, 1) := by decide +kernel
theorem dL_law_1098 : decode code 1098 = .ok (.iload_n 3, 1) := by decide +kernel
theorem dL_law_1099 : decode code 1099 = .ok (.iconst 3, 1) := by decide +kernel
theorem dL_law_1100 : decode code 1100 = .ok (.iadd, 1) := by decide +kernel
theorem dL_law_1101 : decode code 1101 = .ok (.iaload, 1) := by decide +kernel
theorem dL_law_1102 : decode code 1102 = .ok (.i2l, 1) := by decide +kernel
theorem dL_law_1103 : decode code 1103 = .ok (.bipush 32, 2) := by decide +kernel
theorem dL_law_1105 : decode code 1105 = .ok (.lshl, 1) := by decide +kernel
theorem dL_law_1106 : decode code 1106 = .ok (.aload_n 0, 1) := by decide +kernel
theorem dL_law_1107 : decode code 1107 = .ok (.iload_n 3, 1) := by decide +kernel
theorem dL_law_1108 : decode code 1108 = .ok (.iconst 4, 1) := by decide +kernel
theorem dL_law_1109 : decode code 1109 = .ok (.iadd, 1) := by decide +kernel
theorem dL_law_1110 : decode code 1110 = .ok (.iaload, 1) := by decide +kernel
theorem dL_law_1111 : decode code 1111 = .ok (.i2l, 1) := by decide +kernel
theorem dL_law_1112 : decode code 1112 = .ok (.ldc2_w 152, 3) := by decide +kernel
theorem dL_law_1115 : decode code 1115 = .ok (.land, 1) := by decide +kernel
theorem dL_law_1116 : decode code 1116 = .ok (.lor, 1) := by decide +kernel
theorem dL_law_1117 : decode code 1117 = .ok (.invokevirtual 154, 3) := by decide +kernel
theorem dL_law_1120 : decode code 1120 = .ok (.aload_n 2, 1) := by decide +kernel
theorem dL_law_1121 : decode code 1121 = .ok (.aload_n 0, 1) := by decide +kernel
theorem dL_law_1122 : decode code 1122 = .ok (.iload_n 3, 1) := by decide +kernel
theorem dL_law_1123 : decode code 1123 = .ok (.iconst 1, 1) := by decide +kernel
theorem dL_law_1124 : decode code 1124 = .ok (.iadd, 1) := by decide +kernel
theorem dL_law_1125 : decode code 1125 = .ok (.iaload, 1) := by decide +kernel
theorem dL_law_1126 : decode code 1126 = .ok (.aload_n 0, 1) := by decide +kernel
theorem dL_law_1127 : decode code 1127 = .ok (.iload_n 3, 1) := by decide +kernel
theorem dL_law_1128 : decode code 1128 = .ok (.iconst 2, 1) := by decide +kernel
theorem dL_law_1129 : decode code 1129 = .ok (.iadd, 1) := by decide +kernel
theorem dL_law_1130 : decode code 1130 = .ok (.iaload, 1) := by decide +kernel
theorem dL_law_1131 : decode code 1131 = .ok (.aload_n 0, 1) := by decide +kernel
theorem dL_law_1132 : decode code 1132 = .ok (.iload_n 3, 1) := by decide +kernel
theorem dL_law_1133 : decode code 1133 = .ok (.iconst 3, 1) := by decide +kernel
theorem dL_law_1134 : decode code 1134 = .ok (.iadd, 1) := by decide +kernel
theorem dL_law_1135 : decode code 1135 = .ok (.iaload, 1) := by decide +kernel
theorem dL_law_1136 : decode code 1136 = .ok (.i2l, 1) := by decide +kernel
theorem dL_law_1137 : decode code 1137 = .ok (.bipush 32, 2) := by decide +kernel
theorem dL_law_1139 : decode code 1139 = .ok (.lshl, 1) := by decide +kernel
theorem dL_law_1140 : decode code 1140 = .ok (.aload_n 0, 1) := by decide +kernel
theorem dL_law_1141 : decode code 1141 = .ok (.iload_n 3, 1) := by decide +kernel
theorem dL_law_1142 : decode code 1142 = .ok (.iconst 4, 1) := by decide +kernel
theorem dL_law_1143 : decode code 1143 = .ok (.iadd, 1) := by decide +kernel
theorem dL_law_1144 : decode code 1144 = .ok (.iaload, 1) := by decide +kernel
theorem dL_law_1145 : decode code 1145 = .ok (.i2l, 1) := by decide +kernel
theorem dL_law_1146 : decode code 1146 = .ok (.ldc2_w 152, 3) := by decide +kernel
theorem dL_law_1149 : decode code 1149 = .ok (.land, 1) := by decide +kernel
theorem dL_law_1150 : decode code 1150 = .ok (.lor, 1) := by decide +kernel
theorem dL_law_1151 : decode code 1151 = .ok (.invokevirtual 158, 3) := by decide +kernel
theorem dL_law_1154 : decode code 1154 = .ok (.lcmp, 1) := by decide +kernel
theorem dL_law_1155 : decode code 1155 = .ok (.ifCond .eq 223, 3) := by decide +kernel
theorem dL_law_1160 : decode code 1160 = .ok (.aload_n 1, 1) := by decide +kernel
theorem dL_law_1161 : decode code 1161 = .ok (.aload_n 0, 1) := by decide +kernel
theorem dL_law_1162 : decode code 1162 = .ok (.iload_n 3, 1) := by decide +kernel
theorem dL_law_1163 : decode code 1163 = .ok (.iconst 1, 1) := by decide +kernel
theorem dL_law_1164 : decode code 1164 = .ok (.iadd, 1) := by decide +kernel
theorem dL_law_1165 : decode code 1165 = .ok (.iaload, 1) := by decide +kernel
theorem dL_law_1166 : decode code 1166 = .ok (.aload_n 0, 1) := by decide +kernel
theorem dL_law_1167 : decode code 1167 = .ok (.iload_n 3, 1) := by decide +kernel
theorem dL_law_1168 : decode code 1168 = .ok (.iconst 2, 1) := by decide +kernel
theorem dL_law_1169 : decode code 1169 = .ok (.iadd, 1) := by decide +kernel
theorem dL_law_1170 : decode code 1170 = .ok (.iaload, 1) := by decide +kernel
theorem dL_law_1171 : decode code 1171 = .ok (.aload_n 0, 1) := by decide +kernel
theorem dL_law_1172 : decode code 1172 = .ok (.iload_n 3, 1) := by decide +kernel
theorem dL_law_1173 : decode code 1173 = .ok (.iconst 3, 1) := by decide +kernel
theorem dL_law_1174 : decode code 1174 = .ok (.iadd, 1) := by decide +kernel
theorem dL_law_1175 : decode code 1175 = .ok (.iaload, 1) := by decide +kernel
theorem dL_law_1176 : decode code 1176 = .ok (.aload_n 0, 1) := by decide +kernel
theorem dL_law_1177 : decode code 1177 = .ok (.iload_n 3, 1) := by decide +kernel
theorem dL_law_1178 : decode code 1178 = .ok (.iconst 4, 1) := by decide +kernel
theorem dL_law_1179 : decode code 1179 = .ok (.iadd, 1) := by decide +kernel
theorem dL_law_1180 : decode code 1180 = .ok (.iaload, 1) := by decide +kernel
theorem dL_law_1181 : decode code 1181 = .ok (.aload_n 0, 1) := by decide +kernel
theorem dL_law_1182 : decode code 1182 = .ok (.iload_n 3, 1) := by decide +kernel
theorem dL_law_1183 : decode code 1183 = .ok (.iconst 5, 1) := by decide +kernel
theorem dL_law_1184 : decode code 1184 = .ok (.iadd, 1) := by decide +kernel
theorem dL_law_1185 : decode code 1185 = .ok (.iaload, 1) := by decide +kernel
theorem dL_law_1186 : decode code 1186 = .ok (.invokevirtual 159, 3) := by decide +kernel
theorem dL_law_1189 : decode code 1189 = .ok (.aload_n 2, 1) := by decide +kernel
theorem dL_law_1190 : decode code 1190 = .ok (.aload_n 0, 1) := by decide +kernel
theorem dL_law_1191 : decode code 1191 = .ok (.iload_n 3, 1) := by decide +kernel
theorem dL_law_1192 : decode code 1192 = .ok (.iconst 1, 1) := by decide +kernel
theorem dL_law_1193 : decode code 1193 = .ok (.iadd, 1) := by decide +kernel
theorem dL_law_1194 : decode code 1194 = .ok (.iaload, 1) := by decide +kernel
theorem dL_law_1195 : decode code 1195 = .ok (.aload_n 0, 1) := by decide +kernel
theorem dL_law_1196 : decode code 1196 = .ok (.iload_n 3, 1) := by decide +kernel
theorem dL_law_1197 : decode code 1197 = .ok (.iconst 2, 1) := by decide +kernel
theorem dL_law_1198 : decode code 1198 = .ok (.iadd, 1) := by decide +kernel
theorem dL_law_1199 : decode code 1199 = .ok (.iaload, 1) := by decide +kernel
theorem dL_law_1200 : decode code 1200 = .ok (.aload_n 0, 1) := by decide +kernel
theorem dL_law_1201 : decode code 1201 = .ok (.iload_n 3, 1) := by decide +kernel
theorem dL_law_1202 : decode code 1202 = .ok (.iconst 3, 1) := by decide +kernel
theorem dL_law_1203 : decode code 1203 = .ok (.iadd, 1) := by decide +kernel
theorem dL_law_1204 : decode code 1204 = .ok (.iaload, 1) := by decide +kernel
theorem dL_law_1205 : decode code 1205 = .ok (.aload_n 0, 1) := by decide +kernel
theorem dL_law_1206 : decode code 1206 = .ok (.iload_n 3, 1) := by decide +kernel
theorem dL_law_1207 : decode code 1207 = .ok (.iconst 4, 1) := by decide +kernel
theorem dL_law_1208 : decode code 1208 = .ok (.iadd, 1) := by decide +kernel
theorem dL_law_1209 : decode code 1209 = .ok (.iaload, 1) := by decide +kernel
theorem dL_law_1210 : decode code 1210 = .ok (.aload_n 0, 1) := by decide +kernel
theorem dL_law_1211 : decode code 1211 = .ok (.iload_n 3, 1) := by decide +kernel
theorem dL_law_1212 : decode code 1212 = .ok (.iconst 5, 1) := by decide +kernel
theorem dL_law_1213 : decode code 1213 = .ok (.iadd, 1) := by decide +kernel
theorem dL_law_1214 : decode code 1214 = .ok (.iaload, 1) := by decide +kernel
theorem dL_law_1215 : decode code 1215 = .ok (.invokevirtual 163, 3) := by decide +kernel
theorem dL_law_1218 : decode code 1218 = .ok (.if_icmp .eq 160, 3) := by decide +kernel
theorem dL_law_1223 : decode code 1223 = .ok (.aload_n 1, 1) := by decide +kernel
theorem dL_law_1224 : decode code 1224 = .ok (.aload_n 0, 1) := by decide +kernel
theorem dL_law_1225 : decode code 1225 = .ok (.iload_n 3, 1) := by decide +kernel
theorem dL_law_1226 : decode code 1226 = .ok (.iconst 1, 1) := by decide +kernel
theorem dL_law_1227 : decode code 1227 = .ok (.iadd, 1) := by decide +kernel
theorem dL_law_1228 : decode code 1228 = .ok (.iaload, 1) := by decide +kernel
theorem dL_law_1229 : decode code 1229 = .ok (.invokevirtual 164, 3) := by decide +kernel
theorem dL_law_1232 : decode code 1232 = .ok (.aload_n 2, 1) := by decide +kernel
theorem dL_law_1233 : decode code 1233 = .ok (.aload_n 0, 1) := by decide +kernel
theorem dL_law_1234 : decode code 1234 = .ok (.iload_n 3, 1) := by decide +kernel
theorem dL_law_1235 : decode code 1235 = .ok (.iconst 1, 1) := by decide +kernel
theorem dL_law_1236 : decode code 1236 = .ok (.iadd, 1) := by decide +kernel
theorem dL_law_1237 : decode code 1237 = .ok (.iaload, 1) := by decide +kernel
theorem dL_law_1238 : decode code 1238 = .ok (.invokevirtual 167, 3) := by decide +kernel
theorem dL_law_1241 : decode code 1241 = .ok (.if_icmp .eq 137, 3) := by decide +kernel
theorem twl_240 : Cond.methodLink R_law 140 yX6_wipe ∈ Tg := tg_tab (List.mem_of_getElem? (i := 570) (by decide +kernel)) (by decide +kernel)
theorem twl_241 : Cond.code yX6_wipe cX6_wipe 2 (some .int) ∈ Tg := tg_tab (List.mem_of_getElem? (i := 573) (by decide +kernel)) (by decide +kernel)
theorem twl_242 : Cond.instanceMethod yX6_wipe ∈ Tg := tg_tab (List.mem_of_getElem? (i := 571) (by decide +kernel)) (by decide +kernel)
theorem twl_243 : Cond.selects RX6 yX6_wipe yX6_wipe ∈ Tg := tg_tab (List.mem_of_getElem? (i := 572) (by decide +kernel)) (by decide +kernel)
theorem twl_244 : Cond.methodLink R_law 143 yX7_wipe ∈ Tg := tg_tab (List.mem_of_getElem? (i := 1148) (by decide +kernel)) (by decide +kernel)
theorem twl_245 : Cond.code yX7_wipe cX7_wipe 2 (some .int) ∈ Tg := tg_tab (List.mem_of_getElem? (i := 1151) (by decide +kernel)) (by decide +kernel)
theorem twl_246 : Cond.instanceMethod yX7_wipe ∈ Tg := tg_tab (List.mem_of_getElem? (i := 1149) (by decide +kernel)) (by decide +kernel)
theorem twl_247 : Cond.selects RX7 yX7_wipe yX7_wipe ∈ Tg := tg_tab (List.mem_of_getElem? (i := 1150) (by decide +kernel)) (by decide +kernel)
theorem twl_248 : Cond.methodLink R_law 144 yX6_house ∈ Tg := tg_tab (List.mem_of_getElem? (i := 574) (by decide +kernel)) (by decide +kernel)
theorem twl_249 : Cond.code yX6_house cX6_house 2 (some .int) ∈ Tg := tg_tab (List.mem_of_getElem? (i := 577) (by decide +kernel)) (by decide +kernel)
theorem twl_250 : Cond.instanceMethod yX6_house ∈ Tg := tg_tab (List.mem_of_getElem? (i := 575) (by decide +kernel)) (by decide +kernel)
theorem twl_251 : Cond.selects RX6 yX6_house yX6_house ∈ Tg := tg_tab (List.mem_of_getElem? (i := 576) (by decide +kernel)) (by decide +kernel)
theorem twl_252 : Cond.methodLink R_law 147 yX7_house ∈ Tg := tg_tab (List.mem_of_getElem? (i := 1152) (by decide +kernel)) (by decide +kernel)
theorem twl_253 : Cond.code yX7_house cX7_house 3 (some .int) ∈ Tg := tg_tab (List.mem_of_getElem? (i := 1155) (by decide +kernel)) (by decide +kernel)
theorem twl_254 : Cond.instanceMethod yX7_house ∈ Tg := tg_tab (List.mem_of_getElem? (i := 1153) (by decide +kernel)) (by decide +kernel)
theorem twl_255 : Cond.selects RX7 yX7_house yX7_house ∈ Tg := tg_tab (List.mem_of_getElem? (i := 1154) (by decide +kernel)) (by decide +kernel)
theorem twl_256 : Cond.methodLink R_law 148 yX6_sheet ∈ Tg := tg_tab (List.mem_of_getElem? (i := 713) (by decide +kernel)) (by decide +kernel)
theorem twl_257 : Cond.code yX6_sheet cX6_sheet 4 (some .int) ∈ Tg := tg_tab (List.mem_of_getElem? (i := 716) (by decide +kernel)) (by decide +kernel)
theorem twl_258 : Cond.instanceMethod yX6_sheet ∈ Tg := tg_tab (List.mem_of_getElem? (i := 714) (by decide +kernel)) (by decide +kernel)
theorem twl_259 : Cond.selects RX6 yX6_sheet yX6_sheet ∈ Tg := tg_tab (List.mem_of_getElem? (i := 715) (by decide +kernel)) (by decide +kernel)
theorem twl_260 : Cond.methodLink R_law 151 yX7_sheet ∈ Tg := tg_tab (List.mem_of_getElem? (i := 1231) (by decide +kernel)) (by decide +kernel)
theorem twl_261 : Cond.code yX7_sheet cX7_sheet 5 (some .int) ∈ Tg := tg_tab (List.mem_of_getElem? (i := 1234) (by decide +kernel)) (by decide +kernel)
theorem twl_262 : Cond.instanceMethod yX7_sheet ∈ Tg := tg_tab (List.mem_of_getElem? (i := 1232) (by decide +kernel)) (by decide +kernel)
theorem twl_263 : Cond.selects RX7 yX7_sheet yX7_sheet ∈ Tg := tg_tab (List.mem_of_getElem? (i := 1233) (by decide +kernel)) (by decide +kernel)
theorem twl_264 : Cond.constantLong R_law 152 (4294967295) ∈ Tg := tg_tab (List.mem_of_getElem? (i := 1288) (by decide +kernel)) (by decide +kernel)
theorem twl_265 : Cond.methodLink R_law 154 yX6_write ∈ Tg := tg_tab (List.mem_of_getElem? (i := 731) (by decide +kernel)) (by decide +kernel)
theorem twl_266 : Cond.code yX6_write cX6_write 9 (some .long) ∈ Tg := tg_tab (List.mem_of_getElem? (i := 734) (by decide +kernel)) (by decide +kernel)
theorem twl_267 : Cond.instanceMethod yX6_write ∈ Tg := tg_tab (List.mem_of_getElem? (i := 732) (by decide +kernel)) (by decide +kernel)
theorem twl_268 : Cond.selects RX6 yX6_write yX6_write ∈ Tg := tg_tab (List.mem_of_getElem? (i := 733) (by decide +kernel)) (by decide +kernel)
theorem twl_269 : Cond.methodLink R_law 158 yX7_write ∈ Tg := tg_tab (List.mem_of_getElem? (i := 1239) (by decide +kernel)) (by decide +kernel)
theorem twl_270 : Cond.code yX7_write cX7_write 7 (some .long) ∈ Tg := tg_tab (List.mem_of_getElem? (i := 1242) (by decide +kernel)) (by decide +kernel)
theorem twl_271 : Cond.instanceMethod yX7_write ∈ Tg := tg_tab (List.mem_of_getElem? (i := 1240) (by decide +kernel)) (by decide +kernel)
theorem twl_272 : Cond.selects RX7 yX7_write yX7_write ∈ Tg := tg_tab (List.mem_of_getElem? (i := 1241) (by decide +kernel)) (by decide +kernel)
theorem twl_273 : Cond.methodLink R_law 159 yX6_copy ∈ Tg := tg_tab (List.mem_of_getElem? (i := 744) (by decide +kernel)) (by decide +kernel)
theorem twl_274 : Cond.code yX6_copy cX6_copy 8 (some .int) ∈ Tg := tg_tab (List.mem_of_getElem? (i := 747) (by decide +kernel)) (by decide +kernel)
theorem twl_275 : Cond.instanceMethod yX6_copy ∈ Tg := tg_tab (List.mem_of_getElem? (i := 745) (by decide +kernel)) (by decide +kernel)
theorem twl_276 : Cond.selects RX6 yX6_copy yX6_copy ∈ Tg := tg_tab (List.mem_of_getElem? (i := 746) (by decide +kernel)) (by decide +kernel)
theorem twl_277 : Cond.methodLink R_law 163 yX7_copy ∈ Tg := tg_tab (List.mem_of_getElem? (i := 1247) (by decide +kernel)) (by decide +kernel)
theorem twl_278 : Cond.code yX7_copy cX7_copy 7 (some .int) ∈ Tg := tg_tab (List.mem_of_getElem? (i := 1250) (by decide +kernel)) (by decide +kernel)
theorem twl_279 : Cond.instanceMethod yX7_copy ∈ Tg := tg_tab (List.mem_of_getElem? (i := 1248) (by decide +kernel)) (by decide +kernel)
theorem twl_280 : Cond.selects RX7 yX7_copy yX7_copy ∈ Tg := tg_tab (List.mem_of_getElem? (i := 1249) (by decide +kernel)) (by decide +kernel)
theorem twl_281 : Cond.methodLink R_law 164 yX6_lays ∈ Tg := tg_tab (List.mem_of_getElem? (i := 753) (by decide +kernel)) (by decide +kernel)
theorem twl_282 : Cond.code yX6_lays cX6_lays 7 (some .int) ∈ Tg := tg_tab (List.mem_of_getElem? (i := 756) (by decide +kernel)) (by decide +kernel)
theorem twl_283 : Cond.instanceMethod yX6_lays ∈ Tg := tg_tab (List.mem_of_getElem? (i := 754) (by decide +kernel)) (by decide +kernel)
theorem twl_284 : Cond.selects RX6 yX6_lays yX6_lays ∈ Tg := tg_tab (List.mem_of_getElem? (i := 755) (by decide +kernel)) (by decide +kernel)
theorem twl_285 : Cond.methodLink R_law 167 yX7_lays ∈ Tg := tg_tab (List.mem_of_getElem? (i := 1255) (by decide +kernel)) (by decide +kernel)
theorem twl_286 : Cond.code yX7_lays cX7_lays 6 (some .int) ∈ Tg := tg_tab (List.mem_of_getElem? (i := 1258) (by decide +kernel)) (by decide +kernel)
theorem twl_287 : Cond.instanceMethod yX7_lays ∈ Tg := tg_tab (List.mem_of_getElem? (i := 1256) (by decide +kernel)) (by decide +kernel)
theorem twl_288 : Cond.selects RX7 yX7_lays yX7_lays ∈ Tg := tg_tab (List.mem_of_getElem? (i := 1257) (by decide +kernel)) (by decide +kernel)
theorem lc_30 {L : Nat} {xs : Nat → Int32} {i : Nat} (hL : L ≤ 3072) (hi : i + 6 ≤ L) {σ : St} (I : Inv σ) (nxt : ∀ σ2, Inv σ2 → Lw L xs 1378 (lsL i) [] σ2) : Lw L xs 1017 (lsL i) [] σ := by
  refine L_aload_n dL_law_1017 rfl (by decide) ?_
  refine L_callV (n := 0) (k := 0) (ci := 6) (rest := []) (R' := rmX6_wipe) dL_law_1018 ⟨twl_240, tw_141, twl_241, by decide +kernel, by decide +kernel, by decide +kernel⟩ twl_242 (by decide) (by decide) rfl twl_243 ⟨rfl, rfl, Nat.le_of_ble_eq_true rfl, Nat.le_of_ble_eq_true rfl⟩ rfl rfl (Nat.le_of_ble_eq_true rfl) (mt_X6_wipe  σ _ (pp_wipe I)) (fun r σ1 q => ?_)
  obtain ⟨x, rfl, q⟩ := q
  refine L_aload_n dL_law_1021 rfl (by decide) ?_
  refine L_callV (n := 0) (k := 49) (ci := 7) (rest := [.int x]) (R' := rmX7_wipe) dL_law_1022 ⟨twl_244, tw_454, twl_245, by decide +kernel, by decide +kernel, by decide +kernel⟩ twl_246 (by decide) (by decide) rfl twl_247 ⟨rfl, rfl, Nat.le_of_ble_eq_true rfl, Nat.le_of_ble_eq_true rfl⟩ rfl rfl (Nat.le_of_ble_eq_true rfl) (mt_X7_wipe  σ1 _ q) (fun r σ2 q => ?_)
  obtain ⟨y, rfl, q, J⟩ := q
  exact L_icmp_eq 1378 dL_law_1025 (by decide) (fun _ => nxt σ2 J) (fun z => absurd q z)
theorem lc_31 {L : Nat} {xs : Nat → Int32} {i : Nat} (hL : L ≤ 3072) (hi : i + 6 ≤ L) {σ : St} (I : Inv σ) (nxt : ∀ σ2, Inv σ2 → Lw L xs 1378 (lsL i) [] σ2) : Lw L xs 1030 (lsL i) [] σ := by
  refine L_aload_n dL_law_1030 rfl (by decide) ?_
  refine L_callV (n := 0) (k := 0) (ci := 6) (rest := []) (R' := rmX6_house) dL_law_1031 ⟨twl_248, tw_141, twl_249, by decide +kernel, by decide +kernel, by decide +kernel⟩ twl_250 (by decide) (by decide) rfl twl_251 ⟨rfl, rfl, Nat.le_of_ble_eq_true rfl, Nat.le_of_ble_eq_true rfl⟩ rfl rfl (Nat.le_of_ble_eq_true rfl) (mt_X6_house  σ _ (pp_house I)) (fun r σ1 q => ?_)
  obtain ⟨x, rfl, q⟩ := q
  refine L_aload_n dL_law_1034 rfl (by decide) ?_
  refine L_callV (n := 0) (k := 49) (ci := 7) (rest := [.int x]) (R' := rmX7_house) dL_law_1035 ⟨twl_252, tw_454, twl_253, by decide +kernel, by decide +kernel, by decide +kernel⟩ twl_254 (by decide) (by decide) rfl twl_255 ⟨rfl, rfl, Nat.le_of_ble_eq_true rfl, Nat.le_of_ble_eq_true rfl⟩ rfl rfl (Nat.le_of_ble_eq_true rfl) (mt_X7_house  σ1 _ q) (fun r σ2 q => ?_)
  obtain ⟨y, rfl, q, J⟩ := q
  exact L_icmp_eq 1378 dL_law_1038 (by decide) (fun _ => nxt σ2 J) (fun z => absurd q z)
theorem lc_32 {L : Nat} {xs : Nat → Int32} {i : Nat} (hL : L ≤ 3072) (hi : i + 6 ≤ L) {σ : St} (I : Inv σ) (nxt : ∀ σ2, Inv σ2 → Lw L xs 1378 (lsL i) [] σ2) : Lw L xs 1043 (lsL i) [] σ := by
  refine L_aload_n dL_law_1043 rfl (by decide) ?_
  refine L_arg (k := 1) dL_law_1044 dL_law_1045 dL_law_1046 dL_law_1047 dL_law_1048 (by decide) hL (by omega) ?_
  refine L_arg (k := 2) dL_law_1049 dL_law_1050 dL_law_1051 dL_law_1052 dL_law_1053 (by decide) hL (by omega) ?_
  refine L_arg (k := 3) dL_law_1054 dL_law_1055 dL_law_1056 dL_law_1057 dL_law_1058 (by decide) hL (by omega) ?_
  refine L_callV (n := 3) (k := 0) (ci := 6) (rest := []) (R' := rmX6_sheet) dL_law_1059 ⟨twl_256, tw_141, twl_257, by decide +kernel, by decide +kernel, by decide +kernel⟩ twl_258 (by decide) (by decide) rfl twl_259 ⟨rfl, rfl, Nat.le_of_ble_eq_true rfl, Nat.le_of_ble_eq_true rfl⟩ rfl rfl (Nat.le_of_ble_eq_true rfl) (mt_X6_sheet _ _ _ σ _ (pp_sheet I _ _ _)) (fun r σ1 q => ?_)
  obtain ⟨x, rfl, q⟩ := q
  refine L_aload_n dL_law_1062 rfl (by decide) ?_
  refine L_arg (k := 1) dL_law_1063 dL_law_1064 dL_law_1065 dL_law_1066 dL_law_1067 (by decide) hL (by omega) ?_
  refine L_arg (k := 2) dL_law_1068 dL_law_1069 dL_law_1070 dL_law_1071 dL_law_1072 (by decide) hL (by omega) ?_
  refine L_arg (k := 3) dL_law_1073 dL_law_1074 dL_law_1075 dL_law_1076 dL_law_1077 (by decide) hL (by omega) ?_
  refine L_callV (n := 3) (k := 49) (ci := 7) (rest := [.int x]) (R' := rmX7_sheet) dL_law_1078 ⟨twl_260, tw_454, twl_261, by decide +kernel, by decide +kernel, by decide +kernel⟩ twl_262 (by decide) (by decide) rfl twl_263 ⟨rfl, rfl, Nat.le_of_ble_eq_true rfl, Nat.le_of_ble_eq_true rfl⟩ rfl rfl (Nat.le_of_ble_eq_true rfl) (mt_X7_sheet _ _ _ σ1 _ q) (fun r σ2 q => ?_)
  obtain ⟨y, rfl, q, J⟩ := q
  exact L_icmp_eq 1378 dL_law_1081 (by decide) (fun _ => nxt σ2 J) (fun z => absurd q z)
theorem lc_33 {L : Nat} {xs : Nat → Int32} {i : Nat} (hL : L ≤ 3072) (hi : i + 6 ≤ L) {σ : St} (I : Inv σ) (nxt : ∀ σ2, Inv σ2 → Lw L xs 1378 (lsL i) [] σ2) : Lw L xs 1086 (lsL i) [] σ := by
  refine L_aload_n dL_law_1086 rfl (by decide) ?_
  refine L_arg (k := 1) dL_law_1087 dL_law_1088 dL_law_1089 dL_law_1090 dL_law_1091 (by decide) hL (by omega) ?_
  refine L_arg (k := 2) dL_law_1092 dL_law_1093 dL_law_1094 dL_law_1095 dL_law_1096 (by decide) hL (by omega) ?_
  refine L_arg (k := 3) dL_law_1097 dL_law_1098 dL_law_1099 dL_law_1100 dL_law_1101 (by decide) hL (by omega) ?_
  refine L_i2l dL_law_1102 ?_
  refine L_bipush (v := 32) dL_law_1103 (by decide) ?_
  refine L_lshl dL_law_1105 ?_
  refine L_arg (k := 4) dL_law_1106 dL_law_1107 dL_law_1108 dL_law_1109 dL_law_1110 (by decide) hL (by omega) ?_
  refine L_i2l dL_law_1111 ?_
  refine L_ldc2 dL_law_1112 twl_264 ?_
  refine L_land dL_law_1115 ?_
  refine L_lor dL_law_1116 ?_
  refine L_callV (n := 3) (k := 0) (ci := 6) (rest := []) (R' := rmX6_write) dL_law_1117 ⟨twl_265, tw_141, twl_266, by decide +kernel, by decide +kernel, by decide +kernel⟩ twl_267 (by decide) (by decide) rfl twl_268 ⟨rfl, rfl, Nat.le_of_ble_eq_true rfl, Nat.le_of_ble_eq_true rfl⟩ rfl rfl (Nat.le_of_ble_eq_true rfl) (mt_X6_write _ _ _ σ _ (pp_write I _ _ _)) (fun r σ1 q => ?_)
  obtain ⟨x, rfl, q⟩ := q
  refine L_aload_n dL_law_1120 rfl (by decide) ?_
  refine L_arg (k := 1) dL_law_1121 dL_law_1122 dL_law_1123 dL_law_1124 dL_law_1125 (by decide) hL (by omega) ?_
  refine L_arg (k := 2) dL_law_1126 dL_law_1127 dL_law_1128 dL_law_1129 dL_law_1130 (by decide) hL (by omega) ?_
  refine L_arg (k := 3) dL_law_1131 dL_law_1132 dL_law_1133 dL_law_1134 dL_law_1135 (by decide) hL (by omega) ?_
  refine L_i2l dL_law_1136 ?_
  refine L_bipush (v := 32) dL_law_1137 (by decide) ?_
  refine L_lshl dL_law_1139 ?_
  refine L_arg (k := 4) dL_law_1140 dL_law_1141 dL_law_1142 dL_law_1143 dL_law_1144 (by decide) hL (by omega) ?_
  refine L_i2l dL_law_1145 ?_
  refine L_ldc2 dL_law_1146 twl_264 ?_
  refine L_land dL_law_1149 ?_
  refine L_lor dL_law_1150 ?_
  refine L_callV (n := 3) (k := 49) (ci := 7) (rest := [.long x]) (R' := rmX7_write) dL_law_1151 ⟨twl_269, tw_454, twl_270, by decide +kernel, by decide +kernel, by decide +kernel⟩ twl_271 (by decide) (by decide) rfl twl_272 ⟨rfl, rfl, Nat.le_of_ble_eq_true rfl, Nat.le_of_ble_eq_true rfl⟩ rfl rfl (Nat.le_of_ble_eq_true rfl) (mt_X7_write _ _ _ σ1 _ q) (fun r σ2 q => ?_)
  obtain ⟨y, rfl, q, J⟩ := q
  refine L_lcmp dL_law_1154 ?_
  exact L_if_eq 1378 dL_law_1155 (by decide) (fun _ => nxt σ2 J) (fun z => absurd ((lg_cmp_eq _ _).mpr q) z)
theorem lc_34 {L : Nat} {xs : Nat → Int32} {i : Nat} (hL : L ≤ 3072) (hi : i + 6 ≤ L) {σ : St} (I : Inv σ) (nxt : ∀ σ2, Inv σ2 → Lw L xs 1378 (lsL i) [] σ2) : Lw L xs 1160 (lsL i) [] σ := by
  refine L_aload_n dL_law_1160 rfl (by decide) ?_
  refine L_arg (k := 1) dL_law_1161 dL_law_1162 dL_law_1163 dL_law_1164 dL_law_1165 (by decide) hL (by omega) ?_
  refine L_arg (k := 2) dL_law_1166 dL_law_1167 dL_law_1168 dL_law_1169 dL_law_1170 (by decide) hL (by omega) ?_
  refine L_arg (k := 3) dL_law_1171 dL_law_1172 dL_law_1173 dL_law_1174 dL_law_1175 (by decide) hL (by omega) ?_
  refine L_arg (k := 4) dL_law_1176 dL_law_1177 dL_law_1178 dL_law_1179 dL_law_1180 (by decide) hL (by omega) ?_
  refine L_arg (k := 5) dL_law_1181 dL_law_1182 dL_law_1183 dL_law_1184 dL_law_1185 (by decide) hL (by omega) ?_
  refine L_callV (n := 5) (k := 0) (ci := 6) (rest := []) (R' := rmX6_copy) dL_law_1186 ⟨twl_273, tw_141, twl_274, by decide +kernel, by decide +kernel, by decide +kernel⟩ twl_275 (by decide) (by decide) rfl twl_276 ⟨rfl, rfl, Nat.le_of_ble_eq_true rfl, Nat.le_of_ble_eq_true rfl⟩ rfl rfl (Nat.le_of_ble_eq_true rfl) (mt_X6_copy _ _ _ _ _ σ _ (pp_copy I _ _ _ _ _)) (fun r σ1 q => ?_)
  obtain ⟨x, rfl, q⟩ := q
  refine L_aload_n dL_law_1189 rfl (by decide) ?_
  refine L_arg (k := 1) dL_law_1190 dL_law_1191 dL_law_1192 dL_law_1193 dL_law_1194 (by decide) hL (by omega) ?_
  refine L_arg (k := 2) dL_law_1195 dL_law_1196 dL_law_1197 dL_law_1198 dL_law_1199 (by decide) hL (by omega) ?_
  refine L_arg (k := 3) dL_law_1200 dL_law_1201 dL_law_1202 dL_law_1203 dL_law_1204 (by decide) hL (by omega) ?_
  refine L_arg (k := 4) dL_law_1205 dL_law_1206 dL_law_1207 dL_law_1208 dL_law_1209 (by decide) hL (by omega) ?_
  refine L_arg (k := 5) dL_law_1210 dL_law_1211 dL_law_1212 dL_law_1213 dL_law_1214 (by decide) hL (by omega) ?_
  refine L_callV (n := 5) (k := 49) (ci := 7) (rest := [.int x]) (R' := rmX7_copy) dL_law_1215 ⟨twl_277, tw_454, twl_278, by decide +kernel, by decide +kernel, by decide +kernel⟩ twl_279 (by decide) (by decide) rfl twl_280 ⟨rfl, rfl, Nat.le_of_ble_eq_true rfl, Nat.le_of_ble_eq_true rfl⟩ rfl rfl (Nat.le_of_ble_eq_true rfl) (mt_X7_copy _ _ _ _ _ σ1 _ q) (fun r σ2 q => ?_)
  obtain ⟨y, rfl, q, J⟩ := q
  exact L_icmp_eq 1378 dL_law_1218 (by decide) (fun _ => nxt σ2 J) (fun z => absurd q z)
theorem lc_35 {L : Nat} {xs : Nat → Int32} {i : Nat} (hL : L ≤ 3072) (hi : i + 6 ≤ L) {σ : St} (I : Inv σ) (nxt : ∀ σ2, Inv σ2 → Lw L xs 1378 (lsL i) [] σ2) : Lw L xs 1223 (lsL i) [] σ := by
  refine L_aload_n dL_law_1223 rfl (by decide) ?_
  refine L_arg (k := 1) dL_law_1224 dL_law_1225 dL_law_1226 dL_law_1227 dL_law_1228 (by decide) hL (by omega) ?_
  refine L_callV (n := 1) (k := 0) (ci := 6) (rest := []) (R' := rmX6_lays) dL_law_1229 ⟨twl_281, tw_141, twl_282, by decide +kernel, by decide +kernel, by decide +kernel⟩ twl_283 (by decide) (by decide) rfl twl_284 ⟨rfl, rfl, Nat.le_of_ble_eq_true rfl, Nat.le_of_ble_eq_true rfl⟩ rfl rfl (Nat.le_of_ble_eq_true rfl) (mt_X6_lays _ σ _ (pp_lays I _)) (fun r σ1 q => ?_)
  obtain ⟨x, rfl, q⟩ := q
  refine L_aload_n dL_law_1232 rfl (by decide) ?_
  refine L_arg (k := 1) dL_law_1233 dL_law_1234 dL_law_1235 dL_law_1236 dL_law_1237 (by decide) hL (by omega) ?_
  refine L_callV (n := 1) (k := 49) (ci := 7) (rest := [.int x]) (R' := rmX7_lays) dL_law_1238 ⟨twl_285, tw_454, twl_286, by decide +kernel, by decide +kernel, by decide +kernel⟩ twl_287 (by decide) (by decide) rfl twl_288 ⟨rfl, rfl, Nat.le_of_ble_eq_true rfl, Nat.le_of_ble_eq_true rfl⟩ rfl rfl (Nat.le_of_ble_eq_true rfl) (mt_X7_lays _ σ1 _ q) (fun r σ2 q => ?_)
  obtain ⟨y, rfl, q, J⟩ := q
  exact L_icmp_eq 1378 dL_law_1241 (by decide) (fun _ => nxt σ2 J) (fun z => absurd q z)
