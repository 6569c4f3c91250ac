/-! THE LAW: cases 36 to 41 (printed by wip/whole/law.py) -/
theorem dL_law_1246 : decode code 1246 = .ok (.aload_n 1, 1) := by decide +kernel
theorem dL_law_1247 : decode code 1247 = .ok (.aload_n 0, 1) := by decide +kernel
theorem dL_law_1248 : decode code 1248 = .ok (.iload_n 3, 1) := by decide +kernel
theorem dL_law_1249 : decode code 1249 = .ok (.iconst 1, 1) := by decide +kernel
theorem dL_law_1250 : decode code 1250 = .ok (.iadd, 1) := by decide +kernel
theorem dL_law_1251 : decode code 1251 = .ok (.iaload, 1) := by decide +kernel
theorem dL_law_1252 : decode code 1252 = .ok (.invokevirtual 168, 3) := by decide +kernel
theorem dL_law_1255 : decode code 1255 = .ok (.aload_n 2, 1) := by decide +kernel
theorem dL_law_1256 : decode code 1256 = .ok (.aload_n 0, 1) := by decide +kernel
theorem dL_law_1257 : decode code 1257 = .ok (.iload_n 3, 1) := by decide +kernel
theorem dL_law_1258 : decode code 1258 = .ok (.iconst 1, 1) := by decide +kernel
theorem dL_law_1259 : decode code 1259 = .ok (.iadd, 1) := by decide +kernel
theorem dL_law_1260 : decode code 1260 = .ok (.iaload, 1) := by decide +kernel
theorem dL_law_1261 : decode code 1261 = .ok (.invokevirtual 171, 3) := by decide +kernel
theorem dL_law_1264 : decode code 1264 = .ok (.if_icmp .eq 114, 3) := by decide +kernel
theorem dL_law_1269 : decode code 1269 = .ok (.aload_n 1, 1) := by decide +kernel
theorem dL_law_1270 : decode code 1270 = .ok (.aload_n 0, 1) := by decide +kernel
theorem dL_law_1271 : decode code 1271 = .ok (.iload_n 3, 1) := by decide +kernel
theorem dL_law_1272 : decode code 1272 = .ok (.iconst 1, 1) := by decide +kernel
theorem dL_law_1273 : decode code 1273 = .ok (.iadd, 1) := by decide +kernel
theorem dL_law_1274 : decode code 1274 = .ok (.iaload, 1) := by decide +kernel
theorem dL_law_1275 : decode code 1275 = .ok (.invokevirtual 172, 3) := by decide +kernel
theorem dL_law_1278 : decode code 1278 = .ok (.aload_n 2, 1) := by decide +kernel
theorem dL_law_1279 : decode code 1279 = .ok (.aload_n 0, 1) := by decide +kernel
theorem dL_law_1280 : decode code 1280 = .ok (.iload_n 3, 1) := by decide +kernel
theorem dL_law_1281 : decode code 1281 = .ok (.iconst 1, 1) := by decide +kernel
theorem dL_law_1282 : decode code 1282 = .ok (.iadd, 1) := by decide +kernel
theorem dL_law_1283 : decode code 1283 = .ok (.iaload, 1) := by decide +kernel
theorem dL_law_1284 : decode code 1284 = .ok (.invokevirtual 175, 3) := by decide +kernel
theorem dL_law_1287 : decode code 1287 = .ok (.lcmp, 1) := by decide +kernel
theorem dL_law_1288 : decode code 1288 = .ok (.ifCond .eq 90, 3) := by decide +kernel
theorem dL_law_1293 : decode code 1293 = .ok (.aload_n 1, 1) := by decide +kernel
theorem dL_law_1294 : decode code 1294 = .ok (.invokevirtual 176, 3) := by decide +kernel
theorem dL_law_1297 : decode code 1297 = .ok (.aload_n 2, 1) := by decide +kernel
theorem dL_law_1298 : decode code 1298 = .ok (.invokevirtual 179, 3) := by decide +kernel
theorem dL_law_1301 : decode code 1301 = .ok (.if_icmp .eq 77, 3) := by decide +kernel
theorem dL_law_1306 : decode code 1306 = .ok (.aload_n 1, 1) := by decide +kernel
theorem dL_law_1307 : decode code 1307 = .ok (.invokevirtual 180, 3) := by decide +kernel
theorem dL_law_1310 : decode code 1310 = .ok (.aload_n 2, 1) := by decide +kernel
theorem dL_law_1311 : decode code 1311 = .ok (.invokevirtual 183, 3) := by decide +kernel
theorem dL_law_1314 : decode code 1314 = .ok (.if_icmp .eq 64, 3) := by decide +kernel
theorem dL_law_1319 : decode code 1319 = .ok (.aload_n 1, 1) := by decide +kernel
theorem dL_law_1320 : decode code 1320 = .ok (.invokevirtual 184, 3) := by decide +kernel
theorem dL_law_1323 : decode code 1323 = .ok (.aload_n 2, 1) := by decide +kernel
theorem dL_law_1324 : decode code 1324 = .ok (.invokevirtual 187, 3) := by decide +kernel
theorem dL_law_1327 : decode code 1327 = .ok (.if_icmp .eq 51, 3) := by decide +kernel
theorem dL_law_1332 : decode code 1332 = .ok (.aload_n 1, 1) := by decide +kernel
theorem dL_law_1333 : decode code 1333 = .ok (.aload_n 0, 1) := by decide +kernel
theorem dL_law_1334 : decode code 1334 = .ok (.iload_n 3, 1) := by decide +kernel
theorem dL_law_1335 : decode code 1335 = .ok (.iconst 1, 1) := by decide +kernel
theorem dL_law_1336 : decode code 1336 = .ok (.iadd, 1) := by decide +kernel
theorem dL_law_1337 : decode code 1337 = .ok (.iaload, 1) := by decide +kernel
theorem dL_law_1338 : decode code 1338 = .ok (.invokevirtual 188, 3) := by decide +kernel
theorem dL_law_1341 : decode code 1341 = .ok (.aload_n 2, 1) := by decide +kernel
theorem dL_law_1342 : decode code 1342 = .ok (.aload_n 0, 1) := by decide +kernel
theorem dL_law_1343 : decode code 1343 = .ok (.iload_n 3, 1) := by decide +kernel
theorem dL_law_1344 : decode code 1344 = .ok (.iconst 1, 1) := by decide +kernel
theorem dL_law_1345 : decode code 1345 = .ok (.iadd, 1) := by decide +kernel
theorem dL_law_1346 : decode code 1346 = .ok (.iaload, 1) := by decide +kernel
theorem dL_law_1347 : decode code 1347 = .ok (.invokevirtual 191, 3) := by decide +kernel
theorem dL_law_1350 : decode code 1350 = .ok (.if_icmp .eq 28, 3) := by decide +kernel
theorem twl_289 : Cond.methodLink R_law 168 yX6_book ∈ Tg := tg_tab (List.mem_of_getElem? (i := 758) (by decide +kernel)) (by decide +kernel)
theorem twl_290 : Cond.code yX6_book cX6_book 6 (some .int) ∈ Tg := tg_tab (List.mem_of_getElem? (i := 761) (by decide +kernel)) (by decide +kernel)
theorem twl_291 : Cond.instanceMethod yX6_book ∈ Tg := tg_tab (List.mem_of_getElem? (i := 759) (by decide +kernel)) (by decide +kernel)
theorem twl_292 : Cond.selects RX6 yX6_book yX6_book ∈ Tg := tg_tab (List.mem_of_getElem? (i := 760) (by decide +kernel)) (by decide +kernel)
theorem twl_293 : Cond.methodLink R_law 171 yX7_book ∈ Tg := tg_tab (List.mem_of_getElem? (i := 1260) (by decide +kernel)) (by decide +kernel)
theorem twl_294 : Cond.code yX7_book cX7_book 3 (some .int) ∈ Tg := tg_tab (List.mem_of_getElem? (i := 1263) (by decide +kernel)) (by decide +kernel)
theorem twl_295 : Cond.instanceMethod yX7_book ∈ Tg := tg_tab (List.mem_of_getElem? (i := 1261) (by decide +kernel)) (by decide +kernel)
theorem twl_296 : Cond.selects RX7 yX7_book yX7_book ∈ Tg := tg_tab (List.mem_of_getElem? (i := 1262) (by decide +kernel)) (by decide +kernel)
theorem twl_297 : Cond.methodLink R_law 172 yX6_read ∈ Tg := tg_tab (List.mem_of_getElem? (i := 763) (by decide +kernel)) (by decide +kernel)
theorem twl_298 : Cond.code yX6_read cX6_read 4 (some .long) ∈ Tg := tg_tab (List.mem_of_getElem? (i := 766) (by decide +kernel)) (by decide +kernel)
theorem twl_299 : Cond.instanceMethod yX6_read ∈ Tg := tg_tab (List.mem_of_getElem? (i := 764) (by decide +kernel)) (by decide +kernel)
theorem twl_300 : Cond.selects RX6 yX6_read yX6_read ∈ Tg := tg_tab (List.mem_of_getElem? (i := 765) (by decide +kernel)) (by decide +kernel)
theorem twl_301 : Cond.methodLink R_law 175 yX7_read ∈ Tg := tg_tab (List.mem_of_getElem? (i := 1264) (by decide +kernel)) (by decide +kernel)
theorem twl_302 : Cond.code yX7_read cX7_read 9 (some .long) ∈ Tg := tg_tab (List.mem_of_getElem? (i := 1267) (by decide +kernel)) (by decide +kernel)
theorem twl_303 : Cond.instanceMethod yX7_read ∈ Tg := tg_tab (List.mem_of_getElem? (i := 1265) (by decide +kernel)) (by decide +kernel)
theorem twl_304 : Cond.selects RX7 yX7_read yX7_read ∈ Tg := tg_tab (List.mem_of_getElem? (i := 1266) (by decide +kernel)) (by decide +kernel)
theorem twl_305 : Cond.methodLink R_law 176 yX6_image ∈ Tg := tg_tab (List.mem_of_getElem? (i := 771) (by decide +kernel)) (by decide +kernel)
theorem twl_306 : Cond.code yX6_image cX6_image 1 (some .int) ∈ Tg := tg_tab (List.mem_of_getElem? (i := 774) (by decide +kernel)) (by decide +kernel)
theorem twl_307 : Cond.instanceMethod yX6_image ∈ Tg := tg_tab (List.mem_of_getElem? (i := 772) (by decide +kernel)) (by decide +kernel)
theorem twl_308 : Cond.selects RX6 yX6_image yX6_image ∈ Tg := tg_tab (List.mem_of_getElem? (i := 773) (by decide +kernel)) (by decide +kernel)
theorem twl_309 : Cond.methodLink R_law 179 yX7_image ∈ Tg := tg_tab (List.mem_of_getElem? (i := 1268) (by decide +kernel)) (by decide +kernel)
theorem twl_310 : Cond.code yX7_image cX7_image 1 (some .int) ∈ Tg := tg_tab (List.mem_of_getElem? (i := 1271) (by decide +kernel)) (by decide +kernel)
theorem twl_311 : Cond.instanceMethod yX7_image ∈ Tg := tg_tab (List.mem_of_getElem? (i := 1269) (by decide +kernel)) (by decide +kernel)
theorem twl_312 : Cond.selects RX7 yX7_image yX7_image ∈ Tg := tg_tab (List.mem_of_getElem? (i := 1270) (by decide +kernel)) (by decide +kernel)
theorem twl_313 : Cond.methodLink R_law 180 yX6_undo ∈ Tg := tg_tab (List.mem_of_getElem? (i := 775) (by decide +kernel)) (by decide +kernel)
theorem twl_314 : Cond.code yX6_undo cX6_undo 1 (some .int) ∈ Tg := tg_tab (List.mem_of_getElem? (i := 778) (by decide +kernel)) (by decide +kernel)
theorem twl_315 : Cond.instanceMethod yX6_undo ∈ Tg := tg_tab (List.mem_of_getElem? (i := 776) (by decide +kernel)) (by decide +kernel)
theorem twl_316 : Cond.selects RX6 yX6_undo yX6_undo ∈ Tg := tg_tab (List.mem_of_getElem? (i := 777) (by decide +kernel)) (by decide +kernel)
theorem twl_317 : Cond.methodLink R_law 183 yX7_undo ∈ Tg := tg_tab (List.mem_of_getElem? (i := 1272) (by decide +kernel)) (by decide +kernel)
theorem twl_318 : Cond.code yX7_undo cX7_undo 1 (some .int) ∈ Tg := tg_tab (List.mem_of_getElem? (i := 1275) (by decide +kernel)) (by decide +kernel)
theorem twl_319 : Cond.instanceMethod yX7_undo ∈ Tg := tg_tab (List.mem_of_getElem? (i := 1273) (by decide +kernel)) (by decide +kernel)
theorem twl_320 : Cond.selects RX7 yX7_undo yX7_undo ∈ Tg := tg_tab (List.mem_of_getElem? (i := 1274) (by decide +kernel)) (by decide +kernel)
theorem twl_321 : Cond.methodLink R_law 184 yX6_tear ∈ Tg := tg_tab (List.mem_of_getElem? (i := 779) (by decide +kernel)) (by decide +kernel)
theorem twl_322 : Cond.code yX6_tear cX6_tear 2 (some .int) ∈ Tg := tg_tab (List.mem_of_getElem? (i := 782) (by decide +kernel)) (by decide +kernel)
theorem twl_323 : Cond.instanceMethod yX6_tear ∈ Tg := tg_tab (List.mem_of_getElem? (i := 780) (by decide +kernel)) (by decide +kernel)
theorem twl_324 : Cond.selects RX6 yX6_tear yX6_tear ∈ Tg := tg_tab (List.mem_of_getElem? (i := 781) (by decide +kernel)) (by decide +kernel)
theorem twl_325 : Cond.methodLink R_law 187 yX7_tear ∈ Tg := tg_tab (List.mem_of_getElem? (i := 1276) (by decide +kernel)) (by decide +kernel)
theorem twl_326 : Cond.code yX7_tear cX7_tear 2 (some .int) ∈ Tg := tg_tab (List.mem_of_getElem? (i := 1279) (by decide +kernel)) (by decide +kernel)
theorem twl_327 : Cond.instanceMethod yX7_tear ∈ Tg := tg_tab (List.mem_of_getElem? (i := 1277) (by decide +kernel)) (by decide +kernel)
theorem twl_328 : Cond.selects RX7 yX7_tear yX7_tear ∈ Tg := tg_tab (List.mem_of_getElem? (i := 1278) (by decide +kernel)) (by decide +kernel)
theorem twl_329 : Cond.methodLink R_law 188 yX6_count ∈ Tg := tg_tab (List.mem_of_getElem? (i := 783) (by decide +kernel)) (by decide +kernel)
theorem twl_330 : Cond.code yX6_count cX6_count 2 (some .int) ∈ Tg := tg_tab (List.mem_of_getElem? (i := 786) (by decide +kernel)) (by decide +kernel)
theorem twl_331 : Cond.instanceMethod yX6_count ∈ Tg := tg_tab (List.mem_of_getElem? (i := 784) (by decide +kernel)) (by decide +kernel)
theorem twl_332 : Cond.selects RX6 yX6_count yX6_count ∈ Tg := tg_tab (List.mem_of_getElem? (i := 785) (by decide +kernel)) (by decide +kernel)
theorem twl_333 : Cond.methodLink R_law 191 yX7_count ∈ Tg := tg_tab (List.mem_of_getElem? (i := 1280) (by decide +kernel)) (by decide +kernel)
theorem twl_334 : Cond.code yX7_count cX7_count 2 (some .int) ∈ Tg := tg_tab (List.mem_of_getElem? (i := 1283) (by decide +kernel)) (by decide +kernel)
theorem twl_335 : Cond.instanceMethod yX7_count ∈ Tg := tg_tab (List.mem_of_getElem? (i := 1281) (by decide +kernel)) (by decide +kernel)
theorem twl_336 : Cond.selects RX7 yX7_count yX7_count ∈ Tg := tg_tab (List.mem_of_getElem? (i := 1282) (by decide +kernel)) (by decide +kernel)
theorem lc_36 {L : Nat} {xs : Nat → Int32} {i : Nat} (hL : L ≤ 3072) (hi : i + 6 ≤ L) {σ : St} (I : Inv σ) (nxt : ∀ σ2, Inv σ2 → Lw L xs 1378 (lsL i) [] σ2) : Lw L xs 1246 (lsL i) [] σ := by
  refine L_aload_n dL_law_1246 rfl (by decide) ?_
  refine L_arg (k := 1) dL_law_1247 dL_law_1248 dL_law_1249 dL_law_1250 dL_law_1251 (by decide) hL (by omega) ?_
  refine L_callV (n := 1) (k := 0) (ci := 6) (rest := []) (R' := rmX6_book) dL_law_1252 ⟨twl_289, tw_141, twl_290, by decide +kernel, by decide +kernel, by decide +kernel⟩ twl_291 (by decide) (by decide) rfl twl_292 ⟨rfl, rfl, Nat.le_of_ble_eq_true rfl, Nat.le_of_ble_eq_true rfl⟩ rfl rfl (Nat.le_of_ble_eq_true rfl) (mt_X6_book _ σ _ (pp_book I _)) (fun r σ1 q => ?_)
  obtain ⟨x, rfl, q⟩ := q
  refine L_aload_n dL_law_1255 rfl (by decide) ?_
  refine L_arg (k := 1) dL_law_1256 dL_law_1257 dL_law_1258 dL_law_1259 dL_law_1260 (by decide) hL (by omega) ?_
  refine L_callV (n := 1) (k := 49) (ci := 7) (rest := [.int x]) (R' := rmX7_book) dL_law_1261 ⟨twl_293, tw_454, twl_294, by decide +kernel, by decide +kernel, by decide +kernel⟩ twl_295 (by decide) (by decide) rfl twl_296 ⟨rfl, rfl, Nat.le_of_ble_eq_true rfl, Nat.le_of_ble_eq_true rfl⟩ rfl rfl (Nat.le_of_ble_eq_true rfl) (mt_X7_book _ σ1 _ q) (fun r σ2 q => ?_)
  obtain ⟨y, rfl, q, J⟩ := q
  exact L_icmp_eq 1378 dL_law_1264 (by decide) (fun _ => nxt σ2 J) (fun z => absurd q z)
theorem lc_37 {L : Nat} {xs : Nat → Int32} {i : Nat} (hL : L ≤ 3072) (hi : i + 6 ≤ L) {σ : St} (I : Inv σ) (nxt : ∀ σ2, Inv σ2 → Lw L xs 1378 (lsL i) [] σ2) : Lw L xs 1269 (lsL i) [] σ := by
  refine L_aload_n dL_law_1269 rfl (by decide) ?_
  refine L_arg (k := 1) dL_law_1270 dL_law_1271 dL_law_1272 dL_law_1273 dL_law_1274 (by decide) hL (by omega) ?_
  refine L_callV (n := 1) (k := 0) (ci := 6) (rest := []) (R' := rmX6_read) dL_law_1275 ⟨twl_297, tw_141, twl_298, by decide +kernel, by decide +kernel, by decide +kernel⟩ twl_299 (by decide) (by decide) rfl twl_300 ⟨rfl, rfl, Nat.le_of_ble_eq_true rfl, Nat.le_of_ble_eq_true rfl⟩ rfl rfl (Nat.le_of_ble_eq_true rfl) (mt_X6_read _ σ _ (pp_read I _)) (fun r σ1 q => ?_)
  obtain ⟨x, rfl, q⟩ := q
  refine L_aload_n dL_law_1278 rfl (by decide) ?_
  refine L_arg (k := 1) dL_law_1279 dL_law_1280 dL_law_1281 dL_law_1282 dL_law_1283 (by decide) hL (by omega) ?_
  refine L_callV (n := 1) (k := 49) (ci := 7) (rest := [.long x]) (R' := rmX7_read) dL_law_1284 ⟨twl_301, tw_454, twl_302, by decide +kernel, by decide +kernel, by decide +kernel⟩ twl_303 (by decide) (by decide) rfl twl_304 ⟨rfl, rfl, Nat.le_of_ble_eq_true rfl, Nat.le_of_ble_eq_true rfl⟩ rfl rfl (Nat.le_of_ble_eq_true rfl) (mt_X7_read _ σ1 _ q) (fun r σ2 q => ?_)
  obtain ⟨y, rfl, q, J⟩ := q
  refine L_lcmp dL_law_1287 ?_
  exact L_if_eq 1378 dL_law_1288 (by decide) (fun _ => nxt σ2 J) (fun z => absurd ((lg_cmp_eq _ _).mpr q) z)
theorem lc_38 {L : Nat} {xs : Nat → Int32} {i : Nat} (hL : L ≤ 3072) (hi : i + 6 ≤ L) {σ : St} (I : Inv σ) (nxt : ∀ σ2, Inv σ2 → Lw L xs 1378 (lsL i) [] σ2) : Lw L xs 1293 (lsL i) [] σ := by
  refine L_aload_n dL_law_1293 rfl (by decide) ?_
  refine L_callV (n := 0) (k := 0) (ci := 6) (rest := []) (R' := rmX6_image) dL_law_1294 ⟨twl_305, tw_141, twl_306, by decide +kernel, by decide +kernel, by decide +kernel⟩ twl_307 (by decide) (by decide) rfl twl_308 ⟨rfl, rfl, Nat.le_of_ble_eq_true rfl, Nat.le_of_ble_eq_true rfl⟩ rfl rfl (Nat.le_of_ble_eq_true rfl) (mt_X6_image  σ _ (pp_image I)) (fun r σ1 q => ?_)
  obtain ⟨x, rfl, q⟩ := q
  refine L_aload_n dL_law_1297 rfl (by decide) ?_
  refine L_callV (n := 0) (k := 49) (ci := 7) (rest := [.int x]) (R' := rmX7_image) dL_law_1298 ⟨twl_309, tw_454, twl_310, by decide +kernel, by decide +kernel, by decide +kernel⟩ twl_311 (by decide) (by decide) rfl twl_312 ⟨rfl, rfl, Nat.le_of_ble_eq_true rfl, Nat.le_of_ble_eq_true rfl⟩ rfl rfl (Nat.le_of_ble_eq_true rfl) (mt_X7_image  σ1 _ q) (fun r σ2 q => ?_)
  obtain ⟨y, rfl, q, J⟩ := q
  exact L_icmp_eq 1378 dL_law_1301 (by decide) (fun _ => nxt σ2 J) (fun z => absurd q z)
theorem lc_39 {L : Nat} {xs : Nat → Int32} {i : Nat} (hL : L ≤ 3072) (hi : i + 6 ≤ L) {σ : St} (I : Inv σ) (nxt : ∀ σ2, Inv σ2 → Lw L xs 1378 (lsL i) [] σ2) : Lw L xs 1306 (lsL i) [] σ := by
  refine L_aload_n dL_law_1306 rfl (by decide) ?_
  refine L_callV (n := 0) (k := 0) (ci := 6) (rest := []) (R' := rmX6_undo) dL_law_1307 ⟨twl_313, tw_141, twl_314, by decide +kernel, by decide +kernel, by decide +kernel⟩ twl_315 (by decide) (by decide) rfl twl_316 ⟨rfl, rfl, Nat.le_of_ble_eq_true rfl, Nat.le_of_ble_eq_true rfl⟩ rfl rfl (Nat.le_of_ble_eq_true rfl) (mt_X6_undo  σ _ (pp_undo I)) (fun r σ1 q => ?_)
  obtain ⟨x, rfl, q⟩ := q
  refine L_aload_n dL_law_1310 rfl (by decide) ?_
  refine L_callV (n := 0) (k := 49) (ci := 7) (rest := [.int x]) (R' := rmX7_undo) dL_law_1311 ⟨twl_317, tw_454, twl_318, by decide +kernel, by decide +kernel, by decide +kernel⟩ twl_319 (by decide) (by decide) rfl twl_320 ⟨rfl, rfl, Nat.le_of_ble_eq_true rfl, Nat.le_of_ble_eq_true rfl⟩ rfl rfl (Nat.le_of_ble_eq_true rfl) (mt_X7_undo  σ1 _ q) (fun r σ2 q => ?_)
  obtain ⟨y, rfl, q, J⟩ := q
  exact L_icmp_eq 1378 dL_law_1314 (by decide) (fun _ => nxt σ2 J) (fun z => absurd q z)
theorem lc_40 {L : Nat} {xs : Nat → Int32} {i : Nat} (hL : L ≤ 3072) (hi : i + 6 ≤ L) {σ : St} (I : Inv σ) (nxt : ∀ σ2, Inv σ2 → Lw L xs 1378 (lsL i) [] σ2) : Lw L xs 1319 (lsL i) [] σ := by
  refine L_aload_n dL_law_1319 rfl (by decide) ?_
  refine L_callV (n := 0) (k := 0) (ci := 6) (rest := []) (R' := rmX6_tear) dL_law_1320 ⟨twl_321, tw_141, twl_322, by decide +kernel, by decide +kernel, by decide +kernel⟩ twl_323 (by decide) (by decide) rfl twl_324 ⟨rfl, rfl, Nat.le_of_ble_eq_true rfl, Nat.le_of_ble_eq_true rfl⟩ rfl rfl (Nat.le_of_ble_eq_true rfl) (mt_X6_tear  σ _ (pp_tear I)) (fun r σ1 q => ?_)
  obtain ⟨x, rfl, q⟩ := q
  refine L_aload_n dL_law_1323 rfl (by decide) ?_
  refine L_callV (n := 0) (k := 49) (ci := 7) (rest := [.int x]) (R' := rmX7_tear) dL_law_1324 ⟨twl_325, tw_454, twl_326, by decide +kernel, by decide +kernel, by decide +kernel⟩ twl_327 (by decide) (by decide) rfl twl_328 ⟨rfl, rfl, Nat.le_of_ble_eq_true rfl, Nat.le_of_ble_eq_true rfl⟩ rfl rfl (Nat.le_of_ble_eq_true rfl) (mt_X7_tear  σ1 _ q) (fun r σ2 q => ?_)
  obtain ⟨y, rfl, q, J⟩ := q
  exact L_icmp_eq 1378 dL_law_1327 (by decide) (fun _ => nxt σ2 J) (fun z => absurd q z)
theorem lc_41 {L : Nat} {xs : Nat → Int32} {i : Nat} (hL : L ≤ 3072) (hi : i + 6 ≤ L) {σ : St} (I : Inv σ) (nxt : ∀ σ2, Inv σ2 → Lw L xs 1378 (lsL i) [] σ2) : Lw L xs 1332 (lsL i) [] σ := by
  refine L_aload_n dL_law_1332 rfl (by decide) ?_
  refine L_arg (k := 1) dL_law_1333 dL_law_1334 dL_law_1335 dL_law_1336 dL_law_1337 (by decide) hL (by omega) ?_
  refine L_callV (n := 1) (k := 0) (ci := 6) (rest := []) (R' := rmX6_count) dL_law_1338 ⟨twl_329, tw_141, twl_330, by decide +kernel, by decide +kernel, by decide +kernel⟩ twl_331 (by decide) (by decide) rfl twl_332 ⟨rfl, rfl, Nat.le_of_ble_eq_true rfl, Nat.le_of_ble_eq_true rfl⟩ rfl rfl (Nat.le_of_ble_eq_true rfl) (mt_X6_count _ σ _ (pp_count I _)) (fun r σ1 q => ?_)
  obtain ⟨x, rfl, q⟩ := q
  refine L_aload_n dL_law_1341 rfl (by decide) ?_
  refine L_arg (k := 1) dL_law_1342 dL_law_1343 dL_law_1344 dL_law_1345 dL_law_1346 (by decide) hL (by omega) ?_
  refine L_callV (n := 1) (k := 49) (ci := 7) (rest := [.int x]) (R' := rmX7_count) dL_law_1347 ⟨twl_333, tw_454, twl_334, by decide +kernel, by decide +kernel, by decide +kernel⟩ twl_335 (by decide) (by decide) rfl twl_336 ⟨rfl, rfl, Nat.le_of_ble_eq_true rfl, Nat.le_of_ble_eq_true rfl⟩ rfl rfl (Nat.le_of_ble_eq_true rfl) (mt_X7_count _ σ1 _ q) (fun r σ2 q => ?_)
  obtain ⟨y, rfl, q, J⟩ := q
  exact L_icmp_eq 1378 dL_law_1350 (by decide) (fun _ => nxt σ2 J) (fun z => absurd q z)
