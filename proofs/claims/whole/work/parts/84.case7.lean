/-! THE LAW: cases 42 to 42 (printed by wip/whole/law.py) -/
theorem dL_law_1355 : decode code 1355 = .ok (.aload_n 1, 1) := by decide +kernel
theorem dL_law_1356 : decode code 1356 = .ok (.aload_n 0, 1) := by decide +kernel
theorem dL_law_1357 : decode code 1357 = .ok (.iload_n 3, 1) := by decide +kernel
theorem dL_law_1358 : decode code 1358 = .ok (.iconst 1, 1) := by decide +kernel
theorem dL_law_1359 : decode code 1359 = .ok (.iadd, 1) := by decide +kernel
theorem dL_law_1360 : decode code 1360 = .ok (.iaload, 1) := by decide +kernel
theorem dL_law_1361 : decode code 1361 = .ok (.invokevirtual 192, 3) := by decide +kernel
theorem dL_law_1364 : decode code 1364 = .ok (.aload_n 2, 1) := by decide +kernel
theorem dL_law_1365 : decode code 1365 = .ok (.aload_n 0, 1) := by decide +kernel
theorem dL_law_1366 : decode code 1366 = .ok (.iload_n 3, 1) := by decide +kernel
theorem dL_law_1367 : decode code 1367 = .ok (.iconst 1, 1) := by decide +kernel
theorem dL_law_1368 : decode code 1368 = .ok (.iadd, 1) := by decide +kernel
theorem dL_law_1369 : decode code 1369 = .ok (.iaload, 1) := by decide +kernel
theorem dL_law_1370 : decode code 1370 = .ok (.invokevirtual 195, 3) := by decide +kernel
theorem dL_law_1373 : decode code 1373 = .ok (.if_icmp .eq 5, 3) := by decide +kernel
theorem twl_337 : Cond.methodLink R_law 192 yX6_status ∈ Tg := tg_tab (List.mem_of_getElem? (i := 792) (by decide +kernel)) (by decide +kernel)
theorem twl_338 : Cond.code yX6_status cX6_status 4 (some .int) ∈ Tg := tg_tab (List.mem_of_getElem? (i := 795) (by decide +kernel)) (by decide +kernel)
theorem twl_339 : Cond.instanceMethod yX6_status ∈ Tg := tg_tab (List.mem_of_getElem? (i := 793) (by decide +kernel)) (by decide +kernel)
theorem twl_340 : Cond.selects RX6 yX6_status yX6_status ∈ Tg := tg_tab (List.mem_of_getElem? (i := 794) (by decide +kernel)) (by decide +kernel)
theorem twl_341 : Cond.methodLink R_law 195 yX7_status ∈ Tg := tg_tab (List.mem_of_getElem? (i := 1284) (by decide +kernel)) (by decide +kernel)
theorem twl_342 : Cond.code yX7_status cX7_status 4 (some .int) ∈ Tg := tg_tab (List.mem_of_getElem? (i := 1287) (by decide +kernel)) (by decide +kernel)
theorem twl_343 : Cond.instanceMethod yX7_status ∈ Tg := tg_tab (List.mem_of_getElem? (i := 1285) (by decide +kernel)) (by decide +kernel)
theorem twl_344 : Cond.selects RX7 yX7_status yX7_status ∈ Tg := tg_tab (List.mem_of_getElem? (i := 1286) (by decide +kernel)) (by decide +kernel)
theorem lc_42 {L : Nat} {xs : Nat → Int32} {i : Nat} (hL : L ≤ 3072) (hi : i + 6 ≤ L) {σ : St} (I : Inv σ) (nxt : ∀ σ2, Inv σ2 → Lw L xs 1378 (lsL i) [] σ2) : Lw L xs 1355 (lsL i) [] σ := by
  refine L_aload_n dL_law_1355 rfl (by decide) ?_
  refine L_arg (k := 1) dL_law_1356 dL_law_1357 dL_law_1358 dL_law_1359 dL_law_1360 (by decide) hL (by omega) ?_
  refine L_callV (n := 1) (k := 0) (ci := 6) (rest := []) (R' := rmX6_status) dL_law_1361 ⟨twl_337, tw_141, twl_338, by decide +kernel, by decide +kernel, by decide +kernel⟩ twl_339 (by decide) (by decide) rfl twl_340 ⟨rfl, rfl, Nat.le_of_ble_eq_true rfl, Nat.le_of_ble_eq_true rfl⟩ rfl rfl (Nat.le_of_ble_eq_true rfl) (mt_X6_status _ σ _ (pp_status I _)) (fun r σ1 q => ?_)
  obtain ⟨x, rfl, q⟩ := q
  refine L_aload_n dL_law_1364 rfl (by decide) ?_
  refine L_arg (k := 1) dL_law_1365 dL_law_1366 dL_law_1367 dL_law_1368 dL_law_1369 (by decide) hL (by omega) ?_
  refine L_callV (n := 1) (k := 49) (ci := 7) (rest := [.int x]) (R' := rmX7_status) dL_law_1370 ⟨twl_341, tw_454, twl_342, by decide +kernel, by decide +kernel, by decide +kernel⟩ twl_343 (by decide) (by decide) rfl twl_344 ⟨rfl, rfl, Nat.le_of_ble_eq_true rfl, Nat.le_of_ble_eq_true rfl⟩ rfl rfl (Nat.le_of_ble_eq_true rfl) (mt_X7_status _ σ1 _ q) (fun r σ2 q => ?_)
  obtain ⟨y, rfl, q, J⟩ := q
  exact L_icmp_eq 1378 dL_law_1373 (by decide) (fun _ => nxt σ2 J) (fun z => absurd q z)
