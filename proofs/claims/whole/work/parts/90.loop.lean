/-! THE LAW'S LOOP (printed by wip/whole/loop.py): from any standing of the two, for every script, the law comes to its end with true -/
theorem dL_law_0 : decode code 0 = .ok (.new 7, 3) := by decide +kernel
theorem dL_law_3 : decode code 3 = .ok (.dup, 1) := by decide +kernel
theorem dL_law_4 : decode code 4 = .ok (.invokespecial 9, 3) := by decide +kernel
theorem dL_law_7 : decode code 7 = .ok (.astore_n 1, 1) := by decide +kernel
theorem dL_law_8 : decode code 8 = .ok (.new 10, 3) := by decide +kernel
theorem dL_law_11 : decode code 11 = .ok (.dup, 1) := by decide +kernel
theorem dL_law_12 : decode code 12 = .ok (.invokespecial 12, 3) := by decide +kernel
theorem dL_law_15 : decode code 15 = .ok (.astore_n 2, 1) := by decide +kernel
theorem dL_law_16 : decode code 16 = .ok (.iconst 0, 1) := by decide +kernel
theorem dL_law_17 : decode code 17 = .ok (.istore_n 3, 1) := by decide +kernel
theorem dL_law_18 : decode code 18 = .ok (.iload_n 3, 1) := by decide +kernel
theorem dL_law_19 : decode code 19 = .ok (.aload_n 0, 1) := by decide +kernel
theorem dL_law_20 : decode code 20 = .ok (.arraylength, 1) := by decide +kernel
theorem dL_law_21 : decode code 21 = .ok (.bipush 6, 2) := by decide +kernel
theorem dL_law_23 : decode code 23 = .ok (.isub, 1) := by decide +kernel
theorem dL_law_24 : decode code 24 = .ok (.if_icmp .gt 1360, 3) := by decide +kernel
theorem dL_law_27 : decode code 27 = .ok (.aload_n 0, 1) := by decide +kernel
theorem dL_law_28 : decode code 28 = .ok (.iload_n 3, 1) := by decide +kernel
theorem dL_law_29 : decode code 29 = .ok (.iaload, 1) := by decide +kernel
theorem dL_law_30 : decode code 30 = .ok (.bipush 63, 2) := by decide +kernel
theorem dL_law_32 : decode code 32 = .ok (.iand, 1) := by decide +kernel
theorem dL_law_33 : decode code 33 = .ok (.tableswitch 1345 0 42 #[187, 230, 263, 306, 359, 402, 445, 478, 501, 550, 573, 596, 619, 632, 655, 668, 681, 705, 728, 751, 774, 787, 810, 833, 866, 889, 902, 915, 938, 951, 984, 997, 1010, 1053, 1127, 1190, 1213, 1236, 1260, 1273, 1286, 1299, 1322], 187) := by decide +kernel
theorem dL_law_1378 : decode code 1378 = .ok (.iinc 3 6, 3) := by decide +kernel
theorem dL_law_1381 : decode code 1381 = .ok (.goto (-1363), 3) := by decide +kernel
theorem dL_law_1384 : decode code 1384 = .ok (.iconst 1, 1) := by decide +kernel
theorem dL_law_1385 : decode code 1385 = .ok (.ireturn, 1) := by decide +kernel
def tgL : List (Int32 × Nat) := [(nI 0, 220), (nI 1, 263), (nI 2, 296), (nI 3, 339), (nI 4, 392), (nI 5, 435), (nI 6, 478), (nI 7, 511), (nI 8, 534), (nI 9, 583), (nI 10, 606), (nI 11, 629), (nI 12, 652), (nI 13, 665), (nI 14, 688), (nI 15, 701), (nI 16, 714), (nI 17, 738), (nI 18, 761), (nI 19, 784), (nI 20, 807), (nI 21, 820), (nI 22, 843), (nI 23, 866), (nI 24, 899), (nI 25, 922), (nI 26, 935), (nI 27, 948), (nI 28, 971), (nI 29, 984), (nI 30, 1017), (nI 31, 1030), (nI 32, 1043), (nI 33, 1086), (nI 34, 1160), (nI 35, 1223), (nI 36, 1246), (nI 37, 1269), (nI 38, 1293), (nI 39, 1306), (nI 40, 1319), (nI 41, 1332), (nI 42, 1355)]
theorem lc_all {L : Nat} {xs : Nat → Int32} {i : Nat} (hL : L ≤ 3072) (hi : i + 6 ≤ L) {σ : St} (I : Inv σ) (nxt : ∀ σ2, Inv σ2 → Lw L xs 1378 (lsL i) [] σ2) : ∀ q ∈ tgL, Lw L xs q.2 (lsL i) [] σ :=
  List.forall_mem_cons.mpr ⟨lc_0 hL hi I nxt, List.forall_mem_cons.mpr ⟨lc_1 hL hi I nxt, List.forall_mem_cons.mpr ⟨lc_2 hL hi I nxt, List.forall_mem_cons.mpr ⟨lc_3 hL hi I nxt, List.forall_mem_cons.mpr ⟨lc_4 hL hi I nxt, List.forall_mem_cons.mpr ⟨lc_5 hL hi I nxt, List.forall_mem_cons.mpr ⟨lc_6 hL hi I nxt, List.forall_mem_cons.mpr ⟨lc_7 hL hi I nxt, List.forall_mem_cons.mpr ⟨lc_8 hL hi I nxt, List.forall_mem_cons.mpr ⟨lc_9 hL hi I nxt, List.forall_mem_cons.mpr ⟨lc_10 hL hi I nxt, List.forall_mem_cons.mpr ⟨lc_11 hL hi I nxt, List.forall_mem_cons.mpr ⟨lc_12 hL hi I nxt, List.forall_mem_cons.mpr ⟨lc_13 hL hi I nxt, List.forall_mem_cons.mpr ⟨lc_14 hL hi I nxt, List.forall_mem_cons.mpr ⟨lc_15 hL hi I nxt, List.forall_mem_cons.mpr ⟨lc_16 hL hi I nxt, List.forall_mem_cons.mpr ⟨lc_17 hL hi I nxt, List.forall_mem_cons.mpr ⟨lc_18 hL hi I nxt, List.forall_mem_cons.mpr ⟨lc_19 hL hi I nxt, List.forall_mem_cons.mpr ⟨lc_20 hL hi I nxt, List.forall_mem_cons.mpr ⟨lc_21 hL hi I nxt, List.forall_mem_cons.mpr ⟨lc_22 hL hi I nxt, List.forall_mem_cons.mpr ⟨lc_23 hL hi I nxt, List.forall_mem_cons.mpr ⟨lc_24 hL hi I nxt, List.forall_mem_cons.mpr ⟨lc_25 hL hi I nxt, List.forall_mem_cons.mpr ⟨lc_26 hL hi I nxt, List.forall_mem_cons.mpr ⟨lc_27 hL hi I nxt, List.forall_mem_cons.mpr ⟨lc_28 hL hi I nxt, List.forall_mem_cons.mpr ⟨lc_29 hL hi I nxt, List.forall_mem_cons.mpr ⟨lc_30 hL hi I nxt, List.forall_mem_cons.mpr ⟨lc_31 hL hi I nxt, List.forall_mem_cons.mpr ⟨lc_32 hL hi I nxt, List.forall_mem_cons.mpr ⟨lc_33 hL hi I nxt, List.forall_mem_cons.mpr ⟨lc_34 hL hi I nxt, List.forall_mem_cons.mpr ⟨lc_35 hL hi I nxt, List.forall_mem_cons.mpr ⟨lc_36 hL hi I nxt, List.forall_mem_cons.mpr ⟨lc_37 hL hi I nxt, List.forall_mem_cons.mpr ⟨lc_38 hL hi I nxt, List.forall_mem_cons.mpr ⟨lc_39 hL hi I nxt, List.forall_mem_cons.mpr ⟨lc_40 hL hi I nxt, List.forall_mem_cons.mpr ⟨lc_41 hL hi I nxt, List.forall_mem_cons.mpr ⟨lc_42 hL hi I nxt, fun _ h => absurd h List.not_mem_nil⟩⟩⟩⟩⟩⟩⟩⟩⟩⟩⟩⟩⟩⟩⟩⟩⟩⟩⟩⟩⟩⟩⟩⟩⟩⟩⟩⟩⟩⟩⟩⟩⟩⟩⟩⟩⟩⟩⟩⟩⟩⟩⟩
theorem lw_loop {L : Nat} {xs : Nat → Int32} (hL : L ≤ 3072) : ∀ (n i : Nat), L ≤ i + n → i ≤ 4096 → ∀ σ, Inv σ → Lw L xs 18 (lsL i) [] σ := by
  intro n
  induction n with
  | zero =>
    intro i h1 h2 σ I
    refine L_iload_n dL_law_18 rfl (L_aload_n dL_law_19 rfl (by decide) (L_slen dL_law_20 (L_bipush (v := nI 6) dL_law_21 (by decide) (L_isub dL_law_23 (L_icmp_gt 1384 dL_law_24 (by decide) (fun _ => L_end dL_law_1384 dL_law_1385) (fun z => absurd ?_ z))))))
    by_cases c : 6 ≤ L
    · rw [pk_sub c]; exact nI_lt (by omega) (by omega)
    · exact Int32.lt_of_lt_of_le (pk_sneg (by omega) (by omega)) (nI_pos' (by omega))
  | succ n ih =>
    intro i h1 h2 σ I
    refine L_iload_n dL_law_18 rfl (L_aload_n dL_law_19 rfl (by decide) (L_slen dL_law_20 (L_bipush (v := nI 6) dL_law_21 (by decide) (L_isub dL_law_23 (L_icmp_gt 1384 dL_law_24 (by decide) (fun _ => L_end dL_law_1384 dL_law_1385) (fun z => ?_))))))
    have c : 6 ≤ L := by
      by_cases c : 6 ≤ L
      · exact c
      · exact absurd (Int32.lt_of_lt_of_le (pk_sneg (by omega) (by omega)) (nI_pos' (by omega))) z
    rw [pk_sub c] at z
    have hi : i + 6 ≤ L := by
      by_cases d : i + 6 ≤ L
      · exact d
      · exact absurd (nI_lt (by omega) (by omega)) z
    have nxt : ∀ σ2, Inv σ2 → Lw L xs 1378 (lsL i) [] σ2 := fun σ2 I2 =>
      L_iinc (x := nI i) (v := nI (i + 6)) dL_law_1378 rfl (nI_add i 6) (by decide) rfl (L_goto 18 dL_law_1381 (by decide) (ih (i + 6) (by omega) (by omega) σ2 I2))
    refine L_aload_n dL_law_27 rfl (by decide) (L_iload_n dL_law_28 rfl (L_sld dL_law_29 (in_I (by omega) (by omega)) (L_bipush (v := nI 63) dL_law_30 (by decide) (L_iand dL_law_32 ?_))))
    exact L_tsw tgL 1378 dL_law_33 (by decide) (by decide) (by decide +kernel) (by decide +kernel) (fun q hq _ => lc_all hL hi I nxt q hq) (nxt σ I)
