/-! THE LAW: cases 12 to 17 (printed by wip/whole/law.py) -/
theorem dL_law_652 : decode code 652 = .ok (.aload_n 1, 1) := by decide +kernel
theorem dL_law_653 : decode code 653 = .ok (.invokevirtual 66, 3) := by decide +kernel
theorem dL_law_656 : decode code 656 = .ok (.aload_n 2, 1) := by decide +kernel
theorem dL_law_657 : decode code 657 = .ok (.invokevirtual 70, 3) := by decide +kernel
theorem dL_law_660 : decode code 660 = .ok (.if_icmp .eq 718, 3) := by decide +kernel
theorem dL_law_665 : decode code 665 = .ok (.aload_n 1, 1) := by decide +kernel
theorem dL_law_666 : decode code 666 = .ok (.aload_n 0, 1) := by decide +kernel
theorem dL_law_667 : decode code 667 = .ok (.iload_n 3, 1) := by decide +kernel
theorem dL_law_668 : decode code 668 = .ok (.iconst 1, 1) := by decide +kernel
theorem dL_law_669 : decode code 669 = .ok (.iadd, 1) := by decide +kernel
theorem dL_law_670 : decode code 670 = .ok (.iaload, 1) := by decide +kernel
theorem dL_law_671 : decode code 671 = .ok (.invokevirtual 71, 3) := by decide +kernel
theorem dL_law_674 : decode code 674 = .ok (.aload_n 2, 1) := by decide +kernel
theorem dL_law_675 : decode code 675 = .ok (.aload_n 0, 1) := by decide +kernel
theorem dL_law_676 : decode code 676 = .ok (.iload_n 3, 1) := by decide +kernel
theorem dL_law_677 : decode code 677 = .ok (.iconst 1, 1) := by decide +kernel
theorem dL_law_678 : decode code 678 = .ok (.iadd, 1) := by decide +kernel
theorem dL_law_679 : decode code 679 = .ok (.iaload, 1) := by decide +kernel
theorem dL_law_680 : decode code 680 = .ok (.invokevirtual 74, 3) := by decide +kernel
theorem dL_law_683 : decode code 683 = .ok (.if_icmp .eq 695, 3) := by decide +kernel
theorem dL_law_688 : decode code 688 = .ok (.aload_n 1, 1) := by decide +kernel
theorem dL_law_689 : decode code 689 = .ok (.invokevirtual 75, 3) := by decide +kernel
theorem dL_law_692 : decode code 692 = .ok (.aload_n 2, 1) := by decide +kernel
theorem dL_law_693 : decode code 693 = .ok (.invokevirtual 78, 3) := by decide +kernel
theorem dL_law_696 : decode code 696 = .ok (.if_icmp .eq 682, 3) := by decide +kernel
theorem dL_law_701 : decode code 701 = .ok (.aload_n 1, 1) := by decide +kernel
theorem dL_law_702 : decode code 702 = .ok (.invokevirtual 79, 3) := by decide +kernel
theorem dL_law_705 : decode code 705 = .ok (.aload_n 2, 1) := by decide +kernel
theorem dL_law_706 : decode code 706 = .ok (.invokevirtual 82, 3) := by decide +kernel
theorem dL_law_709 : decode code 709 = .ok (.if_icmp .eq 669, 3) := by decide +kernel
theorem dL_law_714 : decode code 714 = .ok (.aload_n 1, 1) := by decide +kernel
theorem dL_law_715 : decode code 715 = .ok (.aload_n 0, 1) := by decide +kernel
theorem dL_law_716 : decode code 716 = .ok (.iload_n 3, 1) := by decide +kernel
theorem dL_law_717 : decode code 717 = .ok (.iconst 1, 1) := by decide +kernel
theorem dL_law_718 : decode code 718 = .ok (.iadd, 1) := by decide +kernel
theorem dL_law_719 : decode code 719 = .ok (.iaload, 1) := by decide +kernel
theorem dL_law_720 : decode code 720 = .ok (.invokevirtual 83, 3) := by decide +kernel
theorem dL_law_723 : decode code 723 = .ok (.aload_n 2, 1) := by decide +kernel
theorem dL_law_724 : decode code 724 = .ok (.aload_n 0, 1) := by decide +kernel
theorem dL_law_725 : decode code 725 = .ok (.iload_n 3, 1) := by decide +kernel
theorem dL_law_726 : decode code 726 = .ok (.iconst 1, 1) := by decide +kernel
theorem dL_law_727 : decode code 727 = .ok (.iadd, 1) := by decide +kernel
theorem dL_law_728 : decode code 728 = .ok (.iaload, 1) := by decide +kernel
theorem dL_law_729 : decode code 729 = .ok (.invokevirtual 87, 3) := by decide +kernel
theorem dL_law_732 : decode code 732 = .ok (.lcmp, 1) := by decide +kernel
theorem dL_law_733 : decode code 733 = .ok (.ifCond .eq 645, 3) := by decide +kernel
theorem dL_law_738 : decode code 738 = .ok (.aload_n 1, 1) := by decide +kernel
theorem dL_law_739 : decode code 739 = .ok (.aload_n 0, 1) := by decide +kernel
theorem dL_law_740 : decode code 740 = .ok (.iload_n 3, 1) := by decide +kernel
theorem dL_law_741 : decode code 741 = .ok (.iconst 1, 1) := by decide +kernel
theorem dL_law_742 : decode code 742 = .ok (.iadd, 1) := by decide +kernel
theorem dL_law_743 : decode code 743 = .ok (.iaload, 1) := by decide +kernel
theorem dL_law_744 : decode code 744 = .ok (.invokevirtual 88, 3) := by decide +kernel
theorem dL_law_747 : decode code 747 = .ok (.aload_n 2, 1) := by decide +kernel
theorem dL_law_748 : decode code 748 = .ok (.aload_n 0, 1) := by decide +kernel
theorem dL_law_749 : decode code 749 = .ok (.iload_n 3, 1) := by decide +kernel
theorem dL_law_750 : decode code 750 = .ok (.iconst 1, 1) := by decide +kernel
theorem dL_law_751 : decode code 751 = .ok (.iadd, 1) := by decide +kernel
theorem dL_law_752 : decode code 752 = .ok (.iaload, 1) := by decide +kernel
theorem dL_law_753 : decode code 753 = .ok (.invokevirtual 91, 3) := by decide +kernel
theorem dL_law_756 : decode code 756 = .ok (.if_icmp .eq 622, 3) := by decide +kernel
theorem twl_96 : Cond.methodLink R_law 66 yX6_pulls ∈ Tg := tg_tab (List.mem_of_getElem? (i := 401) (by decide +kernel)) (by decide +kernel)
theorem twl_97 : Cond.code yX6_pulls cX6_pulls 3 (some .int) ∈ Tg := tg_tab (List.mem_of_getElem? (i := 404) (by decide +kernel)) (by decide +kernel)
theorem twl_98 : Cond.instanceMethod yX6_pulls ∈ Tg := tg_tab (List.mem_of_getElem? (i := 402) (by decide +kernel)) (by decide +kernel)
theorem twl_99 : Cond.selects RX6 yX6_pulls yX6_pulls ∈ Tg := tg_tab (List.mem_of_getElem? (i := 403) (by decide +kernel)) (by decide +kernel)
theorem twl_100 : Cond.methodLink R_law 70 yX7_pulls ∈ Tg := tg_tab (List.mem_of_getElem? (i := 1023) (by decide +kernel)) (by decide +kernel)
theorem twl_101 : Cond.code yX7_pulls cX7_pulls 3 (some .int) ∈ Tg := tg_tab (List.mem_of_getElem? (i := 1026) (by decide +kernel)) (by decide +kernel)
theorem twl_102 : Cond.instanceMethod yX7_pulls ∈ Tg := tg_tab (List.mem_of_getElem? (i := 1024) (by decide +kernel)) (by decide +kernel)
theorem twl_103 : Cond.selects RX7 yX7_pulls yX7_pulls ∈ Tg := tg_tab (List.mem_of_getElem? (i := 1025) (by decide +kernel)) (by decide +kernel)
theorem twl_104 : Cond.methodLink R_law 71 yX6_can ∈ Tg := tg_tab (List.mem_of_getElem? (i := 405) (by decide +kernel)) (by decide +kernel)
theorem twl_105 : Cond.code yX6_can cX6_can 2 (some .int) ∈ Tg := tg_tab (List.mem_of_getElem? (i := 408) (by decide +kernel)) (by decide +kernel)
theorem twl_106 : Cond.instanceMethod yX6_can ∈ Tg := tg_tab (List.mem_of_getElem? (i := 406) (by decide +kernel)) (by decide +kernel)
theorem twl_107 : Cond.selects RX6 yX6_can yX6_can ∈ Tg := tg_tab (List.mem_of_getElem? (i := 407) (by decide +kernel)) (by decide +kernel)
theorem twl_108 : Cond.methodLink R_law 74 yX7_can ∈ Tg := tg_tab (List.mem_of_getElem? (i := 1027) (by decide +kernel)) (by decide +kernel)
theorem twl_109 : Cond.code yX7_can cX7_can 2 (some .int) ∈ Tg := tg_tab (List.mem_of_getElem? (i := 1030) (by decide +kernel)) (by decide +kernel)
theorem twl_110 : Cond.instanceMethod yX7_can ∈ Tg := tg_tab (List.mem_of_getElem? (i := 1028) (by decide +kernel)) (by decide +kernel)
theorem twl_111 : Cond.selects RX7 yX7_can yX7_can ∈ Tg := tg_tab (List.mem_of_getElem? (i := 1029) (by decide +kernel)) (by decide +kernel)
theorem twl_112 : Cond.methodLink R_law 75 yX6_stands ∈ Tg := tg_tab (List.mem_of_getElem? (i := 450) (by decide +kernel)) (by decide +kernel)
theorem twl_113 : Cond.code yX6_stands cX6_stands 1 (some .int) ∈ Tg := tg_tab (List.mem_of_getElem? (i := 453) (by decide +kernel)) (by decide +kernel)
theorem twl_114 : Cond.instanceMethod yX6_stands ∈ Tg := tg_tab (List.mem_of_getElem? (i := 451) (by decide +kernel)) (by decide +kernel)
theorem twl_115 : Cond.selects RX6 yX6_stands yX6_stands ∈ Tg := tg_tab (List.mem_of_getElem? (i := 452) (by decide +kernel)) (by decide +kernel)
theorem twl_116 : Cond.methodLink R_law 78 yX7_stands ∈ Tg := tg_tab (List.mem_of_getElem? (i := 1047) (by decide +kernel)) (by decide +kernel)
theorem twl_117 : Cond.code yX7_stands cX7_stands 1 (some .int) ∈ Tg := tg_tab (List.mem_of_getElem? (i := 1050) (by decide +kernel)) (by decide +kernel)
theorem twl_118 : Cond.instanceMethod yX7_stands ∈ Tg := tg_tab (List.mem_of_getElem? (i := 1048) (by decide +kernel)) (by decide +kernel)
theorem twl_119 : Cond.selects RX7 yX7_stands yX7_stands ∈ Tg := tg_tab (List.mem_of_getElem? (i := 1049) (by decide +kernel)) (by decide +kernel)
theorem twl_120 : Cond.methodLink R_law 79 yX6_least ∈ Tg := tg_tab (List.mem_of_getElem? (i := 454) (by decide +kernel)) (by decide +kernel)
theorem twl_121 : Cond.code yX6_least cX6_least 1 (some .int) ∈ Tg := tg_tab (List.mem_of_getElem? (i := 457) (by decide +kernel)) (by decide +kernel)
theorem twl_122 : Cond.instanceMethod yX6_least ∈ Tg := tg_tab (List.mem_of_getElem? (i := 455) (by decide +kernel)) (by decide +kernel)
theorem twl_123 : Cond.selects RX6 yX6_least yX6_least ∈ Tg := tg_tab (List.mem_of_getElem? (i := 456) (by decide +kernel)) (by decide +kernel)
theorem twl_124 : Cond.methodLink R_law 82 yX7_least ∈ Tg := tg_tab (List.mem_of_getElem? (i := 1059) (by decide +kernel)) (by decide +kernel)
theorem twl_125 : Cond.code yX7_least cX7_least 3 (some .int) ∈ Tg := tg_tab (List.mem_of_getElem? (i := 1062) (by decide +kernel)) (by decide +kernel)
theorem twl_126 : Cond.instanceMethod yX7_least ∈ Tg := tg_tab (List.mem_of_getElem? (i := 1060) (by decide +kernel)) (by decide +kernel)
theorem twl_127 : Cond.selects RX7 yX7_least yX7_least ∈ Tg := tg_tab (List.mem_of_getElem? (i := 1061) (by decide +kernel)) (by decide +kernel)
theorem twl_128 : Cond.methodLink R_law 83 yX6_ways ∈ Tg := tg_tab (List.mem_of_getElem? (i := 463) (by decide +kernel)) (by decide +kernel)
theorem twl_129 : Cond.code yX6_ways cX6_ways 2 (some .long) ∈ Tg := tg_tab (List.mem_of_getElem? (i := 466) (by decide +kernel)) (by decide +kernel)
theorem twl_130 : Cond.instanceMethod yX6_ways ∈ Tg := tg_tab (List.mem_of_getElem? (i := 464) (by decide +kernel)) (by decide +kernel)
theorem twl_131 : Cond.selects RX6 yX6_ways yX6_ways ∈ Tg := tg_tab (List.mem_of_getElem? (i := 465) (by decide +kernel)) (by decide +kernel)
theorem twl_132 : Cond.methodLink R_law 87 yX7_ways ∈ Tg := tg_tab (List.mem_of_getElem? (i := 1063) (by decide +kernel)) (by decide +kernel)
theorem twl_133 : Cond.code yX7_ways cX7_ways 2 (some .long) ∈ Tg := tg_tab (List.mem_of_getElem? (i := 1066) (by decide +kernel)) (by decide +kernel)
theorem twl_134 : Cond.instanceMethod yX7_ways ∈ Tg := tg_tab (List.mem_of_getElem? (i := 1064) (by decide +kernel)) (by decide +kernel)
theorem twl_135 : Cond.selects RX7 yX7_ways yX7_ways ∈ Tg := tg_tab (List.mem_of_getElem? (i := 1065) (by decide +kernel)) (by decide +kernel)
theorem twl_136 : Cond.methodLink R_law 88 yX6_first ∈ Tg := tg_tab (List.mem_of_getElem? (i := 467) (by decide +kernel)) (by decide +kernel)
theorem twl_137 : Cond.code yX6_first cX6_first 3 (some .int) ∈ Tg := tg_tab (List.mem_of_getElem? (i := 470) (by decide +kernel)) (by decide +kernel)
theorem twl_138 : Cond.instanceMethod yX6_first ∈ Tg := tg_tab (List.mem_of_getElem? (i := 468) (by decide +kernel)) (by decide +kernel)
theorem twl_139 : Cond.selects RX6 yX6_first yX6_first ∈ Tg := tg_tab (List.mem_of_getElem? (i := 469) (by decide +kernel)) (by decide +kernel)
theorem twl_140 : Cond.methodLink R_law 91 yX7_first ∈ Tg := tg_tab (List.mem_of_getElem? (i := 1067) (by decide +kernel)) (by decide +kernel)
theorem twl_141 : Cond.code yX7_first cX7_first 2 (some .int) ∈ Tg := tg_tab (List.mem_of_getElem? (i := 1070) (by decide +kernel)) (by decide +kernel)
theorem twl_142 : Cond.instanceMethod yX7_first ∈ Tg := tg_tab (List.mem_of_getElem? (i := 1068) (by decide +kernel)) (by decide +kernel)
theorem twl_143 : Cond.selects RX7 yX7_first yX7_first ∈ Tg := tg_tab (List.mem_of_getElem? (i := 1069) (by decide +kernel)) (by decide +kernel)
theorem lc_12 {L : Nat} {xs : Nat → Int32} {i : Nat} (hL : L ≤ 3072) (hi : i + 6 ≤ L) {σ : St} (I : Inv σ) (nxt : ∀ σ2, Inv σ2 → Lw L xs 1378 (lsL i) [] σ2) : Lw L xs 652 (lsL i) [] σ := by
  refine L_aload_n dL_law_652 rfl (by decide) ?_
  refine L_callV (n := 0) (k := 0) (ci := 6) (rest := []) (R' := rmX6_pulls) dL_law_653 ⟨twl_96, tw_141, twl_97, by decide +kernel, by decide +kernel, by decide +kernel⟩ twl_98 (by decide) (by decide) rfl twl_99 ⟨rfl, rfl, Nat.le_of_ble_eq_true rfl, Nat.le_of_ble_eq_true rfl⟩ rfl rfl (Nat.le_of_ble_eq_true rfl) (mt_X6_pulls  σ _ (pp_pulls I)) (fun r σ1 q => ?_)
  obtain ⟨x, rfl, q⟩ := q
  refine L_aload_n dL_law_656 rfl (by decide) ?_
  refine L_callV (n := 0) (k := 49) (ci := 7) (rest := [.int x]) (R' := rmX7_pulls) dL_law_657 ⟨twl_100, tw_454, twl_101, by decide +kernel, by decide +kernel, by decide +kernel⟩ twl_102 (by decide) (by decide) rfl twl_103 ⟨rfl, rfl, Nat.le_of_ble_eq_true rfl, Nat.le_of_ble_eq_true rfl⟩ rfl rfl (Nat.le_of_ble_eq_true rfl) (mt_X7_pulls  σ1 _ q) (fun r σ2 q => ?_)
  obtain ⟨y, rfl, q, J⟩ := q
  exact L_icmp_eq 1378 dL_law_660 (by decide) (fun _ => nxt σ2 J) (fun z => absurd q z)
theorem lc_13 {L : Nat} {xs : Nat → Int32} {i : Nat} (hL : L ≤ 3072) (hi : i + 6 ≤ L) {σ : St} (I : Inv σ) (nxt : ∀ σ2, Inv σ2 → Lw L xs 1378 (lsL i) [] σ2) : Lw L xs 665 (lsL i) [] σ := by
  refine L_aload_n dL_law_665 rfl (by decide) ?_
  refine L_arg (k := 1) dL_law_666 dL_law_667 dL_law_668 dL_law_669 dL_law_670 (by decide) hL (by omega) ?_
  refine L_callV (n := 1) (k := 0) (ci := 6) (rest := []) (R' := rmX6_can) dL_law_671 ⟨twl_104, tw_141, twl_105, by decide +kernel, by decide +kernel, by decide +kernel⟩ twl_106 (by decide) (by decide) rfl twl_107 ⟨rfl, rfl, Nat.le_of_ble_eq_true rfl, Nat.le_of_ble_eq_true rfl⟩ rfl rfl (Nat.le_of_ble_eq_true rfl) (mt_X6_can _ σ _ (pp_can I _)) (fun r σ1 q => ?_)
  obtain ⟨x, rfl, q⟩ := q
  refine L_aload_n dL_law_674 rfl (by decide) ?_
  refine L_arg (k := 1) dL_law_675 dL_law_676 dL_law_677 dL_law_678 dL_law_679 (by decide) hL (by omega) ?_
  refine L_callV (n := 1) (k := 49) (ci := 7) (rest := [.int x]) (R' := rmX7_can) dL_law_680 ⟨twl_108, tw_454, twl_109, by decide +kernel, by decide +kernel, by decide +kernel⟩ twl_110 (by decide) (by decide) rfl twl_111 ⟨rfl, rfl, Nat.le_of_ble_eq_true rfl, Nat.le_of_ble_eq_true rfl⟩ rfl rfl (Nat.le_of_ble_eq_true rfl) (mt_X7_can _ σ1 _ q) (fun r σ2 q => ?_)
  obtain ⟨y, rfl, q, J⟩ := q
  exact L_icmp_eq 1378 dL_law_683 (by decide) (fun _ => nxt σ2 J) (fun z => absurd q z)
theorem lc_14 {L : Nat} {xs : Nat → Int32} {i : Nat} (hL : L ≤ 3072) (hi : i + 6 ≤ L) {σ : St} (I : Inv σ) (nxt : ∀ σ2, Inv σ2 → Lw L xs 1378 (lsL i) [] σ2) : Lw L xs 688 (lsL i) [] σ := by
  refine L_aload_n dL_law_688 rfl (by decide) ?_
  refine L_callV (n := 0) (k := 0) (ci := 6) (rest := []) (R' := rmX6_stands) dL_law_689 ⟨twl_112, tw_141, twl_113, by decide +kernel, by decide +kernel, by decide +kernel⟩ twl_114 (by decide) (by decide) rfl twl_115 ⟨rfl, rfl, Nat.le_of_ble_eq_true rfl, Nat.le_of_ble_eq_true rfl⟩ rfl rfl (Nat.le_of_ble_eq_true rfl) (mt_X6_stands  σ _ (pp_stands I)) (fun r σ1 q => ?_)
  obtain ⟨x, rfl, q⟩ := q
  refine L_aload_n dL_law_692 rfl (by decide) ?_
  refine L_callV (n := 0) (k := 49) (ci := 7) (rest := [.int x]) (R' := rmX7_stands) dL_law_693 ⟨twl_116, tw_454, twl_117, by decide +kernel, by decide +kernel, by decide +kernel⟩ twl_118 (by decide) (by decide) rfl twl_119 ⟨rfl, rfl, Nat.le_of_ble_eq_true rfl, Nat.le_of_ble_eq_true rfl⟩ rfl rfl (Nat.le_of_ble_eq_true rfl) (mt_X7_stands  σ1 _ q) (fun r σ2 q => ?_)
  obtain ⟨y, rfl, q, J⟩ := q
  exact L_icmp_eq 1378 dL_law_696 (by decide) (fun _ => nxt σ2 J) (fun z => absurd q z)
theorem lc_15 {L : Nat} {xs : Nat → Int32} {i : Nat} (hL : L ≤ 3072) (hi : i + 6 ≤ L) {σ : St} (I : Inv σ) (nxt : ∀ σ2, Inv σ2 → Lw L xs 1378 (lsL i) [] σ2) : Lw L xs 701 (lsL i) [] σ := by
  refine L_aload_n dL_law_701 rfl (by decide) ?_
  refine L_callV (n := 0) (k := 0) (ci := 6) (rest := []) (R' := rmX6_least) dL_law_702 ⟨twl_120, tw_141, twl_121, by decide +kernel, by decide +kernel, by decide +kernel⟩ twl_122 (by decide) (by decide) rfl twl_123 ⟨rfl, rfl, Nat.le_of_ble_eq_true rfl, Nat.le_of_ble_eq_true rfl⟩ rfl rfl (Nat.le_of_ble_eq_true rfl) (mt_X6_least  σ _ (pp_least I)) (fun r σ1 q => ?_)
  obtain ⟨x, rfl, q⟩ := q
  refine L_aload_n dL_law_705 rfl (by decide) ?_
  refine L_callV (n := 0) (k := 49) (ci := 7) (rest := [.int x]) (R' := rmX7_least) dL_law_706 ⟨twl_124, tw_454, twl_125, by decide +kernel, by decide +kernel, by decide +kernel⟩ twl_126 (by decide) (by decide) rfl twl_127 ⟨rfl, rfl, Nat.le_of_ble_eq_true rfl, Nat.le_of_ble_eq_true rfl⟩ rfl rfl (Nat.le_of_ble_eq_true rfl) (mt_X7_least  σ1 _ q) (fun r σ2 q => ?_)
  obtain ⟨y, rfl, q, J⟩ := q
  exact L_icmp_eq 1378 dL_law_709 (by decide) (fun _ => nxt σ2 J) (fun z => absurd q z)
theorem lc_16 {L : Nat} {xs : Nat → Int32} {i : Nat} (hL : L ≤ 3072) (hi : i + 6 ≤ L) {σ : St} (I : Inv σ) (nxt : ∀ σ2, Inv σ2 → Lw L xs 1378 (lsL i) [] σ2) : Lw L xs 714 (lsL i) [] σ := by
  refine L_aload_n dL_law_714 rfl (by decide) ?_
  refine L_arg (k := 1) dL_law_715 dL_law_716 dL_law_717 dL_law_718 dL_law_719 (by decide) hL (by omega) ?_
  refine L_callV (n := 1) (k := 0) (ci := 6) (rest := []) (R' := rmX6_ways) dL_law_720 ⟨twl_128, tw_141, twl_129, by decide +kernel, by decide +kernel, by decide +kernel⟩ twl_130 (by decide) (by decide) rfl twl_131 ⟨rfl, rfl, Nat.le_of_ble_eq_true rfl, Nat.le_of_ble_eq_true rfl⟩ rfl rfl (Nat.le_of_ble_eq_true rfl) (mt_X6_ways _ σ _ (pp_ways I _)) (fun r σ1 q => ?_)
  obtain ⟨x, rfl, q⟩ := q
  refine L_aload_n dL_law_723 rfl (by decide) ?_
  refine L_arg (k := 1) dL_law_724 dL_law_725 dL_law_726 dL_law_727 dL_law_728 (by decide) hL (by omega) ?_
  refine L_callV (n := 1) (k := 49) (ci := 7) (rest := [.long x]) (R' := rmX7_ways) dL_law_729 ⟨twl_132, tw_454, twl_133, by decide +kernel, by decide +kernel, by decide +kernel⟩ twl_134 (by decide) (by decide) rfl twl_135 ⟨rfl, rfl, Nat.le_of_ble_eq_true rfl, Nat.le_of_ble_eq_true rfl⟩ rfl rfl (Nat.le_of_ble_eq_true rfl) (mt_X7_ways _ σ1 _ q) (fun r σ2 q => ?_)
  obtain ⟨y, rfl, q, J⟩ := q
  refine L_lcmp dL_law_732 ?_
  exact L_if_eq 1378 dL_law_733 (by decide) (fun _ => nxt σ2 J) (fun z => absurd ((lg_cmp_eq _ _).mpr q) z)
theorem lc_17 {L : Nat} {xs : Nat → Int32} {i : Nat} (hL : L ≤ 3072) (hi : i + 6 ≤ L) {σ : St} (I : Inv σ) (nxt : ∀ σ2, Inv σ2 → Lw L xs 1378 (lsL i) [] σ2) : Lw L xs 738 (lsL i) [] σ := by
  refine L_aload_n dL_law_738 rfl (by decide) ?_
  refine L_arg (k := 1) dL_law_739 dL_law_740 dL_law_741 dL_law_742 dL_law_743 (by decide) hL (by omega) ?_
  refine L_callV (n := 1) (k := 0) (ci := 6) (rest := []) (R' := rmX6_first) dL_law_744 ⟨twl_136, tw_141, twl_137, by decide +kernel, by decide +kernel, by decide +kernel⟩ twl_138 (by decide) (by decide) rfl twl_139 ⟨rfl, rfl, Nat.le_of_ble_eq_true rfl, Nat.le_of_ble_eq_true rfl⟩ rfl rfl (Nat.le_of_ble_eq_true rfl) (mt_X6_first _ σ _ (pp_first I _)) (fun r σ1 q => ?_)
  obtain ⟨x, rfl, q⟩ := q
  refine L_aload_n dL_law_747 rfl (by decide) ?_
  refine L_arg (k := 1) dL_law_748 dL_law_749 dL_law_750 dL_law_751 dL_law_752 (by decide) hL (by omega) ?_
  refine L_callV (n := 1) (k := 49) (ci := 7) (rest := [.int x]) (R' := rmX7_first) dL_law_753 ⟨twl_140, tw_454, twl_141, by decide +kernel, by decide +kernel, by decide +kernel⟩ twl_142 (by decide) (by decide) rfl twl_143 ⟨rfl, rfl, Nat.le_of_ble_eq_true rfl, Nat.le_of_ble_eq_true rfl⟩ rfl rfl (Nat.le_of_ble_eq_true rfl) (mt_X7_first _ σ1 _ q) (fun r σ2 q => ?_)
  obtain ⟨y, rfl, q, J⟩ := q
  exact L_icmp_eq 1378 dL_law_756 (by decide) (fun _ => nxt σ2 J) (fun z => absurd q z)
