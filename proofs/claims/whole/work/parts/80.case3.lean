/-! THE LAW: cases 18 to 23 (printed by wip/whole/law.py) -/
theorem dL_law_761 : decode code 761 = .ok (.aload_n 1, 1) := by decide +kernel
theorem dL_law_762 : decode code 762 = .ok (.aload_n 0, 1) := by decide +kernel
theorem dL_law_763 : decode code 763 = .ok (.iload_n 3, 1) := by decide +kernel
theorem dL_law_764 : decode code 764 = .ok (.iconst 1, 1) := by decide +kernel
theorem dL_law_765 : decode code 765 = .ok (.iadd, 1) := by decide +kernel
theorem dL_law_766 : decode code 766 = .ok (.iaload, 1) := by decide +kernel
theorem dL_law_767 : decode code 767 = .ok (.invokevirtual 92, 3) := by decide +kernel
theorem dL_law_770 : decode code 770 = .ok (.aload_n 2, 1) := by decide +kernel
theorem dL_law_771 : decode code 771 = .ok (.aload_n 0, 1) := by decide +kernel
theorem dL_law_772 : decode code 772 = .ok (.iload_n 3, 1) := by decide +kernel
theorem dL_law_773 : decode code 773 = .ok (.iconst 1, 1) := by decide +kernel
theorem dL_law_774 : decode code 774 = .ok (.iadd, 1) := by decide +kernel
theorem dL_law_775 : decode code 775 = .ok (.iaload, 1) := by decide +kernel
theorem dL_law_776 : decode code 776 = .ok (.invokevirtual 95, 3) := by decide +kernel
theorem dL_law_779 : decode code 779 = .ok (.if_icmp .eq 599, 3) := by decide +kernel
theorem dL_law_784 : decode code 784 = .ok (.aload_n 1, 1) := by decide +kernel
theorem dL_law_785 : decode code 785 = .ok (.aload_n 0, 1) := by decide +kernel
theorem dL_law_786 : decode code 786 = .ok (.iload_n 3, 1) := by decide +kernel
theorem dL_law_787 : decode code 787 = .ok (.iconst 1, 1) := by decide +kernel
theorem dL_law_788 : decode code 788 = .ok (.iadd, 1) := by decide +kernel
theorem dL_law_789 : decode code 789 = .ok (.iaload, 1) := by decide +kernel
theorem dL_law_790 : decode code 790 = .ok (.invokevirtual 96, 3) := by decide +kernel
theorem dL_law_793 : decode code 793 = .ok (.aload_n 2, 1) := by decide +kernel
theorem dL_law_794 : decode code 794 = .ok (.aload_n 0, 1) := by decide +kernel
theorem dL_law_795 : decode code 795 = .ok (.iload_n 3, 1) := by decide +kernel
theorem dL_law_796 : decode code 796 = .ok (.iconst 1, 1) := by decide +kernel
theorem dL_law_797 : decode code 797 = .ok (.iadd, 1) := by decide +kernel
theorem dL_law_798 : decode code 798 = .ok (.iaload, 1) := by decide +kernel
theorem dL_law_799 : decode code 799 = .ok (.invokevirtual 99, 3) := by decide +kernel
theorem dL_law_802 : decode code 802 = .ok (.if_icmp .eq 576, 3) := by decide +kernel
theorem dL_law_807 : decode code 807 = .ok (.aload_n 1, 1) := by decide +kernel
theorem dL_law_808 : decode code 808 = .ok (.invokevirtual 100, 3) := by decide +kernel
theorem dL_law_811 : decode code 811 = .ok (.aload_n 2, 1) := by decide +kernel
theorem dL_law_812 : decode code 812 = .ok (.invokevirtual 103, 3) := by decide +kernel
theorem dL_law_815 : decode code 815 = .ok (.if_icmp .eq 563, 3) := by decide +kernel
theorem dL_law_820 : decode code 820 = .ok (.aload_n 1, 1) := by decide +kernel
theorem dL_law_821 : decode code 821 = .ok (.aload_n 0, 1) := by decide +kernel
theorem dL_law_822 : decode code 822 = .ok (.iload_n 3, 1) := by decide +kernel
theorem dL_law_823 : decode code 823 = .ok (.iconst 1, 1) := by decide +kernel
theorem dL_law_824 : decode code 824 = .ok (.iadd, 1) := by decide +kernel
theorem dL_law_825 : decode code 825 = .ok (.iaload, 1) := by decide +kernel
theorem dL_law_826 : decode code 826 = .ok (.invokevirtual 104, 3) := by decide +kernel
theorem dL_law_829 : decode code 829 = .ok (.aload_n 2, 1) := by decide +kernel
theorem dL_law_830 : decode code 830 = .ok (.aload_n 0, 1) := by decide +kernel
theorem dL_law_831 : decode code 831 = .ok (.iload_n 3, 1) := by decide +kernel
theorem dL_law_832 : decode code 832 = .ok (.iconst 1, 1) := by decide +kernel
theorem dL_law_833 : decode code 833 = .ok (.iadd, 1) := by decide +kernel
theorem dL_law_834 : decode code 834 = .ok (.iaload, 1) := by decide +kernel
theorem dL_law_835 : decode code 835 = .ok (.invokevirtual 107, 3) := by decide +kernel
theorem dL_law_838 : decode code 838 = .ok (.if_icmp .eq 540, 3) := by decide +kernel
theorem dL_law_843 : decode code 843 = .ok (.aload_n 1, 1) := by decide +kernel
theorem dL_law_844 : decode code 844 = .ok (.aload_n 0, 1) := by decide +kernel
theorem dL_law_845 : decode code 845 = .ok (.iload_n 3, 1) := by decide +kernel
theorem dL_law_846 : decode code 846 = .ok (.iconst 1, 1) := by decide +kernel
theorem dL_law_847 : decode code 847 = .ok (.iadd, 1) := by decide +kernel
theorem dL_law_848 : decode code 848 = .ok (.iaload, 1) := by decide +kernel
theorem dL_law_849 : decode code 849 = .ok (.invokevirtual 108, 3) := by decide +kernel
theorem dL_law_852 : decode code 852 = .ok (.aload_n 2, 1) := by decide +kernel
theorem dL_law_853 : decode code 853 = .ok (.aload_n 0, 1) := by decide +kernel
theorem dL_law_854 : decode code 854 = .ok (.iload_n 3, 1) := by decide +kernel
theorem dL_law_855 : decode code 855 = .ok (.iconst 1, 1) := by decide +kernel
theorem dL_law_856 : decode code 856 = .ok (.iadd, 1) := by decide +kernel
theorem dL_law_857 : decode code 857 = .ok (.iaload, 1) := by decide +kernel
theorem dL_law_858 : decode code 858 = .ok (.invokevirtual 111, 3) := by decide +kernel
theorem dL_law_861 : decode code 861 = .ok (.if_icmp .eq 517, 3) := by decide +kernel
theorem dL_law_866 : decode code 866 = .ok (.aload_n 1, 1) := by decide +kernel
theorem dL_law_867 : decode code 867 = .ok (.aload_n 0, 1) := by decide +kernel
theorem dL_law_868 : decode code 868 = .ok (.iload_n 3, 1) := by decide +kernel
theorem dL_law_869 : decode code 869 = .ok (.iconst 1, 1) := by decide +kernel
theorem dL_law_870 : decode code 870 = .ok (.iadd, 1) := by decide +kernel
theorem dL_law_871 : decode code 871 = .ok (.iaload, 1) := by decide +kernel
theorem dL_law_872 : decode code 872 = .ok (.aload_n 0, 1) := by decide +kernel
theorem dL_law_873 : decode code 873 = .ok (.iload_n 3, 1) := by decide +kernel
theorem dL_law_874 : decode code 874 = .ok (.iconst 2, 1) := by decide +kernel
theorem dL_law_875 : decode code 875 = .ok (.iadd, 1) := by decide +kernel
theorem dL_law_876 : decode code 876 = .ok (.iaload, 1) := by decide +kernel
theorem dL_law_877 : decode code 877 = .ok (.invokevirtual 112, 3) := by decide +kernel
theorem dL_law_880 : decode code 880 = .ok (.aload_n 2, 1) := by decide +kernel
theorem dL_law_881 : decode code 881 = .ok (.aload_n 0, 1) := by decide +kernel
theorem dL_law_882 : decode code 882 = .ok (.iload_n 3, 1) := by decide +kernel
theorem dL_law_883 : decode code 883 = .ok (.iconst 1, 1) := by decide +kernel
theorem dL_law_884 : decode code 884 = .ok (.iadd, 1) := by decide +kernel
theorem dL_law_885 : decode code 885 = .ok (.iaload, 1) := by decide +kernel
theorem dL_law_886 : decode code 886 = .ok (.aload_n 0, 1) := by decide +kernel
theorem dL_law_887 : decode code 887 = .ok (.iload_n 3, 1) := by decide +kernel
theorem dL_law_888 : decode code 888 = .ok (.iconst 2, 1) := by decide +kernel
theorem dL_law_889 : decode code 889 = .ok (.iadd, 1) := by decide +kernel
theorem dL_law_890 : decode code 890 = .ok (.iaload, 1) := by decide +kernel
theorem dL_law_891 : decode code 891 = .ok (.invokevirtual 115, 3) := by decide +kernel
theorem dL_law_894 : decode code 894 = .ok (.if_icmp .eq 484, 3) := by decide +kernel
theorem twl_144 : Cond.methodLink R_law 92 yX6_bring ∈ Tg := tg_tab (List.mem_of_getElem? (i := 483) (by decide +kernel)) (by decide +kernel)
theorem twl_145 : Cond.code yX6_bring cX6_bring 5 (some .int) ∈ Tg := tg_tab (List.mem_of_getElem? (i := 486) (by decide +kernel)) (by decide +kernel)
theorem twl_146 : Cond.instanceMethod yX6_bring ∈ Tg := tg_tab (List.mem_of_getElem? (i := 484) (by decide +kernel)) (by decide +kernel)
theorem twl_147 : Cond.selects RX6 yX6_bring yX6_bring ∈ Tg := tg_tab (List.mem_of_getElem? (i := 485) (by decide +kernel)) (by decide +kernel)
theorem twl_148 : Cond.methodLink R_law 95 yX7_bring ∈ Tg := tg_tab (List.mem_of_getElem? (i := 1080) (by decide +kernel)) (by decide +kernel)
theorem twl_149 : Cond.code yX7_bring cX7_bring 3 (some .int) ∈ Tg := tg_tab (List.mem_of_getElem? (i := 1083) (by decide +kernel)) (by decide +kernel)
theorem twl_150 : Cond.instanceMethod yX7_bring ∈ Tg := tg_tab (List.mem_of_getElem? (i := 1081) (by decide +kernel)) (by decide +kernel)
theorem twl_151 : Cond.selects RX7 yX7_bring yX7_bring ∈ Tg := tg_tab (List.mem_of_getElem? (i := 1082) (by decide +kernel)) (by decide +kernel)
theorem twl_152 : Cond.methodLink R_law 96 yX6_slackFor ∈ Tg := tg_tab (List.mem_of_getElem? (i := 488) (by decide +kernel)) (by decide +kernel)
theorem twl_153 : Cond.code yX6_slackFor cX6_slackFor 2 (some .int) ∈ Tg := tg_tab (List.mem_of_getElem? (i := 491) (by decide +kernel)) (by decide +kernel)
theorem twl_154 : Cond.instanceMethod yX6_slackFor ∈ Tg := tg_tab (List.mem_of_getElem? (i := 489) (by decide +kernel)) (by decide +kernel)
theorem twl_155 : Cond.selects RX6 yX6_slackFor yX6_slackFor ∈ Tg := tg_tab (List.mem_of_getElem? (i := 490) (by decide +kernel)) (by decide +kernel)
theorem twl_156 : Cond.methodLink R_law 99 yX7_slackFor ∈ Tg := tg_tab (List.mem_of_getElem? (i := 1084) (by decide +kernel)) (by decide +kernel)
theorem twl_157 : Cond.code yX7_slackFor cX7_slackFor 2 (some .int) ∈ Tg := tg_tab (List.mem_of_getElem? (i := 1087) (by decide +kernel)) (by decide +kernel)
theorem twl_158 : Cond.instanceMethod yX7_slackFor ∈ Tg := tg_tab (List.mem_of_getElem? (i := 1085) (by decide +kernel)) (by decide +kernel)
theorem twl_159 : Cond.selects RX7 yX7_slackFor yX7_slackFor ∈ Tg := tg_tab (List.mem_of_getElem? (i := 1086) (by decide +kernel)) (by decide +kernel)
theorem twl_160 : Cond.methodLink R_law 100 yX6_slackAll ∈ Tg := tg_tab (List.mem_of_getElem? (i := 496) (by decide +kernel)) (by decide +kernel)
theorem twl_161 : Cond.code yX6_slackAll cX6_slackAll 1 (some .int) ∈ Tg := tg_tab (List.mem_of_getElem? (i := 499) (by decide +kernel)) (by decide +kernel)
theorem twl_162 : Cond.instanceMethod yX6_slackAll ∈ Tg := tg_tab (List.mem_of_getElem? (i := 497) (by decide +kernel)) (by decide +kernel)
theorem twl_163 : Cond.selects RX6 yX6_slackAll yX6_slackAll ∈ Tg := tg_tab (List.mem_of_getElem? (i := 498) (by decide +kernel)) (by decide +kernel)
theorem twl_164 : Cond.methodLink R_law 103 yX7_slackAll ∈ Tg := tg_tab (List.mem_of_getElem? (i := 1096) (by decide +kernel)) (by decide +kernel)
theorem twl_165 : Cond.code yX7_slackAll cX7_slackAll 1 (some .int) ∈ Tg := tg_tab (List.mem_of_getElem? (i := 1099) (by decide +kernel)) (by decide +kernel)
theorem twl_166 : Cond.instanceMethod yX7_slackAll ∈ Tg := tg_tab (List.mem_of_getElem? (i := 1097) (by decide +kernel)) (by decide +kernel)
theorem twl_167 : Cond.selects RX7 yX7_slackAll yX7_slackAll ∈ Tg := tg_tab (List.mem_of_getElem? (i := 1098) (by decide +kernel)) (by decide +kernel)
theorem twl_168 : Cond.methodLink R_law 104 yX6_most ∈ Tg := tg_tab (List.mem_of_getElem? (i := 500) (by decide +kernel)) (by decide +kernel)
theorem twl_169 : Cond.code yX6_most cX6_most 2 (some .int) ∈ Tg := tg_tab (List.mem_of_getElem? (i := 503) (by decide +kernel)) (by decide +kernel)
theorem twl_170 : Cond.instanceMethod yX6_most ∈ Tg := tg_tab (List.mem_of_getElem? (i := 501) (by decide +kernel)) (by decide +kernel)
theorem twl_171 : Cond.selects RX6 yX6_most yX6_most ∈ Tg := tg_tab (List.mem_of_getElem? (i := 502) (by decide +kernel)) (by decide +kernel)
theorem twl_172 : Cond.methodLink R_law 107 yX7_most ∈ Tg := tg_tab (List.mem_of_getElem? (i := 1100) (by decide +kernel)) (by decide +kernel)
theorem twl_173 : Cond.code yX7_most cX7_most 2 (some .int) ∈ Tg := tg_tab (List.mem_of_getElem? (i := 1103) (by decide +kernel)) (by decide +kernel)
theorem twl_174 : Cond.instanceMethod yX7_most ∈ Tg := tg_tab (List.mem_of_getElem? (i := 1101) (by decide +kernel)) (by decide +kernel)
theorem twl_175 : Cond.selects RX7 yX7_most yX7_most ∈ Tg := tg_tab (List.mem_of_getElem? (i := 1102) (by decide +kernel)) (by decide +kernel)
theorem twl_176 : Cond.methodLink R_law 108 yX6_where ∈ Tg := tg_tab (List.mem_of_getElem? (i := 524) (by decide +kernel)) (by decide +kernel)
theorem twl_177 : Cond.code yX6_where cX6_where 2 (some .int) ∈ Tg := tg_tab (List.mem_of_getElem? (i := 527) (by decide +kernel)) (by decide +kernel)
theorem twl_178 : Cond.instanceMethod yX6_where ∈ Tg := tg_tab (List.mem_of_getElem? (i := 525) (by decide +kernel)) (by decide +kernel)
theorem twl_179 : Cond.selects RX6 yX6_where yX6_where ∈ Tg := tg_tab (List.mem_of_getElem? (i := 526) (by decide +kernel)) (by decide +kernel)
theorem twl_180 : Cond.methodLink R_law 111 yX7_where ∈ Tg := tg_tab (List.mem_of_getElem? (i := 1116) (by decide +kernel)) (by decide +kernel)
theorem twl_181 : Cond.code yX7_where cX7_where 2 (some .int) ∈ Tg := tg_tab (List.mem_of_getElem? (i := 1119) (by decide +kernel)) (by decide +kernel)
theorem twl_182 : Cond.instanceMethod yX7_where ∈ Tg := tg_tab (List.mem_of_getElem? (i := 1117) (by decide +kernel)) (by decide +kernel)
theorem twl_183 : Cond.selects RX7 yX7_where yX7_where ∈ Tg := tg_tab (List.mem_of_getElem? (i := 1118) (by decide +kernel)) (by decide +kernel)
theorem twl_184 : Cond.methodLink R_law 112 yX6_out ∈ Tg := tg_tab (List.mem_of_getElem? (i := 528) (by decide +kernel)) (by decide +kernel)
theorem twl_185 : Cond.code yX6_out cX6_out 4 (some .int) ∈ Tg := tg_tab (List.mem_of_getElem? (i := 531) (by decide +kernel)) (by decide +kernel)
theorem twl_186 : Cond.instanceMethod yX6_out ∈ Tg := tg_tab (List.mem_of_getElem? (i := 529) (by decide +kernel)) (by decide +kernel)
theorem twl_187 : Cond.selects RX6 yX6_out yX6_out ∈ Tg := tg_tab (List.mem_of_getElem? (i := 530) (by decide +kernel)) (by decide +kernel)
theorem twl_188 : Cond.methodLink R_law 115 yX7_out ∈ Tg := tg_tab (List.mem_of_getElem? (i := 1120) (by decide +kernel)) (by decide +kernel)
theorem twl_189 : Cond.code yX7_out cX7_out 7 (some .int) ∈ Tg := tg_tab (List.mem_of_getElem? (i := 1123) (by decide +kernel)) (by decide +kernel)
theorem twl_190 : Cond.instanceMethod yX7_out ∈ Tg := tg_tab (List.mem_of_getElem? (i := 1121) (by decide +kernel)) (by decide +kernel)
theorem twl_191 : Cond.selects RX7 yX7_out yX7_out ∈ Tg := tg_tab (List.mem_of_getElem? (i := 1122) (by decide +kernel)) (by decide +kernel)
theorem lc_18 {L : Nat} {xs : Nat → Int32} {i : Nat} (hL : L ≤ 3072) (hi : i + 6 ≤ L) {σ : St} (I : Inv σ) (nxt : ∀ σ2, Inv σ2 → Lw L xs 1378 (lsL i) [] σ2) : Lw L xs 761 (lsL i) [] σ := by
  refine L_aload_n dL_law_761 rfl (by decide) ?_
  refine L_arg (k := 1) dL_law_762 dL_law_763 dL_law_764 dL_law_765 dL_law_766 (by decide) hL (by omega) ?_
  refine L_callV (n := 1) (k := 0) (ci := 6) (rest := []) (R' := rmX6_bring) dL_law_767 ⟨twl_144, tw_141, twl_145, by decide +kernel, by decide +kernel, by decide +kernel⟩ twl_146 (by decide) (by decide) rfl twl_147 ⟨rfl, rfl, Nat.le_of_ble_eq_true rfl, Nat.le_of_ble_eq_true rfl⟩ rfl rfl (Nat.le_of_ble_eq_true rfl) (mt_X6_bring _ σ _ (pp_bring I _)) (fun r σ1 q => ?_)
  obtain ⟨x, rfl, q⟩ := q
  refine L_aload_n dL_law_770 rfl (by decide) ?_
  refine L_arg (k := 1) dL_law_771 dL_law_772 dL_law_773 dL_law_774 dL_law_775 (by decide) hL (by omega) ?_
  refine L_callV (n := 1) (k := 49) (ci := 7) (rest := [.int x]) (R' := rmX7_bring) dL_law_776 ⟨twl_148, tw_454, twl_149, by decide +kernel, by decide +kernel, by decide +kernel⟩ twl_150 (by decide) (by decide) rfl twl_151 ⟨rfl, rfl, Nat.le_of_ble_eq_true rfl, Nat.le_of_ble_eq_true rfl⟩ rfl rfl (Nat.le_of_ble_eq_true rfl) (mt_X7_bring _ σ1 _ q) (fun r σ2 q => ?_)
  obtain ⟨y, rfl, q, J⟩ := q
  exact L_icmp_eq 1378 dL_law_779 (by decide) (fun _ => nxt σ2 J) (fun z => absurd q z)
theorem lc_19 {L : Nat} {xs : Nat → Int32} {i : Nat} (hL : L ≤ 3072) (hi : i + 6 ≤ L) {σ : St} (I : Inv σ) (nxt : ∀ σ2, Inv σ2 → Lw L xs 1378 (lsL i) [] σ2) : Lw L xs 784 (lsL i) [] σ := by
  refine L_aload_n dL_law_784 rfl (by decide) ?_
  refine L_arg (k := 1) dL_law_785 dL_law_786 dL_law_787 dL_law_788 dL_law_789 (by decide) hL (by omega) ?_
  refine L_callV (n := 1) (k := 0) (ci := 6) (rest := []) (R' := rmX6_slackFor) dL_law_790 ⟨twl_152, tw_141, twl_153, by decide +kernel, by decide +kernel, by decide +kernel⟩ twl_154 (by decide) (by decide) rfl twl_155 ⟨rfl, rfl, Nat.le_of_ble_eq_true rfl, Nat.le_of_ble_eq_true rfl⟩ rfl rfl (Nat.le_of_ble_eq_true rfl) (mt_X6_slackFor _ σ _ (pp_slackFor I _)) (fun r σ1 q => ?_)
  obtain ⟨x, rfl, q⟩ := q
  refine L_aload_n dL_law_793 rfl (by decide) ?_
  refine L_arg (k := 1) dL_law_794 dL_law_795 dL_law_796 dL_law_797 dL_law_798 (by decide) hL (by omega) ?_
  refine L_callV (n := 1) (k := 49) (ci := 7) (rest := [.int x]) (R' := rmX7_slackFor) dL_law_799 ⟨twl_156, tw_454, twl_157, by decide +kernel, by decide +kernel, by decide +kernel⟩ twl_158 (by decide) (by decide) rfl twl_159 ⟨rfl, rfl, Nat.le_of_ble_eq_true rfl, Nat.le_of_ble_eq_true rfl⟩ rfl rfl (Nat.le_of_ble_eq_true rfl) (mt_X7_slackFor _ σ1 _ q) (fun r σ2 q => ?_)
  obtain ⟨y, rfl, q, J⟩ := q
  exact L_icmp_eq 1378 dL_law_802 (by decide) (fun _ => nxt σ2 J) (fun z => absurd q z)
theorem lc_20 {L : Nat} {xs : Nat → Int32} {i : Nat} (hL : L ≤ 3072) (hi : i + 6 ≤ L) {σ : St} (I : Inv σ) (nxt : ∀ σ2, Inv σ2 → Lw L xs 1378 (lsL i) [] σ2) : Lw L xs 807 (lsL i) [] σ := by
  refine L_aload_n dL_law_807 rfl (by decide) ?_
  refine L_callV (n := 0) (k := 0) (ci := 6) (rest := []) (R' := rmX6_slackAll) dL_law_808 ⟨twl_160, tw_141, twl_161, by decide +kernel, by decide +kernel, by decide +kernel⟩ twl_162 (by decide) (by decide) rfl twl_163 ⟨rfl, rfl, Nat.le_of_ble_eq_true rfl, Nat.le_of_ble_eq_true rfl⟩ rfl rfl (Nat.le_of_ble_eq_true rfl) (mt_X6_slackAll  σ _ (pp_slackAll I)) (fun r σ1 q => ?_)
  obtain ⟨x, rfl, q⟩ := q
  refine L_aload_n dL_law_811 rfl (by decide) ?_
  refine L_callV (n := 0) (k := 49) (ci := 7) (rest := [.int x]) (R' := rmX7_slackAll) dL_law_812 ⟨twl_164, tw_454, twl_165, by decide +kernel, by decide +kernel, by decide +kernel⟩ twl_166 (by decide) (by decide) rfl twl_167 ⟨rfl, rfl, Nat.le_of_ble_eq_true rfl, Nat.le_of_ble_eq_true rfl⟩ rfl rfl (Nat.le_of_ble_eq_true rfl) (mt_X7_slackAll  σ1 _ q) (fun r σ2 q => ?_)
  obtain ⟨y, rfl, q, J⟩ := q
  exact L_icmp_eq 1378 dL_law_815 (by decide) (fun _ => nxt σ2 J) (fun z => absurd q z)
theorem lc_21 {L : Nat} {xs : Nat → Int32} {i : Nat} (hL : L ≤ 3072) (hi : i + 6 ≤ L) {σ : St} (I : Inv σ) (nxt : ∀ σ2, Inv σ2 → Lw L xs 1378 (lsL i) [] σ2) : Lw L xs 820 (lsL i) [] σ := by
  refine L_aload_n dL_law_820 rfl (by decide) ?_
  refine L_arg (k := 1) dL_law_821 dL_law_822 dL_law_823 dL_law_824 dL_law_825 (by decide) hL (by omega) ?_
  refine L_callV (n := 1) (k := 0) (ci := 6) (rest := []) (R' := rmX6_most) dL_law_826 ⟨twl_168, tw_141, twl_169, by decide +kernel, by decide +kernel, by decide +kernel⟩ twl_170 (by decide) (by decide) rfl twl_171 ⟨rfl, rfl, Nat.le_of_ble_eq_true rfl, Nat.le_of_ble_eq_true rfl⟩ rfl rfl (Nat.le_of_ble_eq_true rfl) (mt_X6_most _ σ _ (pp_most I _)) (fun r σ1 q => ?_)
  obtain ⟨x, rfl, q⟩ := q
  refine L_aload_n dL_law_829 rfl (by decide) ?_
  refine L_arg (k := 1) dL_law_830 dL_law_831 dL_law_832 dL_law_833 dL_law_834 (by decide) hL (by omega) ?_
  refine L_callV (n := 1) (k := 49) (ci := 7) (rest := [.int x]) (R' := rmX7_most) dL_law_835 ⟨twl_172, tw_454, twl_173, by decide +kernel, by decide +kernel, by decide +kernel⟩ twl_174 (by decide) (by decide) rfl twl_175 ⟨rfl, rfl, Nat.le_of_ble_eq_true rfl, Nat.le_of_ble_eq_true rfl⟩ rfl rfl (Nat.le_of_ble_eq_true rfl) (mt_X7_most _ σ1 _ q) (fun r σ2 q => ?_)
  obtain ⟨y, rfl, q, J⟩ := q
  exact L_icmp_eq 1378 dL_law_838 (by decide) (fun _ => nxt σ2 J) (fun z => absurd q z)
theorem lc_22 {L : Nat} {xs : Nat → Int32} {i : Nat} (hL : L ≤ 3072) (hi : i + 6 ≤ L) {σ : St} (I : Inv σ) (nxt : ∀ σ2, Inv σ2 → Lw L xs 1378 (lsL i) [] σ2) : Lw L xs 843 (lsL i) [] σ := by
  refine L_aload_n dL_law_843 rfl (by decide) ?_
  refine L_arg (k := 1) dL_law_844 dL_law_845 dL_law_846 dL_law_847 dL_law_848 (by decide) hL (by omega) ?_
  refine L_callV (n := 1) (k := 0) (ci := 6) (rest := []) (R' := rmX6_where) dL_law_849 ⟨twl_176, tw_141, twl_177, by decide +kernel, by decide +kernel, by decide +kernel⟩ twl_178 (by decide) (by decide) rfl twl_179 ⟨rfl, rfl, Nat.le_of_ble_eq_true rfl, Nat.le_of_ble_eq_true rfl⟩ rfl rfl (Nat.le_of_ble_eq_true rfl) (mt_X6_where _ σ _ (pp_where I _)) (fun r σ1 q => ?_)
  obtain ⟨x, rfl, q⟩ := q
  refine L_aload_n dL_law_852 rfl (by decide) ?_
  refine L_arg (k := 1) dL_law_853 dL_law_854 dL_law_855 dL_law_856 dL_law_857 (by decide) hL (by omega) ?_
  refine L_callV (n := 1) (k := 49) (ci := 7) (rest := [.int x]) (R' := rmX7_where) dL_law_858 ⟨twl_180, tw_454, twl_181, by decide +kernel, by decide +kernel, by decide +kernel⟩ twl_182 (by decide) (by decide) rfl twl_183 ⟨rfl, rfl, Nat.le_of_ble_eq_true rfl, Nat.le_of_ble_eq_true rfl⟩ rfl rfl (Nat.le_of_ble_eq_true rfl) (mt_X7_where _ σ1 _ q) (fun r σ2 q => ?_)
  obtain ⟨y, rfl, q, J⟩ := q
  exact L_icmp_eq 1378 dL_law_861 (by decide) (fun _ => nxt σ2 J) (fun z => absurd q z)
theorem lc_23 {L : Nat} {xs : Nat → Int32} {i : Nat} (hL : L ≤ 3072) (hi : i + 6 ≤ L) {σ : St} (I : Inv σ) (nxt : ∀ σ2, Inv σ2 → Lw L xs 1378 (lsL i) [] σ2) : Lw L xs 866 (lsL i) [] σ := by
  refine L_aload_n dL_law_866 rfl (by decide) ?_
  refine L_arg (k := 1) dL_law_867 dL_law_868 dL_law_869 dL_law_870 dL_law_871 (by decide) hL (by omega) ?_
  refine L_arg (k := 2) dL_law_872 dL_law_873 dL_law_874 dL_law_875 dL_law_876 (by decide) hL (by omega) ?_
  refine L_callV (n := 2) (k := 0) (ci := 6) (rest := []) (R' := rmX6_out) dL_law_877 ⟨twl_184, tw_141, twl_185, by decide +kernel, by decide +kernel, by decide +kernel⟩ twl_186 (by decide) (by decide) rfl twl_187 ⟨rfl, rfl, Nat.le_of_ble_eq_true rfl, Nat.le_of_ble_eq_true rfl⟩ rfl rfl (Nat.le_of_ble_eq_true rfl) (mt_X6_out _ _ σ _ (pp_out I _ _)) (fun r σ1 q => ?_)
  obtain ⟨x, rfl, q⟩ := q
  refine L_aload_n dL_law_880 rfl (by decide) ?_
  refine L_arg (k := 1) dL_law_881 dL_law_882 dL_law_883 dL_law_884 dL_law_885 (by decide) hL (by omega) ?_
  refine L_arg (k := 2) dL_law_886 dL_law_887 dL_law_888 dL_law_889 dL_law_890 (by decide) hL (by omega) ?_
  refine L_callV (n := 2) (k := 49) (ci := 7) (rest := [.int x]) (R' := rmX7_out) dL_law_891 ⟨twl_188, tw_454, twl_189, by decide +kernel, by decide +kernel, by decide +kernel⟩ twl_190 (by decide) (by decide) rfl twl_191 ⟨rfl, rfl, Nat.le_of_ble_eq_true rfl, Nat.le_of_ble_eq_true rfl⟩ rfl rfl (Nat.le_of_ble_eq_true rfl) (mt_X7_out _ _ σ1 _ q) (fun r σ2 q => ?_)
  obtain ⟨y, rfl, q, J⟩ := q
  exact L_icmp_eq 1378 dL_law_894 (by decide) (fun _ => nxt σ2 J) (fun z => absurd q z)
