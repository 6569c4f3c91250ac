/-! THE LAW: cases 24 to 29 (printed by wip/whole/law.py) -/
theorem dL_law_899 : decode code 899 = .ok (.aload_n 1, 1) := by decide +kernel
theorem dL_law_900 : decode code 900 = .ok (.aload_n 0, 1) := by decide +kernel
theorem dL_law_901 : decode code 901 = .ok (.iload_n 3, 1) := by decide +kernel
theorem dL_law_902 : decode code 902 = .ok (.iconst 1, 1) := by decide +kernel
theorem dL_law_903 : decode code 903 = .ok (.iadd, 1) := by decide +kernel
theorem dL_law_904 : decode code 904 = .ok (.iaload, 1) := by decide +kernel
theorem dL_law_905 : decode code 905 = .ok (.invokevirtual 116, 3) := by decide +kernel
theorem dL_law_908 : decode code 908 = .ok (.aload_n 2, 1) := by decide +kernel
theorem dL_law_909 : decode code 909 = .ok (.aload_n 0, 1) := by decide +kernel
theorem dL_law_910 : decode code 910 = .ok (.iload_n 3, 1) := by decide +kernel
theorem dL_law_911 : decode code 911 = .ok (.iconst 1, 1) := by decide +kernel
theorem dL_law_912 : decode code 912 = .ok (.iadd, 1) := by decide +kernel
theorem dL_law_913 : decode code 913 = .ok (.iaload, 1) := by decide +kernel
theorem dL_law_914 : decode code 914 = .ok (.invokevirtual 119, 3) := by decide +kernel
theorem dL_law_917 : decode code 917 = .ok (.if_icmp .eq 461, 3) := by decide +kernel
theorem dL_law_922 : decode code 922 = .ok (.aload_n 1, 1) := by decide +kernel
theorem dL_law_923 : decode code 923 = .ok (.invokevirtual 120, 3) := by decide +kernel
theorem dL_law_926 : decode code 926 = .ok (.aload_n 2, 1) := by decide +kernel
theorem dL_law_927 : decode code 927 = .ok (.invokevirtual 123, 3) := by decide +kernel
theorem dL_law_930 : decode code 930 = .ok (.if_icmp .eq 448, 3) := by decide +kernel
theorem dL_law_935 : decode code 935 = .ok (.aload_n 1, 1) := by decide +kernel
theorem dL_law_936 : decode code 936 = .ok (.invokevirtual 124, 3) := by decide +kernel
theorem dL_law_939 : decode code 939 = .ok (.aload_n 2, 1) := by decide +kernel
theorem dL_law_940 : decode code 940 = .ok (.invokevirtual 127, 3) := by decide +kernel
theorem dL_law_943 : decode code 943 = .ok (.if_icmp .eq 435, 3) := by decide +kernel
theorem dL_law_948 : decode code 948 = .ok (.aload_n 1, 1) := by decide +kernel
theorem dL_law_949 : decode code 949 = .ok (.aload_n 0, 1) := by decide +kernel
theorem dL_law_950 : decode code 950 = .ok (.iload_n 3, 1) := by decide +kernel
theorem dL_law_951 : decode code 951 = .ok (.iconst 1, 1) := by decide +kernel
theorem dL_law_952 : decode code 952 = .ok (.iadd, 1) := by decide +kernel
theorem dL_law_953 : decode code 953 = .ok (.iaload, 1) := by decide +kernel
theorem dL_law_954 : decode code 954 = .ok (.invokevirtual 128, 3) := by decide +kernel
theorem dL_law_957 : decode code 957 = .ok (.aload_n 2, 1) := by decide +kernel
theorem dL_law_958 : decode code 958 = .ok (.aload_n 0, 1) := by decide +kernel
theorem dL_law_959 : decode code 959 = .ok (.iload_n 3, 1) := by decide +kernel
theorem dL_law_960 : decode code 960 = .ok (.iconst 1, 1) := by decide +kernel
theorem dL_law_961 : decode code 961 = .ok (.iadd, 1) := by decide +kernel
theorem dL_law_962 : decode code 962 = .ok (.iaload, 1) := by decide +kernel
theorem dL_law_963 : decode code 963 = .ok (.invokevirtual 131, 3) := by decide +kernel
theorem dL_law_966 : decode code 966 = .ok (.if_icmp .eq 412, 3) := by decide +kernel
theorem dL_law_971 : decode code 971 = .ok (.aload_n 1, 1) := by decide +kernel
theorem dL_law_972 : decode code 972 = .ok (.invokevirtual 132, 3) := by decide +kernel
theorem dL_law_975 : decode code 975 = .ok (.aload_n 2, 1) := by decide +kernel
theorem dL_law_976 : decode code 976 = .ok (.invokevirtual 135, 3) := by decide +kernel
theorem dL_law_979 : decode code 979 = .ok (.if_icmp .eq 399, 3) := by decide +kernel
theorem dL_law_984 : decode code 984 = .ok (.aload_n 1, 1) := by decide +kernel
theorem dL_law_985 : decode code 985 = .ok (.aload_n 0, 1) := by decide +kernel
theorem dL_law_986 : decode code 986 = .ok (.iload_n 3, 1) := by decide +kernel
theorem dL_law_987 : decode code 987 = .ok (.iconst 1, 1) := by decide +kernel
theorem dL_law_988 : decode code 988 = .ok (.iadd, 1) := by decide +kernel
theorem dL_law_989 : decode code 989 = .ok (.iaload, 1) := by decide +kernel
theorem dL_law_990 : decode code 990 = .ok (.aload_n 0, 1) := by decide +kernel
theorem dL_law_991 : decode code 991 = .ok (.iload_n 3, 1) := by decide +kernel
theorem dL_law_992 : decode code 992 = .ok (.iconst 2, 1) := by decide +kernel
theorem dL_law_993 : decode code 993 = .ok (.iadd, 1) := by decide +kernel
theorem dL_law_994 : decode code 994 = .ok (.iaload, 1) := by decide +kernel
theorem dL_law_995 : decode code 995 = .ok (.invokevirtual 136, 3) := by decide +kernel
theorem dL_law_998 : decode code 998 = .ok (.aload_n 2, 1) := by decide +kernel
theorem dL_law_999 : decode code 999 = .ok (.aload_n 0, 1) := by decide +kernel
theorem dL_law_1000 : decode code 1000 = .ok (.iload_n 3, 1) := by decide +kernel
theorem dL_law_1001 : decode code 1001 = .ok (.iconst 1, 1) := by decide +kernel
theorem dL_law_1002 : decode code 1002 = .ok (.iadd, 1) := by decide +kernel
theorem dL_law_1003 : decode code 1003 = .ok (.iaload, 1) := by decide +kernel
theorem dL_law_1004 : decode code 1004 = .ok (.aload_n 0, 1) := by decide +kernel
theorem dL_law_1005 : decode code 1005 = .ok (.iload_n 3, 1) := by decide +kernel
theorem dL_law_1006 : decode code 1006 = .ok (.iconst 2, 1) := by decide +kernel
theorem dL_law_1007 : decode code 1007 = .ok (.iadd, 1) := by decide +kernel
theorem dL_law_1008 : decode code 1008 = .ok (.iaload, 1) := by decide +kernel
theorem dL_law_1009 : decode code 1009 = .ok (.invokevirtual 139, 3) := by decide +kernel
theorem dL_law_1012 : decode code 1012 = .ok (.if_icmp .eq 366, 3) := by decide +kernel
theorem twl_192 : Cond.methodLink R_law 116 yX6_reach ∈ Tg := tg_tab (List.mem_of_getElem? (i := 538) (by decide +kernel)) (by decide +kernel)
theorem twl_193 : Cond.code yX6_reach cX6_reach 2 (some .int) ∈ Tg := tg_tab (List.mem_of_getElem? (i := 541) (by decide +kernel)) (by decide +kernel)
theorem twl_194 : Cond.instanceMethod yX6_reach ∈ Tg := tg_tab (List.mem_of_getElem? (i := 539) (by decide +kernel)) (by decide +kernel)
theorem twl_195 : Cond.selects RX6 yX6_reach yX6_reach ∈ Tg := tg_tab (List.mem_of_getElem? (i := 540) (by decide +kernel)) (by decide +kernel)
theorem twl_196 : Cond.methodLink R_law 119 yX7_reach ∈ Tg := tg_tab (List.mem_of_getElem? (i := 1124) (by decide +kernel)) (by decide +kernel)
theorem twl_197 : Cond.code yX7_reach cX7_reach 5 (some .int) ∈ Tg := tg_tab (List.mem_of_getElem? (i := 1127) (by decide +kernel)) (by decide +kernel)
theorem twl_198 : Cond.instanceMethod yX7_reach ∈ Tg := tg_tab (List.mem_of_getElem? (i := 1125) (by decide +kernel)) (by decide +kernel)
theorem twl_199 : Cond.selects RX7 yX7_reach yX7_reach ∈ Tg := tg_tab (List.mem_of_getElem? (i := 1126) (by decide +kernel)) (by decide +kernel)
theorem twl_200 : Cond.methodLink R_law 120 yX6_help ∈ Tg := tg_tab (List.mem_of_getElem? (i := 546) (by decide +kernel)) (by decide +kernel)
theorem twl_201 : Cond.code yX6_help cX6_help 6 (some .int) ∈ Tg := tg_tab (List.mem_of_getElem? (i := 549) (by decide +kernel)) (by decide +kernel)
theorem twl_202 : Cond.instanceMethod yX6_help ∈ Tg := tg_tab (List.mem_of_getElem? (i := 547) (by decide +kernel)) (by decide +kernel)
theorem twl_203 : Cond.selects RX6 yX6_help yX6_help ∈ Tg := tg_tab (List.mem_of_getElem? (i := 548) (by decide +kernel)) (by decide +kernel)
theorem twl_204 : Cond.methodLink R_law 123 yX7_help ∈ Tg := tg_tab (List.mem_of_getElem? (i := 1128) (by decide +kernel)) (by decide +kernel)
theorem twl_205 : Cond.code yX7_help cX7_help 7 (some .int) ∈ Tg := tg_tab (List.mem_of_getElem? (i := 1131) (by decide +kernel)) (by decide +kernel)
theorem twl_206 : Cond.instanceMethod yX7_help ∈ Tg := tg_tab (List.mem_of_getElem? (i := 1129) (by decide +kernel)) (by decide +kernel)
theorem twl_207 : Cond.selects RX7 yX7_help yX7_help ∈ Tg := tg_tab (List.mem_of_getElem? (i := 1130) (by decide +kernel)) (by decide +kernel)
theorem twl_208 : Cond.methodLink R_law 124 yX6_frees ∈ Tg := tg_tab (List.mem_of_getElem? (i := 550) (by decide +kernel)) (by decide +kernel)
theorem twl_209 : Cond.code yX6_frees cX6_frees 5 (some .int) ∈ Tg := tg_tab (List.mem_of_getElem? (i := 553) (by decide +kernel)) (by decide +kernel)
theorem twl_210 : Cond.instanceMethod yX6_frees ∈ Tg := tg_tab (List.mem_of_getElem? (i := 551) (by decide +kernel)) (by decide +kernel)
theorem twl_211 : Cond.selects RX6 yX6_frees yX6_frees ∈ Tg := tg_tab (List.mem_of_getElem? (i := 552) (by decide +kernel)) (by decide +kernel)
theorem twl_212 : Cond.methodLink R_law 127 yX7_frees ∈ Tg := tg_tab (List.mem_of_getElem? (i := 1132) (by decide +kernel)) (by decide +kernel)
theorem twl_213 : Cond.code yX7_frees cX7_frees 6 (some .int) ∈ Tg := tg_tab (List.mem_of_getElem? (i := 1135) (by decide +kernel)) (by decide +kernel)
theorem twl_214 : Cond.instanceMethod yX7_frees ∈ Tg := tg_tab (List.mem_of_getElem? (i := 1133) (by decide +kernel)) (by decide +kernel)
theorem twl_215 : Cond.selects RX7 yX7_frees yX7_frees ∈ Tg := tg_tab (List.mem_of_getElem? (i := 1134) (by decide +kernel)) (by decide +kernel)
theorem twl_216 : Cond.methodLink R_law 128 yX6_kind ∈ Tg := tg_tab (List.mem_of_getElem? (i := 554) (by decide +kernel)) (by decide +kernel)
theorem twl_217 : Cond.code yX6_kind cX6_kind 6 (some .int) ∈ Tg := tg_tab (List.mem_of_getElem? (i := 557) (by decide +kernel)) (by decide +kernel)
theorem twl_218 : Cond.instanceMethod yX6_kind ∈ Tg := tg_tab (List.mem_of_getElem? (i := 555) (by decide +kernel)) (by decide +kernel)
theorem twl_219 : Cond.selects RX6 yX6_kind yX6_kind ∈ Tg := tg_tab (List.mem_of_getElem? (i := 556) (by decide +kernel)) (by decide +kernel)
theorem twl_220 : Cond.methodLink R_law 131 yX7_kind ∈ Tg := tg_tab (List.mem_of_getElem? (i := 1136) (by decide +kernel)) (by decide +kernel)
theorem twl_221 : Cond.code yX7_kind cX7_kind 7 (some .int) ∈ Tg := tg_tab (List.mem_of_getElem? (i := 1139) (by decide +kernel)) (by decide +kernel)
theorem twl_222 : Cond.instanceMethod yX7_kind ∈ Tg := tg_tab (List.mem_of_getElem? (i := 1137) (by decide +kernel)) (by decide +kernel)
theorem twl_223 : Cond.selects RX7 yX7_kind yX7_kind ∈ Tg := tg_tab (List.mem_of_getElem? (i := 1138) (by decide +kernel)) (by decide +kernel)
theorem twl_224 : Cond.methodLink R_law 132 yX6_till ∈ Tg := tg_tab (List.mem_of_getElem? (i := 558) (by decide +kernel)) (by decide +kernel)
theorem twl_225 : Cond.code yX6_till cX6_till 2 (some .int) ∈ Tg := tg_tab (List.mem_of_getElem? (i := 561) (by decide +kernel)) (by decide +kernel)
theorem twl_226 : Cond.instanceMethod yX6_till ∈ Tg := tg_tab (List.mem_of_getElem? (i := 559) (by decide +kernel)) (by decide +kernel)
theorem twl_227 : Cond.selects RX6 yX6_till yX6_till ∈ Tg := tg_tab (List.mem_of_getElem? (i := 560) (by decide +kernel)) (by decide +kernel)
theorem twl_228 : Cond.methodLink R_law 135 yX7_till ∈ Tg := tg_tab (List.mem_of_getElem? (i := 1140) (by decide +kernel)) (by decide +kernel)
theorem twl_229 : Cond.code yX7_till cX7_till 4 (some .int) ∈ Tg := tg_tab (List.mem_of_getElem? (i := 1143) (by decide +kernel)) (by decide +kernel)
theorem twl_230 : Cond.instanceMethod yX7_till ∈ Tg := tg_tab (List.mem_of_getElem? (i := 1141) (by decide +kernel)) (by decide +kernel)
theorem twl_231 : Cond.selects RX7 yX7_till yX7_till ∈ Tg := tg_tab (List.mem_of_getElem? (i := 1142) (by decide +kernel)) (by decide +kernel)
theorem twl_232 : Cond.methodLink R_law 136 yX6_feed ∈ Tg := tg_tab (List.mem_of_getElem? (i := 562) (by decide +kernel)) (by decide +kernel)
theorem twl_233 : Cond.code yX6_feed cX6_feed 4 (some .int) ∈ Tg := tg_tab (List.mem_of_getElem? (i := 565) (by decide +kernel)) (by decide +kernel)
theorem twl_234 : Cond.instanceMethod yX6_feed ∈ Tg := tg_tab (List.mem_of_getElem? (i := 563) (by decide +kernel)) (by decide +kernel)
theorem twl_235 : Cond.selects RX6 yX6_feed yX6_feed ∈ Tg := tg_tab (List.mem_of_getElem? (i := 564) (by decide +kernel)) (by decide +kernel)
theorem twl_236 : Cond.methodLink R_law 139 yX7_feed ∈ Tg := tg_tab (List.mem_of_getElem? (i := 1144) (by decide +kernel)) (by decide +kernel)
theorem twl_237 : Cond.code yX7_feed cX7_feed 4 (some .int) ∈ Tg := tg_tab (List.mem_of_getElem? (i := 1147) (by decide +kernel)) (by decide +kernel)
theorem twl_238 : Cond.instanceMethod yX7_feed ∈ Tg := tg_tab (List.mem_of_getElem? (i := 1145) (by decide +kernel)) (by decide +kernel)
theorem twl_239 : Cond.selects RX7 yX7_feed yX7_feed ∈ Tg := tg_tab (List.mem_of_getElem? (i := 1146) (by decide +kernel)) (by decide +kernel)
theorem lc_24 {L : Nat} {xs : Nat → Int32} {i : Nat} (hL : L ≤ 3072) (hi : i + 6 ≤ L) {σ : St} (I : Inv σ) (nxt : ∀ σ2, Inv σ2 → Lw L xs 1378 (lsL i) [] σ2) : Lw L xs 899 (lsL i) [] σ := by
  refine L_aload_n dL_law_899 rfl (by decide) ?_
  refine L_arg (k := 1) dL_law_900 dL_law_901 dL_law_902 dL_law_903 dL_law_904 (by decide) hL (by omega) ?_
  refine L_callV (n := 1) (k := 0) (ci := 6) (rest := []) (R' := rmX6_reach) dL_law_905 ⟨twl_192, tw_141, twl_193, by decide +kernel, by decide +kernel, by decide +kernel⟩ twl_194 (by decide) (by decide) rfl twl_195 ⟨rfl, rfl, Nat.le_of_ble_eq_true rfl, Nat.le_of_ble_eq_true rfl⟩ rfl rfl (Nat.le_of_ble_eq_true rfl) (mt_X6_reach _ σ _ (pp_reach I _)) (fun r σ1 q => ?_)
  obtain ⟨x, rfl, q⟩ := q
  refine L_aload_n dL_law_908 rfl (by decide) ?_
  refine L_arg (k := 1) dL_law_909 dL_law_910 dL_law_911 dL_law_912 dL_law_913 (by decide) hL (by omega) ?_
  refine L_callV (n := 1) (k := 49) (ci := 7) (rest := [.int x]) (R' := rmX7_reach) dL_law_914 ⟨twl_196, tw_454, twl_197, by decide +kernel, by decide +kernel, by decide +kernel⟩ twl_198 (by decide) (by decide) rfl twl_199 ⟨rfl, rfl, Nat.le_of_ble_eq_true rfl, Nat.le_of_ble_eq_true rfl⟩ rfl rfl (Nat.le_of_ble_eq_true rfl) (mt_X7_reach _ σ1 _ q) (fun r σ2 q => ?_)
  obtain ⟨y, rfl, q, J⟩ := q
  exact L_icmp_eq 1378 dL_law_917 (by decide) (fun _ => nxt σ2 J) (fun z => absurd q z)
theorem lc_25 {L : Nat} {xs : Nat → Int32} {i : Nat} (hL : L ≤ 3072) (hi : i + 6 ≤ L) {σ : St} (I : Inv σ) (nxt : ∀ σ2, Inv σ2 → Lw L xs 1378 (lsL i) [] σ2) : Lw L xs 922 (lsL i) [] σ := by
  refine L_aload_n dL_law_922 rfl (by decide) ?_
  refine L_callV (n := 0) (k := 0) (ci := 6) (rest := []) (R' := rmX6_help) dL_law_923 ⟨twl_200, tw_141, twl_201, by decide +kernel, by decide +kernel, by decide +kernel⟩ twl_202 (by decide) (by decide) rfl twl_203 ⟨rfl, rfl, Nat.le_of_ble_eq_true rfl, Nat.le_of_ble_eq_true rfl⟩ rfl rfl (Nat.le_of_ble_eq_true rfl) (mt_X6_help  σ _ (pp_help I)) (fun r σ1 q => ?_)
  obtain ⟨x, rfl, q⟩ := q
  refine L_aload_n dL_law_926 rfl (by decide) ?_
  refine L_callV (n := 0) (k := 49) (ci := 7) (rest := [.int x]) (R' := rmX7_help) dL_law_927 ⟨twl_204, tw_454, twl_205, by decide +kernel, by decide +kernel, by decide +kernel⟩ twl_206 (by decide) (by decide) rfl twl_207 ⟨rfl, rfl, Nat.le_of_ble_eq_true rfl, Nat.le_of_ble_eq_true rfl⟩ rfl rfl (Nat.le_of_ble_eq_true rfl) (mt_X7_help  σ1 _ q) (fun r σ2 q => ?_)
  obtain ⟨y, rfl, q, J⟩ := q
  exact L_icmp_eq 1378 dL_law_930 (by decide) (fun _ => nxt σ2 J) (fun z => absurd q z)
theorem lc_26 {L : Nat} {xs : Nat → Int32} {i : Nat} (hL : L ≤ 3072) (hi : i + 6 ≤ L) {σ : St} (I : Inv σ) (nxt : ∀ σ2, Inv σ2 → Lw L xs 1378 (lsL i) [] σ2) : Lw L xs 935 (lsL i) [] σ := by
  refine L_aload_n dL_law_935 rfl (by decide) ?_
  refine L_callV (n := 0) (k := 0) (ci := 6) (rest := []) (R' := rmX6_frees) dL_law_936 ⟨twl_208, tw_141, twl_209, by decide +kernel, by decide +kernel, by decide +kernel⟩ twl_210 (by decide) (by decide) rfl twl_211 ⟨rfl, rfl, Nat.le_of_ble_eq_true rfl, Nat.le_of_ble_eq_true rfl⟩ rfl rfl (Nat.le_of_ble_eq_true rfl) (mt_X6_frees  σ _ (pp_frees I)) (fun r σ1 q => ?_)
  obtain ⟨x, rfl, q⟩ := q
  refine L_aload_n dL_law_939 rfl (by decide) ?_
  refine L_callV (n := 0) (k := 49) (ci := 7) (rest := [.int x]) (R' := rmX7_frees) dL_law_940 ⟨twl_212, tw_454, twl_213, by decide +kernel, by decide +kernel, by decide +kernel⟩ twl_214 (by decide) (by decide) rfl twl_215 ⟨rfl, rfl, Nat.le_of_ble_eq_true rfl, Nat.le_of_ble_eq_true rfl⟩ rfl rfl (Nat.le_of_ble_eq_true rfl) (mt_X7_frees  σ1 _ q) (fun r σ2 q => ?_)
  obtain ⟨y, rfl, q, J⟩ := q
  exact L_icmp_eq 1378 dL_law_943 (by decide) (fun _ => nxt σ2 J) (fun z => absurd q z)
theorem lc_27 {L : Nat} {xs : Nat → Int32} {i : Nat} (hL : L ≤ 3072) (hi : i + 6 ≤ L) {σ : St} (I : Inv σ) (nxt : ∀ σ2, Inv σ2 → Lw L xs 1378 (lsL i) [] σ2) : Lw L xs 948 (lsL i) [] σ := by
  refine L_aload_n dL_law_948 rfl (by decide) ?_
  refine L_arg (k := 1) dL_law_949 dL_law_950 dL_law_951 dL_law_952 dL_law_953 (by decide) hL (by omega) ?_
  refine L_callV (n := 1) (k := 0) (ci := 6) (rest := []) (R' := rmX6_kind) dL_law_954 ⟨twl_216, tw_141, twl_217, by decide +kernel, by decide +kernel, by decide +kernel⟩ twl_218 (by decide) (by decide) rfl twl_219 ⟨rfl, rfl, Nat.le_of_ble_eq_true rfl, Nat.le_of_ble_eq_true rfl⟩ rfl rfl (Nat.le_of_ble_eq_true rfl) (mt_X6_kind _ σ _ (pp_kind I _)) (fun r σ1 q => ?_)
  obtain ⟨x, rfl, q⟩ := q
  refine L_aload_n dL_law_957 rfl (by decide) ?_
  refine L_arg (k := 1) dL_law_958 dL_law_959 dL_law_960 dL_law_961 dL_law_962 (by decide) hL (by omega) ?_
  refine L_callV (n := 1) (k := 49) (ci := 7) (rest := [.int x]) (R' := rmX7_kind) dL_law_963 ⟨twl_220, tw_454, twl_221, by decide +kernel, by decide +kernel, by decide +kernel⟩ twl_222 (by decide) (by decide) rfl twl_223 ⟨rfl, rfl, Nat.le_of_ble_eq_true rfl, Nat.le_of_ble_eq_true rfl⟩ rfl rfl (Nat.le_of_ble_eq_true rfl) (mt_X7_kind _ σ1 _ q) (fun r σ2 q => ?_)
  obtain ⟨y, rfl, q, J⟩ := q
  exact L_icmp_eq 1378 dL_law_966 (by decide) (fun _ => nxt σ2 J) (fun z => absurd q z)
theorem lc_28 {L : Nat} {xs : Nat → Int32} {i : Nat} (hL : L ≤ 3072) (hi : i + 6 ≤ L) {σ : St} (I : Inv σ) (nxt : ∀ σ2, Inv σ2 → Lw L xs 1378 (lsL i) [] σ2) : Lw L xs 971 (lsL i) [] σ := by
  refine L_aload_n dL_law_971 rfl (by decide) ?_
  refine L_callV (n := 0) (k := 0) (ci := 6) (rest := []) (R' := rmX6_till) dL_law_972 ⟨twl_224, tw_141, twl_225, by decide +kernel, by decide +kernel, by decide +kernel⟩ twl_226 (by decide) (by decide) rfl twl_227 ⟨rfl, rfl, Nat.le_of_ble_eq_true rfl, Nat.le_of_ble_eq_true rfl⟩ rfl rfl (Nat.le_of_ble_eq_true rfl) (mt_X6_till  σ _ (pp_till I)) (fun r σ1 q => ?_)
  obtain ⟨x, rfl, q⟩ := q
  refine L_aload_n dL_law_975 rfl (by decide) ?_
  refine L_callV (n := 0) (k := 49) (ci := 7) (rest := [.int x]) (R' := rmX7_till) dL_law_976 ⟨twl_228, tw_454, twl_229, by decide +kernel, by decide +kernel, by decide +kernel⟩ twl_230 (by decide) (by decide) rfl twl_231 ⟨rfl, rfl, Nat.le_of_ble_eq_true rfl, Nat.le_of_ble_eq_true rfl⟩ rfl rfl (Nat.le_of_ble_eq_true rfl) (mt_X7_till  σ1 _ q) (fun r σ2 q => ?_)
  obtain ⟨y, rfl, q, J⟩ := q
  exact L_icmp_eq 1378 dL_law_979 (by decide) (fun _ => nxt σ2 J) (fun z => absurd q z)
theorem lc_29 {L : Nat} {xs : Nat → Int32} {i : Nat} (hL : L ≤ 3072) (hi : i + 6 ≤ L) {σ : St} (I : Inv σ) (nxt : ∀ σ2, Inv σ2 → Lw L xs 1378 (lsL i) [] σ2) : Lw L xs 984 (lsL i) [] σ := by
  refine L_aload_n dL_law_984 rfl (by decide) ?_
  refine L_arg (k := 1) dL_law_985 dL_law_986 dL_law_987 dL_law_988 dL_law_989 (by decide) hL (by omega) ?_
  refine L_arg (k := 2) dL_law_990 dL_law_991 dL_law_992 dL_law_993 dL_law_994 (by decide) hL (by omega) ?_
  refine L_callV (n := 2) (k := 0) (ci := 6) (rest := []) (R' := rmX6_feed) dL_law_995 ⟨twl_232, tw_141, twl_233, by decide +kernel, by decide +kernel, by decide +kernel⟩ twl_234 (by decide) (by decide) rfl twl_235 ⟨rfl, rfl, Nat.le_of_ble_eq_true rfl, Nat.le_of_ble_eq_true rfl⟩ rfl rfl (Nat.le_of_ble_eq_true rfl) (mt_X6_feed _ _ σ _ (pp_feed I _ _)) (fun r σ1 q => ?_)
  obtain ⟨x, rfl, q⟩ := q
  refine L_aload_n dL_law_998 rfl (by decide) ?_
  refine L_arg (k := 1) dL_law_999 dL_law_1000 dL_law_1001 dL_law_1002 dL_law_1003 (by decide) hL (by omega) ?_
  refine L_arg (k := 2) dL_law_1004 dL_law_1005 dL_law_1006 dL_law_1007 dL_law_1008 (by decide) hL (by omega) ?_
  refine L_callV (n := 2) (k := 49) (ci := 7) (rest := [.int x]) (R' := rmX7_feed) dL_law_1009 ⟨twl_236, tw_454, twl_237, by decide +kernel, by decide +kernel, by decide +kernel⟩ twl_238 (by decide) (by decide) rfl twl_239 ⟨rfl, rfl, Nat.le_of_ble_eq_true rfl, Nat.le_of_ble_eq_true rfl⟩ rfl rfl (Nat.le_of_ble_eq_true rfl) (mt_X7_feed _ _ σ1 _ q) (fun r σ2 q => ?_)
  obtain ⟨y, rfl, q, J⟩ := q
  exact L_icmp_eq 1378 dL_law_1012 (by decide) (fun _ => nxt σ2 J) (fun z => absurd q z)
