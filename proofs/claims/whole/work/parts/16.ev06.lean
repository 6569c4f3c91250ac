theorem dX6_bring_0 : decode cX6_bring 0 = .ok (.aload_n 0, 1) := by decide +kernel
theorem dX6_bring_1 : decode cX6_bring 1 = .ok (.iload_n 1, 1) := by decide +kernel
theorem dX6_bring_2 : decode cX6_bring 2 = .ok (.invokevirtual 169, 3) := by decide +kernel
theorem dX6_bring_5 : decode cX6_bring 5 = .ok (.ifCond .ne 10, 3) := by decide +kernel
theorem dX6_bring_8 : decode cX6_bring 8 = .ok (.aload_n 0, 1) := by decide +kernel
theorem dX6_bring_9 : decode cX6_bring 9 = .ok (.ldc 64, 2) := by decide +kernel
theorem dX6_bring_11 : decode cX6_bring 11 = .ok (.invokevirtual 65, 3) := by decide +kernel
theorem dX6_bring_14 : decode cX6_bring 14 = .ok (.ireturn, 1) := by decide +kernel
theorem dX6_bring_15 : decode cX6_bring 15 = .ok (.aload_n 0, 1) := by decide +kernel
theorem dX6_bring_16 : decode cX6_bring 16 = .ok (.getfield 25, 3) := by decide +kernel
theorem dX6_bring_19 : decode cX6_bring 19 = .ok (.aload_n 0, 1) := by decide +kernel
theorem dX6_bring_20 : decode cX6_bring 20 = .ok (.getfield 12, 3) := by decide +kernel
theorem dX6_bring_23 : decode cX6_bring 23 = .ok (.invokevirtual 152, 3) := by decide +kernel
theorem dX6_bring_26 : decode cX6_bring 26 = .ok (.aload_n 0, 1) := by decide +kernel
theorem dX6_bring_27 : decode cX6_bring 27 = .ok (.getfield 32, 3) := by decide +kernel
theorem dX6_bring_30 : decode cX6_bring 30 = .ok (.aload_n 0, 1) := by decide +kernel
theorem dX6_bring_31 : decode cX6_bring 31 = .ok (.getfield 25, 3) := by decide +kernel
theorem dX6_bring_34 : decode cX6_bring 34 = .ok (.iload_n 1, 1) := by decide +kernel
theorem dX6_bring_35 : decode cX6_bring 35 = .ok (.invokevirtual 188, 3) := by decide +kernel
theorem dX6_bring_38 : decode cX6_bring 38 = .ok (.aload_n 0, 1) := by decide +kernel
theorem dX6_bring_39 : decode cX6_bring 39 = .ok (.getfield 32, 3) := by decide +kernel
theorem dX6_bring_42 : decode cX6_bring 42 = .ok (.getfield 184, 3) := by decide +kernel
theorem dX6_bring_45 : decode cX6_bring 45 = .ok (.aload_n 0, 1) := by decide +kernel
theorem dX6_bring_46 : decode cX6_bring 46 = .ok (.getfield 25, 3) := by decide +kernel
theorem dX6_bring_49 : decode cX6_bring 49 = .ok (.getfield 156, 3) := by decide +kernel
theorem dX6_bring_52 : decode cX6_bring 52 = .ok (.laload, 1) := by decide +kernel
theorem dX6_bring_53 : decode cX6_bring 53 = .ok (.lconst 0, 1) := by decide +kernel
theorem dX6_bring_54 : decode cX6_bring 54 = .ok (.lcmp, 1) := by decide +kernel
theorem dX6_bring_55 : decode cX6_bring 55 = .ok (.ifCond .ne 10, 3) := by decide +kernel
theorem dX6_bring_58 : decode cX6_bring 58 = .ok (.aload_n 0, 1) := by decide +kernel
theorem dX6_bring_59 : decode cX6_bring 59 = .ok (.ldc 138, 2) := by decide +kernel
theorem dX6_bring_61 : decode cX6_bring 61 = .ok (.invokevirtual 65, 3) := by decide +kernel
theorem dX6_bring_64 : decode cX6_bring 64 = .ok (.ireturn, 1) := by decide +kernel
theorem dX6_bring_65 : decode cX6_bring 65 = .ok (.iconst 0, 1) := by decide +kernel
theorem dX6_bring_66 : decode cX6_bring 66 = .ok (.istore_n 2, 1) := by decide +kernel
theorem dX6_bring_67 : decode cX6_bring 67 = .ok (.aload_n 0, 1) := by decide +kernel
theorem dX6_bring_68 : decode cX6_bring 68 = .ok (.getfield 25, 3) := by decide +kernel
theorem dX6_bring_71 : decode cX6_bring 71 = .ok (.getfield 156, 3) := by decide +kernel
theorem dX6_bring_74 : decode cX6_bring 74 = .ok (.istore_n 3, 1) := by decide +kernel
theorem dX6_bring_75 : decode cX6_bring 75 = .ok (.iload_n 3, 1) := by decide +kernel
theorem dX6_bring_76 : decode cX6_bring 76 = .ok (.iload_n 1, 1) := by decide +kernel
theorem dX6_bring_77 : decode cX6_bring 77 = .ok (.if_icmp .eq 53, 3) := by decide +kernel
theorem dX6_bring_80 : decode cX6_bring 80 = .ok (.iload_n 2, 1) := by decide +kernel
theorem dX6_bring_81 : decode cX6_bring 81 = .ok (.bipush 28, 2) := by decide +kernel
theorem dX6_bring_83 : decode cX6_bring 83 = .ok (.if_icmp .ge 47, 3) := by decide +kernel
theorem dX6_bring_86 : decode cX6_bring 86 = .ok (.aload_n 0, 1) := by decide +kernel
theorem dX6_bring_87 : decode cX6_bring 87 = .ok (.getfield 32, 3) := by decide +kernel
theorem dX6_bring_90 : decode cX6_bring 90 = .ok (.aload_n 0, 1) := by decide +kernel
theorem dX6_bring_91 : decode cX6_bring 91 = .ok (.getfield 25, 3) := by decide +kernel
theorem dX6_bring_94 : decode cX6_bring 94 = .ok (.iload_n 3, 1) := by decide +kernel
theorem dX6_bring_95 : decode cX6_bring 95 = .ok (.invokevirtual 192, 3) := by decide +kernel
theorem dX6_bring_98 : decode cX6_bring 98 = .ok (.istore 4, 2) := by decide +kernel
theorem dX6_bring_100 : decode cX6_bring 100 = .ok (.iload 4, 2) := by decide +kernel
theorem dX6_bring_102 : decode cX6_bring 102 = .ok (.ifCond .ge 5, 3) := by decide +kernel
theorem dX6_bring_105 : decode cX6_bring 105 = .ok (.iload_n 2, 1) := by decide +kernel
theorem dX6_bring_106 : decode cX6_bring 106 = .ok (.ireturn, 1) := by decide +kernel
theorem dX6_bring_107 : decode cX6_bring 107 = .ok (.aload_n 0, 1) := by decide +kernel
theorem dX6_bring_108 : decode cX6_bring 108 = .ok (.getfield 12, 3) := by decide +kernel
theorem dX6_bring_111 : decode cX6_bring 111 = .ok (.iload 4, 2) := by decide +kernel
theorem dX6_bring_113 : decode cX6_bring 113 = .ok (.invokevirtual 165, 3) := by decide +kernel
theorem dX6_bring_116 : decode cX6_bring 116 = .ok (.iload_n 3, 1) := by decide +kernel
theorem dX6_bring_117 : decode cX6_bring 117 = .ok (.iload 4, 2) := by decide +kernel
theorem dX6_bring_119 : decode cX6_bring 119 = .ok (.invokestatic 197, 3) := by decide +kernel
theorem dX6_bring_122 : decode cX6_bring 122 = .ok (.isub, 1) := by decide +kernel
theorem dX6_bring_123 : decode cX6_bring 123 = .ok (.istore_n 3, 1) := by decide +kernel
theorem dX6_bring_124 : decode cX6_bring 124 = .ok (.iinc 2 1, 3) := by decide +kernel
theorem dX6_bring_127 : decode cX6_bring 127 = .ok (.goto (-52), 3) := by decide +kernel
theorem dX6_bring_130 : decode cX6_bring 130 = .ok (.iload_n 2, 1) := by decide +kernel
theorem dX6_bring_131 : decode cX6_bring 131 = .ok (.ireturn, 1) := by decide +kernel
def rmX6_bring : Room := { frames := 5, cells := 0, slots := 0, locals := 119 }
abbrev eX6_bring := Ev cX6_bring 5 (some .int) RX6 rmX6_bring
set_option maxRecDepth 20000 in
theorem ev_X6_bring_l75 (l1 : Int32)  (K : Int32 → St → Prop) (Q : Int32 → St → Prop) (hK : ∀ k2 s, K k2 s → eX6_bring 130 [un, un, .int (k2), un, un] [] s (qI Q)) : ∀ (n : Nat) (l2 : Int32) (l3 : Int32) (σ : St), P_X6_bring_l75 l1 K Q n l2 l3 σ → eX6_bring 75 [.ref (0), .int (l1), .int (l2), .int (l3), un] [] σ (qI Q) := by
  intro n
  induction n with
  | zero => intro l2 l3 σ hP; exact hP.elim
  | succ n ih =>
    intro l2 l3 σ hP
    rw [P_X6_bring_l75] at hP
    refine E_iload_n dX6_bring_75 rfl ?_
    refine E_iload_n dX6_bring_76 rfl ?_
    refine E_icmp_eq 130 dX6_bring_77 (by decide) (fun hc => ?_) (fun hc => ?_)
    · replace hP := hP.1 hc
      refine E_mask [false, false, true, false, false] rfl ?_
      exact hK (l2) _ hP
    · replace hP := hP.2 hc
      refine E_iload_n dX6_bring_80 rfl ?_
      refine E_bipush (v := 28) dX6_bring_81 (by decide) ?_
      refine E_icmp_ge 130 dX6_bring_83 (by decide) (fun hc => ?_) (fun hc => ?_)
      · replace hP := hP.1 hc
        refine E_mask [false, false, true, false, false] rfl ?_
        exact hK (l2) _ hP
      · replace hP := hP.2 hc
        refine E_aload_n dX6_bring_86 rfl ?_
        refine E_getR (j := 4) dX6_bring_87 (show kd 0 = 6 by decide) (by decide) rfl fd_RX6_32 (by decide) ?_
        refine E_aload_n dX6_bring_90 rfl ?_
        refine E_getR (j := 3) dX6_bring_91 (show kd 0 = 6 by decide) (by decide) rfl fd_RX6_25 (by decide) ?_
        refine E_iload_n dX6_bring_94 rfl ?_
        refine E_callV (As := [.ref (19), .int (l3)]) (rest := []) dX6_bring_95 cl_RX6_192 tw_110 (ar_6_23 (show kd 0 = 6 by decide)).1 (by decide) rfl tw_111 ⟨rfl, rfl, Nat.le_of_ble_eq_true rfl, Nat.le_of_ble_eq_true rfl⟩ rfl rfl (Nat.le_of_ble_eq_true rfl) (mt_X1_leadFrom _ _ _ _ (ar_6_19 (show kd 0 = 6 by decide)).1 hP) ?_
        intro r0 s0 hq0; obtain ⟨r95, h0, hs0, hP⟩ := hq0; subst h0; rw [hs0]
        show eX6_bring 98 [.ref (0), .int (l1), .int (l2), .int (l3), un] [.int (r95)] σ _
        refine E_istore (ls' := [.ref (0), .int (l1), .int (l2), .int (l3), .int (r95)]) dX6_bring_98 (by decide) rfl ?_
        refine E_iload dX6_bring_100 rfl ?_
        refine E_if_ge 107 dX6_bring_102 (by decide) (fun hc => ?_) (fun hc => ?_)
        · replace hP := hP.1 hc
          refine E_aload_n dX6_bring_107 rfl ?_
          refine E_getR (j := 0) dX6_bring_108 (show kd 0 = 6 by decide) (by decide) rfl fd_RX6_12 (by decide) ?_
          refine E_iload dX6_bring_111 rfl ?_
          refine E_callV (As := [.int (r95)]) (rest := []) dX6_bring_113 cl_RX6_165 tw_223 (ar_6_1 (show kd 0 = 6 by decide)).1 (by decide) rfl tw_224 ⟨rfl, rfl, Nat.le_of_ble_eq_true rfl, Nat.le_of_ble_eq_true rfl⟩ rfl rfl (Nat.le_of_ble_eq_true rfl) (mt_X0_takeLowest _ _ _ _ (ar_6_1 (show kd 0 = 6 by decide)).1 hP) ?_
          rintro _ t113 ⟨rfl, hP⟩
          show eX6_bring 116 [.ref (0), .int (l1), .int (l2), .int (l3), .int (r95)] [] t113 _
          refine E_iload_n dX6_bring_116 rfl ?_
          refine E_iload dX6_bring_117 rfl ?_
          refine E_callS (As := [.int (r95)]) (rest := [.int (l3)]) dX6_bring_119 cl_RX6_197 tw_44 ⟨rfl, rfl, Nat.le_of_ble_eq_true rfl, Nat.le_of_ble_eq_true rfl⟩ rfl rfl (Nat.le_of_ble_eq_true rfl) (mt_X3_unit _ _ _  hP) ?_
          intro r0 s0 hq0; obtain ⟨r119, h0, hs0, hP⟩ := hq0; subst h0; rw [hs0]
          show eX6_bring 122 [.ref (0), .int (l1), .int (l2), .int (l3), .int (r95)] [.int (r119), .int (l3)] t113 _
          refine E_isub dX6_bring_122 ?_
          refine E_istore_n (ls' := [.ref (0), .int (l1), .int (l2), .int (l3 - r119), .int (r95)]) dX6_bring_123 (by decide) rfl ?_
          refine E_iinc (ls' := [.ref (0), .int (l1), .int (l2 + 1), .int (l3 - r119), .int (r95)]) dX6_bring_124 rfl rfl (by decide) rfl ?_
          refine E_goto 75 dX6_bring_127 (by decide) ?_
          refine E_mask [true, true, true, true, false] rfl ?_
          exact ih (l2 + 1) (l3 - r119) _ hP
        · replace hP := hP.2 hc
          refine E_iload_n dX6_bring_105 rfl ?_
          exact E_iret dX6_bring_106 rfl ⟨_, rfl, hP⟩
set_option maxRecDepth 20000 in
theorem mt_X6_bring (p0 : Int32) (σ : St) (Q : Int32 → St → Prop)  (hP : P_X6_bring p0 σ Q) : Mt yX6_bring cX6_bring 5 (some .int) rmX6_bring [.ref (0), .int (p0)] σ (qI Q) := by
  refine Mt.of (k := 3) (ls := [.ref (0), .int (p0), un, un, un]) (by decide +kernel) rfl (Nat.le_of_ble_eq_true rfl) ?_
  show eX6_bring 0 [.ref (0), .int (p0), un, un, un] [] σ _
  unfold P_X6_bring at hP
  refine E_aload_n dX6_bring_0 rfl ?_
  refine E_iload_n dX6_bring_1 rfl ?_
  refine E_callV (As := [.int (p0)]) (rest := []) dX6_bring_2 cl_RX6_169 tw_360 (show kd 0 = 6 by decide) (by decide) rfl tw_361 ⟨rfl, rfl, Nat.le_of_ble_eq_true rfl, Nat.le_of_ble_eq_true rfl⟩ rfl rfl (Nat.le_of_ble_eq_true rfl) (mt_X6_isStand _ _ _  hP) ?_
  intro r0 s0 hq0; obtain ⟨r2, h0, hs0, hP⟩ := hq0; subst h0; rw [hs0]
  show eX6_bring 5 [.ref (0), .int (p0), un, un, un] [.int (bI r2)] σ _
  refine E_ifz_ne 15 dX6_bring_5 (by decide) (fun hc => ?_) (fun hc => ?_)
  · replace hP := hP.1 hc
    refine E_aload_n dX6_bring_15 rfl ?_
    refine E_getR (j := 3) dX6_bring_16 (show kd 0 = 6 by decide) (by decide) rfl fd_RX6_25 (by decide) ?_
    refine E_aload_n dX6_bring_19 rfl ?_
    refine E_getR (j := 0) dX6_bring_20 (show kd 0 = 6 by decide) (by decide) rfl fd_RX6_12 (by decide) ?_
    refine E_callV (As := [.ref (1)]) (rest := []) dX6_bring_23 cl_RX6_152 tw_228 (ar_6_19 (show kd 0 = 6 by decide)).1 (by decide) rfl tw_229 ⟨rfl, rfl, Nat.le_of_ble_eq_true rfl, Nat.le_of_ble_eq_true rfl⟩ rfl rfl (Nat.le_of_ble_eq_true rfl) (mt_X3_measure _ _ _ _ (ar_6_19 (show kd 0 = 6 by decide)).1 (ar_6_1 (show kd 0 = 6 by decide)).1 hP) ?_
    rintro _ t23 ⟨rfl, hP⟩
    show eX6_bring 26 [.ref (0), .int (p0), un, un, un] [] t23 _
    refine E_aload_n dX6_bring_26 rfl ?_
    refine E_getR (j := 4) dX6_bring_27 (show kd 0 = 6 by decide) (by decide) rfl fd_RX6_32 (by decide) ?_
    refine E_aload_n dX6_bring_30 rfl ?_
    refine E_getR (j := 3) dX6_bring_31 (show kd 0 = 6 by decide) (by decide) rfl fd_RX6_25 (by decide) ?_
    refine E_iload_n dX6_bring_34 rfl ?_
    refine E_callV (As := [.ref (19), .int (p0)]) (rest := []) dX6_bring_35 cl_RX6_188 tw_370 (ar_6_23 (show kd 0 = 6 by decide)).1 (by decide) rfl tw_371 ⟨rfl, rfl, Nat.le_of_ble_eq_true rfl, Nat.le_of_ble_eq_true rfl⟩ rfl rfl (Nat.le_of_ble_eq_true rfl) (mt_X1_lead _ _ _ _ (ar_6_19 (show kd 0 = 6 by decide)).1 hP) ?_
    rintro _ t35 ⟨rfl, hP⟩
    show eX6_bring 38 [.ref (0), .int (p0), un, un, un] [] t35 _
    refine E_aload_n dX6_bring_38 rfl ?_
    refine E_getR (j := 4) dX6_bring_39 (show kd 0 = 6 by decide) (by decide) rfl fd_RX6_32 (by decide) ?_
    refine E_getR (j := 0) dX6_bring_42 (ar_6_23 (show kd 0 = 6 by decide)).1 (by decide) rfl fd_RX6_184 (by decide) ?_
    refine E_aload_n dX6_bring_45 rfl ?_
    refine E_getR (j := 3) dX6_bring_46 (show kd 0 = 6 by decide) (by decide) rfl fd_RX6_25 (by decide) ?_
    refine E_getI (j := 3) dX6_bring_49 (ar_6_19 (show kd 0 = 6 by decide)).1 (by decide) rfl fd_RX6_156 ?_
    obtain ⟨hb, hP⟩ := hP
    refine E_lald dX6_bring_52 (ar_1_1 (ar_6_23 (show kd 0 = 6 by decide)).1).1 (ar_1_1 (ar_6_23 (show kd 0 = 6 by decide)).1).2 hb ?_
    refine E_lconst (v := 0) dX6_bring_53 (by decide) ?_
    refine E_lcmp dX6_bring_54 ?_
    refine E_if_ne 65 dX6_bring_55 (by decide) (fun hc => ?_) (fun hc => ?_)
    · replace hP := hP.1 hc
      refine E_iconst (v := 0) dX6_bring_65 (by decide) ?_
      refine E_istore_n (ls' := [.ref (0), .int (p0), .int (0), un, un]) dX6_bring_66 (by decide) rfl ?_
      refine E_aload_n dX6_bring_67 rfl ?_
      refine E_getR (j := 3) dX6_bring_68 (show kd 0 = 6 by decide) (by decide) rfl fd_RX6_25 (by decide) ?_
      refine E_getI (j := 3) dX6_bring_71 (ar_6_19 (show kd 0 = 6 by decide)).1 (by decide) rfl fd_RX6_156 ?_
      refine E_istore_n (ls' := [.ref (0), .int (p0), .int (0), .int (gI t35 19 3), un]) dX6_bring_74 (by decide) rfl ?_
      obtain ⟨m75, hP⟩ := hP
      refine ev_X6_bring_l75 (p0)  _ Q ?_ m75 _ _ _ hP
      intro k2 t130 hP
      refine E_iload_n dX6_bring_130 rfl ?_
      exact E_iret dX6_bring_131 rfl ⟨_, rfl, hP⟩
    · replace hP := hP.2 hc
      refine E_aload_n dX6_bring_58 rfl ?_
      refine E_ldc (v := (-1000000005)) dX6_bring_59 tw_333 ?_
      refine E_callV (As := [.int ((-1000000005))]) (rest := []) dX6_bring_61 cl_RX6_65 tw_279 (show kd 0 = 6 by decide) (by decide) rfl tw_280 ⟨rfl, rfl, Nat.le_of_ble_eq_true rfl, Nat.le_of_ble_eq_true rfl⟩ rfl rfl (Nat.le_of_ble_eq_true rfl) (mt_X6_finding _ _ _  hP) ?_
      rintro _ t61 ⟨r61, rfl, hP⟩
      show eX6_bring 64 [.ref (0), .int (p0), un, un, un] [.int (r61)] t61 _
      exact E_iret dX6_bring_64 rfl ⟨_, rfl, hP⟩
  · replace hP := hP.2 hc
    refine E_aload_n dX6_bring_8 rfl ?_
    refine E_ldc (v := (-1000000001)) dX6_bring_9 tw_274 ?_
    refine E_callV (As := [.int ((-1000000001))]) (rest := []) dX6_bring_11 cl_RX6_65 tw_279 (show kd 0 = 6 by decide) (by decide) rfl tw_280 ⟨rfl, rfl, Nat.le_of_ble_eq_true rfl, Nat.le_of_ble_eq_true rfl⟩ rfl rfl (Nat.le_of_ble_eq_true rfl) (mt_X6_finding _ _ _  hP) ?_
    rintro _ t11 ⟨r11, rfl, hP⟩
    show eX6_bring 14 [.ref (0), .int (p0), un, un, un] [.int (r11)] t11 _
    exact E_iret dX6_bring_14 rfl ⟨_, rfl, hP⟩
theorem dX6_leastSlack_0 : decode cX6_leastSlack 0 = .ok (.aload_n 0, 1) := by decide +kernel
theorem dX6_leastSlack_1 : decode cX6_leastSlack 1 = .ok (.getfield 19, 3) := by decide +kernel
theorem dX6_leastSlack_4 : decode cX6_leastSlack 4 = .ok (.aload_n 0, 1) := by decide +kernel
theorem dX6_leastSlack_5 : decode cX6_leastSlack 5 = .ok (.getfield 12, 3) := by decide +kernel
theorem dX6_leastSlack_8 : decode cX6_leastSlack 8 = .ok (.invokevirtual 216, 3) := by decide +kernel
theorem dX6_leastSlack_11 : decode cX6_leastSlack 11 = .ok (.iconst 0, 1) := by decide +kernel
theorem dX6_leastSlack_12 : decode cX6_leastSlack 12 = .ok (.istore_n 2, 1) := by decide +kernel
theorem dX6_leastSlack_13 : decode cX6_leastSlack 13 = .ok (.bipush 64, 2) := by decide +kernel
theorem dX6_leastSlack_15 : decode cX6_leastSlack 15 = .ok (.istore_n 3, 1) := by decide +kernel
theorem dX6_leastSlack_16 : decode cX6_leastSlack 16 = .ok (.iload_n 3, 1) := by decide +kernel
theorem dX6_leastSlack_17 : decode cX6_leastSlack 17 = .ok (.ifCond .le 38, 3) := by decide +kernel
theorem dX6_leastSlack_20 : decode cX6_leastSlack 20 = .ok (.aload_n 0, 1) := by decide +kernel
theorem dX6_leastSlack_21 : decode cX6_leastSlack 21 = .ok (.getfield 19, 3) := by decide +kernel
theorem dX6_leastSlack_24 : decode cX6_leastSlack 24 = .ok (.iload_n 2, 1) := by decide +kernel
theorem dX6_leastSlack_25 : decode cX6_leastSlack 25 = .ok (.iload_n 3, 1) := by decide +kernel
theorem dX6_leastSlack_26 : decode cX6_leastSlack 26 = .ok (.iadd, 1) := by decide +kernel
theorem dX6_leastSlack_27 : decode cX6_leastSlack 27 = .ok (.iconst 1, 1) := by decide +kernel
theorem dX6_leastSlack_28 : decode cX6_leastSlack 28 = .ok (.isub, 1) := by decide +kernel
theorem dX6_leastSlack_29 : decode cX6_leastSlack 29 = .ok (.putfield 124, 3) := by decide +kernel
theorem dX6_leastSlack_32 : decode cX6_leastSlack 32 = .ok (.aload_n 0, 1) := by decide +kernel
theorem dX6_leastSlack_33 : decode cX6_leastSlack 33 = .ok (.aload_n 0, 1) := by decide +kernel
theorem dX6_leastSlack_34 : decode cX6_leastSlack 34 = .ok (.getfield 19, 3) := by decide +kernel
theorem dX6_leastSlack_37 : decode cX6_leastSlack 37 = .ok (.iload_n 1, 1) := by decide +kernel
theorem dX6_leastSlack_38 : decode cX6_leastSlack 38 = .ok (.invokevirtual 172, 3) := by decide +kernel
theorem dX6_leastSlack_41 : decode cX6_leastSlack 41 = .ok (.ifCond .ne 7, 3) := by decide +kernel
theorem dX6_leastSlack_44 : decode cX6_leastSlack 44 = .ok (.iload_n 2, 1) := by decide +kernel
theorem dX6_leastSlack_45 : decode cX6_leastSlack 45 = .ok (.iload_n 3, 1) := by decide +kernel
theorem dX6_leastSlack_46 : decode cX6_leastSlack 46 = .ok (.iadd, 1) := by decide +kernel
theorem dX6_leastSlack_47 : decode cX6_leastSlack 47 = .ok (.istore_n 2, 1) := by decide +kernel
theorem dX6_leastSlack_48 : decode cX6_leastSlack 48 = .ok (.iload_n 3, 1) := by decide +kernel
theorem dX6_leastSlack_49 : decode cX6_leastSlack 49 = .ok (.iconst 2, 1) := by decide +kernel
theorem dX6_leastSlack_50 : decode cX6_leastSlack 50 = .ok (.idiv, 1) := by decide +kernel
theorem dX6_leastSlack_51 : decode cX6_leastSlack 51 = .ok (.istore_n 3, 1) := by decide +kernel
theorem dX6_leastSlack_52 : decode cX6_leastSlack 52 = .ok (.goto (-36), 3) := by decide +kernel
theorem dX6_leastSlack_55 : decode cX6_leastSlack 55 = .ok (.iload_n 2, 1) := by decide +kernel
theorem dX6_leastSlack_56 : decode cX6_leastSlack 56 = .ok (.bipush 99, 2) := by decide +kernel
theorem dX6_leastSlack_58 : decode cX6_leastSlack 58 = .ok (.if_icmp .le 12, 3) := by decide +kernel
theorem dX6_leastSlack_61 : decode cX6_leastSlack 61 = .ok (.aload_n 0, 1) := by decide +kernel
theorem dX6_leastSlack_62 : decode cX6_leastSlack 62 = .ok (.ldc 196, 2) := by decide +kernel
theorem dX6_leastSlack_64 : decode cX6_leastSlack 64 = .ok (.invokevirtual 65, 3) := by decide +kernel
theorem dX6_leastSlack_67 : decode cX6_leastSlack 67 = .ok (.goto 4, 3) := by decide +kernel
theorem dX6_leastSlack_70 : decode cX6_leastSlack 70 = .ok (.iload_n 2, 1) := by decide +kernel
theorem dX6_leastSlack_71 : decode cX6_leastSlack 71 = .ok (.ireturn, 1) := by decide +kernel
def rmX6_leastSlack : Room := { frames := 6, cells := 0, slots := 0, locals := 130 }
abbrev eX6_leastSlack := Ev cX6_leastSlack 4 (some .int) RX6 rmX6_leastSlack
set_option maxRecDepth 20000 in
theorem ev_X6_leastSlack_l16 (l1 : Int32)  (K : Int32 → St → Prop) (Q : Int32 → St → Prop) (hK : ∀ k2 s, K k2 s → eX6_leastSlack 55 [.ref (0), un, .int (k2), un] [] s (qI Q)) : ∀ (n : Nat) (l2 : Int32) (l3 : Int32) (σ : St), P_X6_leastSlack_l16 l1 K Q n l2 l3 σ → eX6_leastSlack 16 [.ref (0), .int (l1), .int (l2), .int (l3)] [] σ (qI Q) := by
  intro n
  induction n with
  | zero => intro l2 l3 σ hP; exact hP.elim
  | succ n ih =>
    intro l2 l3 σ hP
    rw [P_X6_leastSlack_l16] at hP
    refine E_iload_n dX6_leastSlack_16 rfl ?_
    refine E_if_le 55 dX6_leastSlack_17 (by decide) (fun hc => ?_) (fun hc => ?_)
    · replace hP := hP.1 hc
      refine E_mask [true, false, true, false] rfl ?_
      exact hK (l2) _ hP
    · replace hP := hP.2 hc
      refine E_aload_n dX6_leastSlack_20 rfl ?_
      refine E_getR (j := 2) dX6_leastSlack_21 (show kd 0 = 6 by decide) (by decide) rfl fd_RX6_19 (by decide) ?_
      refine E_iload_n dX6_leastSlack_24 rfl ?_
      refine E_iload_n dX6_leastSlack_25 rfl ?_
      refine E_iadd dX6_leastSlack_26 ?_
      refine E_iconst (v := 1) dX6_leastSlack_27 (by decide) ?_
      refine E_isub dX6_leastSlack_28 ?_
      refine E_putI (j := 6) dX6_leastSlack_29 (ar_6_13 (show kd 0 = 6 by decide)).1 (by decide) rfl fd_RX6_124 fp_0_6 ?_
      refine E_aload_n dX6_leastSlack_32 rfl ?_
      refine E_aload_n dX6_leastSlack_33 rfl ?_
      refine E_getR (j := 2) dX6_leastSlack_34 (show kd 0 = 6 by decide) (by decide) rfl fd_RX6_19 (by decide) ?_
      refine E_iload_n dX6_leastSlack_37 rfl ?_
      refine E_callV (As := [.ref (13), .int (l1)]) (rest := []) dX6_leastSlack_38 cl_RX6_172 tw_356 (show kd 0 = 6 by decide) (by decide) rfl tw_357 ⟨rfl, rfl, Nat.le_of_ble_eq_true rfl, Nat.le_of_ble_eq_true rfl⟩ rfl rfl (Nat.le_of_ble_eq_true rfl) (mt_X6_canBe _ _ _ _ (ar_6_13 (show kd 0 = 6 by decide)).1 hP) ?_
      rintro _ t38 ⟨r38, rfl, hP⟩
      show eX6_leastSlack 41 [.ref (0), .int (l1), .int (l2), .int (l3)] [.int (bI r38)] t38 _
      refine E_ifz_ne 48 dX6_leastSlack_41 (by decide) (fun hc => ?_) (fun hc => ?_)
      · replace hP := hP.1 hc
        refine E_iload_n dX6_leastSlack_48 rfl ?_
        refine E_iconst (v := 2) dX6_leastSlack_49 (by decide) ?_
        refine E_idiv dX6_leastSlack_50 (by decide) ?_
        refine E_istore_n (ls' := [.ref (0), .int (l1), .int (l2), .int (l3 / 2)]) dX6_leastSlack_51 (by decide) rfl ?_
        refine E_goto 16 dX6_leastSlack_52 (by decide) ?_
        exact ih (l2) (l3 / 2) _ hP
      · replace hP := hP.2 hc
        refine E_iload_n dX6_leastSlack_44 rfl ?_
        refine E_iload_n dX6_leastSlack_45 rfl ?_
        refine E_iadd dX6_leastSlack_46 ?_
        refine E_istore_n (ls' := [.ref (0), .int (l1), .int (l2 + l3), .int (l3)]) dX6_leastSlack_47 (by decide) rfl ?_
        refine E_iload_n dX6_leastSlack_48 rfl ?_
        refine E_iconst (v := 2) dX6_leastSlack_49 (by decide) ?_
        refine E_idiv dX6_leastSlack_50 (by decide) ?_
        refine E_istore_n (ls' := [.ref (0), .int (l1), .int (l2 + l3), .int (l3 / 2)]) dX6_leastSlack_51 (by decide) rfl ?_
        refine E_goto 16 dX6_leastSlack_52 (by decide) ?_
        exact ih (l2 + l3) (l3 / 2) _ hP
set_option maxRecDepth 20000 in
theorem mt_X6_leastSlack (p0 : Int32) (σ : St) (Q : Int32 → St → Prop)  (hP : P_X6_leastSlack p0 σ Q) : Mt yX6_leastSlack cX6_leastSlack 4 (some .int) rmX6_leastSlack [.ref (0), .int (p0)] σ (qI Q) := by
  refine Mt.of (k := 2) (ls := [.ref (0), .int (p0), un, un]) (by decide +kernel) rfl (Nat.le_of_ble_eq_true rfl) ?_
  show eX6_leastSlack 0 [.ref (0), .int (p0), un, un] [] σ _
  unfold P_X6_leastSlack at hP
  refine E_aload_n dX6_leastSlack_0 rfl ?_
  refine E_getR (j := 2) dX6_leastSlack_1 (show kd 0 = 6 by decide) (by decide) rfl fd_RX6_19 (by decide) ?_
  refine E_aload_n dX6_leastSlack_4 rfl ?_
  refine E_getR (j := 0) dX6_leastSlack_5 (show kd 0 = 6 by decide) (by decide) rfl fd_RX6_12 (by decide) ?_
  refine E_callV (As := [.ref (1)]) (rest := []) dX6_leastSlack_8 cl_RX6_216 tw_272 (ar_6_13 (show kd 0 = 6 by decide)).1 (by decide) rfl tw_273 ⟨rfl, rfl, Nat.le_of_ble_eq_true rfl, Nat.le_of_ble_eq_true rfl⟩ rfl rfl (Nat.le_of_ble_eq_true rfl) (mt_X0_becomeLike _ _ _ _ (ar_6_13 (show kd 0 = 6 by decide)).1 (ar_6_1 (show kd 0 = 6 by decide)).1 hP) ?_
  rintro _ t8 ⟨rfl, hP⟩
  show eX6_leastSlack 11 [.ref (0), .int (p0), un, un] [] t8 _
  refine E_iconst (v := 0) dX6_leastSlack_11 (by decide) ?_
  refine E_istore_n (ls' := [.ref (0), .int (p0), .int (0), un]) dX6_leastSlack_12 (by decide) rfl ?_
  refine E_bipush (v := 64) dX6_leastSlack_13 (by decide) ?_
  refine E_istore_n (ls' := [.ref (0), .int (p0), .int (0), .int (64)]) dX6_leastSlack_15 (by decide) rfl ?_
  obtain ⟨m16, hP⟩ := hP
  refine ev_X6_leastSlack_l16 (p0)  _ Q ?_ m16 _ _ _ hP
  intro k2 t55 hP
  refine E_iload_n dX6_leastSlack_55 rfl ?_
  refine E_bipush (v := 99) dX6_leastSlack_56 (by decide) ?_
  refine E_icmp_le 70 dX6_leastSlack_58 (by decide) (fun hc => ?_) (fun hc => ?_)
  · replace hP := hP.1 hc
    refine E_iload_n dX6_leastSlack_70 rfl ?_
    exact E_iret dX6_leastSlack_71 rfl ⟨_, rfl, hP⟩
  · replace hP := hP.2 hc
    refine E_aload_n dX6_leastSlack_61 rfl ?_
    refine E_ldc (v := (-1000000004)) dX6_leastSlack_62 tw_366 ?_
    refine E_callV (As := [.int ((-1000000004))]) (rest := []) dX6_leastSlack_64 cl_RX6_65 tw_279 (show kd 0 = 6 by decide) (by decide) rfl tw_280 ⟨rfl, rfl, Nat.le_of_ble_eq_true rfl, Nat.le_of_ble_eq_true rfl⟩ rfl rfl (Nat.le_of_ble_eq_true rfl) (mt_X6_finding _ _ _  hP) ?_
    rintro _ t64 ⟨r64, rfl, hP⟩
    show eX6_leastSlack 67 [.ref (0), un, .int (k2), un] [.int (r64)] t64 _
    refine E_goto 71 dX6_leastSlack_67 (by decide) ?_
    exact E_iret dX6_leastSlack_71 rfl ⟨_, rfl, hP⟩
theorem dX6_slackFor_0 : decode cX6_slackFor 0 = .ok (.aload_n 0, 1) := by decide +kernel
theorem dX6_slackFor_1 : decode cX6_slackFor 1 = .ok (.iload_n 1, 1) := by decide +kernel
theorem dX6_slackFor_2 : decode cX6_slackFor 2 = .ok (.invokevirtual 169, 3) := by decide +kernel
theorem dX6_slackFor_5 : decode cX6_slackFor 5 = .ok (.ifCond .ne 10, 3) := by decide +kernel
theorem dX6_slackFor_8 : decode cX6_slackFor 8 = .ok (.aload_n 0, 1) := by decide +kernel
theorem dX6_slackFor_9 : decode cX6_slackFor 9 = .ok (.ldc 64, 2) := by decide +kernel
theorem dX6_slackFor_11 : decode cX6_slackFor 11 = .ok (.invokevirtual 65, 3) := by decide +kernel
theorem dX6_slackFor_14 : decode cX6_slackFor 14 = .ok (.ireturn, 1) := by decide +kernel
theorem dX6_slackFor_15 : decode cX6_slackFor 15 = .ok (.aload_n 0, 1) := by decide +kernel
theorem dX6_slackFor_16 : decode cX6_slackFor 16 = .ok (.iload_n 1, 1) := by decide +kernel
theorem dX6_slackFor_17 : decode cX6_slackFor 17 = .ok (.invokevirtual 200, 3) := by decide +kernel
theorem dX6_slackFor_20 : decode cX6_slackFor 20 = .ok (.ireturn, 1) := by decide +kernel
def rmX6_slackFor : Room := { frames := 7, cells := 0, slots := 0, locals := 153 }
abbrev eX6_slackFor := Ev cX6_slackFor 2 (some .int) RX6 rmX6_slackFor
set_option maxRecDepth 20000 in
theorem mt_X6_slackFor (p0 : Int32) (σ : St) (Q : Int32 → St → Prop)  (hP : P_X6_slackFor p0 σ Q) : Mt yX6_slackFor cX6_slackFor 2 (some .int) rmX6_slackFor [.ref (0), .int (p0)] σ (qI Q) := by
  refine Mt.of (k := 0) (ls := [.ref (0), .int (p0)]) (by decide +kernel) rfl (Nat.le_of_ble_eq_true rfl) ?_
  show eX6_slackFor 0 [.ref (0), .int (p0)] [] σ _
  unfold P_X6_slackFor at hP
  refine E_aload_n dX6_slackFor_0 rfl ?_
  refine E_iload_n dX6_slackFor_1 rfl ?_
  refine E_callV (As := [.int (p0)]) (rest := []) dX6_slackFor_2 cl_RX6_169 tw_360 (show kd 0 = 6 by decide) (by decide) rfl tw_361 ⟨rfl, rfl, Nat.le_of_ble_eq_true rfl, Nat.le_of_ble_eq_true rfl⟩ rfl rfl (Nat.le_of_ble_eq_true rfl) (mt_X6_isStand _ _ _  hP) ?_
  intro r0 s0 hq0; obtain ⟨r2, h0, hs0, hP⟩ := hq0; subst h0; rw [hs0]
  show eX6_slackFor 5 [.ref (0), .int (p0)] [.int (bI r2)] σ _
  refine E_ifz_ne 15 dX6_slackFor_5 (by decide) (fun hc => ?_) (fun hc => ?_)
  · replace hP := hP.1 hc
    refine E_aload_n dX6_slackFor_15 rfl ?_
    refine E_iload_n dX6_slackFor_16 rfl ?_
    refine E_callV (As := [.int (p0)]) (rest := []) dX6_slackFor_17 cl_RX6_200 tw_375 (show kd 0 = 6 by decide) (by decide) rfl tw_376 ⟨rfl, rfl, Nat.le_of_ble_eq_true rfl, Nat.le_of_ble_eq_true rfl⟩ rfl rfl (Nat.le_of_ble_eq_true rfl) (mt_X6_leastSlack _ _ _  hP) ?_
    rintro _ t17 ⟨r17, rfl, hP⟩
    show eX6_slackFor 20 [.ref (0), .int (p0)] [.int (r17)] t17 _
    exact E_iret dX6_slackFor_20 rfl ⟨_, rfl, hP⟩
  · replace hP := hP.2 hc
    refine E_aload_n dX6_slackFor_8 rfl ?_
    refine E_ldc (v := (-1000000001)) dX6_slackFor_9 tw_274 ?_
    refine E_callV (As := [.int ((-1000000001))]) (rest := []) dX6_slackFor_11 cl_RX6_65 tw_279 (show kd 0 = 6 by decide) (by decide) rfl tw_280 ⟨rfl, rfl, Nat.le_of_ble_eq_true rfl, Nat.le_of_ble_eq_true rfl⟩ rfl rfl (Nat.le_of_ble_eq_true rfl) (mt_X6_finding _ _ _  hP) ?_
    rintro _ t11 ⟨r11, rfl, hP⟩
    show eX6_slackFor 14 [.ref (0), .int (p0)] [.int (r11)] t11 _
    exact E_iret dX6_slackFor_14 rfl ⟨_, rfl, hP⟩
theorem dX6_slackAll_0 : decode cX6_slackAll 0 = .ok (.aload_n 0, 1) := by decide +kernel
theorem dX6_slackAll_1 : decode cX6_slackAll 1 = .ok (.iconst 0, 1) := by decide +kernel
theorem dX6_slackAll_2 : decode cX6_slackAll 2 = .ok (.invokevirtual 200, 3) := by decide +kernel
theorem dX6_slackAll_5 : decode cX6_slackAll 5 = .ok (.ireturn, 1) := by decide +kernel
def rmX6_slackAll : Room := { frames := 7, cells := 0, slots := 0, locals := 153 }
abbrev eX6_slackAll := Ev cX6_slackAll 1 (some .int) RX6 rmX6_slackAll
set_option maxRecDepth 20000 in
theorem mt_X6_slackAll  (σ : St) (Q : Int32 → St → Prop)  (hP : P_X6_slackAll  σ Q) : Mt yX6_slackAll cX6_slackAll 1 (some .int) rmX6_slackAll [.ref (0)] σ (qI Q) := by
  refine Mt.of (k := 0) (ls := [.ref (0)]) (by decide +kernel) rfl (Nat.le_of_ble_eq_true rfl) ?_
  show eX6_slackAll 0 [.ref (0)] [] σ _
  unfold P_X6_slackAll at hP
  refine E_aload_n dX6_slackAll_0 rfl ?_
  refine E_iconst (v := 0) dX6_slackAll_1 (by decide) ?_
  refine E_callV (As := [.int (0)]) (rest := []) dX6_slackAll_2 cl_RX6_200 tw_375 (show kd 0 = 6 by decide) (by decide) rfl tw_376 ⟨rfl, rfl, Nat.le_of_ble_eq_true rfl, Nat.le_of_ble_eq_true rfl⟩ rfl rfl (Nat.le_of_ble_eq_true rfl) (mt_X6_leastSlack _ _ _  hP) ?_
  rintro _ t2 ⟨r2, rfl, hP⟩
  show eX6_slackAll 5 [.ref (0)] [.int (r2)] t2 _
  exact E_iret dX6_slackAll_5 rfl ⟨_, rfl, hP⟩
theorem dX6_bestStand_0 : decode cX6_bestStand 0 = .ok (.aload_n 0, 1) := by decide +kernel
theorem dX6_bestStand_1 : decode cX6_bestStand 1 = .ok (.aload_n 0, 1) := by decide +kernel
theorem dX6_bestStand_2 : decode cX6_bestStand 2 = .ok (.getfield 12, 3) := by decide +kernel
theorem dX6_bestStand_5 : decode cX6_bestStand 5 = .ok (.invokevirtual 176, 3) := by decide +kernel
theorem dX6_bestStand_8 : decode cX6_bestStand 8 = .ok (.pop, 1) := by decide +kernel
theorem dX6_bestStand_9 : decode cX6_bestStand 9 = .ok (.aload_n 0, 1) := by decide +kernel
theorem dX6_bestStand_10 : decode cX6_bestStand 10 = .ok (.getfield 32, 3) := by decide +kernel
theorem dX6_bestStand_13 : decode cX6_bestStand 13 = .ok (.aload_n 0, 1) := by decide +kernel
theorem dX6_bestStand_14 : decode cX6_bestStand 14 = .ok (.getfield 25, 3) := by decide +kernel
theorem dX6_bestStand_17 : decode cX6_bestStand 17 = .ok (.invokevirtual 280, 3) := by decide +kernel
theorem dX6_bestStand_20 : decode cX6_bestStand 20 = .ok (.aload_n 0, 1) := by decide +kernel
theorem dX6_bestStand_21 : decode cX6_bestStand 21 = .ok (.getfield 32, 3) := by decide +kernel
theorem dX6_bestStand_24 : decode cX6_bestStand 24 = .ok (.aload_n 0, 1) := by decide +kernel
theorem dX6_bestStand_25 : decode cX6_bestStand 25 = .ok (.getfield 25, 3) := by decide +kernel
theorem dX6_bestStand_28 : decode cX6_bestStand 28 = .ok (.iload_n 1, 1) := by decide +kernel
theorem dX6_bestStand_29 : decode cX6_bestStand 29 = .ok (.invokevirtual 284, 3) := by decide +kernel
theorem dX6_bestStand_32 : decode cX6_bestStand 32 = .ok (.ireturn, 1) := by decide +kernel
def rmX6_bestStand : Room := { frames := 5, cells := 0, slots := 0, locals := 108 }
abbrev eX6_bestStand := Ev cX6_bestStand 2 (some .int) RX6 rmX6_bestStand
set_option maxRecDepth 20000 in
theorem mt_X6_bestStand (p0 : Int32) (σ : St) (Q : Int32 → St → Prop)  (hP : P_X6_bestStand p0 σ Q) : Mt yX6_bestStand cX6_bestStand 2 (some .int) rmX6_bestStand [.ref (0), .int (p0)] σ (qI Q) := by
  refine Mt.of (k := 0) (ls := [.ref (0), .int (p0)]) (by decide +kernel) rfl (Nat.le_of_ble_eq_true rfl) ?_
  show eX6_bestStand 0 [.ref (0), .int (p0)] [] σ _
  unfold P_X6_bestStand at hP
  refine E_aload_n dX6_bestStand_0 rfl ?_
  refine E_aload_n dX6_bestStand_1 rfl ?_
  refine E_getR (j := 0) dX6_bestStand_2 (show kd 0 = 6 by decide) (by decide) rfl fd_RX6_12 (by decide) ?_
  refine E_callV (As := [.ref (1)]) (rest := []) dX6_bestStand_5 cl_RX6_176 tw_351 (show kd 0 = 6 by decide) (by decide) rfl tw_352 ⟨rfl, rfl, Nat.le_of_ble_eq_true rfl, Nat.le_of_ble_eq_true rfl⟩ rfl rfl (Nat.le_of_ble_eq_true rfl) (mt_X6_standsOf _ _ _ (ar_6_1 (show kd 0 = 6 by decide)).1 hP) ?_
  rintro _ t5 ⟨r5, rfl, hP⟩
  show eX6_bestStand 8 [.ref (0), .int (p0)] [.int (r5)] t5 _
  refine E_pop dX6_bestStand_8 rfl ?_
  refine E_aload_n dX6_bestStand_9 rfl ?_
  refine E_getR (j := 4) dX6_bestStand_10 (show kd 0 = 6 by decide) (by decide) rfl fd_RX6_32 (by decide) ?_
  refine E_aload_n dX6_bestStand_13 rfl ?_
  refine E_getR (j := 3) dX6_bestStand_14 (show kd 0 = 6 by decide) (by decide) rfl fd_RX6_25 (by decide) ?_
  refine E_callV (As := [.ref (19)]) (rest := []) dX6_bestStand_17 cl_RX6_280 tw_383 (ar_6_23 (show kd 0 = 6 by decide)).1 (by decide) rfl tw_384 ⟨rfl, rfl, Nat.le_of_ble_eq_true rfl, Nat.le_of_ble_eq_true rfl⟩ rfl rfl (Nat.le_of_ble_eq_true rfl) (mt_X1_rank _ _ _ (ar_6_19 (show kd 0 = 6 by decide)).1 hP) ?_
  rintro _ t17 ⟨rfl, hP⟩
  show eX6_bestStand 20 [.ref (0), .int (p0)] [] t17 _
  refine E_aload_n dX6_bestStand_20 rfl ?_
  refine E_getR (j := 4) dX6_bestStand_21 (show kd 0 = 6 by decide) (by decide) rfl fd_RX6_32 (by decide) ?_
  refine E_aload_n dX6_bestStand_24 rfl ?_
  refine E_getR (j := 3) dX6_bestStand_25 (show kd 0 = 6 by decide) (by decide) rfl fd_RX6_25 (by decide) ?_
  refine E_iload_n dX6_bestStand_28 rfl ?_
  refine E_callV (As := [.ref (19), .int (p0)]) (rest := []) dX6_bestStand_29 cl_RX6_284 tw_379 (ar_6_23 (show kd 0 = 6 by decide)).1 (by decide) rfl tw_380 ⟨rfl, rfl, Nat.le_of_ble_eq_true rfl, Nat.le_of_ble_eq_true rfl⟩ rfl rfl (Nat.le_of_ble_eq_true rfl) (mt_X1_bestUpTo _ _ _ _ (ar_6_19 (show kd 0 = 6 by decide)).1 hP) ?_
  intro r0 s0 hq0; obtain ⟨r29, h0, hs0, hP⟩ := hq0; subst h0; rw [hs0]
  show eX6_bestStand 32 [.ref (0), .int (p0)] [.int (r29)] t17 _
  exact E_iret dX6_bestStand_32 rfl ⟨_, rfl, hP⟩
theorem dX6_most_0 : decode cX6_most 0 = .ok (.iload_n 1, 1) := by decide +kernel
theorem dX6_most_1 : decode cX6_most 1 = .ok (.iconst 0, 1) := by decide +kernel
theorem dX6_most_2 : decode cX6_most 2 = .ok (.bipush 28, 2) := by decide +kernel
theorem dX6_most_4 : decode cX6_most 4 = .ok (.invokestatic 116, 3) := by decide +kernel
theorem dX6_most_7 : decode cX6_most 7 = .ok (.ifCond .ne 10, 3) := by decide +kernel
theorem dX6_most_10 : decode cX6_most 10 = .ok (.aload_n 0, 1) := by decide +kernel
theorem dX6_most_11 : decode cX6_most 11 = .ok (.ldc 64, 2) := by decide +kernel
theorem dX6_most_13 : decode cX6_most 13 = .ok (.invokevirtual 65, 3) := by decide +kernel
theorem dX6_most_16 : decode cX6_most 16 = .ok (.ireturn, 1) := by decide +kernel
theorem dX6_most_17 : decode cX6_most 17 = .ok (.aload_n 0, 1) := by decide +kernel
theorem dX6_most_18 : decode cX6_most 18 = .ok (.getfield 25, 3) := by decide +kernel
theorem dX6_most_21 : decode cX6_most 21 = .ok (.aload_n 0, 1) := by decide +kernel
theorem dX6_most_22 : decode cX6_most 22 = .ok (.iload_n 1, 1) := by decide +kernel
theorem dX6_most_23 : decode cX6_most 23 = .ok (.invokevirtual 203, 3) := by decide +kernel
theorem dX6_most_26 : decode cX6_most 26 = .ok (.invokevirtual 206, 3) := by decide +kernel
theorem dX6_most_29 : decode cX6_most 29 = .ok (.ireturn, 1) := by decide +kernel
def rmX6_most : Room := { frames := 6, cells := 0, slots := 0, locals := 129 }
abbrev eX6_most := Ev cX6_most 2 (some .int) RX6 rmX6_most
set_option maxRecDepth 20000 in
theorem mt_X6_most (p0 : Int32) (σ : St) (Q : Int32 → St → Prop)  (hP : P_X6_most p0 σ Q) : Mt yX6_most cX6_most 2 (some .int) rmX6_most [.ref (0), .int (p0)] σ (qI Q) := by
  refine Mt.of (k := 0) (ls := [.ref (0), .int (p0)]) (by decide +kernel) rfl (Nat.le_of_ble_eq_true rfl) ?_
  show eX6_most 0 [.ref (0), .int (p0)] [] σ _
  unfold P_X6_most at hP
  refine E_iload_n dX6_most_0 rfl ?_
  refine E_iconst (v := 0) dX6_most_1 (by decide) ?_
  refine E_bipush (v := 28) dX6_most_2 (by decide) ?_
  refine E_callS (As := [.int (p0), .int (0), .int (28)]) (rest := []) dX6_most_4 cl_RX6_116 tw_143 ⟨rfl, rfl, Nat.le_of_ble_eq_true rfl, Nat.le_of_ble_eq_true rfl⟩ rfl rfl (Nat.le_of_ble_eq_true rfl) (mt_X6_isWithin _ _ _ _ _  hP) ?_
  intro r0 s0 hq0; obtain ⟨r4, h0, hs0, hP⟩ := hq0; subst h0; rw [hs0]
  show eX6_most 7 [.ref (0), .int (p0)] [.int (bI r4)] σ _
  refine E_ifz_ne 17 dX6_most_7 (by decide) (fun hc => ?_) (fun hc => ?_)
  · replace hP := hP.1 hc
    refine E_aload_n dX6_most_17 rfl ?_
    refine E_getR (j := 3) dX6_most_18 (show kd 0 = 6 by decide) (by decide) rfl fd_RX6_25 (by decide) ?_
    refine E_aload_n dX6_most_21 rfl ?_
    refine E_iload_n dX6_most_22 rfl ?_
    refine E_callV (As := [.int (p0)]) (rest := [.ref (19)]) dX6_most_23 cl_RX6_203 tw_388 (show kd 0 = 6 by decide) (by decide) rfl tw_389 ⟨rfl, rfl, Nat.le_of_ble_eq_true rfl, Nat.le_of_ble_eq_true rfl⟩ rfl rfl (Nat.le_of_ble_eq_true rfl) (mt_X6_bestStand _ _ _  hP) ?_
    rintro _ t23 ⟨r23, rfl, hP⟩
    show eX6_most 26 [.ref (0), .int (p0)] [.int (r23), .ref (19)] t23 _
    refine E_callV (As := [.int (r23)]) (rest := []) dX6_most_26 cl_RX6_206 tw_121 (ar_6_19 (show kd 0 = 6 by decide)).1 (by decide) rfl tw_122 ⟨rfl, rfl, Nat.le_of_ble_eq_true rfl, Nat.le_of_ble_eq_true rfl⟩ rfl rfl (Nat.le_of_ble_eq_true rfl) (mt_X3_coinAt _ _ _ _ (ar_6_19 (show kd 0 = 6 by decide)).1 hP) ?_
    intro r0 s0 hq0; obtain ⟨r26, h0, hs0, hP⟩ := hq0; subst h0; rw [hs0]
    show eX6_most 29 [.ref (0), .int (p0)] [.int (r26)] t23 _
    exact E_iret dX6_most_29 rfl ⟨_, rfl, hP⟩
  · replace hP := hP.2 hc
    refine E_aload_n dX6_most_10 rfl ?_
    refine E_ldc (v := (-1000000001)) dX6_most_11 tw_274 ?_
    refine E_callV (As := [.int ((-1000000001))]) (rest := []) dX6_most_13 cl_RX6_65 tw_279 (show kd 0 = 6 by decide) (by decide) rfl tw_280 ⟨rfl, rfl, Nat.le_of_ble_eq_true rfl, Nat.le_of_ble_eq_true rfl⟩ rfl rfl (Nat.le_of_ble_eq_true rfl) (mt_X6_finding _ _ _  hP) ?_
    rintro _ t13 ⟨r13, rfl, hP⟩
    show eX6_most 16 [.ref (0), .int (p0)] [.int (r13)] t13 _
    exact E_iret dX6_most_16 rfl ⟨_, rfl, hP⟩
theorem dX6_where_0 : decode cX6_where 0 = .ok (.iload_n 1, 1) := by decide +kernel
theorem dX6_where_1 : decode cX6_where 1 = .ok (.iconst 0, 1) := by decide +kernel
theorem dX6_where_2 : decode cX6_where 2 = .ok (.bipush 28, 2) := by decide +kernel
theorem dX6_where_4 : decode cX6_where 4 = .ok (.invokestatic 116, 3) := by decide +kernel
theorem dX6_where_7 : decode cX6_where 7 = .ok (.ifCond .ne 10, 3) := by decide +kernel
theorem dX6_where_10 : decode cX6_where 10 = .ok (.aload_n 0, 1) := by decide +kernel
theorem dX6_where_11 : decode cX6_where 11 = .ok (.ldc 64, 2) := by decide +kernel
theorem dX6_where_13 : decode cX6_where 13 = .ok (.invokevirtual 65, 3) := by decide +kernel
theorem dX6_where_16 : decode cX6_where 16 = .ok (.ireturn, 1) := by decide +kernel
theorem dX6_where_17 : decode cX6_where 17 = .ok (.aload_n 0, 1) := by decide +kernel
theorem dX6_where_18 : decode cX6_where 18 = .ok (.iload_n 1, 1) := by decide +kernel
theorem dX6_where_19 : decode cX6_where 19 = .ok (.invokevirtual 203, 3) := by decide +kernel
theorem dX6_where_22 : decode cX6_where 22 = .ok (.ireturn, 1) := by decide +kernel
def rmX6_where : Room := { frames := 6, cells := 0, slots := 0, locals := 129 }
abbrev eX6_where := Ev cX6_where 2 (some .int) RX6 rmX6_where
set_option maxRecDepth 20000 in
theorem mt_X6_where (p0 : Int32) (σ : St) (Q : Int32 → St → Prop)  (hP : P_X6_where p0 σ Q) : Mt yX6_where cX6_where 2 (some .int) rmX6_where [.ref (0), .int (p0)] σ (qI Q) := by
  refine Mt.of (k := 0) (ls := [.ref (0), .int (p0)]) (by decide +kernel) rfl (Nat.le_of_ble_eq_true rfl) ?_
  show eX6_where 0 [.ref (0), .int (p0)] [] σ _
  unfold P_X6_where at hP
  refine E_iload_n dX6_where_0 rfl ?_
  refine E_iconst (v := 0) dX6_where_1 (by decide) ?_
  refine E_bipush (v := 28) dX6_where_2 (by decide) ?_
  refine E_callS (As := [.int (p0), .int (0), .int (28)]) (rest := []) dX6_where_4 cl_RX6_116 tw_143 ⟨rfl, rfl, Nat.le_of_ble_eq_true rfl, Nat.le_of_ble_eq_true rfl⟩ rfl rfl (Nat.le_of_ble_eq_true rfl) (mt_X6_isWithin _ _ _ _ _  hP) ?_
  intro r0 s0 hq0; obtain ⟨r4, h0, hs0, hP⟩ := hq0; subst h0; rw [hs0]
  show eX6_where 7 [.ref (0), .int (p0)] [.int (bI r4)] σ _
  refine E_ifz_ne 17 dX6_where_7 (by decide) (fun hc => ?_) (fun hc => ?_)
  · replace hP := hP.1 hc
    refine E_aload_n dX6_where_17 rfl ?_
    refine E_iload_n dX6_where_18 rfl ?_
    refine E_callV (As := [.int (p0)]) (rest := []) dX6_where_19 cl_RX6_203 tw_388 (show kd 0 = 6 by decide) (by decide) rfl tw_389 ⟨rfl, rfl, Nat.le_of_ble_eq_true rfl, Nat.le_of_ble_eq_true rfl⟩ rfl rfl (Nat.le_of_ble_eq_true rfl) (mt_X6_bestStand _ _ _  hP) ?_
    rintro _ t19 ⟨r19, rfl, hP⟩
    show eX6_where 22 [.ref (0), .int (p0)] [.int (r19)] t19 _
    exact E_iret dX6_where_22 rfl ⟨_, rfl, hP⟩
  · replace hP := hP.2 hc
    refine E_aload_n dX6_where_10 rfl ?_
    refine E_ldc (v := (-1000000001)) dX6_where_11 tw_274 ?_
    refine E_callV (As := [.int ((-1000000001))]) (rest := []) dX6_where_13 cl_RX6_65 tw_279 (show kd 0 = 6 by decide) (by decide) rfl tw_280 ⟨rfl, rfl, Nat.le_of_ble_eq_true rfl, Nat.le_of_ble_eq_true rfl⟩ rfl rfl (Nat.le_of_ble_eq_true rfl) (mt_X6_finding _ _ _  hP) ?_
    rintro _ t13 ⟨r13, rfl, hP⟩
    show eX6_where 16 [.ref (0), .int (p0)] [.int (r13)] t13 _
    exact E_iret dX6_where_16 rfl ⟨_, rfl, hP⟩
theorem dX6_out_0 : decode cX6_out 0 = .ok (.aload_n 0, 1) := by decide +kernel
theorem dX6_out_1 : decode cX6_out 1 = .ok (.iload_n 1, 1) := by decide +kernel
theorem dX6_out_2 : decode cX6_out 2 = .ok (.iload_n 2, 1) := by decide +kernel
theorem dX6_out_3 : decode cX6_out 3 = .ok (.invokevirtual 86, 3) := by decide +kernel
theorem dX6_out_6 : decode cX6_out 6 = .ok (.ifCond .ne 10, 3) := by decide +kernel
theorem dX6_out_9 : decode cX6_out 9 = .ok (.aload_n 0, 1) := by decide +kernel
theorem dX6_out_10 : decode cX6_out 10 = .ok (.ldc 64, 2) := by decide +kernel
theorem dX6_out_12 : decode cX6_out 12 = .ok (.invokevirtual 65, 3) := by decide +kernel
theorem dX6_out_15 : decode cX6_out 15 = .ok (.ireturn, 1) := by decide +kernel
theorem dX6_out_16 : decode cX6_out 16 = .ok (.aload_n 0, 1) := by decide +kernel
theorem dX6_out_17 : decode cX6_out 17 = .ok (.aload_n 0, 1) := by decide +kernel
theorem dX6_out_18 : decode cX6_out 18 = .ok (.getfield 12, 3) := by decide +kernel
theorem dX6_out_21 : decode cX6_out 21 = .ok (.invokevirtual 176, 3) := by decide +kernel
theorem dX6_out_24 : decode cX6_out 24 = .ok (.pop, 1) := by decide +kernel
theorem dX6_out_25 : decode cX6_out 25 = .ok (.aload_n 0, 1) := by decide +kernel
theorem dX6_out_26 : decode cX6_out 26 = .ok (.getfield 32, 3) := by decide +kernel
theorem dX6_out_29 : decode cX6_out 29 = .ok (.aload_n 0, 1) := by decide +kernel
theorem dX6_out_30 : decode cX6_out 30 = .ok (.getfield 25, 3) := by decide +kernel
theorem dX6_out_33 : decode cX6_out 33 = .ok (.iload_n 1, 1) := by decide +kernel
theorem dX6_out_34 : decode cX6_out 34 = .ok (.aload_n 0, 1) := by decide +kernel
theorem dX6_out_35 : decode cX6_out 35 = .ok (.getfield 12, 3) := by decide +kernel
theorem dX6_out_38 : decode cX6_out 38 = .ok (.getfield 69, 3) := by decide +kernel
theorem dX6_out_41 : decode cX6_out 41 = .ok (.iload_n 1, 1) := by decide +kernel
theorem dX6_out_42 : decode cX6_out 42 = .ok (.iaload, 1) := by decide +kernel
theorem dX6_out_43 : decode cX6_out 43 = .ok (.iconst 1, 1) := by decide +kernel
theorem dX6_out_44 : decode cX6_out 44 = .ok (.isub, 1) := by decide +kernel
theorem dX6_out_45 : decode cX6_out 45 = .ok (.iload_n 2, 1) := by decide +kernel
theorem dX6_out_46 : decode cX6_out 46 = .ok (.isub, 1) := by decide +kernel
theorem dX6_out_47 : decode cX6_out 47 = .ok (.invokevirtual 209, 3) := by decide +kernel
theorem dX6_out_50 : decode cX6_out 50 = .ok (.istore_n 3, 1) := by decide +kernel
theorem dX6_out_51 : decode cX6_out 51 = .ok (.iload_n 3, 1) := by decide +kernel
theorem dX6_out_52 : decode cX6_out 52 = .ok (.ifCond .ge 12, 3) := by decide +kernel
theorem dX6_out_55 : decode cX6_out 55 = .ok (.aload_n 0, 1) := by decide +kernel
theorem dX6_out_56 : decode cX6_out 56 = .ok (.ldc 196, 2) := by decide +kernel
theorem dX6_out_58 : decode cX6_out 58 = .ok (.invokevirtual 65, 3) := by decide +kernel
theorem dX6_out_61 : decode cX6_out 61 = .ok (.goto 4, 3) := by decide +kernel
theorem dX6_out_64 : decode cX6_out 64 = .ok (.iload_n 3, 1) := by decide +kernel
theorem dX6_out_65 : decode cX6_out 65 = .ok (.ireturn, 1) := by decide +kernel
def rmX6_out : Room := { frames := 5, cells := 0, slots := 0, locals := 108 }
abbrev eX6_out := Ev cX6_out 4 (some .int) RX6 rmX6_out
set_option maxRecDepth 20000 in
theorem mt_X6_out (p0 : Int32) (p1 : Int32) (σ : St) (Q : Int32 → St → Prop)  (hP : P_X6_out p0 p1 σ Q) : Mt yX6_out cX6_out 4 (some .int) rmX6_out [.ref (0), .int (p0), .int (p1)] σ (qI Q) := by
  refine Mt.of (k := 1) (ls := [.ref (0), .int (p0), .int (p1), un]) (by decide +kernel) rfl (Nat.le_of_ble_eq_true rfl) ?_
  show eX6_out 0 [.ref (0), .int (p0), .int (p1), un] [] σ _
  unfold P_X6_out at hP
  refine E_aload_n dX6_out_0 rfl ?_
  refine E_iload_n dX6_out_1 rfl ?_
  refine E_iload_n dX6_out_2 rfl ?_
  refine E_callV (As := [.int (p0), .int (p1)]) (rest := []) dX6_out_3 cl_RX6_86 tw_318 (show kd 0 = 6 by decide) (by decide) rfl tw_319 ⟨rfl, rfl, Nat.le_of_ble_eq_true rfl, Nat.le_of_ble_eq_true rfl⟩ rfl rfl (Nat.le_of_ble_eq_true rfl) (mt_X6_isStone _ _ _ _  hP) ?_
  intro r0 s0 hq0; obtain ⟨r3, h0, hs0, hP⟩ := hq0; subst h0; rw [hs0]
  show eX6_out 6 [.ref (0), .int (p0), .int (p1), un] [.int (bI r3)] σ _
  refine E_ifz_ne 16 dX6_out_6 (by decide) (fun hc => ?_) (fun hc => ?_)
  · replace hP := hP.1 hc
    refine E_aload_n dX6_out_16 rfl ?_
    refine E_aload_n dX6_out_17 rfl ?_
    refine E_getR (j := 0) dX6_out_18 (show kd 0 = 6 by decide) (by decide) rfl fd_RX6_12 (by decide) ?_
    refine E_callV (As := [.ref (1)]) (rest := []) dX6_out_21 cl_RX6_176 tw_351 (show kd 0 = 6 by decide) (by decide) rfl tw_352 ⟨rfl, rfl, Nat.le_of_ble_eq_true rfl, Nat.le_of_ble_eq_true rfl⟩ rfl rfl (Nat.le_of_ble_eq_true rfl) (mt_X6_standsOf _ _ _ (ar_6_1 (show kd 0 = 6 by decide)).1 hP) ?_
    rintro _ t21 ⟨r21, rfl, hP⟩
    show eX6_out 24 [.ref (0), .int (p0), .int (p1), un] [.int (r21)] t21 _
    refine E_pop dX6_out_24 rfl ?_
    refine E_aload_n dX6_out_25 rfl ?_
    refine E_getR (j := 4) dX6_out_26 (show kd 0 = 6 by decide) (by decide) rfl fd_RX6_32 (by decide) ?_
    refine E_aload_n dX6_out_29 rfl ?_
    refine E_getR (j := 3) dX6_out_30 (show kd 0 = 6 by decide) (by decide) rfl fd_RX6_25 (by decide) ?_
    refine E_iload_n dX6_out_33 rfl ?_
    refine E_aload_n dX6_out_34 rfl ?_
    refine E_getR (j := 0) dX6_out_35 (show kd 0 = 6 by decide) (by decide) rfl fd_RX6_12 (by decide) ?_
    refine E_getR (j := 3) dX6_out_38 (ar_6_1 (show kd 0 = 6 by decide)).1 (by decide) rfl fd_RX6_69 (by decide) ?_
    refine E_iload_n dX6_out_41 rfl ?_
    obtain ⟨hb, hP⟩ := hP
    refine E_iald dX6_out_42 (ar_0_4 (ar_6_1 (show kd 0 = 6 by decide)).1).1 (ar_0_4 (ar_6_1 (show kd 0 = 6 by decide)).1).2 hb ?_
    refine E_iconst (v := 1) dX6_out_43 (by decide) ?_
    refine E_isub dX6_out_44 ?_
    refine E_iload_n dX6_out_45 rfl ?_
    refine E_isub dX6_out_46 ?_
    refine E_callV (As := [.ref (19), .int (p0), .int (((gI t21 5 p0.toNatClampNeg) - 1) - p1)]) (rest := []) dX6_out_47 cl_RX6_209 tw_392 (ar_6_23 (show kd 0 = 6 by decide)).1 (by decide) rfl tw_393 ⟨rfl, rfl, Nat.le_of_ble_eq_true rfl, Nat.le_of_ble_eq_true rfl⟩ rfl rfl (Nat.le_of_ble_eq_true rfl) (mt_X1_fewestPulls _ _ _ _ _ (ar_6_19 (show kd 0 = 6 by decide)).1 hP) ?_
    intro r0 s0 hq0; obtain ⟨r47, h0, hs0, hP⟩ := hq0; subst h0; rw [hs0]
    show eX6_out 50 [.ref (0), .int (p0), .int (p1), un] [.int (r47)] t21 _
    refine E_istore_n (ls' := [.ref (0), .int (p0), .int (p1), .int (r47)]) dX6_out_50 (by decide) rfl ?_
    refine E_iload_n dX6_out_51 rfl ?_
    refine E_if_ge 64 dX6_out_52 (by decide) (fun hc => ?_) (fun hc => ?_)
    · replace hP := hP.1 hc
      refine E_iload_n dX6_out_64 rfl ?_
      exact E_iret dX6_out_65 rfl ⟨_, rfl, hP⟩
    · replace hP := hP.2 hc
      refine E_aload_n dX6_out_55 rfl ?_
      refine E_ldc (v := (-1000000004)) dX6_out_56 tw_366 ?_
      refine E_callV (As := [.int ((-1000000004))]) (rest := []) dX6_out_58 cl_RX6_65 tw_279 (show kd 0 = 6 by decide) (by decide) rfl tw_280 ⟨rfl, rfl, Nat.le_of_ble_eq_true rfl, Nat.le_of_ble_eq_true rfl⟩ rfl rfl (Nat.le_of_ble_eq_true rfl) (mt_X6_finding _ _ _  hP) ?_
      rintro _ t58 ⟨r58, rfl, hP⟩
      show eX6_out 61 [.ref (0), .int (p0), .int (p1), .int (r47)] [.int (r58)] t58 _
      refine E_goto 65 dX6_out_61 (by decide) ?_
      exact E_iret dX6_out_65 rfl ⟨_, rfl, hP⟩
  · replace hP := hP.2 hc
    refine E_aload_n dX6_out_9 rfl ?_
    refine E_ldc (v := (-1000000001)) dX6_out_10 tw_274 ?_
    refine E_callV (As := [.int ((-1000000001))]) (rest := []) dX6_out_12 cl_RX6_65 tw_279 (show kd 0 = 6 by decide) (by decide) rfl tw_280 ⟨rfl, rfl, Nat.le_of_ble_eq_true rfl, Nat.le_of_ble_eq_true rfl⟩ rfl rfl (Nat.le_of_ble_eq_true rfl) (mt_X6_finding _ _ _  hP) ?_
    rintro _ t12 ⟨r12, rfl, hP⟩
    show eX6_out 15 [.ref (0), .int (p0), .int (p1), un] [.int (r12)] t12 _
    exact E_iret dX6_out_15 rfl ⟨_, rfl, hP⟩
theorem dX6_reach_0 : decode cX6_reach 0 = .ok (.iload_n 1, 1) := by decide +kernel
theorem dX6_reach_1 : decode cX6_reach 1 = .ok (.invokestatic 58, 3) := by decide +kernel
theorem dX6_reach_4 : decode cX6_reach 4 = .ok (.ifCond .ne 10, 3) := by decide +kernel
theorem dX6_reach_7 : decode cX6_reach 7 = .ok (.aload_n 0, 1) := by decide +kernel
theorem dX6_reach_8 : decode cX6_reach 8 = .ok (.ldc 64, 2) := by decide +kernel
theorem dX6_reach_10 : decode cX6_reach 10 = .ok (.invokevirtual 65, 3) := by decide +kernel
theorem dX6_reach_13 : decode cX6_reach 13 = .ok (.ireturn, 1) := by decide +kernel
theorem dX6_reach_14 : decode cX6_reach 14 = .ok (.aload_n 0, 1) := by decide +kernel
theorem dX6_reach_15 : decode cX6_reach 15 = .ok (.aload_n 0, 1) := by decide +kernel
theorem dX6_reach_16 : decode cX6_reach 16 = .ok (.getfield 12, 3) := by decide +kernel
theorem dX6_reach_19 : decode cX6_reach 19 = .ok (.invokevirtual 176, 3) := by decide +kernel
theorem dX6_reach_22 : decode cX6_reach 22 = .ok (.pop, 1) := by decide +kernel
theorem dX6_reach_23 : decode cX6_reach 23 = .ok (.aload_n 0, 1) := by decide +kernel
theorem dX6_reach_24 : decode cX6_reach 24 = .ok (.getfield 12, 3) := by decide +kernel
theorem dX6_reach_27 : decode cX6_reach 27 = .ok (.getfield 69, 3) := by decide +kernel
theorem dX6_reach_30 : decode cX6_reach 30 = .ok (.iload_n 1, 1) := by decide +kernel
theorem dX6_reach_31 : decode cX6_reach 31 = .ok (.iaload, 1) := by decide +kernel
theorem dX6_reach_32 : decode cX6_reach 32 = .ok (.aload_n 0, 1) := by decide +kernel
theorem dX6_reach_33 : decode cX6_reach 33 = .ok (.getfield 32, 3) := by decide +kernel
theorem dX6_reach_36 : decode cX6_reach 36 = .ok (.aload_n 0, 1) := by decide +kernel
theorem dX6_reach_37 : decode cX6_reach 37 = .ok (.getfield 25, 3) := by decide +kernel
theorem dX6_reach_40 : decode cX6_reach 40 = .ok (.iload_n 1, 1) := by decide +kernel
theorem dX6_reach_41 : decode cX6_reach 41 = .ok (.invokevirtual 213, 3) := by decide +kernel
theorem dX6_reach_44 : decode cX6_reach 44 = .ok (.isub, 1) := by decide +kernel
theorem dX6_reach_45 : decode cX6_reach 45 = .ok (.ireturn, 1) := by decide +kernel
def rmX6_reach : Room := { frames := 5, cells := 0, slots := 0, locals := 108 }
abbrev eX6_reach := Ev cX6_reach 2 (some .int) RX6 rmX6_reach
set_option maxRecDepth 20000 in
theorem mt_X6_reach (p0 : Int32) (σ : St) (Q : Int32 → St → Prop)  (hP : P_X6_reach p0 σ Q) : Mt yX6_reach cX6_reach 2 (some .int) rmX6_reach [.ref (0), .int (p0)] σ (qI Q) := by
  refine Mt.of (k := 0) (ls := [.ref (0), .int (p0)]) (by decide +kernel) rfl (Nat.le_of_ble_eq_true rfl) ?_
  show eX6_reach 0 [.ref (0), .int (p0)] [] σ _
  unfold P_X6_reach at hP
  refine E_iload_n dX6_reach_0 rfl ?_
  refine E_callS (As := [.int (p0)]) (rest := []) dX6_reach_1 cl_RX6_58 tw_290 ⟨rfl, rfl, Nat.le_of_ble_eq_true rfl, Nat.le_of_ble_eq_true rfl⟩ rfl rfl (Nat.le_of_ble_eq_true rfl) (mt_X6_isWall _ _ _  hP) ?_
  intro r0 s0 hq0; obtain ⟨r1, h0, hs0, hP⟩ := hq0; subst h0; rw [hs0]
  show eX6_reach 4 [.ref (0), .int (p0)] [.int (bI r1)] σ _
  refine E_ifz_ne 14 dX6_reach_4 (by decide) (fun hc => ?_) (fun hc => ?_)
  · replace hP := hP.1 hc
    refine E_aload_n dX6_reach_14 rfl ?_
    refine E_aload_n dX6_reach_15 rfl ?_
    refine E_getR (j := 0) dX6_reach_16 (show kd 0 = 6 by decide) (by decide) rfl fd_RX6_12 (by decide) ?_
    refine E_callV (As := [.ref (1)]) (rest := []) dX6_reach_19 cl_RX6_176 tw_351 (show kd 0 = 6 by decide) (by decide) rfl tw_352 ⟨rfl, rfl, Nat.le_of_ble_eq_true rfl, Nat.le_of_ble_eq_true rfl⟩ rfl rfl (Nat.le_of_ble_eq_true rfl) (mt_X6_standsOf _ _ _ (ar_6_1 (show kd 0 = 6 by decide)).1 hP) ?_
    rintro _ t19 ⟨r19, rfl, hP⟩
    show eX6_reach 22 [.ref (0), .int (p0)] [.int (r19)] t19 _
    refine E_pop dX6_reach_22 rfl ?_
    refine E_aload_n dX6_reach_23 rfl ?_
    refine E_getR (j := 0) dX6_reach_24 (show kd 0 = 6 by decide) (by decide) rfl fd_RX6_12 (by decide) ?_
    refine E_getR (j := 3) dX6_reach_27 (ar_6_1 (show kd 0 = 6 by decide)).1 (by decide) rfl fd_RX6_69 (by decide) ?_
    refine E_iload_n dX6_reach_30 rfl ?_
    obtain ⟨hb, hP⟩ := hP
    refine E_iald dX6_reach_31 (ar_0_4 (ar_6_1 (show kd 0 = 6 by decide)).1).1 (ar_0_4 (ar_6_1 (show kd 0 = 6 by decide)).1).2 hb ?_
    refine E_aload_n dX6_reach_32 rfl ?_
    refine E_getR (j := 4) dX6_reach_33 (show kd 0 = 6 by decide) (by decide) rfl fd_RX6_32 (by decide) ?_
    refine E_aload_n dX6_reach_36 rfl ?_
    refine E_getR (j := 3) dX6_reach_37 (show kd 0 = 6 by decide) (by decide) rfl fd_RX6_25 (by decide) ?_
    refine E_iload_n dX6_reach_40 rfl ?_
    refine E_callV (As := [.ref (19), .int (p0)]) (rest := [.int (gI t19 5 p0.toNatClampNeg)]) dX6_reach_41 cl_RX6_213 tw_396 (ar_6_23 (show kd 0 = 6 by decide)).1 (by decide) rfl tw_397 ⟨rfl, rfl, Nat.le_of_ble_eq_true rfl, Nat.le_of_ble_eq_true rfl⟩ rfl rfl (Nat.le_of_ble_eq_true rfl) (mt_X1_fewestLeft _ _ _ _ (ar_6_19 (show kd 0 = 6 by decide)).1 hP) ?_
    intro r0 s0 hq0; obtain ⟨r41, h0, hs0, hP⟩ := hq0; subst h0; rw [hs0]
    show eX6_reach 44 [.ref (0), .int (p0)] [.int (r41), .int (gI t19 5 p0.toNatClampNeg)] t19 _
    refine E_isub dX6_reach_44 ?_
    exact E_iret dX6_reach_45 rfl ⟨_, rfl, hP⟩
  · replace hP := hP.2 hc
    refine E_aload_n dX6_reach_7 rfl ?_
    refine E_ldc (v := (-1000000001)) dX6_reach_8 tw_274 ?_
    refine E_callV (As := [.int ((-1000000001))]) (rest := []) dX6_reach_10 cl_RX6_65 tw_279 (show kd 0 = 6 by decide) (by decide) rfl tw_280 ⟨rfl, rfl, Nat.le_of_ble_eq_true rfl, Nat.le_of_ble_eq_true rfl⟩ rfl rfl (Nat.le_of_ble_eq_true rfl) (mt_X6_finding _ _ _  hP) ?_
    rintro _ t10 ⟨r10, rfl, hP⟩
    show eX6_reach 13 [.ref (0), .int (p0)] [.int (r10)] t10 _
    exact E_iret dX6_reach_13 rfl ⟨_, rfl, hP⟩
theorem dX6_help_0 : decode cX6_help 0 = .ok (.aload_n 0, 1) := by decide +kernel
theorem dX6_help_1 : decode cX6_help 1 = .ok (.aload_n 0, 1) := by decide +kernel
theorem dX6_help_2 : decode cX6_help 2 = .ok (.getfield 12, 3) := by decide +kernel
theorem dX6_help_5 : decode cX6_help 5 = .ok (.invokevirtual 176, 3) := by decide +kernel
theorem dX6_help_8 : decode cX6_help 8 = .ok (.istore_n 1, 1) := by decide +kernel
theorem dX6_help_9 : decode cX6_help 9 = .ok (.iconst (-1), 1) := by decide +kernel
theorem dX6_help_10 : decode cX6_help 10 = .ok (.istore_n 2, 1) := by decide +kernel
theorem dX6_help_11 : decode cX6_help 11 = .ok (.aload_n 0, 1) := by decide +kernel
theorem dX6_help_12 : decode cX6_help 12 = .ok (.getfield 19, 3) := by decide +kernel
theorem dX6_help_15 : decode cX6_help 15 = .ok (.aload_n 0, 1) := by decide +kernel
theorem dX6_help_16 : decode cX6_help 16 = .ok (.getfield 12, 3) := by decide +kernel
theorem dX6_help_19 : decode cX6_help 19 = .ok (.invokevirtual 216, 3) := by decide +kernel
theorem dX6_help_22 : decode cX6_help 22 = .ok (.iconst 0, 1) := by decide +kernel
theorem dX6_help_23 : decode cX6_help 23 = .ok (.istore_n 3, 1) := by decide +kernel
theorem dX6_help_24 : decode cX6_help 24 = .ok (.iload_n 3, 1) := by decide +kernel
theorem dX6_help_25 : decode cX6_help 25 = .ok (.iconst 4, 1) := by decide +kernel
theorem dX6_help_26 : decode cX6_help 26 = .ok (.if_icmp .ge 81, 3) := by decide +kernel
theorem dX6_help_29 : decode cX6_help 29 = .ok (.iconst 1, 1) := by decide +kernel
theorem dX6_help_30 : decode cX6_help 30 = .ok (.istore 4, 2) := by decide +kernel
theorem dX6_help_32 : decode cX6_help 32 = .ok (.iload 4, 2) := by decide +kernel
theorem dX6_help_34 : decode cX6_help 34 = .ok (.bipush 20, 2) := by decide +kernel
theorem dX6_help_36 : decode cX6_help 36 = .ok (.if_icmp .gt 47, 3) := by decide +kernel
theorem dX6_help_39 : decode cX6_help 39 = .ok (.aload_n 0, 1) := by decide +kernel
theorem dX6_help_40 : decode cX6_help 40 = .ok (.getfield 19, 3) := by decide +kernel
theorem dX6_help_43 : decode cX6_help 43 = .ok (.getfield 77, 3) := by decide +kernel
theorem dX6_help_46 : decode cX6_help 46 = .ok (.iload_n 3, 1) := by decide +kernel
theorem dX6_help_47 : decode cX6_help 47 = .ok (.iload 4, 2) := by decide +kernel
theorem dX6_help_49 : decode cX6_help 49 = .ok (.iastore, 1) := by decide +kernel
theorem dX6_help_50 : decode cX6_help 50 = .ok (.aload_n 0, 1) := by decide +kernel
theorem dX6_help_51 : decode cX6_help 51 = .ok (.aload_n 0, 1) := by decide +kernel
theorem dX6_help_52 : decode cX6_help 52 = .ok (.getfield 19, 3) := by decide +kernel
theorem dX6_help_55 : decode cX6_help 55 = .ok (.invokevirtual 176, 3) := by decide +kernel
theorem dX6_help_58 : decode cX6_help 58 = .ok (.istore 5, 2) := by decide +kernel
theorem dX6_help_60 : decode cX6_help 60 = .ok (.iload 5, 2) := by decide +kernel
theorem dX6_help_62 : decode cX6_help 62 = .ok (.iload_n 1, 1) := by decide +kernel
theorem dX6_help_63 : decode cX6_help 63 = .ok (.if_icmp .le 14, 3) := by decide +kernel
theorem dX6_help_66 : decode cX6_help 66 = .ok (.iload 5, 2) := by decide +kernel
theorem dX6_help_68 : decode cX6_help 68 = .ok (.istore_n 1, 1) := by decide +kernel
theorem dX6_help_69 : decode cX6_help 69 = .ok (.bipush 100, 2) := by decide +kernel
theorem dX6_help_71 : decode cX6_help 71 = .ok (.iload_n 3, 1) := by decide +kernel
theorem dX6_help_72 : decode cX6_help 72 = .ok (.imul, 1) := by decide +kernel
theorem dX6_help_73 : decode cX6_help 73 = .ok (.iload 4, 2) := by decide +kernel
theorem dX6_help_75 : decode cX6_help 75 = .ok (.iadd, 1) := by decide +kernel
theorem dX6_help_76 : decode cX6_help 76 = .ok (.istore_n 2, 1) := by decide +kernel
theorem dX6_help_77 : decode cX6_help 77 = .ok (.iinc 4 1, 3) := by decide +kernel
theorem dX6_help_80 : decode cX6_help 80 = .ok (.goto (-48), 3) := by decide +kernel
theorem dX6_help_83 : decode cX6_help 83 = .ok (.aload_n 0, 1) := by decide +kernel
theorem dX6_help_84 : decode cX6_help 84 = .ok (.getfield 19, 3) := by decide +kernel
theorem dX6_help_87 : decode cX6_help 87 = .ok (.getfield 77, 3) := by decide +kernel
theorem dX6_help_90 : decode cX6_help 90 = .ok (.iload_n 3, 1) := by decide +kernel
theorem dX6_help_91 : decode cX6_help 91 = .ok (.aload_n 0, 1) := by decide +kernel
theorem dX6_help_92 : decode cX6_help 92 = .ok (.getfield 12, 3) := by decide +kernel
theorem dX6_help_95 : decode cX6_help 95 = .ok (.getfield 77, 3) := by decide +kernel
theorem dX6_help_98 : decode cX6_help 98 = .ok (.iload_n 3, 1) := by decide +kernel
theorem dX6_help_99 : decode cX6_help 99 = .ok (.iaload, 1) := by decide +kernel
theorem dX6_help_100 : decode cX6_help 100 = .ok (.iastore, 1) := by decide +kernel
theorem dX6_help_101 : decode cX6_help 101 = .ok (.iinc 3 1, 3) := by decide +kernel
theorem dX6_help_104 : decode cX6_help 104 = .ok (.goto (-80), 3) := by decide +kernel
theorem dX6_help_107 : decode cX6_help 107 = .ok (.iload_n 2, 1) := by decide +kernel
theorem dX6_help_108 : decode cX6_help 108 = .ok (.ifCond .ge 12, 3) := by decide +kernel
theorem dX6_help_111 : decode cX6_help 111 = .ok (.aload_n 0, 1) := by decide +kernel
theorem dX6_help_112 : decode cX6_help 112 = .ok (.ldc 196, 2) := by decide +kernel
theorem dX6_help_114 : decode cX6_help 114 = .ok (.invokevirtual 65, 3) := by decide +kernel
theorem dX6_help_117 : decode cX6_help 117 = .ok (.goto 4, 3) := by decide +kernel
theorem dX6_help_120 : decode cX6_help 120 = .ok (.iload_n 2, 1) := by decide +kernel
theorem dX6_help_121 : decode cX6_help 121 = .ok (.ireturn, 1) := by decide +kernel
def rmX6_help : Room := { frames := 5, cells := 0, slots := 0, locals := 108 }
abbrev eX6_help := Ev cX6_help 6 (some .int) RX6 rmX6_help
set_option maxRecDepth 20000 in
theorem ev_X6_help_l32 (l3 : Int32)  (K : Int32 → Int32 → St → Prop) (Q : Int32 → St → Prop) (hK : ∀ k1 k2 s, K k1 k2 s → eX6_help 83 [.ref (0), .int (k1), .int (k2), .int (l3), un, un] [] s (qI Q)) : ∀ (n : Nat) (l1 : Int32) (l2 : Int32) (l4 : Int32) (σ : St), P_X6_help_l32 l3 K Q n l1 l2 l4 σ → eX6_help 32 [.ref (0), .int (l1), .int (l2), .int (l3), .int (l4), un] [] σ (qI Q) := by
  intro n
  induction n with
  | zero => intro l1 l2 l4 σ hP; exact hP.elim
  | succ n ih =>
    intro l1 l2 l4 σ hP
    rw [P_X6_help_l32] at hP
    refine E_iload dX6_help_32 rfl ?_
    refine E_bipush (v := 20) dX6_help_34 (by decide) ?_
    refine E_icmp_gt 83 dX6_help_36 (by decide) (fun hc => ?_) (fun hc => ?_)
    · replace hP := hP.1 hc
      refine E_mask [true, true, true, true, false, false] rfl ?_
      exact hK (l1) (l2) _ hP
    · replace hP := hP.2 hc
      refine E_aload_n dX6_help_39 rfl ?_
      refine E_getR (j := 2) dX6_help_40 (show kd 0 = 6 by decide) (by decide) rfl fd_RX6_19 (by decide) ?_
      refine E_getR (j := 4) dX6_help_43 (ar_6_13 (show kd 0 = 6 by decide)).1 (by decide) rfl fd_RX6_77 (by decide) ?_
      refine E_iload_n dX6_help_46 rfl ?_
      refine E_iload dX6_help_47 rfl ?_
      obtain ⟨hb, hP⟩ := hP
      refine E_iast dX6_help_49 (ar_0_5 (ar_6_13 (show kd 0 = 6 by decide)).1).1 (ar_0_5 (ar_6_13 (show kd 0 = 6 by decide)).1).2 hb ?_
      refine E_aload_n dX6_help_50 rfl ?_
      refine E_aload_n dX6_help_51 rfl ?_
      refine E_getR (j := 2) dX6_help_52 (show kd 0 = 6 by decide) (by decide) rfl fd_RX6_19 (by decide) ?_
      refine E_callV (As := [.ref (13)]) (rest := []) dX6_help_55 cl_RX6_176 tw_351 (show kd 0 = 6 by decide) (by decide) rfl tw_352 ⟨rfl, rfl, Nat.le_of_ble_eq_true rfl, Nat.le_of_ble_eq_true rfl⟩ rfl rfl (Nat.le_of_ble_eq_true rfl) (mt_X6_standsOf _ _ _ (ar_6_13 (show kd 0 = 6 by decide)).1 hP) ?_
      rintro _ t55 ⟨r55, rfl, hP⟩
      show eX6_help 58 [.ref (0), .int (l1), .int (l2), .int (l3), .int (l4), un] [.int (r55)] t55 _
      refine E_istore (ls' := [.ref (0), .int (l1), .int (l2), .int (l3), .int (l4), .int (r55)]) dX6_help_58 (by decide) rfl ?_
      refine E_iload dX6_help_60 rfl ?_
      refine E_iload_n dX6_help_62 rfl ?_
      refine E_icmp_le 77 dX6_help_63 (by decide) (fun hc => ?_) (fun hc => ?_)
      · replace hP := hP.1 hc
        refine E_iinc (ls' := [.ref (0), .int (l1), .int (l2), .int (l3), .int (l4 + 1), .int (r55)]) dX6_help_77 rfl rfl (by decide) rfl ?_
        refine E_goto 32 dX6_help_80 (by decide) ?_
        refine E_mask [true, true, true, true, true, false] rfl ?_
        exact ih (l1) (l2) (l4 + 1) _ hP
      · replace hP := hP.2 hc
        refine E_iload dX6_help_66 rfl ?_
        refine E_istore_n (ls' := [.ref (0), .int (r55), .int (l2), .int (l3), .int (l4), .int (r55)]) dX6_help_68 (by decide) rfl ?_
        refine E_bipush (v := 100) dX6_help_69 (by decide) ?_
        refine E_iload_n dX6_help_71 rfl ?_
        refine E_imul dX6_help_72 ?_
        refine E_iload dX6_help_73 rfl ?_
        refine E_iadd dX6_help_75 ?_
        refine E_istore_n (ls' := [.ref (0), .int (r55), .int ((100 * l3) + l4), .int (l3), .int (l4), .int (r55)]) dX6_help_76 (by decide) rfl ?_
        refine E_iinc (ls' := [.ref (0), .int (r55), .int ((100 * l3) + l4), .int (l3), .int (l4 + 1), .int (r55)]) dX6_help_77 rfl rfl (by decide) rfl ?_
        refine E_goto 32 dX6_help_80 (by decide) ?_
        refine E_mask [true, true, true, true, true, false] rfl ?_
        exact ih (r55) ((100 * l3) + l4) (l4 + 1) _ hP
set_option maxRecDepth 20000 in
theorem ev_X6_help_l24   (K : Int32 → St → Prop) (Q : Int32 → St → Prop) (hK : ∀ k2 s, K k2 s → eX6_help 107 [.ref (0), un, .int (k2), un, un, un] [] s (qI Q)) : ∀ (n : Nat) (l1 : Int32) (l2 : Int32) (l3 : Int32) (σ : St), P_X6_help_l24  K Q n l1 l2 l3 σ → eX6_help 24 [.ref (0), .int (l1), .int (l2), .int (l3), un, un] [] σ (qI Q) := by
  intro n
  induction n with
  | zero => intro l1 l2 l3 σ hP; exact hP.elim
  | succ n ih =>
    intro l1 l2 l3 σ hP
    rw [P_X6_help_l24] at hP
    refine E_iload_n dX6_help_24 rfl ?_
    refine E_iconst (v := 4) dX6_help_25 (by decide) ?_
    refine E_icmp_ge 107 dX6_help_26 (by decide) (fun hc => ?_) (fun hc => ?_)
    · replace hP := hP.1 hc
      refine E_mask [true, false, true, false, false, false] rfl ?_
      exact hK (l2) _ hP
    · replace hP := hP.2 hc
      refine E_iconst (v := 1) dX6_help_29 (by decide) ?_
      refine E_istore (ls' := [.ref (0), .int (l1), .int (l2), .int (l3), .int (1), un]) dX6_help_30 (by decide) rfl ?_
      obtain ⟨m32, hP⟩ := hP
      refine ev_X6_help_l32 (l3)  _ Q ?_ m32 _ _ _ _ hP
      intro k1 k2 t83 hP
      refine E_aload_n dX6_help_83 rfl ?_
      refine E_getR (j := 2) dX6_help_84 (show kd 0 = 6 by decide) (by decide) rfl fd_RX6_19 (by decide) ?_
      refine E_getR (j := 4) dX6_help_87 (ar_6_13 (show kd 0 = 6 by decide)).1 (by decide) rfl fd_RX6_77 (by decide) ?_
      refine E_iload_n dX6_help_90 rfl ?_
      refine E_aload_n dX6_help_91 rfl ?_
      refine E_getR (j := 0) dX6_help_92 (show kd 0 = 6 by decide) (by decide) rfl fd_RX6_12 (by decide) ?_
      refine E_getR (j := 4) dX6_help_95 (ar_6_1 (show kd 0 = 6 by decide)).1 (by decide) rfl fd_RX6_77 (by decide) ?_
      refine E_iload_n dX6_help_98 rfl ?_
      obtain ⟨hb, hP⟩ := hP
      refine E_iald dX6_help_99 (ar_0_5 (ar_6_1 (show kd 0 = 6 by decide)).1).1 (ar_0_5 (ar_6_1 (show kd 0 = 6 by decide)).1).2 hb ?_
      obtain ⟨hb, hP⟩ := hP
      refine E_iast dX6_help_100 (ar_0_5 (ar_6_13 (show kd 0 = 6 by decide)).1).1 (ar_0_5 (ar_6_13 (show kd 0 = 6 by decide)).1).2 hb ?_
      refine E_iinc (ls' := [.ref (0), .int (k1), .int (k2), .int (l3 + 1), un, un]) dX6_help_101 rfl rfl (by decide) rfl ?_
      refine E_goto 24 dX6_help_104 (by decide) ?_
      exact ih (k1) (k2) (l3 + 1) _ hP
set_option maxRecDepth 20000 in
theorem mt_X6_help  (σ : St) (Q : Int32 → St → Prop)  (hP : P_X6_help  σ Q) : Mt yX6_help cX6_help 6 (some .int) rmX6_help [.ref (0)] σ (qI Q) := by
  refine Mt.of (k := 5) (ls := [.ref (0), un, un, un, un, un]) (by decide +kernel) rfl (Nat.le_of_ble_eq_true rfl) ?_
  show eX6_help 0 [.ref (0), un, un, un, un, un] [] σ _
  unfold P_X6_help at hP
  refine E_aload_n dX6_help_0 rfl ?_
  refine E_aload_n dX6_help_1 rfl ?_
  refine E_getR (j := 0) dX6_help_2 (show kd 0 = 6 by decide) (by decide) rfl fd_RX6_12 (by decide) ?_
  refine E_callV (As := [.ref (1)]) (rest := []) dX6_help_5 cl_RX6_176 tw_351 (show kd 0 = 6 by decide) (by decide) rfl tw_352 ⟨rfl, rfl, Nat.le_of_ble_eq_true rfl, Nat.le_of_ble_eq_true rfl⟩ rfl rfl (Nat.le_of_ble_eq_true rfl) (mt_X6_standsOf _ _ _ (ar_6_1 (show kd 0 = 6 by decide)).1 hP) ?_
  rintro _ t5 ⟨r5, rfl, hP⟩
  show eX6_help 8 [.ref (0), un, un, un, un, un] [.int (r5)] t5 _
  refine E_istore_n (ls' := [.ref (0), .int (r5), un, un, un, un]) dX6_help_8 (by decide) rfl ?_
  refine E_iconst (v := (-1)) dX6_help_9 (by decide) ?_
  refine E_istore_n (ls' := [.ref (0), .int (r5), .int ((-1)), un, un, un]) dX6_help_10 (by decide) rfl ?_
  refine E_aload_n dX6_help_11 rfl ?_
  refine E_getR (j := 2) dX6_help_12 (show kd 0 = 6 by decide) (by decide) rfl fd_RX6_19 (by decide) ?_
  refine E_aload_n dX6_help_15 rfl ?_
  refine E_getR (j := 0) dX6_help_16 (show kd 0 = 6 by decide) (by decide) rfl fd_RX6_12 (by decide) ?_
  refine E_callV (As := [.ref (1)]) (rest := []) dX6_help_19 cl_RX6_216 tw_272 (ar_6_13 (show kd 0 = 6 by decide)).1 (by decide) rfl tw_273 ⟨rfl, rfl, Nat.le_of_ble_eq_true rfl, Nat.le_of_ble_eq_true rfl⟩ rfl rfl (Nat.le_of_ble_eq_true rfl) (mt_X0_becomeLike _ _ _ _ (ar_6_13 (show kd 0 = 6 by decide)).1 (ar_6_1 (show kd 0 = 6 by decide)).1 hP) ?_
  rintro _ t19 ⟨rfl, hP⟩
  show eX6_help 22 [.ref (0), .int (r5), .int ((-1)), un, un, un] [] t19 _
  refine E_iconst (v := 0) dX6_help_22 (by decide) ?_
  refine E_istore_n (ls' := [.ref (0), .int (r5), .int ((-1)), .int (0), un, un]) dX6_help_23 (by decide) rfl ?_
  obtain ⟨m24, hP⟩ := hP
  refine ev_X6_help_l24   _ Q ?_ m24 _ _ _ _ hP
  intro k2 t107 hP
  refine E_iload_n dX6_help_107 rfl ?_
  refine E_if_ge 120 dX6_help_108 (by decide) (fun hc => ?_) (fun hc => ?_)
  · replace hP := hP.1 hc
    refine E_iload_n dX6_help_120 rfl ?_
    exact E_iret dX6_help_121 rfl ⟨_, rfl, hP⟩
  · replace hP := hP.2 hc
    refine E_aload_n dX6_help_111 rfl ?_
    refine E_ldc (v := (-1000000004)) dX6_help_112 tw_366 ?_
    refine E_callV (As := [.int ((-1000000004))]) (rest := []) dX6_help_114 cl_RX6_65 tw_279 (show kd 0 = 6 by decide) (by decide) rfl tw_280 ⟨rfl, rfl, Nat.le_of_ble_eq_true rfl, Nat.le_of_ble_eq_true rfl⟩ rfl rfl (Nat.le_of_ble_eq_true rfl) (mt_X6_finding _ _ _  hP) ?_
    rintro _ t114 ⟨r114, rfl, hP⟩
    show eX6_help 117 [.ref (0), un, .int (k2), un, un, un] [.int (r114)] t114 _
    refine E_goto 121 dX6_help_117 (by decide) ?_
    exact E_iret dX6_help_121 rfl ⟨_, rfl, hP⟩
theorem dX6_frees_0 : decode cX6_frees 0 = .ok (.aload_n 0, 1) := by decide +kernel
theorem dX6_frees_1 : decode cX6_frees 1 = .ok (.aload_n 0, 1) := by decide +kernel
theorem dX6_frees_2 : decode cX6_frees 2 = .ok (.getfield 12, 3) := by decide +kernel
theorem dX6_frees_5 : decode cX6_frees 5 = .ok (.invokevirtual 176, 3) := by decide +kernel
theorem dX6_frees_8 : decode cX6_frees 8 = .ok (.istore_n 1, 1) := by decide +kernel
theorem dX6_frees_9 : decode cX6_frees 9 = .ok (.iconst (-1), 1) := by decide +kernel
theorem dX6_frees_10 : decode cX6_frees 10 = .ok (.istore_n 2, 1) := by decide +kernel
theorem dX6_frees_11 : decode cX6_frees 11 = .ok (.aload_n 0, 1) := by decide +kernel
theorem dX6_frees_12 : decode cX6_frees 12 = .ok (.getfield 19, 3) := by decide +kernel
theorem dX6_frees_15 : decode cX6_frees 15 = .ok (.aload_n 0, 1) := by decide +kernel
theorem dX6_frees_16 : decode cX6_frees 16 = .ok (.getfield 12, 3) := by decide +kernel
theorem dX6_frees_19 : decode cX6_frees 19 = .ok (.invokevirtual 216, 3) := by decide +kernel
theorem dX6_frees_22 : decode cX6_frees 22 = .ok (.iconst 0, 1) := by decide +kernel
theorem dX6_frees_23 : decode cX6_frees 23 = .ok (.istore_n 3, 1) := by decide +kernel
theorem dX6_frees_24 : decode cX6_frees 24 = .ok (.iload_n 3, 1) := by decide +kernel
theorem dX6_frees_25 : decode cX6_frees 25 = .ok (.iconst 3, 1) := by decide +kernel
theorem dX6_frees_26 : decode cX6_frees 26 = .ok (.if_icmp .ge 53, 3) := by decide +kernel
theorem dX6_frees_29 : decode cX6_frees 29 = .ok (.aload_n 0, 1) := by decide +kernel
theorem dX6_frees_30 : decode cX6_frees 30 = .ok (.getfield 19, 3) := by decide +kernel
theorem dX6_frees_33 : decode cX6_frees 33 = .ok (.iload_n 3, 1) := by decide +kernel
theorem dX6_frees_34 : decode cX6_frees 34 = .ok (.iconst 0, 1) := by decide +kernel
theorem dX6_frees_35 : decode cX6_frees 35 = .ok (.invokevirtual 131, 3) := by decide +kernel
theorem dX6_frees_38 : decode cX6_frees 38 = .ok (.aload_n 0, 1) := by decide +kernel
theorem dX6_frees_39 : decode cX6_frees 39 = .ok (.aload_n 0, 1) := by decide +kernel
theorem dX6_frees_40 : decode cX6_frees 40 = .ok (.getfield 19, 3) := by decide +kernel
theorem dX6_frees_43 : decode cX6_frees 43 = .ok (.invokevirtual 176, 3) := by decide +kernel
theorem dX6_frees_46 : decode cX6_frees 46 = .ok (.istore 4, 2) := by decide +kernel
theorem dX6_frees_48 : decode cX6_frees 48 = .ok (.iload 4, 2) := by decide +kernel
theorem dX6_frees_50 : decode cX6_frees 50 = .ok (.iload_n 1, 1) := by decide +kernel
theorem dX6_frees_51 : decode cX6_frees 51 = .ok (.if_icmp .le 8, 3) := by decide +kernel
theorem dX6_frees_54 : decode cX6_frees 54 = .ok (.iload 4, 2) := by decide +kernel
theorem dX6_frees_56 : decode cX6_frees 56 = .ok (.istore_n 1, 1) := by decide +kernel
theorem dX6_frees_57 : decode cX6_frees 57 = .ok (.iload_n 3, 1) := by decide +kernel
theorem dX6_frees_58 : decode cX6_frees 58 = .ok (.istore_n 2, 1) := by decide +kernel
theorem dX6_frees_59 : decode cX6_frees 59 = .ok (.aload_n 0, 1) := by decide +kernel
theorem dX6_frees_60 : decode cX6_frees 60 = .ok (.getfield 19, 3) := by decide +kernel
theorem dX6_frees_63 : decode cX6_frees 63 = .ok (.aload_n 0, 1) := by decide +kernel
theorem dX6_frees_64 : decode cX6_frees 64 = .ok (.getfield 12, 3) := by decide +kernel
theorem dX6_frees_67 : decode cX6_frees 67 = .ok (.getfield 128, 3) := by decide +kernel
theorem dX6_frees_70 : decode cX6_frees 70 = .ok (.putfield 128, 3) := by decide +kernel
theorem dX6_frees_73 : decode cX6_frees 73 = .ok (.iinc 3 1, 3) := by decide +kernel
theorem dX6_frees_76 : decode cX6_frees 76 = .ok (.goto (-52), 3) := by decide +kernel
theorem dX6_frees_79 : decode cX6_frees 79 = .ok (.iload_n 2, 1) := by decide +kernel
theorem dX6_frees_80 : decode cX6_frees 80 = .ok (.ifCond .ge 12, 3) := by decide +kernel
theorem dX6_frees_83 : decode cX6_frees 83 = .ok (.aload_n 0, 1) := by decide +kernel
theorem dX6_frees_84 : decode cX6_frees 84 = .ok (.ldc 196, 2) := by decide +kernel
theorem dX6_frees_86 : decode cX6_frees 86 = .ok (.invokevirtual 65, 3) := by decide +kernel
theorem dX6_frees_89 : decode cX6_frees 89 = .ok (.goto 4, 3) := by decide +kernel
theorem dX6_frees_92 : decode cX6_frees 92 = .ok (.iload_n 2, 1) := by decide +kernel
theorem dX6_frees_93 : decode cX6_frees 93 = .ok (.ireturn, 1) := by decide +kernel
def rmX6_frees : Room := { frames := 5, cells := 0, slots := 0, locals := 108 }
abbrev eX6_frees := Ev cX6_frees 5 (some .int) RX6 rmX6_frees
set_option maxRecDepth 20000 in
theorem ev_X6_frees_l24   (K : Int32 → St → Prop) (Q : Int32 → St → Prop) (hK : ∀ k2 s, K k2 s → eX6_frees 79 [.ref (0), un, .int (k2), un, un] [] s (qI Q)) : ∀ (n : Nat) (l1 : Int32) (l2 : Int32) (l3 : Int32) (σ : St), P_X6_frees_l24  K Q n l1 l2 l3 σ → eX6_frees 24 [.ref (0), .int (l1), .int (l2), .int (l3), un] [] σ (qI Q) := by
  intro n
  induction n with
  | zero => intro l1 l2 l3 σ hP; exact hP.elim
  | succ n ih =>
    intro l1 l2 l3 σ hP
    rw [P_X6_frees_l24] at hP
    refine E_iload_n dX6_frees_24 rfl ?_
    refine E_iconst (v := 3) dX6_frees_25 (by decide) ?_
    refine E_icmp_ge 79 dX6_frees_26 (by decide) (fun hc => ?_) (fun hc => ?_)
    · replace hP := hP.1 hc
      refine E_mask [true, false, true, false, false] rfl ?_
      exact hK (l2) _ hP
    · replace hP := hP.2 hc
      refine E_aload_n dX6_frees_29 rfl ?_
      refine E_getR (j := 2) dX6_frees_30 (show kd 0 = 6 by decide) (by decide) rfl fd_RX6_19 (by decide) ?_
      refine E_iload_n dX6_frees_33 rfl ?_
      refine E_iconst (v := 0) dX6_frees_34 (by decide) ?_
      refine E_callV (As := [.int (l3), .int (bI false)]) (rest := []) dX6_frees_35 cl_RX6_131 tw_208 (ar_6_13 (show kd 0 = 6 by decide)).1 (by decide) rfl tw_209 ⟨rfl, rfl, Nat.le_of_ble_eq_true rfl, Nat.le_of_ble_eq_true rfl⟩ rfl rfl (Nat.le_of_ble_eq_true rfl) (mt_X0_layBeam _ _ _ _ _ (ar_6_13 (show kd 0 = 6 by decide)).1 hP) ?_
      rintro _ t35 ⟨rfl, hP⟩
      show eX6_frees 38 [.ref (0), .int (l1), .int (l2), .int (l3), un] [] t35 _
      refine E_aload_n dX6_frees_38 rfl ?_
      refine E_aload_n dX6_frees_39 rfl ?_
      refine E_getR (j := 2) dX6_frees_40 (show kd 0 = 6 by decide) (by decide) rfl fd_RX6_19 (by decide) ?_
      refine E_callV (As := [.ref (13)]) (rest := []) dX6_frees_43 cl_RX6_176 tw_351 (show kd 0 = 6 by decide) (by decide) rfl tw_352 ⟨rfl, rfl, Nat.le_of_ble_eq_true rfl, Nat.le_of_ble_eq_true rfl⟩ rfl rfl (Nat.le_of_ble_eq_true rfl) (mt_X6_standsOf _ _ _ (ar_6_13 (show kd 0 = 6 by decide)).1 hP) ?_
      rintro _ t43 ⟨r43, rfl, hP⟩
      show eX6_frees 46 [.ref (0), .int (l1), .int (l2), .int (l3), un] [.int (r43)] t43 _
      refine E_istore (ls' := [.ref (0), .int (l1), .int (l2), .int (l3), .int (r43)]) dX6_frees_46 (by decide) rfl ?_
      refine E_iload dX6_frees_48 rfl ?_
      refine E_iload_n dX6_frees_50 rfl ?_
      refine E_icmp_le 59 dX6_frees_51 (by decide) (fun hc => ?_) (fun hc => ?_)
      · replace hP := hP.1 hc
        refine E_aload_n dX6_frees_59 rfl ?_
        refine E_getR (j := 2) dX6_frees_60 (show kd 0 = 6 by decide) (by decide) rfl fd_RX6_19 (by decide) ?_
        refine E_aload_n dX6_frees_63 rfl ?_
        refine E_getR (j := 0) dX6_frees_64 (show kd 0 = 6 by decide) (by decide) rfl fd_RX6_12 (by decide) ?_
        refine E_getI (j := 5) dX6_frees_67 (ar_6_1 (show kd 0 = 6 by decide)).1 (by decide) rfl fd_RX6_128 ?_
        refine E_putI (j := 5) dX6_frees_70 (ar_6_13 (show kd 0 = 6 by decide)).1 (by decide) rfl fd_RX6_128 fp_0_5 ?_
        refine E_iinc (ls' := [.ref (0), .int (l1), .int (l2), .int (l3 + 1), .int (r43)]) dX6_frees_73 rfl rfl (by decide) rfl ?_
        refine E_goto 24 dX6_frees_76 (by decide) ?_
        refine E_mask [true, true, true, true, false] rfl ?_
        exact ih (l1) (l2) (l3 + 1) _ hP
      · replace hP := hP.2 hc
        refine E_iload dX6_frees_54 rfl ?_
        refine E_istore_n (ls' := [.ref (0), .int (r43), .int (l2), .int (l3), .int (r43)]) dX6_frees_56 (by decide) rfl ?_
        refine E_iload_n dX6_frees_57 rfl ?_
        refine E_istore_n (ls' := [.ref (0), .int (r43), .int (l3), .int (l3), .int (r43)]) dX6_frees_58 (by decide) rfl ?_
        refine E_aload_n dX6_frees_59 rfl ?_
        refine E_getR (j := 2) dX6_frees_60 (show kd 0 = 6 by decide) (by decide) rfl fd_RX6_19 (by decide) ?_
        refine E_aload_n dX6_frees_63 rfl ?_
        refine E_getR (j := 0) dX6_frees_64 (show kd 0 = 6 by decide) (by decide) rfl fd_RX6_12 (by decide) ?_
        refine E_getI (j := 5) dX6_frees_67 (ar_6_1 (show kd 0 = 6 by decide)).1 (by decide) rfl fd_RX6_128 ?_
        refine E_putI (j := 5) dX6_frees_70 (ar_6_13 (show kd 0 = 6 by decide)).1 (by decide) rfl fd_RX6_128 fp_0_5 ?_
        refine E_iinc (ls' := [.ref (0), .int (r43), .int (l3), .int (l3 + 1), .int (r43)]) dX6_frees_73 rfl rfl (by decide) rfl ?_
        refine E_goto 24 dX6_frees_76 (by decide) ?_
        refine E_mask [true, true, true, true, false] rfl ?_
        exact ih (r43) (l3) (l3 + 1) _ hP
set_option maxRecDepth 20000 in
theorem mt_X6_frees  (σ : St) (Q : Int32 → St → Prop)  (hP : P_X6_frees  σ Q) : Mt yX6_frees cX6_frees 5 (some .int) rmX6_frees [.ref (0)] σ (qI Q) := by
  refine Mt.of (k := 4) (ls := [.ref (0), un, un, un, un]) (by decide +kernel) rfl (Nat.le_of_ble_eq_true rfl) ?_
  show eX6_frees 0 [.ref (0), un, un, un, un] [] σ _
  unfold P_X6_frees at hP
  refine E_aload_n dX6_frees_0 rfl ?_
  refine E_aload_n dX6_frees_1 rfl ?_
  refine E_getR (j := 0) dX6_frees_2 (show kd 0 = 6 by decide) (by decide) rfl fd_RX6_12 (by decide) ?_
  refine E_callV (As := [.ref (1)]) (rest := []) dX6_frees_5 cl_RX6_176 tw_351 (show kd 0 = 6 by decide) (by decide) rfl tw_352 ⟨rfl, rfl, Nat.le_of_ble_eq_true rfl, Nat.le_of_ble_eq_true rfl⟩ rfl rfl (Nat.le_of_ble_eq_true rfl) (mt_X6_standsOf _ _ _ (ar_6_1 (show kd 0 = 6 by decide)).1 hP) ?_
  rintro _ t5 ⟨r5, rfl, hP⟩
  show eX6_frees 8 [.ref (0), un, un, un, un] [.int (r5)] t5 _
  refine E_istore_n (ls' := [.ref (0), .int (r5), un, un, un]) dX6_frees_8 (by decide) rfl ?_
  refine E_iconst (v := (-1)) dX6_frees_9 (by decide) ?_
  refine E_istore_n (ls' := [.ref (0), .int (r5), .int ((-1)), un, un]) dX6_frees_10 (by decide) rfl ?_
  refine E_aload_n dX6_frees_11 rfl ?_
  refine E_getR (j := 2) dX6_frees_12 (show kd 0 = 6 by decide) (by decide) rfl fd_RX6_19 (by decide) ?_
  refine E_aload_n dX6_frees_15 rfl ?_
  refine E_getR (j := 0) dX6_frees_16 (show kd 0 = 6 by decide) (by decide) rfl fd_RX6_12 (by decide) ?_
  refine E_callV (As := [.ref (1)]) (rest := []) dX6_frees_19 cl_RX6_216 tw_272 (ar_6_13 (show kd 0 = 6 by decide)).1 (by decide) rfl tw_273 ⟨rfl, rfl, Nat.le_of_ble_eq_true rfl, Nat.le_of_ble_eq_true rfl⟩ rfl rfl (Nat.le_of_ble_eq_true rfl) (mt_X0_becomeLike _ _ _ _ (ar_6_13 (show kd 0 = 6 by decide)).1 (ar_6_1 (show kd 0 = 6 by decide)).1 hP) ?_
  rintro _ t19 ⟨rfl, hP⟩
  show eX6_frees 22 [.ref (0), .int (r5), .int ((-1)), un, un] [] t19 _
  refine E_iconst (v := 0) dX6_frees_22 (by decide) ?_
  refine E_istore_n (ls' := [.ref (0), .int (r5), .int ((-1)), .int (0), un]) dX6_frees_23 (by decide) rfl ?_
  obtain ⟨m24, hP⟩ := hP
  refine ev_X6_frees_l24   _ Q ?_ m24 _ _ _ _ hP
  intro k2 t79 hP
  refine E_iload_n dX6_frees_79 rfl ?_
  refine E_if_ge 92 dX6_frees_80 (by decide) (fun hc => ?_) (fun hc => ?_)
  · replace hP := hP.1 hc
    refine E_iload_n dX6_frees_92 rfl ?_
    exact E_iret dX6_frees_93 rfl ⟨_, rfl, hP⟩
  · replace hP := hP.2 hc
    refine E_aload_n dX6_frees_83 rfl ?_
    refine E_ldc (v := (-1000000004)) dX6_frees_84 tw_366 ?_
    refine E_callV (As := [.int ((-1000000004))]) (rest := []) dX6_frees_86 cl_RX6_65 tw_279 (show kd 0 = 6 by decide) (by decide) rfl tw_280 ⟨rfl, rfl, Nat.le_of_ble_eq_true rfl, Nat.le_of_ble_eq_true rfl⟩ rfl rfl (Nat.le_of_ble_eq_true rfl) (mt_X6_finding _ _ _  hP) ?_
    rintro _ t86 ⟨r86, rfl, hP⟩
    show eX6_frees 89 [.ref (0), un, .int (k2), un, un] [.int (r86)] t86 _
    refine E_goto 93 dX6_frees_89 (by decide) ?_
    exact E_iret dX6_frees_93 rfl ⟨_, rfl, hP⟩
theorem dX6_kind_0 : decode cX6_kind 0 = .ok (.iload_n 1, 1) := by decide +kernel
theorem dX6_kind_1 : decode cX6_kind 1 = .ok (.invokestatic 58, 3) := by decide +kernel
theorem dX6_kind_4 : decode cX6_kind 4 = .ok (.ifCond .ne 10, 3) := by decide +kernel
theorem dX6_kind_7 : decode cX6_kind 7 = .ok (.aload_n 0, 1) := by decide +kernel
theorem dX6_kind_8 : decode cX6_kind 8 = .ok (.ldc 64, 2) := by decide +kernel
theorem dX6_kind_10 : decode cX6_kind 10 = .ok (.invokevirtual 65, 3) := by decide +kernel
theorem dX6_kind_13 : decode cX6_kind 13 = .ok (.ireturn, 1) := by decide +kernel
theorem dX6_kind_14 : decode cX6_kind 14 = .ok (.aload_n 0, 1) := by decide +kernel
theorem dX6_kind_15 : decode cX6_kind 15 = .ok (.getfield 12, 3) := by decide +kernel
theorem dX6_kind_18 : decode cX6_kind 18 = .ok (.getfield 69, 3) := by decide +kernel
theorem dX6_kind_21 : decode cX6_kind 21 = .ok (.iload_n 1, 1) := by decide +kernel
theorem dX6_kind_22 : decode cX6_kind 22 = .ok (.iaload, 1) := by decide +kernel
theorem dX6_kind_23 : decode cX6_kind 23 = .ok (.ifCond .ne 10, 3) := by decide +kernel
theorem dX6_kind_26 : decode cX6_kind 26 = .ok (.aload_n 0, 1) := by decide +kernel
theorem dX6_kind_27 : decode cX6_kind 27 = .ok (.ldc 138, 2) := by decide +kernel
theorem dX6_kind_29 : decode cX6_kind 29 = .ok (.invokevirtual 65, 3) := by decide +kernel
theorem dX6_kind_32 : decode cX6_kind 32 = .ok (.ireturn, 1) := by decide +kernel
theorem dX6_kind_33 : decode cX6_kind 33 = .ok (.iconst 0, 1) := by decide +kernel
theorem dX6_kind_34 : decode cX6_kind 34 = .ok (.istore_n 2, 1) := by decide +kernel
theorem dX6_kind_35 : decode cX6_kind 35 = .ok (.iconst 0, 1) := by decide +kernel
theorem dX6_kind_36 : decode cX6_kind 36 = .ok (.istore_n 3, 1) := by decide +kernel
theorem dX6_kind_37 : decode cX6_kind 37 = .ok (.aload_n 0, 1) := by decide +kernel
theorem dX6_kind_38 : decode cX6_kind 38 = .ok (.getfield 19, 3) := by decide +kernel
theorem dX6_kind_41 : decode cX6_kind 41 = .ok (.aload_n 0, 1) := by decide +kernel
theorem dX6_kind_42 : decode cX6_kind 42 = .ok (.getfield 12, 3) := by decide +kernel
theorem dX6_kind_45 : decode cX6_kind 45 = .ok (.invokevirtual 216, 3) := by decide +kernel
theorem dX6_kind_48 : decode cX6_kind 48 = .ok (.iconst 0, 1) := by decide +kernel
theorem dX6_kind_49 : decode cX6_kind 49 = .ok (.istore 4, 2) := by decide +kernel
theorem dX6_kind_51 : decode cX6_kind 51 = .ok (.iload 4, 2) := by decide +kernel
theorem dX6_kind_53 : decode cX6_kind 53 = .ok (.bipush 6, 2) := by decide +kernel
theorem dX6_kind_55 : decode cX6_kind 55 = .ok (.if_icmp .ge 46, 3) := by decide +kernel
theorem dX6_kind_58 : decode cX6_kind 58 = .ok (.aload_n 0, 1) := by decide +kernel
theorem dX6_kind_59 : decode cX6_kind 59 = .ok (.getfield 19, 3) := by decide +kernel
theorem dX6_kind_62 : decode cX6_kind 62 = .ok (.getfield 94, 3) := by decide +kernel
theorem dX6_kind_65 : decode cX6_kind 65 = .ok (.iload_n 1, 1) := by decide +kernel
theorem dX6_kind_66 : decode cX6_kind 66 = .ok (.iconst 0, 1) := by decide +kernel
theorem dX6_kind_67 : decode cX6_kind 67 = .ok (.invokestatic 90, 3) := by decide +kernel
theorem dX6_kind_70 : decode cX6_kind 70 = .ok (.iload 4, 2) := by decide +kernel
theorem dX6_kind_72 : decode cX6_kind 72 = .ok (.iastore, 1) := by decide +kernel
theorem dX6_kind_73 : decode cX6_kind 73 = .ok (.aload_n 0, 1) := by decide +kernel
theorem dX6_kind_74 : decode cX6_kind 74 = .ok (.aload_n 0, 1) := by decide +kernel
theorem dX6_kind_75 : decode cX6_kind 75 = .ok (.getfield 19, 3) := by decide +kernel
theorem dX6_kind_78 : decode cX6_kind 78 = .ok (.invokevirtual 176, 3) := by decide +kernel
theorem dX6_kind_81 : decode cX6_kind 81 = .ok (.istore 5, 2) := by decide +kernel
theorem dX6_kind_83 : decode cX6_kind 83 = .ok (.iload 5, 2) := by decide +kernel
theorem dX6_kind_85 : decode cX6_kind 85 = .ok (.iload_n 2, 1) := by decide +kernel
theorem dX6_kind_86 : decode cX6_kind 86 = .ok (.if_icmp .le 9, 3) := by decide +kernel
theorem dX6_kind_89 : decode cX6_kind 89 = .ok (.iload 5, 2) := by decide +kernel
theorem dX6_kind_91 : decode cX6_kind 91 = .ok (.istore_n 2, 1) := by decide +kernel
theorem dX6_kind_92 : decode cX6_kind 92 = .ok (.iload 4, 2) := by decide +kernel
theorem dX6_kind_94 : decode cX6_kind 94 = .ok (.istore_n 3, 1) := by decide +kernel
theorem dX6_kind_95 : decode cX6_kind 95 = .ok (.iinc 4 1, 3) := by decide +kernel
theorem dX6_kind_98 : decode cX6_kind 98 = .ok (.goto (-47), 3) := by decide +kernel
theorem dX6_kind_101 : decode cX6_kind 101 = .ok (.iload_n 3, 1) := by decide +kernel
theorem dX6_kind_102 : decode cX6_kind 102 = .ok (.ireturn, 1) := by decide +kernel
def rmX6_kind : Room := { frames := 5, cells := 0, slots := 0, locals := 108 }
abbrev eX6_kind := Ev cX6_kind 6 (some .int) RX6 rmX6_kind
set_option maxRecDepth 20000 in
theorem ev_X6_kind_l51 (l1 : Int32)  (K : Int32 → St → Prop) (Q : Int32 → St → Prop) (hK : ∀ k3 s, K k3 s → eX6_kind 101 [un, un, un, .int (k3), un, un] [] s (qI Q)) : ∀ (n : Nat) (l2 : Int32) (l3 : Int32) (l4 : Int32) (σ : St), P_X6_kind_l51 l1 K Q n l2 l3 l4 σ → eX6_kind 51 [.ref (0), .int (l1), .int (l2), .int (l3), .int (l4), un] [] σ (qI Q) := by
  intro n
  induction n with
  | zero => intro l2 l3 l4 σ hP; exact hP.elim
  | succ n ih =>
    intro l2 l3 l4 σ hP
    rw [P_X6_kind_l51] at hP
    refine E_iload dX6_kind_51 rfl ?_
    refine E_bipush (v := 6) dX6_kind_53 (by decide) ?_
    refine E_icmp_ge 101 dX6_kind_55 (by decide) (fun hc => ?_) (fun hc => ?_)
    · replace hP := hP.1 hc
      refine E_mask [false, false, false, true, false, false] rfl ?_
      exact hK (l3) _ hP
    · replace hP := hP.2 hc
      refine E_aload_n dX6_kind_58 rfl ?_
      refine E_getR (j := 2) dX6_kind_59 (show kd 0 = 6 by decide) (by decide) rfl fd_RX6_19 (by decide) ?_
      refine E_getR (j := 0) dX6_kind_62 (ar_6_13 (show kd 0 = 6 by decide)).1 (by decide) rfl fd_RX6_94 (by decide) ?_
      refine E_iload_n dX6_kind_65 rfl ?_
      refine E_iconst (v := 0) dX6_kind_66 (by decide) ?_
      refine E_callS (As := [.int (l1), .int (0)]) (rest := [.ref (14)]) dX6_kind_67 cl_RX6_90 tw_16 ⟨rfl, rfl, Nat.le_of_ble_eq_true rfl, Nat.le_of_ble_eq_true rfl⟩ rfl rfl (Nat.le_of_ble_eq_true rfl) (mt_X0_place _ _ _ _  hP) ?_
      intro r0 s0 hq0; obtain ⟨r67, h0, hs0, hP⟩ := hq0; subst h0; rw [hs0]
      show eX6_kind 70 [.ref (0), .int (l1), .int (l2), .int (l3), .int (l4), un] [.int (r67), .ref (14)] σ _
      refine E_iload dX6_kind_70 rfl ?_
      obtain ⟨hb, hP⟩ := hP
      refine E_iast dX6_kind_72 (ar_0_1 (ar_6_13 (show kd 0 = 6 by decide)).1).1 (ar_0_1 (ar_6_13 (show kd 0 = 6 by decide)).1).2 hb ?_
      refine E_aload_n dX6_kind_73 rfl ?_
      refine E_aload_n dX6_kind_74 rfl ?_
      refine E_getR (j := 2) dX6_kind_75 (show kd 0 = 6 by decide) (by decide) rfl fd_RX6_19 (by decide) ?_
      refine E_callV (As := [.ref (13)]) (rest := []) dX6_kind_78 cl_RX6_176 tw_351 (show kd 0 = 6 by decide) (by decide) rfl tw_352 ⟨rfl, rfl, Nat.le_of_ble_eq_true rfl, Nat.le_of_ble_eq_true rfl⟩ rfl rfl (Nat.le_of_ble_eq_true rfl) (mt_X6_standsOf _ _ _ (ar_6_13 (show kd 0 = 6 by decide)).1 hP) ?_
      rintro _ t78 ⟨r78, rfl, hP⟩
      show eX6_kind 81 [.ref (0), .int (l1), .int (l2), .int (l3), .int (l4), un] [.int (r78)] t78 _
      refine E_istore (ls' := [.ref (0), .int (l1), .int (l2), .int (l3), .int (l4), .int (r78)]) dX6_kind_81 (by decide) rfl ?_
      refine E_iload dX6_kind_83 rfl ?_
      refine E_iload_n dX6_kind_85 rfl ?_
      refine E_icmp_le 95 dX6_kind_86 (by decide) (fun hc => ?_) (fun hc => ?_)
      · replace hP := hP.1 hc
        refine E_iinc (ls' := [.ref (0), .int (l1), .int (l2), .int (l3), .int (l4 + 1), .int (r78)]) dX6_kind_95 rfl rfl (by decide) rfl ?_
        refine E_goto 51 dX6_kind_98 (by decide) ?_
        refine E_mask [true, true, true, true, true, false] rfl ?_
        exact ih (l2) (l3) (l4 + 1) _ hP
      · replace hP := hP.2 hc
        refine E_iload dX6_kind_89 rfl ?_
        refine E_istore_n (ls' := [.ref (0), .int (l1), .int (r78), .int (l3), .int (l4), .int (r78)]) dX6_kind_91 (by decide) rfl ?_
        refine E_iload dX6_kind_92 rfl ?_
        refine E_istore_n (ls' := [.ref (0), .int (l1), .int (r78), .int (l4), .int (l4), .int (r78)]) dX6_kind_94 (by decide) rfl ?_
        refine E_iinc (ls' := [.ref (0), .int (l1), .int (r78), .int (l4), .int (l4 + 1), .int (r78)]) dX6_kind_95 rfl rfl (by decide) rfl ?_
        refine E_goto 51 dX6_kind_98 (by decide) ?_
        refine E_mask [true, true, true, true, true, false] rfl ?_
        exact ih (r78) (l4) (l4 + 1) _ hP
set_option maxRecDepth 20000 in
theorem mt_X6_kind (p0 : Int32) (σ : St) (Q : Int32 → St → Prop)  (hP : P_X6_kind p0 σ Q) : Mt yX6_kind cX6_kind 6 (some .int) rmX6_kind [.ref (0), .int (p0)] σ (qI Q) := by
  refine Mt.of (k := 4) (ls := [.ref (0), .int (p0), un, un, un, un]) (by decide +kernel) rfl (Nat.le_of_ble_eq_true rfl) ?_
  show eX6_kind 0 [.ref (0), .int (p0), un, un, un, un] [] σ _
  unfold P_X6_kind at hP
  refine E_iload_n dX6_kind_0 rfl ?_
  refine E_callS (As := [.int (p0)]) (rest := []) dX6_kind_1 cl_RX6_58 tw_290 ⟨rfl, rfl, Nat.le_of_ble_eq_true rfl, Nat.le_of_ble_eq_true rfl⟩ rfl rfl (Nat.le_of_ble_eq_true rfl) (mt_X6_isWall _ _ _  hP) ?_
  intro r0 s0 hq0; obtain ⟨r1, h0, hs0, hP⟩ := hq0; subst h0; rw [hs0]
  show eX6_kind 4 [.ref (0), .int (p0), un, un, un, un] [.int (bI r1)] σ _
  refine E_ifz_ne 14 dX6_kind_4 (by decide) (fun hc => ?_) (fun hc => ?_)
  · replace hP := hP.1 hc
    refine E_aload_n dX6_kind_14 rfl ?_
    refine E_getR (j := 0) dX6_kind_15 (show kd 0 = 6 by decide) (by decide) rfl fd_RX6_12 (by decide) ?_
    refine E_getR (j := 3) dX6_kind_18 (ar_6_1 (show kd 0 = 6 by decide)).1 (by decide) rfl fd_RX6_69 (by decide) ?_
    refine E_iload_n dX6_kind_21 rfl ?_
    obtain ⟨hb, hP⟩ := hP
    refine E_iald dX6_kind_22 (ar_0_4 (ar_6_1 (show kd 0 = 6 by decide)).1).1 (ar_0_4 (ar_6_1 (show kd 0 = 6 by decide)).1).2 hb ?_
    refine E_if_ne 33 dX6_kind_23 (by decide) (fun hc => ?_) (fun hc => ?_)
    · replace hP := hP.1 hc
      refine E_iconst (v := 0) dX6_kind_33 (by decide) ?_
      refine E_istore_n (ls' := [.ref (0), .int (p0), .int (0), un, un, un]) dX6_kind_34 (by decide) rfl ?_
      refine E_iconst (v := 0) dX6_kind_35 (by decide) ?_
      refine E_istore_n (ls' := [.ref (0), .int (p0), .int (0), .int (0), un, un]) dX6_kind_36 (by decide) rfl ?_
      refine E_aload_n dX6_kind_37 rfl ?_
      refine E_getR (j := 2) dX6_kind_38 (show kd 0 = 6 by decide) (by decide) rfl fd_RX6_19 (by decide) ?_
      refine E_aload_n dX6_kind_41 rfl ?_
      refine E_getR (j := 0) dX6_kind_42 (show kd 0 = 6 by decide) (by decide) rfl fd_RX6_12 (by decide) ?_
      refine E_callV (As := [.ref (1)]) (rest := []) dX6_kind_45 cl_RX6_216 tw_272 (ar_6_13 (show kd 0 = 6 by decide)).1 (by decide) rfl tw_273 ⟨rfl, rfl, Nat.le_of_ble_eq_true rfl, Nat.le_of_ble_eq_true rfl⟩ rfl rfl (Nat.le_of_ble_eq_true rfl) (mt_X0_becomeLike _ _ _ _ (ar_6_13 (show kd 0 = 6 by decide)).1 (ar_6_1 (show kd 0 = 6 by decide)).1 hP) ?_
      rintro _ t45 ⟨rfl, hP⟩
      show eX6_kind 48 [.ref (0), .int (p0), .int (0), .int (0), un, un] [] t45 _
      refine E_iconst (v := 0) dX6_kind_48 (by decide) ?_
      refine E_istore (ls' := [.ref (0), .int (p0), .int (0), .int (0), .int (0), un]) dX6_kind_49 (by decide) rfl ?_
      obtain ⟨m51, hP⟩ := hP
      refine ev_X6_kind_l51 (p0)  _ Q ?_ m51 _ _ _ _ hP
      intro k3 t101 hP
      refine E_iload_n dX6_kind_101 rfl ?_
      exact E_iret dX6_kind_102 rfl ⟨_, rfl, hP⟩
    · replace hP := hP.2 hc
      refine E_aload_n dX6_kind_26 rfl ?_
      refine E_ldc (v := (-1000000005)) dX6_kind_27 tw_333 ?_
      refine E_callV (As := [.int ((-1000000005))]) (rest := []) dX6_kind_29 cl_RX6_65 tw_279 (show kd 0 = 6 by decide) (by decide) rfl tw_280 ⟨rfl, rfl, Nat.le_of_ble_eq_true rfl, Nat.le_of_ble_eq_true rfl⟩ rfl rfl (Nat.le_of_ble_eq_true rfl) (mt_X6_finding _ _ _  hP) ?_
      rintro _ t29 ⟨r29, rfl, hP⟩
      show eX6_kind 32 [.ref (0), .int (p0), un, un, un, un] [.int (r29)] t29 _
      exact E_iret dX6_kind_32 rfl ⟨_, rfl, hP⟩
  · replace hP := hP.2 hc
    refine E_aload_n dX6_kind_7 rfl ?_
    refine E_ldc (v := (-1000000001)) dX6_kind_8 tw_274 ?_
    refine E_callV (As := [.int ((-1000000001))]) (rest := []) dX6_kind_10 cl_RX6_65 tw_279 (show kd 0 = 6 by decide) (by decide) rfl tw_280 ⟨rfl, rfl, Nat.le_of_ble_eq_true rfl, Nat.le_of_ble_eq_true rfl⟩ rfl rfl (Nat.le_of_ble_eq_true rfl) (mt_X6_finding _ _ _  hP) ?_
    rintro _ t10 ⟨r10, rfl, hP⟩
    show eX6_kind 13 [.ref (0), .int (p0), un, un, un, un] [.int (r10)] t10 _
    exact E_iret dX6_kind_13 rfl ⟨_, rfl, hP⟩
theorem dX6_till_0 : decode cX6_till 0 = .ok (.aload_n 0, 1) := by decide +kernel
theorem dX6_till_1 : decode cX6_till 1 = .ok (.getfield 19, 3) := by decide +kernel
theorem dX6_till_4 : decode cX6_till 4 = .ok (.aload_n 0, 1) := by decide +kernel
theorem dX6_till_5 : decode cX6_till 5 = .ok (.getfield 12, 3) := by decide +kernel
theorem dX6_till_8 : decode cX6_till 8 = .ok (.invokevirtual 216, 3) := by decide +kernel
theorem dX6_till_11 : decode cX6_till 11 = .ok (.bipush 60, 2) := by decide +kernel
theorem dX6_till_13 : decode cX6_till 13 = .ok (.istore_n 1, 1) := by decide +kernel
theorem dX6_till_14 : decode cX6_till 14 = .ok (.iload_n 1, 1) := by decide +kernel
theorem dX6_till_15 : decode cX6_till 15 = .ok (.ifCond .lt 45, 3) := by decide +kernel
theorem dX6_till_18 : decode cX6_till 18 = .ok (.aload_n 0, 1) := by decide +kernel
theorem dX6_till_19 : decode cX6_till 19 = .ok (.getfield 19, 3) := by decide +kernel
theorem dX6_till_22 : decode cX6_till 22 = .ok (.aload_n 0, 1) := by decide +kernel
theorem dX6_till_23 : decode cX6_till 23 = .ok (.getfield 12, 3) := by decide +kernel
theorem dX6_till_26 : decode cX6_till 26 = .ok (.getfield 135, 3) := by decide +kernel
theorem dX6_till_29 : decode cX6_till 29 = .ok (.iload_n 1, 1) := by decide +kernel
theorem dX6_till_30 : decode cX6_till 30 = .ok (.iadd, 1) := by decide +kernel
theorem dX6_till_31 : decode cX6_till 31 = .ok (.putfield 135, 3) := by decide +kernel
theorem dX6_till_34 : decode cX6_till 34 = .ok (.aload_n 0, 1) := by decide +kernel
theorem dX6_till_35 : decode cX6_till 35 = .ok (.aload_n 0, 1) := by decide +kernel
theorem dX6_till_36 : decode cX6_till 36 = .ok (.getfield 19, 3) := by decide +kernel
theorem dX6_till_39 : decode cX6_till 39 = .ok (.iconst 0, 1) := by decide +kernel
theorem dX6_till_40 : decode cX6_till 40 = .ok (.invokevirtual 172, 3) := by decide +kernel
theorem dX6_till_43 : decode cX6_till 43 = .ok (.ifCond .eq 11, 3) := by decide +kernel
theorem dX6_till_46 : decode cX6_till 46 = .ok (.aload_n 0, 1) := by decide +kernel
theorem dX6_till_47 : decode cX6_till 47 = .ok (.getfield 19, 3) := by decide +kernel
theorem dX6_till_50 : decode cX6_till 50 = .ok (.getfield 135, 3) := by decide +kernel
theorem dX6_till_53 : decode cX6_till 53 = .ok (.ireturn, 1) := by decide +kernel
theorem dX6_till_54 : decode cX6_till 54 = .ok (.iinc 1 (-1), 3) := by decide +kernel
theorem dX6_till_57 : decode cX6_till 57 = .ok (.goto (-43), 3) := by decide +kernel
theorem dX6_till_60 : decode cX6_till 60 = .ok (.aload_n 0, 1) := by decide +kernel
theorem dX6_till_61 : decode cX6_till 61 = .ok (.ldc 196, 2) := by decide +kernel
theorem dX6_till_63 : decode cX6_till 63 = .ok (.invokevirtual 65, 3) := by decide +kernel
theorem dX6_till_66 : decode cX6_till 66 = .ok (.ireturn, 1) := by decide +kernel
def rmX6_till : Room := { frames := 6, cells := 0, slots := 0, locals := 130 }
abbrev eX6_till := Ev cX6_till 2 (some .int) RX6 rmX6_till
set_option maxRecDepth 20000 in
theorem ev_X6_till_l14   (K : St → Prop) (Q : Int32 → St → Prop) (hK : ∀  s, K  s → eX6_till 60 [.ref (0), un] [] s (qI Q)) : ∀ (n : Nat) (l1 : Int32) (σ : St), P_X6_till_l14  K Q n l1 σ → eX6_till 14 [.ref (0), .int (l1)] [] σ (qI Q) := by
  intro n
  induction n with
  | zero => intro l1 σ hP; exact hP.elim
  | succ n ih =>
    intro l1 σ hP
    rw [P_X6_till_l14] at hP
    refine E_iload_n dX6_till_14 rfl ?_
    refine E_if_lt 60 dX6_till_15 (by decide) (fun hc => ?_) (fun hc => ?_)
    · replace hP := hP.1 hc
      refine E_mask [true, false] rfl ?_
      exact hK  _ hP
    · replace hP := hP.2 hc
      refine E_aload_n dX6_till_18 rfl ?_
      refine E_getR (j := 2) dX6_till_19 (show kd 0 = 6 by decide) (by decide) rfl fd_RX6_19 (by decide) ?_
      refine E_aload_n dX6_till_22 rfl ?_
      refine E_getR (j := 0) dX6_till_23 (show kd 0 = 6 by decide) (by decide) rfl fd_RX6_12 (by decide) ?_
      refine E_getI (j := 7) dX6_till_26 (ar_6_1 (show kd 0 = 6 by decide)).1 (by decide) rfl fd_RX6_135 ?_
      refine E_iload_n dX6_till_29 rfl ?_
      refine E_iadd dX6_till_30 ?_
      refine E_putI (j := 7) dX6_till_31 (ar_6_13 (show kd 0 = 6 by decide)).1 (by decide) rfl fd_RX6_135 fp_0_7 ?_
      refine E_aload_n dX6_till_34 rfl ?_
      refine E_aload_n dX6_till_35 rfl ?_
      refine E_getR (j := 2) dX6_till_36 (show kd 0 = 6 by decide) (by decide) rfl fd_RX6_19 (by decide) ?_
      refine E_iconst (v := 0) dX6_till_39 (by decide) ?_
      refine E_callV (As := [.ref (13), .int (0)]) (rest := []) dX6_till_40 cl_RX6_172 tw_356 (show kd 0 = 6 by decide) (by decide) rfl tw_357 ⟨rfl, rfl, Nat.le_of_ble_eq_true rfl, Nat.le_of_ble_eq_true rfl⟩ rfl rfl (Nat.le_of_ble_eq_true rfl) (mt_X6_canBe _ _ _ _ (ar_6_13 (show kd 0 = 6 by decide)).1 hP) ?_
      rintro _ t40 ⟨r40, rfl, hP⟩
      show eX6_till 43 [.ref (0), .int (l1)] [.int (bI r40)] t40 _
      refine E_ifz_eq 54 dX6_till_43 (by decide) (fun hc => ?_) (fun hc => ?_)
      · replace hP := hP.1 hc
        refine E_iinc (ls' := [.ref (0), .int (l1 + (-1))]) dX6_till_54 rfl rfl (by decide) rfl ?_
        refine E_goto 14 dX6_till_57 (by decide) ?_
        exact ih (l1 + (-1)) _ hP
      · replace hP := hP.2 hc
        refine E_aload_n dX6_till_46 rfl ?_
        refine E_getR (j := 2) dX6_till_47 (show kd 0 = 6 by decide) (by decide) rfl fd_RX6_19 (by decide) ?_
        refine E_getI (j := 7) dX6_till_50 (ar_6_13 (show kd 0 = 6 by decide)).1 (by decide) rfl fd_RX6_135 ?_
        exact E_iret dX6_till_53 rfl ⟨_, rfl, hP⟩
set_option maxRecDepth 20000 in
theorem mt_X6_till  (σ : St) (Q : Int32 → St → Prop)  (hP : P_X6_till  σ Q) : Mt yX6_till cX6_till 2 (some .int) rmX6_till [.ref (0)] σ (qI Q) := by
  refine Mt.of (k := 1) (ls := [.ref (0), un]) (by decide +kernel) rfl (Nat.le_of_ble_eq_true rfl) ?_
  show eX6_till 0 [.ref (0), un] [] σ _
  unfold P_X6_till at hP
  refine E_aload_n dX6_till_0 rfl ?_
  refine E_getR (j := 2) dX6_till_1 (show kd 0 = 6 by decide) (by decide) rfl fd_RX6_19 (by decide) ?_
  refine E_aload_n dX6_till_4 rfl ?_
  refine E_getR (j := 0) dX6_till_5 (show kd 0 = 6 by decide) (by decide) rfl fd_RX6_12 (by decide) ?_
  refine E_callV (As := [.ref (1)]) (rest := []) dX6_till_8 cl_RX6_216 tw_272 (ar_6_13 (show kd 0 = 6 by decide)).1 (by decide) rfl tw_273 ⟨rfl, rfl, Nat.le_of_ble_eq_true rfl, Nat.le_of_ble_eq_true rfl⟩ rfl rfl (Nat.le_of_ble_eq_true rfl) (mt_X0_becomeLike _ _ _ _ (ar_6_13 (show kd 0 = 6 by decide)).1 (ar_6_1 (show kd 0 = 6 by decide)).1 hP) ?_
  rintro _ t8 ⟨rfl, hP⟩
  show eX6_till 11 [.ref (0), un] [] t8 _
  refine E_bipush (v := 60) dX6_till_11 (by decide) ?_
  refine E_istore_n (ls' := [.ref (0), .int (60)]) dX6_till_13 (by decide) rfl ?_
  obtain ⟨m14, hP⟩ := hP
  refine ev_X6_till_l14   _ Q ?_ m14 _ _ hP
  intro  t60 hP
  refine E_aload_n dX6_till_60 rfl ?_
  refine E_ldc (v := (-1000000004)) dX6_till_61 tw_366 ?_
  refine E_callV (As := [.int ((-1000000004))]) (rest := []) dX6_till_63 cl_RX6_65 tw_279 (show kd 0 = 6 by decide) (by decide) rfl tw_280 ⟨rfl, rfl, Nat.le_of_ble_eq_true rfl, Nat.le_of_ble_eq_true rfl⟩ rfl rfl (Nat.le_of_ble_eq_true rfl) (mt_X6_finding _ _ _  hP) ?_
  rintro _ t63 ⟨r63, rfl, hP⟩
  show eX6_till 66 [.ref (0), un] [.int (r63)] t63 _
  exact E_iret dX6_till_66 rfl ⟨_, rfl, hP⟩
