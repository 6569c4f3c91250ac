theorem dX6_as_0 : decode cX6_as 0 = .ok (.aload_n 0, 1) := by decide +kernel
theorem dX6_as_1 : decode cX6_as 1 = .ok (.iload_n 1, 1) := by decide +kernel
theorem dX6_as_2 : decode cX6_as 2 = .ok (.iload_n 2, 1) := by decide +kernel
theorem dX6_as_3 : decode cX6_as 3 = .ok (.invokevirtual 86, 3) := by decide +kernel
theorem dX6_as_6 : decode cX6_as 6 = .ok (.ifCond .eq 10, 3) := by decide +kernel
theorem dX6_as_9 : decode cX6_as 9 = .ok (.iload_n 3, 1) := by decide +kernel
theorem dX6_as_10 : decode cX6_as 10 = .ok (.invokestatic 54, 3) := by decide +kernel
theorem dX6_as_13 : decode cX6_as 13 = .ok (.ifCond .ne 10, 3) := by decide +kernel
theorem dX6_as_16 : decode cX6_as 16 = .ok (.aload_n 0, 1) := by decide +kernel
theorem dX6_as_17 : decode cX6_as 17 = .ok (.ldc 64, 2) := by decide +kernel
theorem dX6_as_19 : decode cX6_as 19 = .ok (.invokevirtual 65, 3) := by decide +kernel
theorem dX6_as_22 : decode cX6_as 22 = .ok (.ireturn, 1) := by decide +kernel
theorem dX6_as_23 : decode cX6_as 23 = .ok (.iload_n 1, 1) := by decide +kernel
theorem dX6_as_24 : decode cX6_as 24 = .ok (.iload_n 2, 1) := by decide +kernel
theorem dX6_as_25 : decode cX6_as 25 = .ok (.invokestatic 90, 3) := by decide +kernel
theorem dX6_as_28 : decode cX6_as 28 = .ok (.istore 4, 2) := by decide +kernel
theorem dX6_as_30 : decode cX6_as 30 = .ok (.aload_n 0, 1) := by decide +kernel
theorem dX6_as_31 : decode cX6_as 31 = .ok (.getfield 12, 3) := by decide +kernel
theorem dX6_as_34 : decode cX6_as 34 = .ok (.getfield 94, 3) := by decide +kernel
theorem dX6_as_37 : decode cX6_as 37 = .ok (.iload 4, 2) := by decide +kernel
theorem dX6_as_39 : decode cX6_as 39 = .ok (.iaload, 1) := by decide +kernel
theorem dX6_as_40 : decode cX6_as 40 = .ok (.iload_n 3, 1) := by decide +kernel
theorem dX6_as_41 : decode cX6_as 41 = .ok (.invokestatic 120, 3) := by decide +kernel
theorem dX6_as_44 : decode cX6_as 44 = .ok (.ifCond .ne 10, 3) := by decide +kernel
theorem dX6_as_47 : decode cX6_as 47 = .ok (.aload_n 0, 1) := by decide +kernel
theorem dX6_as_48 : decode cX6_as 48 = .ok (.ldc 123, 2) := by decide +kernel
theorem dX6_as_50 : decode cX6_as 50 = .ok (.invokevirtual 65, 3) := by decide +kernel
theorem dX6_as_53 : decode cX6_as 53 = .ok (.ireturn, 1) := by decide +kernel
theorem dX6_as_54 : decode cX6_as 54 = .ok (.aload_n 0, 1) := by decide +kernel
theorem dX6_as_55 : decode cX6_as 55 = .ok (.getfield 12, 3) := by decide +kernel
theorem dX6_as_58 : decode cX6_as 58 = .ok (.getfield 97, 3) := by decide +kernel
theorem dX6_as_61 : decode cX6_as 61 = .ok (.iload 4, 2) := by decide +kernel
theorem dX6_as_63 : decode cX6_as 63 = .ok (.iaload, 1) := by decide +kernel
theorem dX6_as_64 : decode cX6_as 64 = .ok (.ireturn, 1) := by decide +kernel
def rmX6_as : Room := { frames := 3, cells := 0, slots := 0, locals := 64 }
abbrev eX6_as := Ev cX6_as 5 (some .int) RX6 rmX6_as
set_option maxRecDepth 20000 in
theorem mt_X6_as (p0 : Int32) (p1 : Int32) (p2 : Int32) (σ : St) (Q : Int32 → St → Prop)  (hP : P_X6_as p0 p1 p2 σ Q) : Mt yX6_as cX6_as 5 (some .int) rmX6_as [.ref (0), .int (p0), .int (p1), .int (p2)] σ (qI Q) := by
  refine Mt.of (k := 1) (ls := [.ref (0), .int (p0), .int (p1), .int (p2), un]) (by decide +kernel) rfl (Nat.le_of_ble_eq_true rfl) ?_
  show eX6_as 0 [.ref (0), .int (p0), .int (p1), .int (p2), un] [] σ _
  unfold P_X6_as at hP
  refine E_aload_n dX6_as_0 rfl ?_
  refine E_iload_n dX6_as_1 rfl ?_
  refine E_iload_n dX6_as_2 rfl ?_
  refine E_callV (As := [.int (p0), .int (p1)]) (rest := []) dX6_as_3 cl_RX6_86 tw_318 (show kd 0 = 6 by decide) (by decide) rfl tw_319 ⟨rfl, rfl, Nat.le_of_ble_eq_true rfl, Nat.le_of_ble_eq_true rfl⟩ rfl rfl (Nat.le_of_ble_eq_true rfl) (mt_X6_isStone _ _ _ _  hP) ?_
  intro r0 s0 hq0; obtain ⟨r3, h0, hs0, hP⟩ := hq0; subst h0; rw [hs0]
  show eX6_as 6 [.ref (0), .int (p0), .int (p1), .int (p2), un] [.int (bI r3)] σ _
  refine E_ifz_eq 16 dX6_as_6 (by decide) (fun hc => ?_) (fun hc => ?_)
  · replace hP := hP.1 hc
    refine E_aload_n dX6_as_16 rfl ?_
    refine E_ldc (v := (-1000000001)) dX6_as_17 tw_274 ?_
    refine E_callV (As := [.int ((-1000000001))]) (rest := []) dX6_as_19 cl_RX6_65 tw_279 (show kd 0 = 6 by decide) (by decide) rfl tw_280 ⟨rfl, rfl, Nat.le_of_ble_eq_true rfl, Nat.le_of_ble_eq_true rfl⟩ rfl rfl (Nat.le_of_ble_eq_true rfl) (mt_X6_finding _ _ _  hP) ?_
    rintro _ t19 ⟨r19, rfl, hP⟩
    show eX6_as 22 [.ref (0), .int (p0), .int (p1), .int (p2), un] [.int (r19)] t19 _
    exact E_iret dX6_as_22 rfl ⟨_, rfl, hP⟩
  · replace hP := hP.2 hc
    refine E_iload_n dX6_as_9 rfl ?_
    refine E_callS (As := [.int (p2)]) (rest := []) dX6_as_10 cl_RX6_54 tw_293 ⟨rfl, rfl, Nat.le_of_ble_eq_true rfl, Nat.le_of_ble_eq_true rfl⟩ rfl rfl (Nat.le_of_ble_eq_true rfl) (mt_X6_isKind _ _ _  hP) ?_
    intro r0 s0 hq0; obtain ⟨r10, h0, hs0, hP⟩ := hq0; subst h0; rw [hs0]
    show eX6_as 13 [.ref (0), .int (p0), .int (p1), .int (p2), un] [.int (bI r10)] σ _
    refine E_ifz_ne 23 dX6_as_13 (by decide) (fun hc => ?_) (fun hc => ?_)
    · replace hP := hP.1 hc
      refine E_iload_n dX6_as_23 rfl ?_
      refine E_iload_n dX6_as_24 rfl ?_
      refine E_callS (As := [.int (p0), .int (p1)]) (rest := []) dX6_as_25 cl_RX6_90 tw_16 ⟨rfl, rfl, Nat.le_of_ble_eq_true rfl, Nat.le_of_ble_eq_true rfl⟩ rfl rfl (Nat.le_of_ble_eq_true rfl) (mt_X0_place _ _ _ _  hP) ?_
      intro r0 s0 hq0; obtain ⟨r25, h0, hs0, hP⟩ := hq0; subst h0; rw [hs0]
      show eX6_as 28 [.ref (0), .int (p0), .int (p1), .int (p2), un] [.int (r25)] σ _
      refine E_istore (ls' := [.ref (0), .int (p0), .int (p1), .int (p2), .int (r25)]) dX6_as_28 (by decide) rfl ?_
      refine E_aload_n dX6_as_30 rfl ?_
      refine E_getR (j := 0) dX6_as_31 (show kd 0 = 6 by decide) (by decide) rfl fd_RX6_12 (by decide) ?_
      refine E_getR (j := 0) dX6_as_34 (ar_6_1 (show kd 0 = 6 by decide)).1 (by decide) rfl fd_RX6_94 (by decide) ?_
      refine E_iload dX6_as_37 rfl ?_
      obtain ⟨hb, hP⟩ := hP
      refine E_iald dX6_as_39 (ar_0_1 (ar_6_1 (show kd 0 = 6 by decide)).1).1 (ar_0_1 (ar_6_1 (show kd 0 = 6 by decide)).1).2 hb ?_
      refine E_iload_n dX6_as_40 rfl ?_
      refine E_callS (As := [.int (gI σ 2 r25.toNatClampNeg), .int (p2)]) (rest := []) dX6_as_41 cl_RX6_120 tw_324 ⟨rfl, rfl, Nat.le_of_ble_eq_true rfl, Nat.le_of_ble_eq_true rfl⟩ rfl rfl (Nat.le_of_ble_eq_true rfl) (mt_X6_isUnder _ _ _ _  hP) ?_
      intro r0 s0 hq0; obtain ⟨r41, h0, hs0, hP⟩ := hq0; subst h0; rw [hs0]
      show eX6_as 44 [.ref (0), .int (p0), .int (p1), .int (p2), .int (r25)] [.int (bI r41)] σ _
      refine E_ifz_ne 54 dX6_as_44 (by decide) (fun hc => ?_) (fun hc => ?_)
      · replace hP := hP.1 hc
        refine E_aload_n dX6_as_54 rfl ?_
        refine E_getR (j := 0) dX6_as_55 (show kd 0 = 6 by decide) (by decide) rfl fd_RX6_12 (by decide) ?_
        refine E_getR (j := 1) dX6_as_58 (ar_6_1 (show kd 0 = 6 by decide)).1 (by decide) rfl fd_RX6_97 (by decide) ?_
        refine E_iload dX6_as_61 rfl ?_
        obtain ⟨hb, hP⟩ := hP
        refine E_iald dX6_as_63 (ar_0_2 (ar_6_1 (show kd 0 = 6 by decide)).1).1 (ar_0_2 (ar_6_1 (show kd 0 = 6 by decide)).1).2 hb ?_
        exact E_iret dX6_as_64 rfl ⟨_, rfl, hP⟩
      · replace hP := hP.2 hc
        refine E_aload_n dX6_as_47 rfl ?_
        refine E_ldc (v := (-1000000003)) dX6_as_48 tw_321 ?_
        refine E_callV (As := [.int ((-1000000003))]) (rest := []) dX6_as_50 cl_RX6_65 tw_279 (show kd 0 = 6 by decide) (by decide) rfl tw_280 ⟨rfl, rfl, Nat.le_of_ble_eq_true rfl, Nat.le_of_ble_eq_true rfl⟩ rfl rfl (Nat.le_of_ble_eq_true rfl) (mt_X6_finding _ _ _  hP) ?_
        rintro _ t50 ⟨r50, rfl, hP⟩
        show eX6_as 53 [.ref (0), .int (p0), .int (p1), .int (p2), .int (r25)] [.int (r50)] t50 _
        exact E_iret dX6_as_53 rfl ⟨_, rfl, hP⟩
    · replace hP := hP.2 hc
      refine E_aload_n dX6_as_16 rfl ?_
      refine E_ldc (v := (-1000000001)) dX6_as_17 tw_274 ?_
      refine E_callV (As := [.int ((-1000000001))]) (rest := []) dX6_as_19 cl_RX6_65 tw_279 (show kd 0 = 6 by decide) (by decide) rfl tw_280 ⟨rfl, rfl, Nat.le_of_ble_eq_true rfl, Nat.le_of_ble_eq_true rfl⟩ rfl rfl (Nat.le_of_ble_eq_true rfl) (mt_X6_finding _ _ _  hP) ?_
      rintro _ t19 ⟨r19, rfl, hP⟩
      show eX6_as 22 [.ref (0), .int (p0), .int (p1), .int (p2), un] [.int (r19)] t19 _
      exact E_iret dX6_as_22 rfl ⟨_, rfl, hP⟩
theorem dX6_wedge_0 : decode cX6_wedge 0 = .ok (.iload_n 1, 1) := by decide +kernel
theorem dX6_wedge_1 : decode cX6_wedge 1 = .ok (.invokestatic 58, 3) := by decide +kernel
theorem dX6_wedge_4 : decode cX6_wedge 4 = .ok (.ifCond .eq 13, 3) := by decide +kernel
theorem dX6_wedge_7 : decode cX6_wedge 7 = .ok (.iload_n 2, 1) := by decide +kernel
theorem dX6_wedge_8 : decode cX6_wedge 8 = .ok (.iconst 0, 1) := by decide +kernel
theorem dX6_wedge_9 : decode cX6_wedge 9 = .ok (.bipush 20, 2) := by decide +kernel
theorem dX6_wedge_11 : decode cX6_wedge 11 = .ok (.invokestatic 116, 3) := by decide +kernel
theorem dX6_wedge_14 : decode cX6_wedge 14 = .ok (.ifCond .ne 10, 3) := by decide +kernel
theorem dX6_wedge_17 : decode cX6_wedge 17 = .ok (.aload_n 0, 1) := by decide +kernel
theorem dX6_wedge_18 : decode cX6_wedge 18 = .ok (.ldc 64, 2) := by decide +kernel
theorem dX6_wedge_20 : decode cX6_wedge 20 = .ok (.invokevirtual 65, 3) := by decide +kernel
theorem dX6_wedge_23 : decode cX6_wedge 23 = .ok (.ireturn, 1) := by decide +kernel
theorem dX6_wedge_24 : decode cX6_wedge 24 = .ok (.aload_n 0, 1) := by decide +kernel
theorem dX6_wedge_25 : decode cX6_wedge 25 = .ok (.getfield 12, 3) := by decide +kernel
theorem dX6_wedge_28 : decode cX6_wedge 28 = .ok (.getfield 77, 3) := by decide +kernel
theorem dX6_wedge_31 : decode cX6_wedge 31 = .ok (.iload_n 1, 1) := by decide +kernel
theorem dX6_wedge_32 : decode cX6_wedge 32 = .ok (.iaload, 1) := by decide +kernel
theorem dX6_wedge_33 : decode cX6_wedge 33 = .ok (.istore_n 3, 1) := by decide +kernel
theorem dX6_wedge_34 : decode cX6_wedge 34 = .ok (.aload_n 0, 1) := by decide +kernel
theorem dX6_wedge_35 : decode cX6_wedge 35 = .ok (.getfield 12, 3) := by decide +kernel
theorem dX6_wedge_38 : decode cX6_wedge 38 = .ok (.getfield 77, 3) := by decide +kernel
theorem dX6_wedge_41 : decode cX6_wedge 41 = .ok (.iload_n 1, 1) := by decide +kernel
theorem dX6_wedge_42 : decode cX6_wedge 42 = .ok (.iload_n 2, 1) := by decide +kernel
theorem dX6_wedge_43 : decode cX6_wedge 43 = .ok (.iastore, 1) := by decide +kernel
theorem dX6_wedge_44 : decode cX6_wedge 44 = .ok (.iload_n 3, 1) := by decide +kernel
theorem dX6_wedge_45 : decode cX6_wedge 45 = .ok (.ireturn, 1) := by decide +kernel
def rmX6_wedge : Room := { frames := 2, cells := 0, slots := 0, locals := 44 }
abbrev eX6_wedge := Ev cX6_wedge 4 (some .int) RX6 rmX6_wedge
set_option maxRecDepth 20000 in
theorem mt_X6_wedge (p0 : Int32) (p1 : Int32) (σ : St) (Q : Int32 → St → Prop)  (hP : P_X6_wedge p0 p1 σ Q) : Mt yX6_wedge cX6_wedge 4 (some .int) rmX6_wedge [.ref (0), .int (p0), .int (p1)] σ (qI Q) := by
  refine Mt.of (k := 1) (ls := [.ref (0), .int (p0), .int (p1), un]) (by decide +kernel) rfl (Nat.le_of_ble_eq_true rfl) ?_
  show eX6_wedge 0 [.ref (0), .int (p0), .int (p1), un] [] σ _
  unfold P_X6_wedge at hP
  refine E_iload_n dX6_wedge_0 rfl ?_
  refine E_callS (As := [.int (p0)]) (rest := []) dX6_wedge_1 cl_RX6_58 tw_290 ⟨rfl, rfl, Nat.le_of_ble_eq_true rfl, Nat.le_of_ble_eq_true rfl⟩ rfl rfl (Nat.le_of_ble_eq_true rfl) (mt_X6_isWall _ _ _  hP) ?_
  intro r0 s0 hq0; obtain ⟨r1, h0, hs0, hP⟩ := hq0; subst h0; rw [hs0]
  show eX6_wedge 4 [.ref (0), .int (p0), .int (p1), un] [.int (bI r1)] σ _
  refine E_ifz_eq 17 dX6_wedge_4 (by decide) (fun hc => ?_) (fun hc => ?_)
  · replace hP := hP.1 hc
    refine E_aload_n dX6_wedge_17 rfl ?_
    refine E_ldc (v := (-1000000001)) dX6_wedge_18 tw_274 ?_
    refine E_callV (As := [.int ((-1000000001))]) (rest := []) dX6_wedge_20 cl_RX6_65 tw_279 (show kd 0 = 6 by decide) (by decide) rfl tw_280 ⟨rfl, rfl, Nat.le_of_ble_eq_true rfl, Nat.le_of_ble_eq_true rfl⟩ rfl rfl (Nat.le_of_ble_eq_true rfl) (mt_X6_finding _ _ _  hP) ?_
    rintro _ t20 ⟨r20, rfl, hP⟩
    show eX6_wedge 23 [.ref (0), .int (p0), .int (p1), un] [.int (r20)] t20 _
    exact E_iret dX6_wedge_23 rfl ⟨_, rfl, hP⟩
  · replace hP := hP.2 hc
    refine E_iload_n dX6_wedge_7 rfl ?_
    refine E_iconst (v := 0) dX6_wedge_8 (by decide) ?_
    refine E_bipush (v := 20) dX6_wedge_9 (by decide) ?_
    refine E_callS (As := [.int (p1), .int (0), .int (20)]) (rest := []) dX6_wedge_11 cl_RX6_116 tw_143 ⟨rfl, rfl, Nat.le_of_ble_eq_true rfl, Nat.le_of_ble_eq_true rfl⟩ rfl rfl (Nat.le_of_ble_eq_true rfl) (mt_X6_isWithin _ _ _ _ _  hP) ?_
    intro r0 s0 hq0; obtain ⟨r11, h0, hs0, hP⟩ := hq0; subst h0; rw [hs0]
    show eX6_wedge 14 [.ref (0), .int (p0), .int (p1), un] [.int (bI r11)] σ _
    refine E_ifz_ne 24 dX6_wedge_14 (by decide) (fun hc => ?_) (fun hc => ?_)
    · replace hP := hP.1 hc
      refine E_aload_n dX6_wedge_24 rfl ?_
      refine E_getR (j := 0) dX6_wedge_25 (show kd 0 = 6 by decide) (by decide) rfl fd_RX6_12 (by decide) ?_
      refine E_getR (j := 4) dX6_wedge_28 (ar_6_1 (show kd 0 = 6 by decide)).1 (by decide) rfl fd_RX6_77 (by decide) ?_
      refine E_iload_n dX6_wedge_31 rfl ?_
      obtain ⟨hb, hP⟩ := hP
      refine E_iald dX6_wedge_32 (ar_0_5 (ar_6_1 (show kd 0 = 6 by decide)).1).1 (ar_0_5 (ar_6_1 (show kd 0 = 6 by decide)).1).2 hb ?_
      refine E_istore_n (ls' := [.ref (0), .int (p0), .int (p1), .int (gI σ 6 p0.toNatClampNeg)]) dX6_wedge_33 (by decide) rfl ?_
      refine E_aload_n dX6_wedge_34 rfl ?_
      refine E_getR (j := 0) dX6_wedge_35 (show kd 0 = 6 by decide) (by decide) rfl fd_RX6_12 (by decide) ?_
      refine E_getR (j := 4) dX6_wedge_38 (ar_6_1 (show kd 0 = 6 by decide)).1 (by decide) rfl fd_RX6_77 (by decide) ?_
      refine E_iload_n dX6_wedge_41 rfl ?_
      refine E_iload_n dX6_wedge_42 rfl ?_
      obtain ⟨hb, hP⟩ := hP
      refine E_iast dX6_wedge_43 (ar_0_5 (ar_6_1 (show kd 0 = 6 by decide)).1).1 (ar_0_5 (ar_6_1 (show kd 0 = 6 by decide)).1).2 hb ?_
      refine E_iload_n dX6_wedge_44 rfl ?_
      exact E_iret dX6_wedge_45 rfl ⟨_, rfl, hP⟩
    · replace hP := hP.2 hc
      refine E_aload_n dX6_wedge_17 rfl ?_
      refine E_ldc (v := (-1000000001)) dX6_wedge_18 tw_274 ?_
      refine E_callV (As := [.int ((-1000000001))]) (rest := []) dX6_wedge_20 cl_RX6_65 tw_279 (show kd 0 = 6 by decide) (by decide) rfl tw_280 ⟨rfl, rfl, Nat.le_of_ble_eq_true rfl, Nat.le_of_ble_eq_true rfl⟩ rfl rfl (Nat.le_of_ble_eq_true rfl) (mt_X6_finding _ _ _  hP) ?_
      rintro _ t20 ⟨r20, rfl, hP⟩
      show eX6_wedge 23 [.ref (0), .int (p0), .int (p1), un] [.int (r20)] t20 _
      exact E_iret dX6_wedge_23 rfl ⟨_, rfl, hP⟩
theorem dX6_slack_0 : decode cX6_slack 0 = .ok (.iload_n 1, 1) := by decide +kernel
theorem dX6_slack_1 : decode cX6_slack 1 = .ok (.iconst 0, 1) := by decide +kernel
theorem dX6_slack_2 : decode cX6_slack 2 = .ok (.bipush 99, 2) := by decide +kernel
theorem dX6_slack_4 : decode cX6_slack 4 = .ok (.invokestatic 116, 3) := by decide +kernel
theorem dX6_slack_7 : decode cX6_slack 7 = .ok (.ifCond .ne 10, 3) := by decide +kernel
theorem dX6_slack_10 : decode cX6_slack 10 = .ok (.aload_n 0, 1) := by decide +kernel
theorem dX6_slack_11 : decode cX6_slack 11 = .ok (.ldc 64, 2) := by decide +kernel
theorem dX6_slack_13 : decode cX6_slack 13 = .ok (.invokevirtual 65, 3) := by decide +kernel
theorem dX6_slack_16 : decode cX6_slack 16 = .ok (.ireturn, 1) := by decide +kernel
theorem dX6_slack_17 : decode cX6_slack 17 = .ok (.aload_n 0, 1) := by decide +kernel
theorem dX6_slack_18 : decode cX6_slack 18 = .ok (.getfield 12, 3) := by decide +kernel
theorem dX6_slack_21 : decode cX6_slack 21 = .ok (.getfield 124, 3) := by decide +kernel
theorem dX6_slack_24 : decode cX6_slack 24 = .ok (.istore_n 2, 1) := by decide +kernel
theorem dX6_slack_25 : decode cX6_slack 25 = .ok (.aload_n 0, 1) := by decide +kernel
theorem dX6_slack_26 : decode cX6_slack 26 = .ok (.getfield 12, 3) := by decide +kernel
theorem dX6_slack_29 : decode cX6_slack 29 = .ok (.iload_n 1, 1) := by decide +kernel
theorem dX6_slack_30 : decode cX6_slack 30 = .ok (.putfield 124, 3) := by decide +kernel
theorem dX6_slack_33 : decode cX6_slack 33 = .ok (.iload_n 2, 1) := by decide +kernel
theorem dX6_slack_34 : decode cX6_slack 34 = .ok (.ireturn, 1) := by decide +kernel
def rmX6_slack : Room := { frames := 2, cells := 0, slots := 0, locals := 44 }
abbrev eX6_slack := Ev cX6_slack 3 (some .int) RX6 rmX6_slack
set_option maxRecDepth 20000 in
theorem mt_X6_slack (p0 : Int32) (σ : St) (Q : Int32 → St → Prop)  (hP : P_X6_slack p0 σ Q) : Mt yX6_slack cX6_slack 3 (some .int) rmX6_slack [.ref (0), .int (p0)] σ (qI Q) := by
  refine Mt.of (k := 1) (ls := [.ref (0), .int (p0), un]) (by decide +kernel) rfl (Nat.le_of_ble_eq_true rfl) ?_
  show eX6_slack 0 [.ref (0), .int (p0), un] [] σ _
  unfold P_X6_slack at hP
  refine E_iload_n dX6_slack_0 rfl ?_
  refine E_iconst (v := 0) dX6_slack_1 (by decide) ?_
  refine E_bipush (v := 99) dX6_slack_2 (by decide) ?_
  refine E_callS (As := [.int (p0), .int (0), .int (99)]) (rest := []) dX6_slack_4 cl_RX6_116 tw_143 ⟨rfl, rfl, Nat.le_of_ble_eq_true rfl, Nat.le_of_ble_eq_true rfl⟩ rfl rfl (Nat.le_of_ble_eq_true rfl) (mt_X6_isWithin _ _ _ _ _  hP) ?_
  intro r0 s0 hq0; obtain ⟨r4, h0, hs0, hP⟩ := hq0; subst h0; rw [hs0]
  show eX6_slack 7 [.ref (0), .int (p0), un] [.int (bI r4)] σ _
  refine E_ifz_ne 17 dX6_slack_7 (by decide) (fun hc => ?_) (fun hc => ?_)
  · replace hP := hP.1 hc
    refine E_aload_n dX6_slack_17 rfl ?_
    refine E_getR (j := 0) dX6_slack_18 (show kd 0 = 6 by decide) (by decide) rfl fd_RX6_12 (by decide) ?_
    refine E_getI (j := 6) dX6_slack_21 (ar_6_1 (show kd 0 = 6 by decide)).1 (by decide) rfl fd_RX6_124 ?_
    refine E_istore_n (ls' := [.ref (0), .int (p0), .int (gI σ 1 6)]) dX6_slack_24 (by decide) rfl ?_
    refine E_aload_n dX6_slack_25 rfl ?_
    refine E_getR (j := 0) dX6_slack_26 (show kd 0 = 6 by decide) (by decide) rfl fd_RX6_12 (by decide) ?_
    refine E_iload_n dX6_slack_29 rfl ?_
    refine E_putI (j := 6) dX6_slack_30 (ar_6_1 (show kd 0 = 6 by decide)).1 (by decide) rfl fd_RX6_124 fp_0_6 ?_
    refine E_iload_n dX6_slack_33 rfl ?_
    exact E_iret dX6_slack_34 rfl ⟨_, rfl, hP⟩
  · replace hP := hP.2 hc
    refine E_aload_n dX6_slack_10 rfl ?_
    refine E_ldc (v := (-1000000001)) dX6_slack_11 tw_274 ?_
    refine E_callV (As := [.int ((-1000000001))]) (rest := []) dX6_slack_13 cl_RX6_65 tw_279 (show kd 0 = 6 by decide) (by decide) rfl tw_280 ⟨rfl, rfl, Nat.le_of_ble_eq_true rfl, Nat.le_of_ble_eq_true rfl⟩ rfl rfl (Nat.le_of_ble_eq_true rfl) (mt_X6_finding _ _ _  hP) ?_
    rintro _ t13 ⟨r13, rfl, hP⟩
    show eX6_slack 16 [.ref (0), .int (p0), un] [.int (r13)] t13 _
    exact E_iret dX6_slack_16 rfl ⟨_, rfl, hP⟩
theorem dX6_beam_0 : decode cX6_beam 0 = .ok (.iload_n 1, 1) := by decide +kernel
theorem dX6_beam_1 : decode cX6_beam 1 = .ok (.iconst 0, 1) := by decide +kernel
theorem dX6_beam_2 : decode cX6_beam 2 = .ok (.iconst 2, 1) := by decide +kernel
theorem dX6_beam_3 : decode cX6_beam 3 = .ok (.invokestatic 116, 3) := by decide +kernel
theorem dX6_beam_6 : decode cX6_beam 6 = .ok (.ifCond .ne 10, 3) := by decide +kernel
theorem dX6_beam_9 : decode cX6_beam 9 = .ok (.aload_n 0, 1) := by decide +kernel
theorem dX6_beam_10 : decode cX6_beam 10 = .ok (.ldc 64, 2) := by decide +kernel
theorem dX6_beam_12 : decode cX6_beam 12 = .ok (.invokevirtual 65, 3) := by decide +kernel
theorem dX6_beam_15 : decode cX6_beam 15 = .ok (.ireturn, 1) := by decide +kernel
theorem dX6_beam_16 : decode cX6_beam 16 = .ok (.aload_n 0, 1) := by decide +kernel
theorem dX6_beam_17 : decode cX6_beam 17 = .ok (.getfield 12, 3) := by decide +kernel
theorem dX6_beam_20 : decode cX6_beam 20 = .ok (.getfield 128, 3) := by decide +kernel
theorem dX6_beam_23 : decode cX6_beam 23 = .ok (.istore_n 3, 1) := by decide +kernel
theorem dX6_beam_24 : decode cX6_beam 24 = .ok (.aload_n 0, 1) := by decide +kernel
theorem dX6_beam_25 : decode cX6_beam 25 = .ok (.getfield 12, 3) := by decide +kernel
theorem dX6_beam_28 : decode cX6_beam 28 = .ok (.iload_n 1, 1) := by decide +kernel
theorem dX6_beam_29 : decode cX6_beam 29 = .ok (.iload_n 2, 1) := by decide +kernel
theorem dX6_beam_30 : decode cX6_beam 30 = .ok (.invokevirtual 131, 3) := by decide +kernel
theorem dX6_beam_33 : decode cX6_beam 33 = .ok (.aload_n 0, 1) := by decide +kernel
theorem dX6_beam_34 : decode cX6_beam 34 = .ok (.getfield 12, 3) := by decide +kernel
theorem dX6_beam_37 : decode cX6_beam 37 = .ok (.getfield 128, 3) := by decide +kernel
theorem dX6_beam_40 : decode cX6_beam 40 = .ok (.iload_n 3, 1) := by decide +kernel
theorem dX6_beam_41 : decode cX6_beam 41 = .ok (.if_icmp .eq 7, 3) := by decide +kernel
theorem dX6_beam_44 : decode cX6_beam 44 = .ok (.iconst 1, 1) := by decide +kernel
theorem dX6_beam_45 : decode cX6_beam 45 = .ok (.goto 4, 3) := by decide +kernel
theorem dX6_beam_48 : decode cX6_beam 48 = .ok (.iconst 0, 1) := by decide +kernel
theorem dX6_beam_49 : decode cX6_beam 49 = .ok (.invokestatic 112, 3) := by decide +kernel
theorem dX6_beam_52 : decode cX6_beam 52 = .ok (.ireturn, 1) := by decide +kernel
def rmX6_beam : Room := { frames := 2, cells := 0, slots := 0, locals := 44 }
abbrev eX6_beam := Ev cX6_beam 4 (some .int) RX6 rmX6_beam
set_option maxRecDepth 20000 in
theorem mt_X6_beam (p0 : Int32) (p1 : Bool) (σ : St) (Q : Int32 → St → Prop)  (hP : P_X6_beam p0 p1 σ Q) : Mt yX6_beam cX6_beam 4 (some .int) rmX6_beam [.ref (0), .int (p0), .int (bI p1)] σ (qI Q) := by
  refine Mt.of (k := 1) (ls := [.ref (0), .int (p0), .int (bI p1), un]) (by decide +kernel) rfl (Nat.le_of_ble_eq_true rfl) ?_
  show eX6_beam 0 [.ref (0), .int (p0), .int (bI p1), un] [] σ _
  unfold P_X6_beam at hP
  refine E_iload_n dX6_beam_0 rfl ?_
  refine E_iconst (v := 0) dX6_beam_1 (by decide) ?_
  refine E_iconst (v := 2) dX6_beam_2 (by decide) ?_
  refine E_callS (As := [.int (p0), .int (0), .int (2)]) (rest := []) dX6_beam_3 cl_RX6_116 tw_143 ⟨rfl, rfl, Nat.le_of_ble_eq_true rfl, Nat.le_of_ble_eq_true rfl⟩ rfl rfl (Nat.le_of_ble_eq_true rfl) (mt_X6_isWithin _ _ _ _ _  hP) ?_
  intro r0 s0 hq0; obtain ⟨r3, h0, hs0, hP⟩ := hq0; subst h0; rw [hs0]
  show eX6_beam 6 [.ref (0), .int (p0), .int (bI p1), un] [.int (bI r3)] σ _
  refine E_ifz_ne 16 dX6_beam_6 (by decide) (fun hc => ?_) (fun hc => ?_)
  · replace hP := hP.1 hc
    refine E_aload_n dX6_beam_16 rfl ?_
    refine E_getR (j := 0) dX6_beam_17 (show kd 0 = 6 by decide) (by decide) rfl fd_RX6_12 (by decide) ?_
    refine E_getI (j := 5) dX6_beam_20 (ar_6_1 (show kd 0 = 6 by decide)).1 (by decide) rfl fd_RX6_128 ?_
    refine E_istore_n (ls' := [.ref (0), .int (p0), .int (bI p1), .int (gI σ 1 5)]) dX6_beam_23 (by decide) rfl ?_
    refine E_aload_n dX6_beam_24 rfl ?_
    refine E_getR (j := 0) dX6_beam_25 (show kd 0 = 6 by decide) (by decide) rfl fd_RX6_12 (by decide) ?_
    refine E_iload_n dX6_beam_28 rfl ?_
    refine E_iload_n dX6_beam_29 rfl ?_
    refine E_callV (As := [.int (p0), .int (bI p1)]) (rest := []) dX6_beam_30 cl_RX6_131 tw_208 (ar_6_1 (show kd 0 = 6 by decide)).1 (by decide) rfl tw_209 ⟨rfl, rfl, Nat.le_of_ble_eq_true rfl, Nat.le_of_ble_eq_true rfl⟩ rfl rfl (Nat.le_of_ble_eq_true rfl) (mt_X0_layBeam _ _ _ _ _ (ar_6_1 (show kd 0 = 6 by decide)).1 hP) ?_
    rintro _ t30 ⟨rfl, hP⟩
    show eX6_beam 33 [.ref (0), .int (p0), .int (bI p1), .int (gI σ 1 5)] [] t30 _
    refine E_aload_n dX6_beam_33 rfl ?_
    refine E_getR (j := 0) dX6_beam_34 (show kd 0 = 6 by decide) (by decide) rfl fd_RX6_12 (by decide) ?_
    refine E_getI (j := 5) dX6_beam_37 (ar_6_1 (show kd 0 = 6 by decide)).1 (by decide) rfl fd_RX6_128 ?_
    refine E_iload_n dX6_beam_40 rfl ?_
    refine E_icmp_eq 48 dX6_beam_41 (by decide) (fun hc => ?_) (fun hc => ?_)
    · replace hP := hP.1 hc
      refine E_iconst (v := 0) dX6_beam_48 (by decide) ?_
      refine E_callS (As := [.int (bI false)]) (rest := []) dX6_beam_49 cl_RX6_112 tw_311 ⟨rfl, rfl, Nat.le_of_ble_eq_true rfl, Nat.le_of_ble_eq_true rfl⟩ rfl rfl (Nat.le_of_ble_eq_true rfl) (mt_X6_asNumber _ _ _  hP) ?_
      intro r0 s0 hq0; obtain ⟨r49, h0, hs0, hP⟩ := hq0; subst h0; rw [hs0]
      show eX6_beam 52 [.ref (0), .int (p0), .int (bI p1), .int (gI σ 1 5)] [.int (r49)] t30 _
      exact E_iret dX6_beam_52 rfl ⟨_, rfl, hP⟩
    · replace hP := hP.2 hc
      refine E_iconst (v := 1) dX6_beam_44 (by decide) ?_
      refine E_goto 49 dX6_beam_45 (by decide) ?_
      refine E_callS (As := [.int (bI true)]) (rest := []) dX6_beam_49 cl_RX6_112 tw_311 ⟨rfl, rfl, Nat.le_of_ble_eq_true rfl, Nat.le_of_ble_eq_true rfl⟩ rfl rfl (Nat.le_of_ble_eq_true rfl) (mt_X6_asNumber _ _ _  hP) ?_
      intro r0 s0 hq0; obtain ⟨r49, h0, hs0, hP⟩ := hq0; subst h0; rw [hs0]
      show eX6_beam 52 [.ref (0), .int (p0), .int (bI p1), .int (gI σ 1 5)] [.int (r49)] t30 _
      exact E_iret dX6_beam_52 rfl ⟨_, rfl, hP⟩
  · replace hP := hP.2 hc
    refine E_aload_n dX6_beam_9 rfl ?_
    refine E_ldc (v := (-1000000001)) dX6_beam_10 tw_274 ?_
    refine E_callV (As := [.int ((-1000000001))]) (rest := []) dX6_beam_12 cl_RX6_65 tw_279 (show kd 0 = 6 by decide) (by decide) rfl tw_280 ⟨rfl, rfl, Nat.le_of_ble_eq_true rfl, Nat.le_of_ble_eq_true rfl⟩ rfl rfl (Nat.le_of_ble_eq_true rfl) (mt_X6_finding _ _ _  hP) ?_
    rintro _ t12 ⟨r12, rfl, hP⟩
    show eX6_beam 15 [.ref (0), .int (p0), .int (bI p1), un] [.int (r12)] t12 _
    exact E_iret dX6_beam_15 rfl ⟨_, rfl, hP⟩
theorem dX6_nights_0 : decode cX6_nights 0 = .ok (.iload_n 1, 1) := by decide +kernel
theorem dX6_nights_1 : decode cX6_nights 1 = .ok (.iconst 1, 1) := by decide +kernel
theorem dX6_nights_2 : decode cX6_nights 2 = .ok (.bipush 99, 2) := by decide +kernel
theorem dX6_nights_4 : decode cX6_nights 4 = .ok (.invokestatic 116, 3) := by decide +kernel
theorem dX6_nights_7 : decode cX6_nights 7 = .ok (.ifCond .ne 10, 3) := by decide +kernel
theorem dX6_nights_10 : decode cX6_nights 10 = .ok (.aload_n 0, 1) := by decide +kernel
theorem dX6_nights_11 : decode cX6_nights 11 = .ok (.ldc 64, 2) := by decide +kernel
theorem dX6_nights_13 : decode cX6_nights 13 = .ok (.invokevirtual 65, 3) := by decide +kernel
theorem dX6_nights_16 : decode cX6_nights 16 = .ok (.ireturn, 1) := by decide +kernel
theorem dX6_nights_17 : decode cX6_nights 17 = .ok (.aload_n 0, 1) := by decide +kernel
theorem dX6_nights_18 : decode cX6_nights 18 = .ok (.getfield 12, 3) := by decide +kernel
theorem dX6_nights_21 : decode cX6_nights 21 = .ok (.getfield 135, 3) := by decide +kernel
theorem dX6_nights_24 : decode cX6_nights 24 = .ok (.iload_n 1, 1) := by decide +kernel
theorem dX6_nights_25 : decode cX6_nights 25 = .ok (.iadd, 1) := by decide +kernel
theorem dX6_nights_26 : decode cX6_nights 26 = .ok (.sipush 999, 3) := by decide +kernel
theorem dX6_nights_29 : decode cX6_nights 29 = .ok (.if_icmp .le 10, 3) := by decide +kernel
theorem dX6_nights_32 : decode cX6_nights 32 = .ok (.aload_n 0, 1) := by decide +kernel
theorem dX6_nights_33 : decode cX6_nights 33 = .ok (.ldc 138, 2) := by decide +kernel
theorem dX6_nights_35 : decode cX6_nights 35 = .ok (.invokevirtual 65, 3) := by decide +kernel
theorem dX6_nights_38 : decode cX6_nights 38 = .ok (.ireturn, 1) := by decide +kernel
theorem dX6_nights_39 : decode cX6_nights 39 = .ok (.aload_n 0, 1) := by decide +kernel
theorem dX6_nights_40 : decode cX6_nights 40 = .ok (.getfield 12, 3) := by decide +kernel
theorem dX6_nights_43 : decode cX6_nights 43 = .ok (.invokevirtual 139, 3) := by decide +kernel
theorem dX6_nights_46 : decode cX6_nights 46 = .ok (.istore_n 2, 1) := by decide +kernel
theorem dX6_nights_47 : decode cX6_nights 47 = .ok (.aload_n 0, 1) := by decide +kernel
theorem dX6_nights_48 : decode cX6_nights 48 = .ok (.getfield 12, 3) := by decide +kernel
theorem dX6_nights_51 : decode cX6_nights 51 = .ok (.dup, 1) := by decide +kernel
theorem dX6_nights_52 : decode cX6_nights 52 = .ok (.getfield 135, 3) := by decide +kernel
theorem dX6_nights_55 : decode cX6_nights 55 = .ok (.iload_n 1, 1) := by decide +kernel
theorem dX6_nights_56 : decode cX6_nights 56 = .ok (.iadd, 1) := by decide +kernel
theorem dX6_nights_57 : decode cX6_nights 57 = .ok (.putfield 135, 3) := by decide +kernel
theorem dX6_nights_60 : decode cX6_nights 60 = .ok (.iload_n 2, 1) := by decide +kernel
theorem dX6_nights_61 : decode cX6_nights 61 = .ok (.aload_n 0, 1) := by decide +kernel
theorem dX6_nights_62 : decode cX6_nights 62 = .ok (.getfield 12, 3) := by decide +kernel
theorem dX6_nights_65 : decode cX6_nights 65 = .ok (.invokevirtual 139, 3) := by decide +kernel
theorem dX6_nights_68 : decode cX6_nights 68 = .ok (.isub, 1) := by decide +kernel
theorem dX6_nights_69 : decode cX6_nights 69 = .ok (.ireturn, 1) := by decide +kernel
def rmX6_nights : Room := { frames := 4, cells := 0, slots := 0, locals := 95 }
abbrev eX6_nights := Ev cX6_nights 3 (some .int) RX6 rmX6_nights
set_option maxRecDepth 20000 in
theorem mt_X6_nights (p0 : Int32) (σ : St) (Q : Int32 → St → Prop)  (hP : P_X6_nights p0 σ Q) : Mt yX6_nights cX6_nights 3 (some .int) rmX6_nights [.ref (0), .int (p0)] σ (qI Q) := by
  refine Mt.of (k := 1) (ls := [.ref (0), .int (p0), un]) (by decide +kernel) rfl (Nat.le_of_ble_eq_true rfl) ?_
  show eX6_nights 0 [.ref (0), .int (p0), un] [] σ _
  unfold P_X6_nights at hP
  refine E_iload_n dX6_nights_0 rfl ?_
  refine E_iconst (v := 1) dX6_nights_1 (by decide) ?_
  refine E_bipush (v := 99) dX6_nights_2 (by decide) ?_
  refine E_callS (As := [.int (p0), .int (1), .int (99)]) (rest := []) dX6_nights_4 cl_RX6_116 tw_143 ⟨rfl, rfl, Nat.le_of_ble_eq_true rfl, Nat.le_of_ble_eq_true rfl⟩ rfl rfl (Nat.le_of_ble_eq_true rfl) (mt_X6_isWithin _ _ _ _ _  hP) ?_
  intro r0 s0 hq0; obtain ⟨r4, h0, hs0, hP⟩ := hq0; subst h0; rw [hs0]
  show eX6_nights 7 [.ref (0), .int (p0), un] [.int (bI r4)] σ _
  refine E_ifz_ne 17 dX6_nights_7 (by decide) (fun hc => ?_) (fun hc => ?_)
  · replace hP := hP.1 hc
    refine E_aload_n dX6_nights_17 rfl ?_
    refine E_getR (j := 0) dX6_nights_18 (show kd 0 = 6 by decide) (by decide) rfl fd_RX6_12 (by decide) ?_
    refine E_getI (j := 7) dX6_nights_21 (ar_6_1 (show kd 0 = 6 by decide)).1 (by decide) rfl fd_RX6_135 ?_
    refine E_iload_n dX6_nights_24 rfl ?_
    refine E_iadd dX6_nights_25 ?_
    refine E_sipush (v := 999) dX6_nights_26 (by decide) ?_
    refine E_icmp_le 39 dX6_nights_29 (by decide) (fun hc => ?_) (fun hc => ?_)
    · replace hP := hP.1 hc
      refine E_aload_n dX6_nights_39 rfl ?_
      refine E_getR (j := 0) dX6_nights_40 (show kd 0 = 6 by decide) (by decide) rfl fd_RX6_12 (by decide) ?_
      refine E_callV (As := []) (rest := []) dX6_nights_43 cl_RX6_139 tw_331 (ar_6_1 (show kd 0 = 6 by decide)).1 (by decide) rfl tw_332 ⟨rfl, rfl, Nat.le_of_ble_eq_true rfl, Nat.le_of_ble_eq_true rfl⟩ rfl rfl (Nat.le_of_ble_eq_true rfl) (mt_X0_allTops _ _ _ (ar_6_1 (show kd 0 = 6 by decide)).1 hP) ?_
      intro r0 s0 hq0; obtain ⟨r43, h0, hs0, hP⟩ := hq0; subst h0; rw [hs0]
      show eX6_nights 46 [.ref (0), .int (p0), un] [.int (r43)] σ _
      refine E_istore_n (ls' := [.ref (0), .int (p0), .int (r43)]) dX6_nights_46 (by decide) rfl ?_
      refine E_aload_n dX6_nights_47 rfl ?_
      refine E_getR (j := 0) dX6_nights_48 (show kd 0 = 6 by decide) (by decide) rfl fd_RX6_12 (by decide) ?_
      refine E_dup dX6_nights_51 rfl ?_
      refine E_getI (j := 7) dX6_nights_52 (ar_6_1 (show kd 0 = 6 by decide)).1 (by decide) rfl fd_RX6_135 ?_
      refine E_iload_n dX6_nights_55 rfl ?_
      refine E_iadd dX6_nights_56 ?_
      refine E_putI (j := 7) dX6_nights_57 (ar_6_1 (show kd 0 = 6 by decide)).1 (by decide) rfl fd_RX6_135 fp_0_7 ?_
      refine E_iload_n dX6_nights_60 rfl ?_
      refine E_aload_n dX6_nights_61 rfl ?_
      refine E_getR (j := 0) dX6_nights_62 (show kd 0 = 6 by decide) (by decide) rfl fd_RX6_12 (by decide) ?_
      refine E_callV (As := []) (rest := [.int (r43)]) dX6_nights_65 cl_RX6_139 tw_331 (ar_6_1 (show kd 0 = 6 by decide)).1 (by decide) rfl tw_332 ⟨rfl, rfl, Nat.le_of_ble_eq_true rfl, Nat.le_of_ble_eq_true rfl⟩ rfl rfl (Nat.le_of_ble_eq_true rfl) (mt_X0_allTops _ _ _ (ar_6_1 (show kd 0 = 6 by decide)).1 hP) ?_
      intro r0 s0 hq0; obtain ⟨r65, h0, hs0, hP⟩ := hq0; subst h0; rw [hs0]
      show eX6_nights 68 [.ref (0), .int (p0), .int (r43)] [.int (r65), .int (r43)] (sI σ 1 7 ((gI σ 1 7) + p0)) _
      refine E_isub dX6_nights_68 ?_
      exact E_iret dX6_nights_69 rfl ⟨_, rfl, hP⟩
    · replace hP := hP.2 hc
      refine E_aload_n dX6_nights_32 rfl ?_
      refine E_ldc (v := (-1000000005)) dX6_nights_33 tw_333 ?_
      refine E_callV (As := [.int ((-1000000005))]) (rest := []) dX6_nights_35 cl_RX6_65 tw_279 (show kd 0 = 6 by decide) (by decide) rfl tw_280 ⟨rfl, rfl, Nat.le_of_ble_eq_true rfl, Nat.le_of_ble_eq_true rfl⟩ rfl rfl (Nat.le_of_ble_eq_true rfl) (mt_X6_finding _ _ _  hP) ?_
      rintro _ t35 ⟨r35, rfl, hP⟩
      show eX6_nights 38 [.ref (0), .int (p0), un] [.int (r35)] t35 _
      exact E_iret dX6_nights_38 rfl ⟨_, rfl, hP⟩
  · replace hP := hP.2 hc
    refine E_aload_n dX6_nights_10 rfl ?_
    refine E_ldc (v := (-1000000001)) dX6_nights_11 tw_274 ?_
    refine E_callV (As := [.int ((-1000000001))]) (rest := []) dX6_nights_13 cl_RX6_65 tw_279 (show kd 0 = 6 by decide) (by decide) rfl tw_280 ⟨rfl, rfl, Nat.le_of_ble_eq_true rfl, Nat.le_of_ble_eq_true rfl⟩ rfl rfl (Nat.le_of_ble_eq_true rfl) (mt_X6_finding _ _ _  hP) ?_
    rintro _ t13 ⟨r13, rfl, hP⟩
    show eX6_nights 16 [.ref (0), .int (p0), un] [.int (r13)] t13 _
    exact E_iret dX6_nights_16 rfl ⟨_, rfl, hP⟩
theorem dX6_now_0 : decode cX6_now 0 = .ok (.iload_n 1, 1) := by decide +kernel
theorem dX6_now_1 : decode cX6_now 1 = .ok (.tableswitch 165 0 7 #[47, 55, 63, 71, 79, 87, 95, 121], 47) := by decide +kernel
theorem dX6_now_48 : decode cX6_now 48 = .ok (.aload_n 0, 1) := by decide +kernel
theorem dX6_now_49 : decode cX6_now 49 = .ok (.getfield 12, 3) := by decide +kernel
theorem dX6_now_52 : decode cX6_now 52 = .ok (.getfield 135, 3) := by decide +kernel
theorem dX6_now_55 : decode cX6_now 55 = .ok (.ireturn, 1) := by decide +kernel
theorem dX6_now_56 : decode cX6_now 56 = .ok (.aload_n 0, 1) := by decide +kernel
theorem dX6_now_57 : decode cX6_now 57 = .ok (.getfield 12, 3) := by decide +kernel
theorem dX6_now_60 : decode cX6_now 60 = .ok (.getfield 124, 3) := by decide +kernel
theorem dX6_now_63 : decode cX6_now 63 = .ok (.ireturn, 1) := by decide +kernel
theorem dX6_now_64 : decode cX6_now 64 = .ok (.aload_n 0, 1) := by decide +kernel
theorem dX6_now_65 : decode cX6_now 65 = .ok (.getfield 12, 3) := by decide +kernel
theorem dX6_now_68 : decode cX6_now 68 = .ok (.getfield 143, 3) := by decide +kernel
theorem dX6_now_71 : decode cX6_now 71 = .ok (.ireturn, 1) := by decide +kernel
theorem dX6_now_72 : decode cX6_now 72 = .ok (.aload_n 0, 1) := by decide +kernel
theorem dX6_now_73 : decode cX6_now 73 = .ok (.getfield 12, 3) := by decide +kernel
theorem dX6_now_76 : decode cX6_now 76 = .ok (.getfield 128, 3) := by decide +kernel
theorem dX6_now_79 : decode cX6_now 79 = .ok (.ireturn, 1) := by decide +kernel
theorem dX6_now_80 : decode cX6_now 80 = .ok (.aload_n 0, 1) := by decide +kernel
theorem dX6_now_81 : decode cX6_now 81 = .ok (.getfield 12, 3) := by decide +kernel
theorem dX6_now_84 : decode cX6_now 84 = .ok (.invokevirtual 146, 3) := by decide +kernel
theorem dX6_now_87 : decode cX6_now 87 = .ok (.ireturn, 1) := by decide +kernel
theorem dX6_now_88 : decode cX6_now 88 = .ok (.aload_n 0, 1) := by decide +kernel
theorem dX6_now_89 : decode cX6_now 89 = .ok (.getfield 12, 3) := by decide +kernel
theorem dX6_now_92 : decode cX6_now 92 = .ok (.invokevirtual 149, 3) := by decide +kernel
theorem dX6_now_95 : decode cX6_now 95 = .ok (.ireturn, 1) := by decide +kernel
theorem dX6_now_96 : decode cX6_now 96 = .ok (.aload_n 0, 1) := by decide +kernel
theorem dX6_now_97 : decode cX6_now 97 = .ok (.getfield 25, 3) := by decide +kernel
theorem dX6_now_100 : decode cX6_now 100 = .ok (.aload_n 0, 1) := by decide +kernel
theorem dX6_now_101 : decode cX6_now 101 = .ok (.getfield 12, 3) := by decide +kernel
theorem dX6_now_104 : decode cX6_now 104 = .ok (.invokevirtual 152, 3) := by decide +kernel
theorem dX6_now_107 : decode cX6_now 107 = .ok (.aload_n 0, 1) := by decide +kernel
theorem dX6_now_108 : decode cX6_now 108 = .ok (.getfield 25, 3) := by decide +kernel
theorem dX6_now_111 : decode cX6_now 111 = .ok (.aload_n 0, 1) := by decide +kernel
theorem dX6_now_112 : decode cX6_now 112 = .ok (.getfield 25, 3) := by decide +kernel
theorem dX6_now_115 : decode cX6_now 115 = .ok (.getfield 156, 3) := by decide +kernel
theorem dX6_now_118 : decode cX6_now 118 = .ok (.invokevirtual 159, 3) := by decide +kernel
theorem dX6_now_121 : decode cX6_now 121 = .ok (.ireturn, 1) := by decide +kernel
theorem dX6_now_122 : decode cX6_now 122 = .ok (.aload_n 0, 1) := by decide +kernel
theorem dX6_now_123 : decode cX6_now 123 = .ok (.getfield 25, 3) := by decide +kernel
theorem dX6_now_126 : decode cX6_now 126 = .ok (.aload_n 0, 1) := by decide +kernel
theorem dX6_now_127 : decode cX6_now 127 = .ok (.getfield 12, 3) := by decide +kernel
theorem dX6_now_130 : decode cX6_now 130 = .ok (.invokevirtual 152, 3) := by decide +kernel
theorem dX6_now_133 : decode cX6_now 133 = .ok (.aload_n 0, 1) := by decide +kernel
theorem dX6_now_134 : decode cX6_now 134 = .ok (.getfield 25, 3) := by decide +kernel
theorem dX6_now_137 : decode cX6_now 137 = .ok (.aload_n 0, 1) := by decide +kernel
theorem dX6_now_138 : decode cX6_now 138 = .ok (.getfield 25, 3) := by decide +kernel
theorem dX6_now_141 : decode cX6_now 141 = .ok (.getfield 156, 3) := by decide +kernel
theorem dX6_now_144 : decode cX6_now 144 = .ok (.invokevirtual 159, 3) := by decide +kernel
theorem dX6_now_147 : decode cX6_now 147 = .ok (.aload_n 0, 1) := by decide +kernel
theorem dX6_now_148 : decode cX6_now 148 = .ok (.getfield 12, 3) := by decide +kernel
theorem dX6_now_151 : decode cX6_now 151 = .ok (.getfield 124, 3) := by decide +kernel
theorem dX6_now_154 : decode cX6_now 154 = .ok (.if_icmp .gt 7, 3) := by decide +kernel
theorem dX6_now_157 : decode cX6_now 157 = .ok (.iconst 1, 1) := by decide +kernel
theorem dX6_now_158 : decode cX6_now 158 = .ok (.goto 4, 3) := by decide +kernel
theorem dX6_now_161 : decode cX6_now 161 = .ok (.iconst 0, 1) := by decide +kernel
theorem dX6_now_162 : decode cX6_now 162 = .ok (.invokestatic 112, 3) := by decide +kernel
theorem dX6_now_165 : decode cX6_now 165 = .ok (.ireturn, 1) := by decide +kernel
theorem dX6_now_166 : decode cX6_now 166 = .ok (.aload_n 0, 1) := by decide +kernel
theorem dX6_now_167 : decode cX6_now 167 = .ok (.ldc 64, 2) := by decide +kernel
theorem dX6_now_169 : decode cX6_now 169 = .ok (.invokevirtual 65, 3) := by decide +kernel
theorem dX6_now_172 : decode cX6_now 172 = .ok (.ireturn, 1) := by decide +kernel
def rmX6_now : Room := { frames := 3, cells := 0, slots := 0, locals := 75 }
abbrev eX6_now := Ev cX6_now 2 (some .int) RX6 rmX6_now
set_option maxRecDepth 20000 in
theorem mt_X6_now (p0 : Int32) (σ : St) (Q : Int32 → St → Prop)  (hP : P_X6_now p0 σ Q) : Mt yX6_now cX6_now 2 (some .int) rmX6_now [.ref (0), .int (p0)] σ (qI Q) := by
  refine Mt.of (k := 0) (ls := [.ref (0), .int (p0)]) (by decide +kernel) rfl (Nat.le_of_ble_eq_true rfl) ?_
  show eX6_now 0 [.ref (0), .int (p0)] [] σ _
  unfold P_X6_now at hP
  refine E_iload_n dX6_now_0 rfl ?_
  refine E_tsw [(0, 48), (1, 56), (2, 64), (3, 72), (4, 80), (5, 88), (6, 96), (7, 122)] 166 dX6_now_1 (by decide) (by decide) (by decide +kernel) (by decide +kernel) (List.forall_mem_cons.mpr ⟨fun hc => ?_, (List.forall_mem_cons.mpr ⟨fun hc => ?_, (List.forall_mem_cons.mpr ⟨fun hc => ?_, (List.forall_mem_cons.mpr ⟨fun hc => ?_, (List.forall_mem_cons.mpr ⟨fun hc => ?_, (List.forall_mem_cons.mpr ⟨fun hc => ?_, (List.forall_mem_cons.mpr ⟨fun hc => ?_, (List.forall_mem_cons.mpr ⟨fun hc => ?_, (fun q hq => absurd hq List.not_mem_nil)⟩)⟩)⟩)⟩)⟩)⟩)⟩)⟩) (fun hc => ?_)
  · replace hP := hP.1 hc
    refine E_aload_n dX6_now_48 rfl ?_
    refine E_getR (j := 0) dX6_now_49 (show kd 0 = 6 by decide) (by decide) rfl fd_RX6_12 (by decide) ?_
    refine E_getI (j := 7) dX6_now_52 (ar_6_1 (show kd 0 = 6 by decide)).1 (by decide) rfl fd_RX6_135 ?_
    exact E_iret dX6_now_55 rfl ⟨_, rfl, hP⟩
  · replace hP := hP.2.1 hc
    refine E_aload_n dX6_now_56 rfl ?_
    refine E_getR (j := 0) dX6_now_57 (show kd 0 = 6 by decide) (by decide) rfl fd_RX6_12 (by decide) ?_
    refine E_getI (j := 6) dX6_now_60 (ar_6_1 (show kd 0 = 6 by decide)).1 (by decide) rfl fd_RX6_124 ?_
    exact E_iret dX6_now_63 rfl ⟨_, rfl, hP⟩
  · replace hP := hP.2.2.1 hc
    refine E_aload_n dX6_now_64 rfl ?_
    refine E_getR (j := 0) dX6_now_65 (show kd 0 = 6 by decide) (by decide) rfl fd_RX6_12 (by decide) ?_
    refine E_getI (j := 8) dX6_now_68 (ar_6_1 (show kd 0 = 6 by decide)).1 (by decide) rfl fd_RX6_143 ?_
    exact E_iret dX6_now_71 rfl ⟨_, rfl, hP⟩
  · replace hP := hP.2.2.2.1 hc
    refine E_aload_n dX6_now_72 rfl ?_
    refine E_getR (j := 0) dX6_now_73 (show kd 0 = 6 by decide) (by decide) rfl fd_RX6_12 (by decide) ?_
    refine E_getI (j := 5) dX6_now_76 (ar_6_1 (show kd 0 = 6 by decide)).1 (by decide) rfl fd_RX6_128 ?_
    exact E_iret dX6_now_79 rfl ⟨_, rfl, hP⟩
  · replace hP := hP.2.2.2.2.1 hc
    refine E_aload_n dX6_now_80 rfl ?_
    refine E_getR (j := 0) dX6_now_81 (show kd 0 = 6 by decide) (by decide) rfl fd_RX6_12 (by decide) ?_
    refine E_callV (As := []) (rest := []) dX6_now_84 cl_RX6_146 tw_337 (ar_6_1 (show kd 0 = 6 by decide)).1 (by decide) rfl tw_338 ⟨rfl, rfl, Nat.le_of_ble_eq_true rfl, Nat.le_of_ble_eq_true rfl⟩ rfl rfl (Nat.le_of_ble_eq_true rfl) (mt_X0_allStones _ _ _ (ar_6_1 (show kd 0 = 6 by decide)).1 hP) ?_
    intro r0 s0 hq0; obtain ⟨r84, h0, hs0, hP⟩ := hq0; subst h0; rw [hs0]
    show eX6_now 87 [.ref (0), .int (p0)] [.int (r84)] σ _
    exact E_iret dX6_now_87 rfl ⟨_, rfl, hP⟩
  · replace hP := hP.2.2.2.2.2.1 hc
    refine E_aload_n dX6_now_88 rfl ?_
    refine E_getR (j := 0) dX6_now_89 (show kd 0 = 6 by decide) (by decide) rfl fd_RX6_12 (by decide) ?_
    refine E_callV (As := []) (rest := []) dX6_now_92 cl_RX6_149 tw_53 (ar_6_1 (show kd 0 = 6 by decide)).1 (by decide) rfl tw_54 ⟨rfl, rfl, Nat.le_of_ble_eq_true rfl, Nat.le_of_ble_eq_true rfl⟩ rfl rfl (Nat.le_of_ble_eq_true rfl) (mt_X0_standNow _ _ _ (ar_6_1 (show kd 0 = 6 by decide)).1 hP) ?_
    intro r0 s0 hq0; obtain ⟨r92, h0, hs0, hP⟩ := hq0; subst h0; rw [hs0]
    show eX6_now 95 [.ref (0), .int (p0)] [.int (r92)] σ _
    exact E_iret dX6_now_95 rfl ⟨_, rfl, hP⟩
  · replace hP := hP.2.2.2.2.2.2.1 hc
    refine E_aload_n dX6_now_96 rfl ?_
    refine E_getR (j := 3) dX6_now_97 (show kd 0 = 6 by decide) (by decide) rfl fd_RX6_25 (by decide) ?_
    refine E_aload_n dX6_now_100 rfl ?_
    refine E_getR (j := 0) dX6_now_101 (show kd 0 = 6 by decide) (by decide) rfl fd_RX6_12 (by decide) ?_
    refine E_callV (As := [.ref (1)]) (rest := []) dX6_now_104 cl_RX6_152 tw_228 (ar_6_19 (show kd 0 = 6 by decide)).1 (by decide) rfl tw_229 ⟨rfl, rfl, Nat.le_of_ble_eq_true rfl, Nat.le_of_ble_eq_true rfl⟩ rfl rfl (Nat.le_of_ble_eq_true rfl) (mt_X3_measure _ _ _ _ (ar_6_19 (show kd 0 = 6 by decide)).1 (ar_6_1 (show kd 0 = 6 by decide)).1 hP) ?_
    rintro _ t104 ⟨rfl, hP⟩
    show eX6_now 107 [.ref (0), .int (p0)] [] t104 _
    refine E_aload_n dX6_now_107 rfl ?_
    refine E_getR (j := 3) dX6_now_108 (show kd 0 = 6 by decide) (by decide) rfl fd_RX6_25 (by decide) ?_
    refine E_aload_n dX6_now_111 rfl ?_
    refine E_getR (j := 3) dX6_now_112 (show kd 0 = 6 by decide) (by decide) rfl fd_RX6_25 (by decide) ?_
    refine E_getI (j := 3) dX6_now_115 (ar_6_19 (show kd 0 = 6 by decide)).1 (by decide) rfl fd_RX6_156 ?_
    refine E_callV (As := [.int (gI t104 19 3)]) (rest := []) dX6_now_118 cl_RX6_159 tw_94 (ar_6_19 (show kd 0 = 6 by decide)).1 (by decide) rfl tw_95 ⟨rfl, rfl, Nat.le_of_ble_eq_true rfl, Nat.le_of_ble_eq_true rfl⟩ rfl rfl (Nat.le_of_ble_eq_true rfl) (mt_X3_unlikeAt _ _ _ _ (ar_6_19 (show kd 0 = 6 by decide)).1 hP) ?_
    intro r0 s0 hq0; obtain ⟨r118, h0, hs0, hP⟩ := hq0; subst h0; rw [hs0]
    show eX6_now 121 [.ref (0), .int (p0)] [.int (r118)] t104 _
    exact E_iret dX6_now_121 rfl ⟨_, rfl, hP⟩
  · replace hP := hP.2.2.2.2.2.2.2.1 hc
    refine E_aload_n dX6_now_122 rfl ?_
    refine E_getR (j := 3) dX6_now_123 (show kd 0 = 6 by decide) (by decide) rfl fd_RX6_25 (by decide) ?_
    refine E_aload_n dX6_now_126 rfl ?_
    refine E_getR (j := 0) dX6_now_127 (show kd 0 = 6 by decide) (by decide) rfl fd_RX6_12 (by decide) ?_
    refine E_callV (As := [.ref (1)]) (rest := []) dX6_now_130 cl_RX6_152 tw_228 (ar_6_19 (show kd 0 = 6 by decide)).1 (by decide) rfl tw_229 ⟨rfl, rfl, Nat.le_of_ble_eq_true rfl, Nat.le_of_ble_eq_true rfl⟩ rfl rfl (Nat.le_of_ble_eq_true rfl) (mt_X3_measure _ _ _ _ (ar_6_19 (show kd 0 = 6 by decide)).1 (ar_6_1 (show kd 0 = 6 by decide)).1 hP) ?_
    rintro _ t130 ⟨rfl, hP⟩
    show eX6_now 133 [.ref (0), .int (p0)] [] t130 _
    refine E_aload_n dX6_now_133 rfl ?_
    refine E_getR (j := 3) dX6_now_134 (show kd 0 = 6 by decide) (by decide) rfl fd_RX6_25 (by decide) ?_
    refine E_aload_n dX6_now_137 rfl ?_
    refine E_getR (j := 3) dX6_now_138 (show kd 0 = 6 by decide) (by decide) rfl fd_RX6_25 (by decide) ?_
    refine E_getI (j := 3) dX6_now_141 (ar_6_19 (show kd 0 = 6 by decide)).1 (by decide) rfl fd_RX6_156 ?_
    refine E_callV (As := [.int (gI t130 19 3)]) (rest := []) dX6_now_144 cl_RX6_159 tw_94 (ar_6_19 (show kd 0 = 6 by decide)).1 (by decide) rfl tw_95 ⟨rfl, rfl, Nat.le_of_ble_eq_true rfl, Nat.le_of_ble_eq_true rfl⟩ rfl rfl (Nat.le_of_ble_eq_true rfl) (mt_X3_unlikeAt _ _ _ _ (ar_6_19 (show kd 0 = 6 by decide)).1 hP) ?_
    intro r0 s0 hq0; obtain ⟨r144, h0, hs0, hP⟩ := hq0; subst h0; rw [hs0]
    show eX6_now 147 [.ref (0), .int (p0)] [.int (r144)] t130 _
    refine E_aload_n dX6_now_147 rfl ?_
    refine E_getR (j := 0) dX6_now_148 (show kd 0 = 6 by decide) (by decide) rfl fd_RX6_12 (by decide) ?_
    refine E_getI (j := 6) dX6_now_151 (ar_6_1 (show kd 0 = 6 by decide)).1 (by decide) rfl fd_RX6_124 ?_
    refine E_icmp_gt 161 dX6_now_154 (by decide) (fun hc => ?_) (fun hc => ?_)
    · replace hP := hP.1 hc
      refine E_iconst (v := 0) dX6_now_161 (by decide) ?_
      refine E_callS (As := [.int (bI false)]) (rest := []) dX6_now_162 cl_RX6_112 tw_311 ⟨rfl, rfl, Nat.le_of_ble_eq_true rfl, Nat.le_of_ble_eq_true rfl⟩ rfl rfl (Nat.le_of_ble_eq_true rfl) (mt_X6_asNumber _ _ _  hP) ?_
      intro r0 s0 hq0; obtain ⟨r162, h0, hs0, hP⟩ := hq0; subst h0; rw [hs0]
      show eX6_now 165 [.ref (0), .int (p0)] [.int (r162)] t130 _
      exact E_iret dX6_now_165 rfl ⟨_, rfl, hP⟩
    · replace hP := hP.2 hc
      refine E_iconst (v := 1) dX6_now_157 (by decide) ?_
      refine E_goto 162 dX6_now_158 (by decide) ?_
      refine E_callS (As := [.int (bI true)]) (rest := []) dX6_now_162 cl_RX6_112 tw_311 ⟨rfl, rfl, Nat.le_of_ble_eq_true rfl, Nat.le_of_ble_eq_true rfl⟩ rfl rfl (Nat.le_of_ble_eq_true rfl) (mt_X6_asNumber _ _ _  hP) ?_
      intro r0 s0 hq0; obtain ⟨r162, h0, hs0, hP⟩ := hq0; subst h0; rw [hs0]
      show eX6_now 165 [.ref (0), .int (p0)] [.int (r162)] t130 _
      exact E_iret dX6_now_165 rfl ⟨_, rfl, hP⟩
  · replace hP := hP.2.2.2.2.2.2.2.2 ⟨hc (0, 48) (List.mem_of_getElem? (i := 0) rfl), hc (1, 56) (List.mem_of_getElem? (i := 1) rfl), hc (2, 64) (List.mem_of_getElem? (i := 2) rfl), hc (3, 72) (List.mem_of_getElem? (i := 3) rfl), hc (4, 80) (List.mem_of_getElem? (i := 4) rfl), hc (5, 88) (List.mem_of_getElem? (i := 5) rfl), hc (6, 96) (List.mem_of_getElem? (i := 6) rfl), hc (7, 122) (List.mem_of_getElem? (i := 7) rfl)⟩
    refine E_aload_n dX6_now_166 rfl ?_
    refine E_ldc (v := (-1000000001)) dX6_now_167 tw_274 ?_
    refine E_callV (As := [.int ((-1000000001))]) (rest := []) dX6_now_169 cl_RX6_65 tw_279 (show kd 0 = 6 by decide) (by decide) rfl tw_280 ⟨rfl, rfl, Nat.le_of_ble_eq_true rfl, Nat.le_of_ble_eq_true rfl⟩ rfl rfl (Nat.le_of_ble_eq_true rfl) (mt_X6_finding _ _ _  hP) ?_
    rintro _ t169 ⟨r169, rfl, hP⟩
    show eX6_now 172 [.ref (0), .int (p0)] [.int (r169)] t169 _
    exact E_iret dX6_now_172 rfl ⟨_, rfl, hP⟩
theorem dX6_pull_0 : decode cX6_pull 0 = .ok (.iload_n 1, 1) := by decide +kernel
theorem dX6_pull_1 : decode cX6_pull 1 = .ok (.invokestatic 58, 3) := by decide +kernel
theorem dX6_pull_4 : decode cX6_pull 4 = .ok (.ifCond .ne 10, 3) := by decide +kernel
theorem dX6_pull_7 : decode cX6_pull 7 = .ok (.aload_n 0, 1) := by decide +kernel
theorem dX6_pull_8 : decode cX6_pull 8 = .ok (.ldc 64, 2) := by decide +kernel
theorem dX6_pull_10 : decode cX6_pull 10 = .ok (.invokevirtual 65, 3) := by decide +kernel
theorem dX6_pull_13 : decode cX6_pull 13 = .ok (.ireturn, 1) := by decide +kernel
theorem dX6_pull_14 : decode cX6_pull 14 = .ok (.aload_n 0, 1) := by decide +kernel
theorem dX6_pull_15 : decode cX6_pull 15 = .ok (.getfield 25, 3) := by decide +kernel
theorem dX6_pull_18 : decode cX6_pull 18 = .ok (.aload_n 0, 1) := by decide +kernel
theorem dX6_pull_19 : decode cX6_pull 19 = .ok (.getfield 12, 3) := by decide +kernel
theorem dX6_pull_22 : decode cX6_pull 22 = .ok (.invokevirtual 152, 3) := by decide +kernel
theorem dX6_pull_25 : decode cX6_pull 25 = .ok (.aload_n 0, 1) := by decide +kernel
theorem dX6_pull_26 : decode cX6_pull 26 = .ok (.getfield 25, 3) := by decide +kernel
theorem dX6_pull_29 : decode cX6_pull 29 = .ok (.aload_n 0, 1) := by decide +kernel
theorem dX6_pull_30 : decode cX6_pull 30 = .ok (.getfield 25, 3) := by decide +kernel
theorem dX6_pull_33 : decode cX6_pull 33 = .ok (.getfield 156, 3) := by decide +kernel
theorem dX6_pull_36 : decode cX6_pull 36 = .ok (.iload_n 1, 1) := by decide +kernel
theorem dX6_pull_37 : decode cX6_pull 37 = .ok (.invokevirtual 162, 3) := by decide +kernel
theorem dX6_pull_40 : decode cX6_pull 40 = .ok (.ifCond .ne 10, 3) := by decide +kernel
theorem dX6_pull_43 : decode cX6_pull 43 = .ok (.aload_n 0, 1) := by decide +kernel
theorem dX6_pull_44 : decode cX6_pull 44 = .ok (.ldc 138, 2) := by decide +kernel
theorem dX6_pull_46 : decode cX6_pull 46 = .ok (.invokevirtual 65, 3) := by decide +kernel
theorem dX6_pull_49 : decode cX6_pull 49 = .ok (.ireturn, 1) := by decide +kernel
theorem dX6_pull_50 : decode cX6_pull 50 = .ok (.aload_n 0, 1) := by decide +kernel
theorem dX6_pull_51 : decode cX6_pull 51 = .ok (.getfield 12, 3) := by decide +kernel
theorem dX6_pull_54 : decode cX6_pull 54 = .ok (.iload_n 1, 1) := by decide +kernel
theorem dX6_pull_55 : decode cX6_pull 55 = .ok (.iconst 0, 1) := by decide +kernel
theorem dX6_pull_56 : decode cX6_pull 56 = .ok (.invokevirtual 103, 3) := by decide +kernel
theorem dX6_pull_59 : decode cX6_pull 59 = .ok (.istore_n 2, 1) := by decide +kernel
theorem dX6_pull_60 : decode cX6_pull 60 = .ok (.aload_n 0, 1) := by decide +kernel
theorem dX6_pull_61 : decode cX6_pull 61 = .ok (.getfield 12, 3) := by decide +kernel
theorem dX6_pull_64 : decode cX6_pull 64 = .ok (.iload_n 1, 1) := by decide +kernel
theorem dX6_pull_65 : decode cX6_pull 65 = .ok (.invokevirtual 165, 3) := by decide +kernel
theorem dX6_pull_68 : decode cX6_pull 68 = .ok (.iload_n 2, 1) := by decide +kernel
theorem dX6_pull_69 : decode cX6_pull 69 = .ok (.ireturn, 1) := by decide +kernel
def rmX6_pull : Room := { frames := 3, cells := 0, slots := 0, locals := 75 }
abbrev eX6_pull := Ev cX6_pull 3 (some .int) RX6 rmX6_pull
set_option maxRecDepth 20000 in
theorem mt_X6_pull (p0 : Int32) (σ : St) (Q : Int32 → St → Prop)  (hP : P_X6_pull p0 σ Q) : Mt yX6_pull cX6_pull 3 (some .int) rmX6_pull [.ref (0), .int (p0)] σ (qI Q) := by
  refine Mt.of (k := 1) (ls := [.ref (0), .int (p0), un]) (by decide +kernel) rfl (Nat.le_of_ble_eq_true rfl) ?_
  show eX6_pull 0 [.ref (0), .int (p0), un] [] σ _
  unfold P_X6_pull at hP
  refine E_iload_n dX6_pull_0 rfl ?_
  refine E_callS (As := [.int (p0)]) (rest := []) dX6_pull_1 cl_RX6_58 tw_290 ⟨rfl, rfl, Nat.le_of_ble_eq_true rfl, Nat.le_of_ble_eq_true rfl⟩ rfl rfl (Nat.le_of_ble_eq_true rfl) (mt_X6_isWall _ _ _  hP) ?_
  intro r0 s0 hq0; obtain ⟨r1, h0, hs0, hP⟩ := hq0; subst h0; rw [hs0]
  show eX6_pull 4 [.ref (0), .int (p0), un] [.int (bI r1)] σ _
  refine E_ifz_ne 14 dX6_pull_4 (by decide) (fun hc => ?_) (fun hc => ?_)
  · replace hP := hP.1 hc
    refine E_aload_n dX6_pull_14 rfl ?_
    refine E_getR (j := 3) dX6_pull_15 (show kd 0 = 6 by decide) (by decide) rfl fd_RX6_25 (by decide) ?_
    refine E_aload_n dX6_pull_18 rfl ?_
    refine E_getR (j := 0) dX6_pull_19 (show kd 0 = 6 by decide) (by decide) rfl fd_RX6_12 (by decide) ?_
    refine E_callV (As := [.ref (1)]) (rest := []) dX6_pull_22 cl_RX6_152 tw_228 (ar_6_19 (show kd 0 = 6 by decide)).1 (by decide) rfl tw_229 ⟨rfl, rfl, Nat.le_of_ble_eq_true rfl, Nat.le_of_ble_eq_true rfl⟩ rfl rfl (Nat.le_of_ble_eq_true rfl) (mt_X3_measure _ _ _ _ (ar_6_19 (show kd 0 = 6 by decide)).1 (ar_6_1 (show kd 0 = 6 by decide)).1 hP) ?_
    rintro _ t22 ⟨rfl, hP⟩
    show eX6_pull 25 [.ref (0), .int (p0), un] [] t22 _
    refine E_aload_n dX6_pull_25 rfl ?_
    refine E_getR (j := 3) dX6_pull_26 (show kd 0 = 6 by decide) (by decide) rfl fd_RX6_25 (by decide) ?_
    refine E_aload_n dX6_pull_29 rfl ?_
    refine E_getR (j := 3) dX6_pull_30 (show kd 0 = 6 by decide) (by decide) rfl fd_RX6_25 (by decide) ?_
    refine E_getI (j := 3) dX6_pull_33 (ar_6_19 (show kd 0 = 6 by decide)).1 (by decide) rfl fd_RX6_156 ?_
    refine E_iload_n dX6_pull_36 rfl ?_
    refine E_callV (As := [.int (gI t22 19 3), .int (p0)]) (rest := []) dX6_pull_37 cl_RX6_162 tw_105 (ar_6_19 (show kd 0 = 6 by decide)).1 (by decide) rfl tw_106 ⟨rfl, rfl, Nat.le_of_ble_eq_true rfl, Nat.le_of_ble_eq_true rfl⟩ rfl rfl (Nat.le_of_ble_eq_true rfl) (mt_X3_canPullAt _ _ _ _ _ (ar_6_19 (show kd 0 = 6 by decide)).1 hP) ?_
    intro r0 s0 hq0; obtain ⟨r37, h0, hs0, hP⟩ := hq0; subst h0; rw [hs0]
    show eX6_pull 40 [.ref (0), .int (p0), un] [.int (bI r37)] t22 _
    refine E_ifz_ne 50 dX6_pull_40 (by decide) (fun hc => ?_) (fun hc => ?_)
    · replace hP := hP.1 hc
      refine E_aload_n dX6_pull_50 rfl ?_
      refine E_getR (j := 0) dX6_pull_51 (show kd 0 = 6 by decide) (by decide) rfl fd_RX6_12 (by decide) ?_
      refine E_iload_n dX6_pull_54 rfl ?_
      refine E_iconst (v := 0) dX6_pull_55 (by decide) ?_
      refine E_callV (As := [.int (p0), .int (0)]) (rest := []) dX6_pull_56 cl_RX6_103 tw_31 (ar_6_1 (show kd 0 = 6 by decide)).1 (by decide) rfl tw_32 ⟨rfl, rfl, Nat.le_of_ble_eq_true rfl, Nat.le_of_ble_eq_true rfl⟩ rfl rfl (Nat.le_of_ble_eq_true rfl) (mt_X0_tallOf _ _ _ _ _ (ar_6_1 (show kd 0 = 6 by decide)).1 hP) ?_
      intro r0 s0 hq0; obtain ⟨r56, h0, hs0, hP⟩ := hq0; subst h0; rw [hs0]
      show eX6_pull 59 [.ref (0), .int (p0), un] [.int (r56)] t22 _
      refine E_istore_n (ls' := [.ref (0), .int (p0), .int (r56)]) dX6_pull_59 (by decide) rfl ?_
      refine E_aload_n dX6_pull_60 rfl ?_
      refine E_getR (j := 0) dX6_pull_61 (show kd 0 = 6 by decide) (by decide) rfl fd_RX6_12 (by decide) ?_
      refine E_iload_n dX6_pull_64 rfl ?_
      refine E_callV (As := [.int (p0)]) (rest := []) dX6_pull_65 cl_RX6_165 tw_223 (ar_6_1 (show kd 0 = 6 by decide)).1 (by decide) rfl tw_224 ⟨rfl, rfl, Nat.le_of_ble_eq_true rfl, Nat.le_of_ble_eq_true rfl⟩ rfl rfl (Nat.le_of_ble_eq_true rfl) (mt_X0_takeLowest _ _ _ _ (ar_6_1 (show kd 0 = 6 by decide)).1 hP) ?_
      rintro _ t65 ⟨rfl, hP⟩
      show eX6_pull 68 [.ref (0), .int (p0), .int (r56)] [] t65 _
      refine E_iload_n dX6_pull_68 rfl ?_
      exact E_iret dX6_pull_69 rfl ⟨_, rfl, hP⟩
    · replace hP := hP.2 hc
      refine E_aload_n dX6_pull_43 rfl ?_
      refine E_ldc (v := (-1000000005)) dX6_pull_44 tw_333 ?_
      refine E_callV (As := [.int ((-1000000005))]) (rest := []) dX6_pull_46 cl_RX6_65 tw_279 (show kd 0 = 6 by decide) (by decide) rfl tw_280 ⟨rfl, rfl, Nat.le_of_ble_eq_true rfl, Nat.le_of_ble_eq_true rfl⟩ rfl rfl (Nat.le_of_ble_eq_true rfl) (mt_X6_finding _ _ _  hP) ?_
      rintro _ t46 ⟨r46, rfl, hP⟩
      show eX6_pull 49 [.ref (0), .int (p0), un] [.int (r46)] t46 _
      exact E_iret dX6_pull_49 rfl ⟨_, rfl, hP⟩
  · replace hP := hP.2 hc
    refine E_aload_n dX6_pull_7 rfl ?_
    refine E_ldc (v := (-1000000001)) dX6_pull_8 tw_274 ?_
    refine E_callV (As := [.int ((-1000000001))]) (rest := []) dX6_pull_10 cl_RX6_65 tw_279 (show kd 0 = 6 by decide) (by decide) rfl tw_280 ⟨rfl, rfl, Nat.le_of_ble_eq_true rfl, Nat.le_of_ble_eq_true rfl⟩ rfl rfl (Nat.le_of_ble_eq_true rfl) (mt_X6_finding _ _ _  hP) ?_
    rintro _ t10 ⟨r10, rfl, hP⟩
    show eX6_pull 13 [.ref (0), .int (p0), un] [.int (r10)] t10 _
    exact E_iret dX6_pull_13 rfl ⟨_, rfl, hP⟩
theorem dX6_pulls_0 : decode cX6_pulls 0 = .ok (.aload_n 0, 1) := by decide +kernel
theorem dX6_pulls_1 : decode cX6_pulls 1 = .ok (.getfield 25, 3) := by decide +kernel
theorem dX6_pulls_4 : decode cX6_pulls 4 = .ok (.aload_n 0, 1) := by decide +kernel
theorem dX6_pulls_5 : decode cX6_pulls 5 = .ok (.getfield 12, 3) := by decide +kernel
theorem dX6_pulls_8 : decode cX6_pulls 8 = .ok (.invokevirtual 152, 3) := by decide +kernel
theorem dX6_pulls_11 : decode cX6_pulls 11 = .ok (.iconst 0, 1) := by decide +kernel
theorem dX6_pulls_12 : decode cX6_pulls 12 = .ok (.istore_n 1, 1) := by decide +kernel
theorem dX6_pulls_13 : decode cX6_pulls 13 = .ok (.iconst 0, 1) := by decide +kernel
theorem dX6_pulls_14 : decode cX6_pulls 14 = .ok (.istore_n 2, 1) := by decide +kernel
theorem dX6_pulls_15 : decode cX6_pulls 15 = .ok (.iload_n 2, 1) := by decide +kernel
theorem dX6_pulls_16 : decode cX6_pulls 16 = .ok (.iconst 4, 1) := by decide +kernel
theorem dX6_pulls_17 : decode cX6_pulls 17 = .ok (.if_icmp .ge 33, 3) := by decide +kernel
theorem dX6_pulls_20 : decode cX6_pulls 20 = .ok (.aload_n 0, 1) := by decide +kernel
theorem dX6_pulls_21 : decode cX6_pulls 21 = .ok (.getfield 25, 3) := by decide +kernel
theorem dX6_pulls_24 : decode cX6_pulls 24 = .ok (.aload_n 0, 1) := by decide +kernel
theorem dX6_pulls_25 : decode cX6_pulls 25 = .ok (.getfield 25, 3) := by decide +kernel
theorem dX6_pulls_28 : decode cX6_pulls 28 = .ok (.getfield 156, 3) := by decide +kernel
theorem dX6_pulls_31 : decode cX6_pulls 31 = .ok (.iload_n 2, 1) := by decide +kernel
theorem dX6_pulls_32 : decode cX6_pulls 32 = .ok (.invokevirtual 162, 3) := by decide +kernel
theorem dX6_pulls_35 : decode cX6_pulls 35 = .ok (.ifCond .eq 9, 3) := by decide +kernel
theorem dX6_pulls_38 : decode cX6_pulls 38 = .ok (.iload_n 1, 1) := by decide +kernel
theorem dX6_pulls_39 : decode cX6_pulls 39 = .ok (.iconst 1, 1) := by decide +kernel
theorem dX6_pulls_40 : decode cX6_pulls 40 = .ok (.iload_n 2, 1) := by decide +kernel
theorem dX6_pulls_41 : decode cX6_pulls 41 = .ok (.ishl, 1) := by decide +kernel
theorem dX6_pulls_42 : decode cX6_pulls 42 = .ok (.ior, 1) := by decide +kernel
theorem dX6_pulls_43 : decode cX6_pulls 43 = .ok (.istore_n 1, 1) := by decide +kernel
theorem dX6_pulls_44 : decode cX6_pulls 44 = .ok (.iinc 2 1, 3) := by decide +kernel
theorem dX6_pulls_47 : decode cX6_pulls 47 = .ok (.goto (-32), 3) := by decide +kernel
theorem dX6_pulls_50 : decode cX6_pulls 50 = .ok (.iload_n 1, 1) := by decide +kernel
theorem dX6_pulls_51 : decode cX6_pulls 51 = .ok (.ireturn, 1) := by decide +kernel
def rmX6_pulls : Room := { frames := 3, cells := 0, slots := 0, locals := 75 }
abbrev eX6_pulls := Ev cX6_pulls 3 (some .int) RX6 rmX6_pulls
set_option maxRecDepth 20000 in
theorem ev_X6_pulls_l15   (K : Int32 → St → Prop) (Q : Int32 → St → Prop) (hK : ∀ k1 s, K k1 s → eX6_pulls 50 [un, .int (k1), un] [] s (qI Q)) : ∀ (n : Nat) (l1 : Int32) (l2 : Int32) (σ : St), P_X6_pulls_l15  K Q n l1 l2 σ → eX6_pulls 15 [.ref (0), .int (l1), .int (l2)] [] σ (qI Q) := by
  intro n
  induction n with
  | zero => intro l1 l2 σ hP; exact hP.elim
  | succ n ih =>
    intro l1 l2 σ hP
    rw [P_X6_pulls_l15] at hP
    refine E_iload_n dX6_pulls_15 rfl ?_
    refine E_iconst (v := 4) dX6_pulls_16 (by decide) ?_
    refine E_icmp_ge 50 dX6_pulls_17 (by decide) (fun hc => ?_) (fun hc => ?_)
    · replace hP := hP.1 hc
      refine E_mask [false, true, false] rfl ?_
      exact hK (l1) _ hP
    · replace hP := hP.2 hc
      refine E_aload_n dX6_pulls_20 rfl ?_
      refine E_getR (j := 3) dX6_pulls_21 (show kd 0 = 6 by decide) (by decide) rfl fd_RX6_25 (by decide) ?_
      refine E_aload_n dX6_pulls_24 rfl ?_
      refine E_getR (j := 3) dX6_pulls_25 (show kd 0 = 6 by decide) (by decide) rfl fd_RX6_25 (by decide) ?_
      refine E_getI (j := 3) dX6_pulls_28 (ar_6_19 (show kd 0 = 6 by decide)).1 (by decide) rfl fd_RX6_156 ?_
      refine E_iload_n dX6_pulls_31 rfl ?_
      refine E_callV (As := [.int (gI σ 19 3), .int (l2)]) (rest := []) dX6_pulls_32 cl_RX6_162 tw_105 (ar_6_19 (show kd 0 = 6 by decide)).1 (by decide) rfl tw_106 ⟨rfl, rfl, Nat.le_of_ble_eq_true rfl, Nat.le_of_ble_eq_true rfl⟩ rfl rfl (Nat.le_of_ble_eq_true rfl) (mt_X3_canPullAt _ _ _ _ _ (ar_6_19 (show kd 0 = 6 by decide)).1 hP) ?_
      intro r0 s0 hq0; obtain ⟨r32, h0, hs0, hP⟩ := hq0; subst h0; rw [hs0]
      show eX6_pulls 35 [.ref (0), .int (l1), .int (l2)] [.int (bI r32)] σ _
      refine E_ifz_eq 44 dX6_pulls_35 (by decide) (fun hc => ?_) (fun hc => ?_)
      · replace hP := hP.1 hc
        refine E_iinc (ls' := [.ref (0), .int (l1), .int (l2 + 1)]) dX6_pulls_44 rfl rfl (by decide) rfl ?_
        refine E_goto 15 dX6_pulls_47 (by decide) ?_
        exact ih (l1) (l2 + 1) _ hP
      · replace hP := hP.2 hc
        refine E_iload_n dX6_pulls_38 rfl ?_
        refine E_iconst (v := 1) dX6_pulls_39 (by decide) ?_
        refine E_iload_n dX6_pulls_40 rfl ?_
        refine E_ishl dX6_pulls_41 ?_
        refine E_ior dX6_pulls_42 ?_
        refine E_istore_n (ls' := [.ref (0), .int (l1 ||| (1 <<< (l2 &&& 31))), .int (l2)]) dX6_pulls_43 (by decide) rfl ?_
        refine E_iinc (ls' := [.ref (0), .int (l1 ||| (1 <<< (l2 &&& 31))), .int (l2 + 1)]) dX6_pulls_44 rfl rfl (by decide) rfl ?_
        refine E_goto 15 dX6_pulls_47 (by decide) ?_
        exact ih (l1 ||| (1 <<< (l2 &&& 31))) (l2 + 1) _ hP
set_option maxRecDepth 20000 in
theorem mt_X6_pulls  (σ : St) (Q : Int32 → St → Prop)  (hP : P_X6_pulls  σ Q) : Mt yX6_pulls cX6_pulls 3 (some .int) rmX6_pulls [.ref (0)] σ (qI Q) := by
  refine Mt.of (k := 2) (ls := [.ref (0), un, un]) (by decide +kernel) rfl (Nat.le_of_ble_eq_true rfl) ?_
  show eX6_pulls 0 [.ref (0), un, un] [] σ _
  unfold P_X6_pulls at hP
  refine E_aload_n dX6_pulls_0 rfl ?_
  refine E_getR (j := 3) dX6_pulls_1 (show kd 0 = 6 by decide) (by decide) rfl fd_RX6_25 (by decide) ?_
  refine E_aload_n dX6_pulls_4 rfl ?_
  refine E_getR (j := 0) dX6_pulls_5 (show kd 0 = 6 by decide) (by decide) rfl fd_RX6_12 (by decide) ?_
  refine E_callV (As := [.ref (1)]) (rest := []) dX6_pulls_8 cl_RX6_152 tw_228 (ar_6_19 (show kd 0 = 6 by decide)).1 (by decide) rfl tw_229 ⟨rfl, rfl, Nat.le_of_ble_eq_true rfl, Nat.le_of_ble_eq_true rfl⟩ rfl rfl (Nat.le_of_ble_eq_true rfl) (mt_X3_measure _ _ _ _ (ar_6_19 (show kd 0 = 6 by decide)).1 (ar_6_1 (show kd 0 = 6 by decide)).1 hP) ?_
  rintro _ t8 ⟨rfl, hP⟩
  show eX6_pulls 11 [.ref (0), un, un] [] t8 _
  refine E_iconst (v := 0) dX6_pulls_11 (by decide) ?_
  refine E_istore_n (ls' := [.ref (0), .int (0), un]) dX6_pulls_12 (by decide) rfl ?_
  refine E_iconst (v := 0) dX6_pulls_13 (by decide) ?_
  refine E_istore_n (ls' := [.ref (0), .int (0), .int (0)]) dX6_pulls_14 (by decide) rfl ?_
  obtain ⟨m15, hP⟩ := hP
  refine ev_X6_pulls_l15   _ Q ?_ m15 _ _ _ hP
  intro k1 t50 hP
  refine E_iload_n dX6_pulls_50 rfl ?_
  exact E_iret dX6_pulls_51 rfl ⟨_, rfl, hP⟩
theorem dX6_standsOf_0 : decode cX6_standsOf 0 = .ok (.aload_n 0, 1) := by decide +kernel
theorem dX6_standsOf_1 : decode cX6_standsOf 1 = .ok (.getfield 25, 3) := by decide +kernel
theorem dX6_standsOf_4 : decode cX6_standsOf 4 = .ok (.aload_n 1, 1) := by decide +kernel
theorem dX6_standsOf_5 : decode cX6_standsOf 5 = .ok (.invokevirtual 152, 3) := by decide +kernel
theorem dX6_standsOf_8 : decode cX6_standsOf 8 = .ok (.aload_n 0, 1) := by decide +kernel
theorem dX6_standsOf_9 : decode cX6_standsOf 9 = .ok (.getfield 32, 3) := by decide +kernel
theorem dX6_standsOf_12 : decode cX6_standsOf 12 = .ok (.aload_n 0, 1) := by decide +kernel
theorem dX6_standsOf_13 : decode cX6_standsOf 13 = .ok (.getfield 25, 3) := by decide +kernel
theorem dX6_standsOf_16 : decode cX6_standsOf 16 = .ok (.aconst_null, 1) := by decide +kernel
theorem dX6_standsOf_17 : decode cX6_standsOf 17 = .ok (.invokevirtual 287, 3) := by decide +kernel
theorem dX6_standsOf_20 : decode cX6_standsOf 20 = .ok (.ireturn, 1) := by decide +kernel
def rmX6_standsOf : Room := { frames := 4, cells := 0, slots := 0, locals := 87 }
abbrev eX6_standsOf := Ev cX6_standsOf 2 (some .int) RX6 rmX6_standsOf
set_option maxRecDepth 20000 in
theorem mt_X6_standsOf (p0 : Nat) (σ : St) (Q : Int32 → St → Prop) (o_p0 : kd p0 = 0) (hP : P_X6_standsOf p0 σ Q) : Mt yX6_standsOf cX6_standsOf 2 (some .int) rmX6_standsOf [.ref (0), .ref (p0)] σ (qI Q) := by
  refine Mt.of (k := 0) (ls := [.ref (0), .ref (p0)]) (by decide +kernel) rfl (Nat.le_of_ble_eq_true rfl) ?_
  show eX6_standsOf 0 [.ref (0), .ref (p0)] [] σ _
  unfold P_X6_standsOf at hP
  refine E_aload_n dX6_standsOf_0 rfl ?_
  refine E_getR (j := 3) dX6_standsOf_1 (show kd 0 = 6 by decide) (by decide) rfl fd_RX6_25 (by decide) ?_
  refine E_aload_n dX6_standsOf_4 rfl ?_
  refine E_callV (As := [.ref (p0)]) (rest := []) dX6_standsOf_5 cl_RX6_152 tw_228 (ar_6_19 (show kd 0 = 6 by decide)).1 (by decide) rfl tw_229 ⟨rfl, rfl, Nat.le_of_ble_eq_true rfl, Nat.le_of_ble_eq_true rfl⟩ rfl rfl (Nat.le_of_ble_eq_true rfl) (mt_X3_measure _ _ _ _ (ar_6_19 (show kd 0 = 6 by decide)).1 o_p0 hP) ?_
  rintro _ t5 ⟨rfl, hP⟩
  show eX6_standsOf 8 [.ref (0), .ref (p0)] [] t5 _
  refine E_aload_n dX6_standsOf_8 rfl ?_
  refine E_getR (j := 4) dX6_standsOf_9 (show kd 0 = 6 by decide) (by decide) rfl fd_RX6_32 (by decide) ?_
  refine E_aload_n dX6_standsOf_12 rfl ?_
  refine E_getR (j := 3) dX6_standsOf_13 (show kd 0 = 6 by decide) (by decide) rfl fd_RX6_25 (by decide) ?_
  refine E_null dX6_standsOf_16 ?_
  refine E_callV (As := [.ref (19), .ref 999]) (rest := []) dX6_standsOf_17 cl_RX6_287 tw_346 (ar_6_23 (show kd 0 = 6 by decide)).1 (by decide) rfl tw_347 ⟨rfl, rfl, Nat.le_of_ble_eq_true rfl, Nat.le_of_ble_eq_true rfl⟩ rfl rfl (Nat.le_of_ble_eq_true rfl) (mt_X1_fill _ _ _ _ (ar_6_19 (show kd 0 = 6 by decide)).1 (fun h => absurd rfl h) hP) ?_
  rintro _ t17 ⟨r17, rfl, hP⟩
  show eX6_standsOf 20 [.ref (0), .ref (p0)] [.int (r17)] t17 _
  exact E_iret dX6_standsOf_20 rfl ⟨_, rfl, hP⟩
theorem dX6_canBe_0 : decode cX6_canBe 0 = .ok (.aload_n 0, 1) := by decide +kernel
theorem dX6_canBe_1 : decode cX6_canBe 1 = .ok (.aload_n 1, 1) := by decide +kernel
theorem dX6_canBe_2 : decode cX6_canBe 2 = .ok (.invokevirtual 176, 3) := by decide +kernel
theorem dX6_canBe_5 : decode cX6_canBe 5 = .ok (.pop, 1) := by decide +kernel
theorem dX6_canBe_6 : decode cX6_canBe 6 = .ok (.aload_n 0, 1) := by decide +kernel
theorem dX6_canBe_7 : decode cX6_canBe 7 = .ok (.getfield 32, 3) := by decide +kernel
theorem dX6_canBe_10 : decode cX6_canBe 10 = .ok (.getfield 184, 3) := by decide +kernel
theorem dX6_canBe_13 : decode cX6_canBe 13 = .ok (.iload_n 2, 1) := by decide +kernel
theorem dX6_canBe_14 : decode cX6_canBe 14 = .ok (.laload, 1) := by decide +kernel
theorem dX6_canBe_15 : decode cX6_canBe 15 = .ok (.lconst 0, 1) := by decide +kernel
theorem dX6_canBe_16 : decode cX6_canBe 16 = .ok (.lcmp, 1) := by decide +kernel
theorem dX6_canBe_17 : decode cX6_canBe 17 = .ok (.ifCond .le 7, 3) := by decide +kernel
theorem dX6_canBe_20 : decode cX6_canBe 20 = .ok (.iconst 1, 1) := by decide +kernel
theorem dX6_canBe_21 : decode cX6_canBe 21 = .ok (.goto 4, 3) := by decide +kernel
theorem dX6_canBe_24 : decode cX6_canBe 24 = .ok (.iconst 0, 1) := by decide +kernel
theorem dX6_canBe_25 : decode cX6_canBe 25 = .ok (.ireturn, 1) := by decide +kernel
def rmX6_canBe : Room := { frames := 5, cells := 0, slots := 0, locals := 108 }
abbrev eX6_canBe := Ev cX6_canBe 3 (some .boolean) RX6 rmX6_canBe
set_option maxRecDepth 20000 in
theorem mt_X6_canBe (p0 : Nat) (p1 : Int32) (σ : St) (Q : Bool → St → Prop) (o_p0 : kd p0 = 0) (hP : P_X6_canBe p0 p1 σ Q) : Mt yX6_canBe cX6_canBe 3 (some .boolean) rmX6_canBe [.ref (0), .ref (p0), .int (p1)] σ (qB Q) := by
  refine Mt.of (k := 0) (ls := [.ref (0), .ref (p0), .int (p1)]) (by decide +kernel) rfl (Nat.le_of_ble_eq_true rfl) ?_
  show eX6_canBe 0 [.ref (0), .ref (p0), .int (p1)] [] σ _
  unfold P_X6_canBe at hP
  refine E_aload_n dX6_canBe_0 rfl ?_
  refine E_aload_n dX6_canBe_1 rfl ?_
  refine E_callV (As := [.ref (p0)]) (rest := []) dX6_canBe_2 cl_RX6_176 tw_351 (show kd 0 = 6 by decide) (by decide) rfl tw_352 ⟨rfl, rfl, Nat.le_of_ble_eq_true rfl, Nat.le_of_ble_eq_true rfl⟩ rfl rfl (Nat.le_of_ble_eq_true rfl) (mt_X6_standsOf _ _ _ o_p0 hP) ?_
  rintro _ t2 ⟨r2, rfl, hP⟩
  show eX6_canBe 5 [.ref (0), .ref (p0), .int (p1)] [.int (r2)] t2 _
  refine E_pop dX6_canBe_5 rfl ?_
  refine E_aload_n dX6_canBe_6 rfl ?_
  refine E_getR (j := 4) dX6_canBe_7 (show kd 0 = 6 by decide) (by decide) rfl fd_RX6_32 (by decide) ?_
  refine E_getR (j := 0) dX6_canBe_10 (ar_6_23 (show kd 0 = 6 by decide)).1 (by decide) rfl fd_RX6_184 (by decide) ?_
  refine E_iload_n dX6_canBe_13 rfl ?_
  obtain ⟨hb, hP⟩ := hP
  refine E_lald dX6_canBe_14 (ar_1_1 (ar_6_23 (show kd 0 = 6 by decide)).1).1 (ar_1_1 (ar_6_23 (show kd 0 = 6 by decide)).1).2 hb ?_
  refine E_lconst (v := 0) dX6_canBe_15 (by decide) ?_
  refine E_lcmp dX6_canBe_16 ?_
  refine E_if_le 24 dX6_canBe_17 (by decide) (fun hc => ?_) (fun hc => ?_)
  · replace hP := hP.1 hc
    refine E_iconst (v := 0) dX6_canBe_24 (by decide) ?_
    exact E_nret dX6_canBe_25 rfl (nar_b false) ⟨false, rfl, hP⟩
  · replace hP := hP.2 hc
    refine E_iconst (v := 1) dX6_canBe_20 (by decide) ?_
    refine E_goto 25 dX6_canBe_21 (by decide) ?_
    exact E_nret dX6_canBe_25 rfl (nar_b true) ⟨true, rfl, hP⟩
theorem dX6_isStand_0 : decode cX6_isStand 0 = .ok (.iload_n 1, 1) := by decide +kernel
theorem dX6_isStand_1 : decode cX6_isStand 1 = .ok (.aload_n 0, 1) := by decide +kernel
theorem dX6_isStand_2 : decode cX6_isStand 2 = .ok (.getfield 12, 3) := by decide +kernel
theorem dX6_isStand_5 : decode cX6_isStand 5 = .ok (.invokevirtual 149, 3) := by decide +kernel
theorem dX6_isStand_8 : decode cX6_isStand 8 = .ok (.invokestatic 302, 3) := by decide +kernel
theorem dX6_isStand_11 : decode cX6_isStand 11 = .ok (.ireturn, 1) := by decide +kernel
def rmX6_isStand : Room := { frames := 2, cells := 0, slots := 0, locals := 43 }
abbrev eX6_isStand := Ev cX6_isStand 2 (some .boolean) RX6 rmX6_isStand
set_option maxRecDepth 20000 in
theorem mt_X6_isStand (p0 : Int32) (σ : St) (Q : Bool → Prop)  (hP : P_X6_isStand p0 σ Q) : Mt yX6_isStand cX6_isStand 2 (some .boolean) rmX6_isStand [.ref (0), .int (p0)] σ (qB fun x s => s = σ ∧ Q x) := by
  refine Mt.of (k := 0) (ls := [.ref (0), .int (p0)]) (by decide +kernel) rfl (Nat.le_of_ble_eq_true rfl) ?_
  show eX6_isStand 0 [.ref (0), .int (p0)] [] σ _
  unfold P_X6_isStand at hP
  refine E_iload_n dX6_isStand_0 rfl ?_
  refine E_aload_n dX6_isStand_1 rfl ?_
  refine E_getR (j := 0) dX6_isStand_2 (show kd 0 = 6 by decide) (by decide) rfl fd_RX6_12 (by decide) ?_
  refine E_callV (As := []) (rest := [.int (p0)]) dX6_isStand_5 cl_RX6_149 tw_53 (ar_6_1 (show kd 0 = 6 by decide)).1 (by decide) rfl tw_54 ⟨rfl, rfl, Nat.le_of_ble_eq_true rfl, Nat.le_of_ble_eq_true rfl⟩ rfl rfl (Nat.le_of_ble_eq_true rfl) (mt_X0_standNow _ _ _ (ar_6_1 (show kd 0 = 6 by decide)).1 hP) ?_
  intro r0 s0 hq0; obtain ⟨r5, h0, hs0, hP⟩ := hq0; subst h0; rw [hs0]
  show eX6_isStand 8 [.ref (0), .int (p0)] [.int (r5), .int (p0)] σ _
  refine E_callS (As := [.int (p0), .int (r5)]) (rest := []) dX6_isStand_8 cl_RX6_302 tw_114 ⟨rfl, rfl, Nat.le_of_ble_eq_true rfl, Nat.le_of_ble_eq_true rfl⟩ rfl rfl (Nat.le_of_ble_eq_true rfl) (mt_X3_isPartOf _ _ _ _  hP) ?_
  intro r0 s0 hq0; obtain ⟨r8, h0, hs0, hP⟩ := hq0; subst h0; rw [hs0]
  show eX6_isStand 11 [.ref (0), .int (p0)] [.int (bI r8)] σ _
  exact E_nret dX6_isStand_11 rfl (nar_b r8) ⟨r8, rfl, rfl, hP⟩
theorem dX6_can_0 : decode cX6_can 0 = .ok (.aload_n 0, 1) := by decide +kernel
theorem dX6_can_1 : decode cX6_can 1 = .ok (.iload_n 1, 1) := by decide +kernel
theorem dX6_can_2 : decode cX6_can 2 = .ok (.invokevirtual 169, 3) := by decide +kernel
theorem dX6_can_5 : decode cX6_can 5 = .ok (.ifCond .ne 10, 3) := by decide +kernel
theorem dX6_can_8 : decode cX6_can 8 = .ok (.aload_n 0, 1) := by decide +kernel
theorem dX6_can_9 : decode cX6_can 9 = .ok (.ldc 64, 2) := by decide +kernel
theorem dX6_can_11 : decode cX6_can 11 = .ok (.invokevirtual 65, 3) := by decide +kernel
theorem dX6_can_14 : decode cX6_can 14 = .ok (.ireturn, 1) := by decide +kernel
theorem dX6_can_15 : decode cX6_can 15 = .ok (.aload_n 0, 1) := by decide +kernel
theorem dX6_can_16 : decode cX6_can 16 = .ok (.aload_n 0, 1) := by decide +kernel
theorem dX6_can_17 : decode cX6_can 17 = .ok (.getfield 12, 3) := by decide +kernel
theorem dX6_can_20 : decode cX6_can 20 = .ok (.iload_n 1, 1) := by decide +kernel
theorem dX6_can_21 : decode cX6_can 21 = .ok (.invokevirtual 172, 3) := by decide +kernel
theorem dX6_can_24 : decode cX6_can 24 = .ok (.invokestatic 112, 3) := by decide +kernel
theorem dX6_can_27 : decode cX6_can 27 = .ok (.ireturn, 1) := by decide +kernel
def rmX6_can : Room := { frames := 6, cells := 0, slots := 0, locals := 130 }
abbrev eX6_can := Ev cX6_can 2 (some .int) RX6 rmX6_can
set_option maxRecDepth 20000 in
theorem mt_X6_can (p0 : Int32) (σ : St) (Q : Int32 → St → Prop)  (hP : P_X6_can p0 σ Q) : Mt yX6_can cX6_can 2 (some .int) rmX6_can [.ref (0), .int (p0)] σ (qI Q) := by
  refine Mt.of (k := 0) (ls := [.ref (0), .int (p0)]) (by decide +kernel) rfl (Nat.le_of_ble_eq_true rfl) ?_
  show eX6_can 0 [.ref (0), .int (p0)] [] σ _
  unfold P_X6_can at hP
  refine E_aload_n dX6_can_0 rfl ?_
  refine E_iload_n dX6_can_1 rfl ?_
  refine E_callV (As := [.int (p0)]) (rest := []) dX6_can_2 cl_RX6_169 tw_360 (show kd 0 = 6 by decide) (by decide) rfl tw_361 ⟨rfl, rfl, Nat.le_of_ble_eq_true rfl, Nat.le_of_ble_eq_true rfl⟩ rfl rfl (Nat.le_of_ble_eq_true rfl) (mt_X6_isStand _ _ _  hP) ?_
  intro r0 s0 hq0; obtain ⟨r2, h0, hs0, hP⟩ := hq0; subst h0; rw [hs0]
  show eX6_can 5 [.ref (0), .int (p0)] [.int (bI r2)] σ _
  refine E_ifz_ne 15 dX6_can_5 (by decide) (fun hc => ?_) (fun hc => ?_)
  · replace hP := hP.1 hc
    refine E_aload_n dX6_can_15 rfl ?_
    refine E_aload_n dX6_can_16 rfl ?_
    refine E_getR (j := 0) dX6_can_17 (show kd 0 = 6 by decide) (by decide) rfl fd_RX6_12 (by decide) ?_
    refine E_iload_n dX6_can_20 rfl ?_
    refine E_callV (As := [.ref (1), .int (p0)]) (rest := []) dX6_can_21 cl_RX6_172 tw_356 (show kd 0 = 6 by decide) (by decide) rfl tw_357 ⟨rfl, rfl, Nat.le_of_ble_eq_true rfl, Nat.le_of_ble_eq_true rfl⟩ rfl rfl (Nat.le_of_ble_eq_true rfl) (mt_X6_canBe _ _ _ _ (ar_6_1 (show kd 0 = 6 by decide)).1 hP) ?_
    rintro _ t21 ⟨r21, rfl, hP⟩
    show eX6_can 24 [.ref (0), .int (p0)] [.int (bI r21)] t21 _
    refine E_callS (As := [.int (bI r21)]) (rest := []) dX6_can_24 cl_RX6_112 tw_311 ⟨rfl, rfl, Nat.le_of_ble_eq_true rfl, Nat.le_of_ble_eq_true rfl⟩ rfl rfl (Nat.le_of_ble_eq_true rfl) (mt_X6_asNumber _ _ _  hP) ?_
    intro r0 s0 hq0; obtain ⟨r24, h0, hs0, hP⟩ := hq0; subst h0; rw [hs0]
    show eX6_can 27 [.ref (0), .int (p0)] [.int (r24)] t21 _
    exact E_iret dX6_can_27 rfl ⟨_, rfl, hP⟩
  · replace hP := hP.2 hc
    refine E_aload_n dX6_can_8 rfl ?_
    refine E_ldc (v := (-1000000001)) dX6_can_9 tw_274 ?_
    refine E_callV (As := [.int ((-1000000001))]) (rest := []) dX6_can_11 cl_RX6_65 tw_279 (show kd 0 = 6 by decide) (by decide) rfl tw_280 ⟨rfl, rfl, Nat.le_of_ble_eq_true rfl, Nat.le_of_ble_eq_true rfl⟩ rfl rfl (Nat.le_of_ble_eq_true rfl) (mt_X6_finding _ _ _  hP) ?_
    rintro _ t11 ⟨r11, rfl, hP⟩
    show eX6_can 14 [.ref (0), .int (p0)] [.int (r11)] t11 _
    exact E_iret dX6_can_14 rfl ⟨_, rfl, hP⟩
theorem dX6_stands_0 : decode cX6_stands 0 = .ok (.aload_n 0, 1) := by decide +kernel
theorem dX6_stands_1 : decode cX6_stands 1 = .ok (.aload_n 0, 1) := by decide +kernel
theorem dX6_stands_2 : decode cX6_stands 2 = .ok (.getfield 12, 3) := by decide +kernel
theorem dX6_stands_5 : decode cX6_stands 5 = .ok (.invokevirtual 176, 3) := by decide +kernel
theorem dX6_stands_8 : decode cX6_stands 8 = .ok (.ireturn, 1) := by decide +kernel
def rmX6_stands : Room := { frames := 5, cells := 0, slots := 0, locals := 108 }
abbrev eX6_stands := Ev cX6_stands 1 (some .int) RX6 rmX6_stands
set_option maxRecDepth 20000 in
theorem mt_X6_stands  (σ : St) (Q : Int32 → St → Prop)  (hP : P_X6_stands  σ Q) : Mt yX6_stands cX6_stands 1 (some .int) rmX6_stands [.ref (0)] σ (qI Q) := by
  refine Mt.of (k := 0) (ls := [.ref (0)]) (by decide +kernel) rfl (Nat.le_of_ble_eq_true rfl) ?_
  show eX6_stands 0 [.ref (0)] [] σ _
  unfold P_X6_stands at hP
  refine E_aload_n dX6_stands_0 rfl ?_
  refine E_aload_n dX6_stands_1 rfl ?_
  refine E_getR (j := 0) dX6_stands_2 (show kd 0 = 6 by decide) (by decide) rfl fd_RX6_12 (by decide) ?_
  refine E_callV (As := [.ref (1)]) (rest := []) dX6_stands_5 cl_RX6_176 tw_351 (show kd 0 = 6 by decide) (by decide) rfl tw_352 ⟨rfl, rfl, Nat.le_of_ble_eq_true rfl, Nat.le_of_ble_eq_true rfl⟩ rfl rfl (Nat.le_of_ble_eq_true rfl) (mt_X6_standsOf _ _ _ (ar_6_1 (show kd 0 = 6 by decide)).1 hP) ?_
  rintro _ t5 ⟨r5, rfl, hP⟩
  show eX6_stands 8 [.ref (0)] [.int (r5)] t5 _
  exact E_iret dX6_stands_8 rfl ⟨_, rfl, hP⟩
theorem dX6_least_0 : decode cX6_least 0 = .ok (.aload_n 0, 1) := by decide +kernel
theorem dX6_least_1 : decode cX6_least 1 = .ok (.aload_n 0, 1) := by decide +kernel
theorem dX6_least_2 : decode cX6_least 2 = .ok (.getfield 12, 3) := by decide +kernel
theorem dX6_least_5 : decode cX6_least 5 = .ok (.invokevirtual 176, 3) := by decide +kernel
theorem dX6_least_8 : decode cX6_least 8 = .ok (.pop, 1) := by decide +kernel
theorem dX6_least_9 : decode cX6_least 9 = .ok (.aload_n 0, 1) := by decide +kernel
theorem dX6_least_10 : decode cX6_least 10 = .ok (.getfield 32, 3) := by decide +kernel
theorem dX6_least_13 : decode cX6_least 13 = .ok (.aload_n 0, 1) := by decide +kernel
theorem dX6_least_14 : decode cX6_least 14 = .ok (.getfield 25, 3) := by decide +kernel
theorem dX6_least_17 : decode cX6_least 17 = .ok (.invokevirtual 180, 3) := by decide +kernel
theorem dX6_least_20 : decode cX6_least 20 = .ok (.ireturn, 1) := by decide +kernel
def rmX6_least : Room := { frames := 5, cells := 0, slots := 0, locals := 108 }
abbrev eX6_least := Ev cX6_least 1 (some .int) RX6 rmX6_least
set_option maxRecDepth 20000 in
theorem mt_X6_least  (σ : St) (Q : Int32 → St → Prop)  (hP : P_X6_least  σ Q) : Mt yX6_least cX6_least 1 (some .int) rmX6_least [.ref (0)] σ (qI Q) := by
  refine Mt.of (k := 0) (ls := [.ref (0)]) (by decide +kernel) rfl (Nat.le_of_ble_eq_true rfl) ?_
  show eX6_least 0 [.ref (0)] [] σ _
  unfold P_X6_least at hP
  refine E_aload_n dX6_least_0 rfl ?_
  refine E_aload_n dX6_least_1 rfl ?_
  refine E_getR (j := 0) dX6_least_2 (show kd 0 = 6 by decide) (by decide) rfl fd_RX6_12 (by decide) ?_
  refine E_callV (As := [.ref (1)]) (rest := []) dX6_least_5 cl_RX6_176 tw_351 (show kd 0 = 6 by decide) (by decide) rfl tw_352 ⟨rfl, rfl, Nat.le_of_ble_eq_true rfl, Nat.le_of_ble_eq_true rfl⟩ rfl rfl (Nat.le_of_ble_eq_true rfl) (mt_X6_standsOf _ _ _ (ar_6_1 (show kd 0 = 6 by decide)).1 hP) ?_
  rintro _ t5 ⟨r5, rfl, hP⟩
  show eX6_least 8 [.ref (0)] [.int (r5)] t5 _
  refine E_pop dX6_least_8 rfl ?_
  refine E_aload_n dX6_least_9 rfl ?_
  refine E_getR (j := 4) dX6_least_10 (show kd 0 = 6 by decide) (by decide) rfl fd_RX6_32 (by decide) ?_
  refine E_aload_n dX6_least_13 rfl ?_
  refine E_getR (j := 3) dX6_least_14 (show kd 0 = 6 by decide) (by decide) rfl fd_RX6_25 (by decide) ?_
  refine E_callV (As := [.ref (19)]) (rest := []) dX6_least_17 cl_RX6_180 tw_364 (ar_6_23 (show kd 0 = 6 by decide)).1 (by decide) rfl tw_365 ⟨rfl, rfl, Nat.le_of_ble_eq_true rfl, Nat.le_of_ble_eq_true rfl⟩ rfl rfl (Nat.le_of_ble_eq_true rfl) (mt_X1_leastStand _ _ _ (ar_6_19 (show kd 0 = 6 by decide)).1 hP) ?_
  intro r0 s0 hq0; obtain ⟨r17, h0, hs0, hP⟩ := hq0; subst h0; rw [hs0]
  show eX6_least 20 [.ref (0)] [.int (r17)] t5 _
  exact E_iret dX6_least_20 rfl ⟨_, rfl, hP⟩
theorem dX6_ways_0 : decode cX6_ways 0 = .ok (.aload_n 0, 1) := by decide +kernel
theorem dX6_ways_1 : decode cX6_ways 1 = .ok (.iload_n 1, 1) := by decide +kernel
theorem dX6_ways_2 : decode cX6_ways 2 = .ok (.invokevirtual 169, 3) := by decide +kernel
theorem dX6_ways_5 : decode cX6_ways 5 = .ok (.ifCond .ne 11, 3) := by decide +kernel
theorem dX6_ways_8 : decode cX6_ways 8 = .ok (.aload_n 0, 1) := by decide +kernel
theorem dX6_ways_9 : decode cX6_ways 9 = .ok (.ldc 64, 2) := by decide +kernel
theorem dX6_ways_11 : decode cX6_ways 11 = .ok (.invokevirtual 65, 3) := by decide +kernel
theorem dX6_ways_14 : decode cX6_ways 14 = .ok (.i2l, 1) := by decide +kernel
theorem dX6_ways_15 : decode cX6_ways 15 = .ok (.lreturn, 1) := by decide +kernel
theorem dX6_ways_16 : decode cX6_ways 16 = .ok (.aload_n 0, 1) := by decide +kernel
theorem dX6_ways_17 : decode cX6_ways 17 = .ok (.aload_n 0, 1) := by decide +kernel
theorem dX6_ways_18 : decode cX6_ways 18 = .ok (.getfield 12, 3) := by decide +kernel
theorem dX6_ways_21 : decode cX6_ways 21 = .ok (.invokevirtual 176, 3) := by decide +kernel
theorem dX6_ways_24 : decode cX6_ways 24 = .ok (.pop, 1) := by decide +kernel
theorem dX6_ways_25 : decode cX6_ways 25 = .ok (.aload_n 0, 1) := by decide +kernel
theorem dX6_ways_26 : decode cX6_ways 26 = .ok (.getfield 32, 3) := by decide +kernel
theorem dX6_ways_29 : decode cX6_ways 29 = .ok (.getfield 184, 3) := by decide +kernel
theorem dX6_ways_32 : decode cX6_ways 32 = .ok (.iload_n 1, 1) := by decide +kernel
theorem dX6_ways_33 : decode cX6_ways 33 = .ok (.laload, 1) := by decide +kernel
theorem dX6_ways_34 : decode cX6_ways 34 = .ok (.lreturn, 1) := by decide +kernel
def rmX6_ways : Room := { frames := 5, cells := 0, slots := 0, locals := 108 }
abbrev eX6_ways := Ev cX6_ways 2 (some .long) RX6 rmX6_ways
set_option maxRecDepth 20000 in
theorem mt_X6_ways (p0 : Int32) (σ : St) (Q : Int64 → St → Prop)  (hP : P_X6_ways p0 σ Q) : Mt yX6_ways cX6_ways 2 (some .long) rmX6_ways [.ref (0), .int (p0)] σ (qL Q) := by
  refine Mt.of (k := 0) (ls := [.ref (0), .int (p0)]) (by decide +kernel) rfl (Nat.le_of_ble_eq_true rfl) ?_
  show eX6_ways 0 [.ref (0), .int (p0)] [] σ _
  unfold P_X6_ways at hP
  refine E_aload_n dX6_ways_0 rfl ?_
  refine E_iload_n dX6_ways_1 rfl ?_
  refine E_callV (As := [.int (p0)]) (rest := []) dX6_ways_2 cl_RX6_169 tw_360 (show kd 0 = 6 by decide) (by decide) rfl tw_361 ⟨rfl, rfl, Nat.le_of_ble_eq_true rfl, Nat.le_of_ble_eq_true rfl⟩ rfl rfl (Nat.le_of_ble_eq_true rfl) (mt_X6_isStand _ _ _  hP) ?_
  intro r0 s0 hq0; obtain ⟨r2, h0, hs0, hP⟩ := hq0; subst h0; rw [hs0]
  show eX6_ways 5 [.ref (0), .int (p0)] [.int (bI r2)] σ _
  refine E_ifz_ne 16 dX6_ways_5 (by decide) (fun hc => ?_) (fun hc => ?_)
  · replace hP := hP.1 hc
    refine E_aload_n dX6_ways_16 rfl ?_
    refine E_aload_n dX6_ways_17 rfl ?_
    refine E_getR (j := 0) dX6_ways_18 (show kd 0 = 6 by decide) (by decide) rfl fd_RX6_12 (by decide) ?_
    refine E_callV (As := [.ref (1)]) (rest := []) dX6_ways_21 cl_RX6_176 tw_351 (show kd 0 = 6 by decide) (by decide) rfl tw_352 ⟨rfl, rfl, Nat.le_of_ble_eq_true rfl, Nat.le_of_ble_eq_true rfl⟩ rfl rfl (Nat.le_of_ble_eq_true rfl) (mt_X6_standsOf _ _ _ (ar_6_1 (show kd 0 = 6 by decide)).1 hP) ?_
    rintro _ t21 ⟨r21, rfl, hP⟩
    show eX6_ways 24 [.ref (0), .int (p0)] [.int (r21)] t21 _
    refine E_pop dX6_ways_24 rfl ?_
    refine E_aload_n dX6_ways_25 rfl ?_
    refine E_getR (j := 4) dX6_ways_26 (show kd 0 = 6 by decide) (by decide) rfl fd_RX6_32 (by decide) ?_
    refine E_getR (j := 0) dX6_ways_29 (ar_6_23 (show kd 0 = 6 by decide)).1 (by decide) rfl fd_RX6_184 (by decide) ?_
    refine E_iload_n dX6_ways_32 rfl ?_
    obtain ⟨hb, hP⟩ := hP
    refine E_lald dX6_ways_33 (ar_1_1 (ar_6_23 (show kd 0 = 6 by decide)).1).1 (ar_1_1 (ar_6_23 (show kd 0 = 6 by decide)).1).2 hb ?_
    exact E_lret dX6_ways_34 rfl ⟨_, rfl, hP⟩
  · replace hP := hP.2 hc
    refine E_aload_n dX6_ways_8 rfl ?_
    refine E_ldc (v := (-1000000001)) dX6_ways_9 tw_274 ?_
    refine E_callV (As := [.int ((-1000000001))]) (rest := []) dX6_ways_11 cl_RX6_65 tw_279 (show kd 0 = 6 by decide) (by decide) rfl tw_280 ⟨rfl, rfl, Nat.le_of_ble_eq_true rfl, Nat.le_of_ble_eq_true rfl⟩ rfl rfl (Nat.le_of_ble_eq_true rfl) (mt_X6_finding _ _ _  hP) ?_
    rintro _ t11 ⟨r11, rfl, hP⟩
    show eX6_ways 14 [.ref (0), .int (p0)] [.int (r11)] t11 _
    refine E_i2l dX6_ways_14 ?_
    exact E_lret dX6_ways_15 rfl ⟨_, rfl, hP⟩
theorem dX6_first_0 : decode cX6_first 0 = .ok (.aload_n 0, 1) := by decide +kernel
theorem dX6_first_1 : decode cX6_first 1 = .ok (.iload_n 1, 1) := by decide +kernel
theorem dX6_first_2 : decode cX6_first 2 = .ok (.invokevirtual 169, 3) := by decide +kernel
theorem dX6_first_5 : decode cX6_first 5 = .ok (.ifCond .ne 10, 3) := by decide +kernel
theorem dX6_first_8 : decode cX6_first 8 = .ok (.aload_n 0, 1) := by decide +kernel
theorem dX6_first_9 : decode cX6_first 9 = .ok (.ldc 64, 2) := by decide +kernel
theorem dX6_first_11 : decode cX6_first 11 = .ok (.invokevirtual 65, 3) := by decide +kernel
theorem dX6_first_14 : decode cX6_first 14 = .ok (.ireturn, 1) := by decide +kernel
theorem dX6_first_15 : decode cX6_first 15 = .ok (.aload_n 0, 1) := by decide +kernel
theorem dX6_first_16 : decode cX6_first 16 = .ok (.getfield 25, 3) := by decide +kernel
theorem dX6_first_19 : decode cX6_first 19 = .ok (.aload_n 0, 1) := by decide +kernel
theorem dX6_first_20 : decode cX6_first 20 = .ok (.getfield 12, 3) := by decide +kernel
theorem dX6_first_23 : decode cX6_first 23 = .ok (.invokevirtual 152, 3) := by decide +kernel
theorem dX6_first_26 : decode cX6_first 26 = .ok (.aload_n 0, 1) := by decide +kernel
theorem dX6_first_27 : decode cX6_first 27 = .ok (.getfield 32, 3) := by decide +kernel
theorem dX6_first_30 : decode cX6_first 30 = .ok (.aload_n 0, 1) := by decide +kernel
theorem dX6_first_31 : decode cX6_first 31 = .ok (.getfield 25, 3) := by decide +kernel
theorem dX6_first_34 : decode cX6_first 34 = .ok (.iload_n 1, 1) := by decide +kernel
theorem dX6_first_35 : decode cX6_first 35 = .ok (.invokevirtual 188, 3) := by decide +kernel
theorem dX6_first_38 : decode cX6_first 38 = .ok (.iload_n 1, 1) := by decide +kernel
theorem dX6_first_39 : decode cX6_first 39 = .ok (.aload_n 0, 1) := by decide +kernel
theorem dX6_first_40 : decode cX6_first 40 = .ok (.getfield 25, 3) := by decide +kernel
theorem dX6_first_43 : decode cX6_first 43 = .ok (.getfield 156, 3) := by decide +kernel
theorem dX6_first_46 : decode cX6_first 46 = .ok (.if_icmp .ne 7, 3) := by decide +kernel
theorem dX6_first_49 : decode cX6_first 49 = .ok (.iconst (-1), 1) := by decide +kernel
theorem dX6_first_50 : decode cX6_first 50 = .ok (.goto 21, 3) := by decide +kernel
theorem dX6_first_53 : decode cX6_first 53 = .ok (.aload_n 0, 1) := by decide +kernel
theorem dX6_first_54 : decode cX6_first 54 = .ok (.getfield 32, 3) := by decide +kernel
theorem dX6_first_57 : decode cX6_first 57 = .ok (.aload_n 0, 1) := by decide +kernel
theorem dX6_first_58 : decode cX6_first 58 = .ok (.getfield 25, 3) := by decide +kernel
theorem dX6_first_61 : decode cX6_first 61 = .ok (.aload_n 0, 1) := by decide +kernel
theorem dX6_first_62 : decode cX6_first 62 = .ok (.getfield 25, 3) := by decide +kernel
theorem dX6_first_65 : decode cX6_first 65 = .ok (.getfield 156, 3) := by decide +kernel
theorem dX6_first_68 : decode cX6_first 68 = .ok (.invokevirtual 192, 3) := by decide +kernel
theorem dX6_first_71 : decode cX6_first 71 = .ok (.istore_n 2, 1) := by decide +kernel
theorem dX6_first_72 : decode cX6_first 72 = .ok (.iload_n 2, 1) := by decide +kernel
theorem dX6_first_73 : decode cX6_first 73 = .ok (.ifCond .ge 12, 3) := by decide +kernel
theorem dX6_first_76 : decode cX6_first 76 = .ok (.aload_n 0, 1) := by decide +kernel
theorem dX6_first_77 : decode cX6_first 77 = .ok (.ldc 196, 2) := by decide +kernel
theorem dX6_first_79 : decode cX6_first 79 = .ok (.invokevirtual 65, 3) := by decide +kernel
theorem dX6_first_82 : decode cX6_first 82 = .ok (.goto 4, 3) := by decide +kernel
theorem dX6_first_85 : decode cX6_first 85 = .ok (.iload_n 2, 1) := by decide +kernel
theorem dX6_first_86 : decode cX6_first 86 = .ok (.ireturn, 1) := by decide +kernel
def rmX6_first : Room := { frames := 5, cells := 0, slots := 0, locals := 119 }
abbrev eX6_first := Ev cX6_first 3 (some .int) RX6 rmX6_first
set_option maxRecDepth 20000 in
theorem mt_X6_first (p0 : Int32) (σ : St) (Q : Int32 → St → Prop)  (hP : P_X6_first p0 σ Q) : Mt yX6_first cX6_first 3 (some .int) rmX6_first [.ref (0), .int (p0)] σ (qI Q) := by
  refine Mt.of (k := 1) (ls := [.ref (0), .int (p0), un]) (by decide +kernel) rfl (Nat.le_of_ble_eq_true rfl) ?_
  show eX6_first 0 [.ref (0), .int (p0), un] [] σ _
  unfold P_X6_first at hP
  refine E_aload_n dX6_first_0 rfl ?_
  refine E_iload_n dX6_first_1 rfl ?_
  refine E_callV (As := [.int (p0)]) (rest := []) dX6_first_2 cl_RX6_169 tw_360 (show kd 0 = 6 by decide) (by decide) rfl tw_361 ⟨rfl, rfl, Nat.le_of_ble_eq_true rfl, Nat.le_of_ble_eq_true rfl⟩ rfl rfl (Nat.le_of_ble_eq_true rfl) (mt_X6_isStand _ _ _  hP) ?_
  intro r0 s0 hq0; obtain ⟨r2, h0, hs0, hP⟩ := hq0; subst h0; rw [hs0]
  show eX6_first 5 [.ref (0), .int (p0), un] [.int (bI r2)] σ _
  refine E_ifz_ne 15 dX6_first_5 (by decide) (fun hc => ?_) (fun hc => ?_)
  · replace hP := hP.1 hc
    refine E_aload_n dX6_first_15 rfl ?_
    refine E_getR (j := 3) dX6_first_16 (show kd 0 = 6 by decide) (by decide) rfl fd_RX6_25 (by decide) ?_
    refine E_aload_n dX6_first_19 rfl ?_
    refine E_getR (j := 0) dX6_first_20 (show kd 0 = 6 by decide) (by decide) rfl fd_RX6_12 (by decide) ?_
    refine E_callV (As := [.ref (1)]) (rest := []) dX6_first_23 cl_RX6_152 tw_228 (ar_6_19 (show kd 0 = 6 by decide)).1 (by decide) rfl tw_229 ⟨rfl, rfl, Nat.le_of_ble_eq_true rfl, Nat.le_of_ble_eq_true rfl⟩ rfl rfl (Nat.le_of_ble_eq_true rfl) (mt_X3_measure _ _ _ _ (ar_6_19 (show kd 0 = 6 by decide)).1 (ar_6_1 (show kd 0 = 6 by decide)).1 hP) ?_
    rintro _ t23 ⟨rfl, hP⟩
    show eX6_first 26 [.ref (0), .int (p0), un] [] t23 _
    refine E_aload_n dX6_first_26 rfl ?_
    refine E_getR (j := 4) dX6_first_27 (show kd 0 = 6 by decide) (by decide) rfl fd_RX6_32 (by decide) ?_
    refine E_aload_n dX6_first_30 rfl ?_
    refine E_getR (j := 3) dX6_first_31 (show kd 0 = 6 by decide) (by decide) rfl fd_RX6_25 (by decide) ?_
    refine E_iload_n dX6_first_34 rfl ?_
    refine E_callV (As := [.ref (19), .int (p0)]) (rest := []) dX6_first_35 cl_RX6_188 tw_370 (ar_6_23 (show kd 0 = 6 by decide)).1 (by decide) rfl tw_371 ⟨rfl, rfl, Nat.le_of_ble_eq_true rfl, Nat.le_of_ble_eq_true rfl⟩ rfl rfl (Nat.le_of_ble_eq_true rfl) (mt_X1_lead _ _ _ _ (ar_6_19 (show kd 0 = 6 by decide)).1 hP) ?_
    rintro _ t35 ⟨rfl, hP⟩
    show eX6_first 38 [.ref (0), .int (p0), un] [] t35 _
    refine E_iload_n dX6_first_38 rfl ?_
    refine E_aload_n dX6_first_39 rfl ?_
    refine E_getR (j := 3) dX6_first_40 (show kd 0 = 6 by decide) (by decide) rfl fd_RX6_25 (by decide) ?_
    refine E_getI (j := 3) dX6_first_43 (ar_6_19 (show kd 0 = 6 by decide)).1 (by decide) rfl fd_RX6_156 ?_
    refine E_icmp_ne 53 dX6_first_46 (by decide) (fun hc => ?_) (fun hc => ?_)
    · replace hP := hP.1 hc
      refine E_aload_n dX6_first_53 rfl ?_
      refine E_getR (j := 4) dX6_first_54 (show kd 0 = 6 by decide) (by decide) rfl fd_RX6_32 (by decide) ?_
      refine E_aload_n dX6_first_57 rfl ?_
      refine E_getR (j := 3) dX6_first_58 (show kd 0 = 6 by decide) (by decide) rfl fd_RX6_25 (by decide) ?_
      refine E_aload_n dX6_first_61 rfl ?_
      refine E_getR (j := 3) dX6_first_62 (show kd 0 = 6 by decide) (by decide) rfl fd_RX6_25 (by decide) ?_
      refine E_getI (j := 3) dX6_first_65 (ar_6_19 (show kd 0 = 6 by decide)).1 (by decide) rfl fd_RX6_156 ?_
      refine E_callV (As := [.ref (19), .int (gI t35 19 3)]) (rest := []) dX6_first_68 cl_RX6_192 tw_110 (ar_6_23 (show kd 0 = 6 by decide)).1 (by decide) rfl tw_111 ⟨rfl, rfl, Nat.le_of_ble_eq_true rfl, Nat.le_of_ble_eq_true rfl⟩ rfl rfl (Nat.le_of_ble_eq_true rfl) (mt_X1_leadFrom _ _ _ _ (ar_6_19 (show kd 0 = 6 by decide)).1 hP) ?_
      intro r0 s0 hq0; obtain ⟨r68, h0, hs0, hP⟩ := hq0; subst h0; rw [hs0]
      show eX6_first 71 [.ref (0), .int (p0), un] [.int (r68)] t35 _
      refine E_istore_n (ls' := [.ref (0), .int (p0), .int (r68)]) dX6_first_71 (by decide) rfl ?_
      refine E_iload_n dX6_first_72 rfl ?_
      refine E_if_ge 85 dX6_first_73 (by decide) (fun hc => ?_) (fun hc => ?_)
      · replace hP := hP.1 hc
        refine E_iload_n dX6_first_85 rfl ?_
        exact E_iret dX6_first_86 rfl ⟨_, rfl, hP⟩
      · replace hP := hP.2 hc
        refine E_aload_n dX6_first_76 rfl ?_
        refine E_ldc (v := (-1000000004)) dX6_first_77 tw_366 ?_
        refine E_callV (As := [.int ((-1000000004))]) (rest := []) dX6_first_79 cl_RX6_65 tw_279 (show kd 0 = 6 by decide) (by decide) rfl tw_280 ⟨rfl, rfl, Nat.le_of_ble_eq_true rfl, Nat.le_of_ble_eq_true rfl⟩ rfl rfl (Nat.le_of_ble_eq_true rfl) (mt_X6_finding _ _ _  hP) ?_
        rintro _ t79 ⟨r79, rfl, hP⟩
        show eX6_first 82 [.ref (0), .int (p0), .int (r68)] [.int (r79)] t79 _
        refine E_goto 86 dX6_first_82 (by decide) ?_
        exact E_iret dX6_first_86 rfl ⟨_, rfl, hP⟩
    · replace hP := hP.2 hc
      refine E_iconst (v := (-1)) dX6_first_49 (by decide) ?_
      refine E_goto 71 dX6_first_50 (by decide) ?_
      refine E_istore_n (ls' := [.ref (0), .int (p0), .int ((-1))]) dX6_first_71 (by decide) rfl ?_
      refine E_iload_n dX6_first_72 rfl ?_
      refine E_if_ge 85 dX6_first_73 (by decide) (fun hc => absurd hc (by decide)) (fun _ => ?_)
      refine E_aload_n dX6_first_76 rfl ?_
      refine E_ldc (v := (-1000000004)) dX6_first_77 tw_366 ?_
      refine E_callV (As := [.int ((-1000000004))]) (rest := []) dX6_first_79 cl_RX6_65 tw_279 (show kd 0 = 6 by decide) (by decide) rfl tw_280 ⟨rfl, rfl, Nat.le_of_ble_eq_true rfl, Nat.le_of_ble_eq_true rfl⟩ rfl rfl (Nat.le_of_ble_eq_true rfl) (mt_X6_finding _ _ _  hP) ?_
      rintro _ t79 ⟨r79, rfl, hP⟩
      show eX6_first 82 [.ref (0), .int (p0), .int ((-1))] [.int (r79)] t79 _
      refine E_goto 86 dX6_first_82 (by decide) ?_
      exact E_iret dX6_first_86 rfl ⟨_, rfl, hP⟩
  · replace hP := hP.2 hc
    refine E_aload_n dX6_first_8 rfl ?_
    refine E_ldc (v := (-1000000001)) dX6_first_9 tw_274 ?_
    refine E_callV (As := [.int ((-1000000001))]) (rest := []) dX6_first_11 cl_RX6_65 tw_279 (show kd 0 = 6 by decide) (by decide) rfl tw_280 ⟨rfl, rfl, Nat.le_of_ble_eq_true rfl, Nat.le_of_ble_eq_true rfl⟩ rfl rfl (Nat.le_of_ble_eq_true rfl) (mt_X6_finding _ _ _  hP) ?_
    rintro _ t11 ⟨r11, rfl, hP⟩
    show eX6_first 14 [.ref (0), .int (p0), un] [.int (r11)] t11 _
    exact E_iret dX6_first_14 rfl ⟨_, rfl, hP⟩
