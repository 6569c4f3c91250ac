theorem dX7_wantNumber_0 : decode cX7_wantNumber 0 = .ok (.aload_n 0, 1) := by decide +kernel
theorem dX7_wantNumber_1 : decode cX7_wantNumber 1 = .ok (.getfield 215, 3) := by decide +kernel
theorem dX7_wantNumber_4 : decode cX7_wantNumber 4 = .ok (.istore_n 3, 1) := by decide +kernel
theorem dX7_wantNumber_5 : decode cX7_wantNumber 5 = .ok (.aload_n 0, 1) := by decide +kernel
theorem dX7_wantNumber_6 : decode cX7_wantNumber 6 = .ok (.aload_n 0, 1) := by decide +kernel
theorem dX7_wantNumber_7 : decode cX7_wantNumber 7 = .ok (.getfield 240, 3) := by decide +kernel
theorem dX7_wantNumber_10 : decode cX7_wantNumber 10 = .ok (.ifCond .eq 24, 3) := by decide +kernel
theorem dX7_wantNumber_13 : decode cX7_wantNumber 13 = .ok (.aload_n 0, 1) := by decide +kernel
theorem dX7_wantNumber_14 : decode cX7_wantNumber 14 = .ok (.getfield 208, 3) := by decide +kernel
theorem dX7_wantNumber_17 : decode cX7_wantNumber 17 = .ok (.iconst 2, 1) := by decide +kernel
theorem dX7_wantNumber_18 : decode cX7_wantNumber 18 = .ok (.if_icmp .ne 16, 3) := by decide +kernel
theorem dX7_wantNumber_21 : decode cX7_wantNumber 21 = .ok (.iload_n 3, 1) := by decide +kernel
theorem dX7_wantNumber_22 : decode cX7_wantNumber 22 = .ok (.iload_n 1, 1) := by decide +kernel
theorem dX7_wantNumber_23 : decode cX7_wantNumber 23 = .ok (.iload_n 2, 1) := by decide +kernel
theorem dX7_wantNumber_24 : decode cX7_wantNumber 24 = .ok (.invokestatic 58, 3) := by decide +kernel
theorem dX7_wantNumber_27 : decode cX7_wantNumber 27 = .ok (.ifCond .eq 7, 3) := by decide +kernel
theorem dX7_wantNumber_30 : decode cX7_wantNumber 30 = .ok (.iconst 1, 1) := by decide +kernel
theorem dX7_wantNumber_31 : decode cX7_wantNumber 31 = .ok (.goto 4, 3) := by decide +kernel
theorem dX7_wantNumber_34 : decode cX7_wantNumber 34 = .ok (.iconst 0, 1) := by decide +kernel
theorem dX7_wantNumber_35 : decode cX7_wantNumber 35 = .ok (.putfield 240, 3) := by decide +kernel
theorem dX7_wantNumber_38 : decode cX7_wantNumber 38 = .ok (.aload_n 0, 1) := by decide +kernel
theorem dX7_wantNumber_39 : decode cX7_wantNumber 39 = .ok (.getfield 240, 3) := by decide +kernel
theorem dX7_wantNumber_42 : decode cX7_wantNumber 42 = .ok (.ifCond .eq 7, 3) := by decide +kernel
theorem dX7_wantNumber_45 : decode cX7_wantNumber 45 = .ok (.aload_n 0, 1) := by decide +kernel
theorem dX7_wantNumber_46 : decode cX7_wantNumber 46 = .ok (.invokevirtual 244, 3) := by decide +kernel
theorem dX7_wantNumber_49 : decode cX7_wantNumber 49 = .ok (.iload_n 3, 1) := by decide +kernel
theorem dX7_wantNumber_50 : decode cX7_wantNumber 50 = .ok (.ireturn, 1) := by decide +kernel
def rmX7_wantNumber : Room := { frames := 3, cells := 0, slots := 0, locals := 63 }
abbrev eX7_wantNumber := Ev cX7_wantNumber 4 (some .int) RX7 rmX7_wantNumber
set_option maxRecDepth 20000 in
theorem mt_X7_wantNumber (p0 : Int32) (p1 : Int32) (σ : St) (Q : Int32 → St → Prop)  (hP : P_X7_wantNumber p0 p1 σ Q) : Mt yX7_wantNumber cX7_wantNumber 4 (some .int) rmX7_wantNumber [.ref (49), .int (p0), .int (p1)] σ (qI Q) := by
  refine Mt.of (k := 1) (ls := [.ref (49), .int (p0), .int (p1), un]) (by decide +kernel) rfl (Nat.le_of_ble_eq_true rfl) ?_
  show eX7_wantNumber 0 [.ref (49), .int (p0), .int (p1), un] [] σ _
  unfold P_X7_wantNumber at hP
  refine E_aload_n dX7_wantNumber_0 rfl ?_
  refine E_getI (j := 14) dX7_wantNumber_1 (show kd 49 = 7 by decide) (by decide) rfl fd_RX7_215 ?_
  refine E_istore_n (ls' := [.ref (49), .int (p0), .int (p1), .int (gI σ 49 14)]) dX7_wantNumber_4 (by decide) rfl ?_
  refine E_aload_n dX7_wantNumber_5 rfl ?_
  refine E_aload_n dX7_wantNumber_6 rfl ?_
  refine E_getZ (j := 15) dX7_wantNumber_7 (show kd 49 = 7 by decide) (by decide) rfl fd_RX7_240 ?_
  refine E_if_eq 34 dX7_wantNumber_10 (by decide) (fun hc => ?_) (fun hc => ?_)
  · replace hP := hP.1 hc
    refine E_iconst (v := 0) dX7_wantNumber_34 (by decide) ?_
    refine E_putZ (j := 15) dX7_wantNumber_35 (show kd 49 = 7 by decide) (by decide) rfl fd_RX7_240 fp_7_15 (Or.inl rfl) ?_
    refine E_nm (fun s35 hs35 => ?_)
    replace hP := hP s35 hs35
    refine E_aload_n dX7_wantNumber_38 rfl ?_
    refine E_getZ (j := 15) dX7_wantNumber_39 (show kd 49 = 7 by decide) (by decide) rfl fd_RX7_240 ?_
    refine E_if_eq 49 dX7_wantNumber_42 (by decide) (fun hc => ?_) (fun hc => ?_)
    · replace hP := hP.1 hc
      refine E_iload_n dX7_wantNumber_49 rfl ?_
      exact E_iret dX7_wantNumber_50 rfl ⟨_, rfl, hP⟩
    · replace hP := hP.2 hc
      refine E_aload_n dX7_wantNumber_45 rfl ?_
      refine E_callV (As := []) (rest := []) dX7_wantNumber_46 cl_RX7_244 tw_648 (show kd 49 = 7 by decide) (by decide) rfl tw_649 ⟨rfl, rfl, Nat.le_of_ble_eq_true rfl, Nat.le_of_ble_eq_true rfl⟩ rfl rfl (Nat.le_of_ble_eq_true rfl) (mt_X7_advance  _ _  hP) ?_
      rintro _ t46 ⟨rfl, hP⟩
      show eX7_wantNumber 49 [.ref (49), .int (p0), .int (p1), .int (gI σ 49 14)] [] t46 _
      refine E_iload_n dX7_wantNumber_49 rfl ?_
      exact E_iret dX7_wantNumber_50 rfl ⟨_, rfl, hP⟩
  · replace hP := hP.2 hc
    refine E_aload_n dX7_wantNumber_13 rfl ?_
    refine E_getI (j := 10) dX7_wantNumber_14 (show kd 49 = 7 by decide) (by decide) rfl fd_RX7_208 ?_
    refine E_iconst (v := 2) dX7_wantNumber_17 (by decide) ?_
    refine E_icmp_ne 34 dX7_wantNumber_18 (by decide) (fun hc => ?_) (fun hc => ?_)
    · replace hP := hP.1 hc
      refine E_iconst (v := 0) dX7_wantNumber_34 (by decide) ?_
      refine E_putZ (j := 15) dX7_wantNumber_35 (show kd 49 = 7 by decide) (by decide) rfl fd_RX7_240 fp_7_15 (Or.inl rfl) ?_
      refine E_nm (fun s35 hs35 => ?_)
      replace hP := hP s35 hs35
      refine E_aload_n dX7_wantNumber_38 rfl ?_
      refine E_getZ (j := 15) dX7_wantNumber_39 (show kd 49 = 7 by decide) (by decide) rfl fd_RX7_240 ?_
      refine E_if_eq 49 dX7_wantNumber_42 (by decide) (fun hc => ?_) (fun hc => ?_)
      · replace hP := hP.1 hc
        refine E_iload_n dX7_wantNumber_49 rfl ?_
        exact E_iret dX7_wantNumber_50 rfl ⟨_, rfl, hP⟩
      · replace hP := hP.2 hc
        refine E_aload_n dX7_wantNumber_45 rfl ?_
        refine E_callV (As := []) (rest := []) dX7_wantNumber_46 cl_RX7_244 tw_648 (show kd 49 = 7 by decide) (by decide) rfl tw_649 ⟨rfl, rfl, Nat.le_of_ble_eq_true rfl, Nat.le_of_ble_eq_true rfl⟩ rfl rfl (Nat.le_of_ble_eq_true rfl) (mt_X7_advance  _ _  hP) ?_
        rintro _ t46 ⟨rfl, hP⟩
        show eX7_wantNumber 49 [.ref (49), .int (p0), .int (p1), .int (gI σ 49 14)] [] t46 _
        refine E_iload_n dX7_wantNumber_49 rfl ?_
        exact E_iret dX7_wantNumber_50 rfl ⟨_, rfl, hP⟩
    · replace hP := hP.2 hc
      refine E_iload_n dX7_wantNumber_21 rfl ?_
      refine E_iload_n dX7_wantNumber_22 rfl ?_
      refine E_iload_n dX7_wantNumber_23 rfl ?_
      refine E_callS (As := [.int (gI σ 49 14), .int (p0), .int (p1)]) (rest := [.ref (49)]) dX7_wantNumber_24 cl_RX7_58 tw_456 ⟨rfl, rfl, Nat.le_of_ble_eq_true rfl, Nat.le_of_ble_eq_true rfl⟩ rfl rfl (Nat.le_of_ble_eq_true rfl) (mt_X7_in _ _ _ _ _  hP) ?_
      intro r0 s0 hq0; obtain ⟨r24, h0, hs0, hP⟩ := hq0; subst h0; rw [hs0]
      show eX7_wantNumber 27 [.ref (49), .int (p0), .int (p1), .int (gI σ 49 14)] [.int (bI r24), .ref (49)] σ _
      refine E_ifz_eq 34 dX7_wantNumber_27 (by decide) (fun hc => ?_) (fun hc => ?_)
      · replace hP := hP.1 hc
        refine E_iconst (v := 0) dX7_wantNumber_34 (by decide) ?_
        refine E_putZ (j := 15) dX7_wantNumber_35 (show kd 49 = 7 by decide) (by decide) rfl fd_RX7_240 fp_7_15 (Or.inl rfl) ?_
        refine E_nm (fun s35 hs35 => ?_)
        replace hP := hP s35 hs35
        refine E_aload_n dX7_wantNumber_38 rfl ?_
        refine E_getZ (j := 15) dX7_wantNumber_39 (show kd 49 = 7 by decide) (by decide) rfl fd_RX7_240 ?_
        refine E_if_eq 49 dX7_wantNumber_42 (by decide) (fun hc => ?_) (fun hc => ?_)
        · replace hP := hP.1 hc
          refine E_iload_n dX7_wantNumber_49 rfl ?_
          exact E_iret dX7_wantNumber_50 rfl ⟨_, rfl, hP⟩
        · replace hP := hP.2 hc
          refine E_aload_n dX7_wantNumber_45 rfl ?_
          refine E_callV (As := []) (rest := []) dX7_wantNumber_46 cl_RX7_244 tw_648 (show kd 49 = 7 by decide) (by decide) rfl tw_649 ⟨rfl, rfl, Nat.le_of_ble_eq_true rfl, Nat.le_of_ble_eq_true rfl⟩ rfl rfl (Nat.le_of_ble_eq_true rfl) (mt_X7_advance  _ _  hP) ?_
          rintro _ t46 ⟨rfl, hP⟩
          show eX7_wantNumber 49 [.ref (49), .int (p0), .int (p1), .int (gI σ 49 14)] [] t46 _
          refine E_iload_n dX7_wantNumber_49 rfl ?_
          exact E_iret dX7_wantNumber_50 rfl ⟨_, rfl, hP⟩
      · replace hP := hP.2 hc
        refine E_iconst (v := 1) dX7_wantNumber_30 (by decide) ?_
        refine E_goto 35 dX7_wantNumber_31 (by decide) ?_
        refine E_putZ (j := 15) dX7_wantNumber_35 (show kd 49 = 7 by decide) (by decide) rfl fd_RX7_240 fp_7_15 (Or.inr rfl) ?_
        refine E_nm (fun s35 hs35 => ?_)
        replace hP := hP s35 hs35
        refine E_aload_n dX7_wantNumber_38 rfl ?_
        refine E_getZ (j := 15) dX7_wantNumber_39 (show kd 49 = 7 by decide) (by decide) rfl fd_RX7_240 ?_
        refine E_if_eq 49 dX7_wantNumber_42 (by decide) (fun hc => ?_) (fun hc => ?_)
        · replace hP := hP.1 hc
          refine E_iload_n dX7_wantNumber_49 rfl ?_
          exact E_iret dX7_wantNumber_50 rfl ⟨_, rfl, hP⟩
        · replace hP := hP.2 hc
          refine E_aload_n dX7_wantNumber_45 rfl ?_
          refine E_callV (As := []) (rest := []) dX7_wantNumber_46 cl_RX7_244 tw_648 (show kd 49 = 7 by decide) (by decide) rfl tw_649 ⟨rfl, rfl, Nat.le_of_ble_eq_true rfl, Nat.le_of_ble_eq_true rfl⟩ rfl rfl (Nat.le_of_ble_eq_true rfl) (mt_X7_advance  _ _  hP) ?_
          rintro _ t46 ⟨rfl, hP⟩
          show eX7_wantNumber 49 [.ref (49), .int (p0), .int (p1), .int (gI σ 49 14)] [] t46 _
          refine E_iload_n dX7_wantNumber_49 rfl ?_
          exact E_iret dX7_wantNumber_50 rfl ⟨_, rfl, hP⟩
theorem dX7_mayWant_0 : decode cX7_mayWant 0 = .ok (.aload_n 0, 1) := by decide +kernel
theorem dX7_mayWant_1 : decode cX7_mayWant 1 = .ok (.getfield 240, 3) := by decide +kernel
theorem dX7_mayWant_4 : decode cX7_mayWant 4 = .ok (.ifCond .eq 11, 3) := by decide +kernel
theorem dX7_mayWant_7 : decode cX7_mayWant 7 = .ok (.aload_n 0, 1) := by decide +kernel
theorem dX7_mayWant_8 : decode cX7_mayWant 8 = .ok (.lload_n 1, 1) := by decide +kernel
theorem dX7_mayWant_9 : decode cX7_mayWant 9 = .ok (.invokevirtual 226, 3) := by decide +kernel
theorem dX7_mayWant_12 : decode cX7_mayWant 12 = .ok (.ifCond .ne 6, 3) := by decide +kernel
theorem dX7_mayWant_15 : decode cX7_mayWant 15 = .ok (.iload 5, 2) := by decide +kernel
theorem dX7_mayWant_17 : decode cX7_mayWant 17 = .ok (.ireturn, 1) := by decide +kernel
theorem dX7_mayWant_18 : decode cX7_mayWant 18 = .ok (.aload_n 0, 1) := by decide +kernel
theorem dX7_mayWant_19 : decode cX7_mayWant 19 = .ok (.invokevirtual 244, 3) := by decide +kernel
theorem dX7_mayWant_22 : decode cX7_mayWant 22 = .ok (.aload_n 0, 1) := by decide +kernel
theorem dX7_mayWant_23 : decode cX7_mayWant 23 = .ok (.iload_n 3, 1) := by decide +kernel
theorem dX7_mayWant_24 : decode cX7_mayWant 24 = .ok (.iload 4, 2) := by decide +kernel
theorem dX7_mayWant_26 : decode cX7_mayWant 26 = .ok (.invokevirtual 247, 3) := by decide +kernel
theorem dX7_mayWant_29 : decode cX7_mayWant 29 = .ok (.ireturn, 1) := by decide +kernel
def rmX7_mayWant : Room := { frames := 4, cells := 0, slots := 0, locals := 86 }
abbrev eX7_mayWant := Ev cX7_mayWant 6 (some .int) RX7 rmX7_mayWant
set_option maxRecDepth 20000 in
theorem mt_X7_mayWant (p0 : Int64) (p1 : Int32) (p2 : Int32) (p3 : Int32) (σ : St) (Q : Int32 → St → Prop)  (hP : P_X7_mayWant p0 p1 p2 p3 σ Q) : Mt yX7_mayWant cX7_mayWant 6 (some .int) rmX7_mayWant [.ref (49), .long (p0), .int (p1), .int (p2), .int (p3)] σ (qI Q) := by
  refine Mt.of (k := 0) (ls := [.ref (49), .long (p0), un, .int (p1), .int (p2), .int (p3)]) (by decide +kernel) rfl (Nat.le_of_ble_eq_true rfl) ?_
  show eX7_mayWant 0 [.ref (49), .long (p0), un, .int (p1), .int (p2), .int (p3)] [] σ _
  unfold P_X7_mayWant at hP
  refine E_aload_n dX7_mayWant_0 rfl ?_
  refine E_getZ (j := 15) dX7_mayWant_1 (show kd 49 = 7 by decide) (by decide) rfl fd_RX7_240 ?_
  refine E_if_eq 15 dX7_mayWant_4 (by decide) (fun hc => ?_) (fun hc => ?_)
  · replace hP := hP.1 hc
    refine E_iload dX7_mayWant_15 rfl ?_
    exact E_iret dX7_mayWant_17 rfl ⟨_, rfl, hP⟩
  · replace hP := hP.2 hc
    refine E_aload_n dX7_mayWant_7 rfl ?_
    refine E_lload_n dX7_mayWant_8 rfl ?_
    refine E_callV (As := [.long (p0)]) (rest := []) dX7_mayWant_9 cl_RX7_226 tw_643 (show kd 49 = 7 by decide) (by decide) rfl tw_644 ⟨rfl, rfl, Nat.le_of_ble_eq_true rfl, Nat.le_of_ble_eq_true rfl⟩ rfl rfl (Nat.le_of_ble_eq_true rfl) (mt_X7_isWord _ _ _  hP) ?_
    intro r0 s0 hq0; obtain ⟨r9, h0, hs0, hP⟩ := hq0; subst h0; rw [hs0]
    show eX7_mayWant 12 [.ref (49), .long (p0), un, .int (p1), .int (p2), .int (p3)] [.int (bI r9)] σ _
    refine E_ifz_ne 18 dX7_mayWant_12 (by decide) (fun hc => ?_) (fun hc => ?_)
    · replace hP := hP.1 hc
      refine E_aload_n dX7_mayWant_18 rfl ?_
      refine E_callV (As := []) (rest := []) dX7_mayWant_19 cl_RX7_244 tw_648 (show kd 49 = 7 by decide) (by decide) rfl tw_649 ⟨rfl, rfl, Nat.le_of_ble_eq_true rfl, Nat.le_of_ble_eq_true rfl⟩ rfl rfl (Nat.le_of_ble_eq_true rfl) (mt_X7_advance  _ _  hP) ?_
      rintro _ t19 ⟨rfl, hP⟩
      show eX7_mayWant 22 [.ref (49), .long (p0), un, .int (p1), .int (p2), .int (p3)] [] t19 _
      refine E_aload_n dX7_mayWant_22 rfl ?_
      refine E_iload_n dX7_mayWant_23 rfl ?_
      refine E_iload dX7_mayWant_24 rfl ?_
      refine E_callV (As := [.int (p1), .int (p2)]) (rest := []) dX7_mayWant_26 cl_RX7_247 tw_652 (show kd 49 = 7 by decide) (by decide) rfl tw_653 ⟨rfl, rfl, Nat.le_of_ble_eq_true rfl, Nat.le_of_ble_eq_true rfl⟩ rfl rfl (Nat.le_of_ble_eq_true rfl) (mt_X7_wantNumber _ _ _ _  hP) ?_
      rintro _ t26 ⟨r26, rfl, hP⟩
      show eX7_mayWant 29 [.ref (49), .long (p0), un, .int (p1), .int (p2), .int (p3)] [.int (r26)] t26 _
      exact E_iret dX7_mayWant_29 rfl ⟨_, rfl, hP⟩
    · replace hP := hP.2 hc
      refine E_iload dX7_mayWant_15 rfl ?_
      exact E_iret dX7_mayWant_17 rfl ⟨_, rfl, hP⟩
theorem dX7_wantStone_0 : decode cX7_wantStone 0 = .ok (.aload_n 0, 1) := by decide +kernel
theorem dX7_wantStone_1 : decode cX7_wantStone 1 = .ok (.invokevirtual 244, 3) := by decide +kernel
theorem dX7_wantStone_4 : decode cX7_wantStone 4 = .ok (.aload_n 0, 1) := by decide +kernel
theorem dX7_wantStone_5 : decode cX7_wantStone 5 = .ok (.aload_n 0, 1) := by decide +kernel
theorem dX7_wantStone_6 : decode cX7_wantStone 6 = .ok (.getfield 208, 3) := by decide +kernel
theorem dX7_wantStone_9 : decode cX7_wantStone 9 = .ok (.iconst 2, 1) := by decide +kernel
theorem dX7_wantStone_10 : decode cX7_wantStone 10 = .ok (.if_icmp .ne 30, 3) := by decide +kernel
theorem dX7_wantStone_13 : decode cX7_wantStone 13 = .ok (.aload_n 0, 1) := by decide +kernel
theorem dX7_wantStone_14 : decode cX7_wantStone 14 = .ok (.getfield 215, 3) := by decide +kernel
theorem dX7_wantStone_17 : decode cX7_wantStone 17 = .ok (.invokestatic 62, 3) := by decide +kernel
theorem dX7_wantStone_20 : decode cX7_wantStone 20 = .ok (.ifCond .eq 20, 3) := by decide +kernel
theorem dX7_wantStone_23 : decode cX7_wantStone 23 = .ok (.aload_n 0, 1) := by decide +kernel
theorem dX7_wantStone_24 : decode cX7_wantStone 24 = .ok (.aload_n 0, 1) := by decide +kernel
theorem dX7_wantStone_25 : decode cX7_wantStone 25 = .ok (.getfield 215, 3) := by decide +kernel
theorem dX7_wantStone_28 : decode cX7_wantStone 28 = .ok (.invokevirtual 66, 3) := by decide +kernel
theorem dX7_wantStone_31 : decode cX7_wantStone 31 = .ok (.bipush 7, 2) := by decide +kernel
theorem dX7_wantStone_33 : decode cX7_wantStone 33 = .ok (.if_icmp .ge 7, 3) := by decide +kernel
theorem dX7_wantStone_36 : decode cX7_wantStone 36 = .ok (.iconst 1, 1) := by decide +kernel
theorem dX7_wantStone_37 : decode cX7_wantStone 37 = .ok (.goto 4, 3) := by decide +kernel
theorem dX7_wantStone_40 : decode cX7_wantStone 40 = .ok (.iconst 0, 1) := by decide +kernel
theorem dX7_wantStone_41 : decode cX7_wantStone 41 = .ok (.putfield 240, 3) := by decide +kernel
theorem dX7_wantStone_44 : decode cX7_wantStone 44 = .ok (.aload_n 0, 1) := by decide +kernel
theorem dX7_wantStone_45 : decode cX7_wantStone 45 = .ok (.iconst 0, 1) := by decide +kernel
theorem dX7_wantStone_46 : decode cX7_wantStone 46 = .ok (.iconst 3, 1) := by decide +kernel
theorem dX7_wantStone_47 : decode cX7_wantStone 47 = .ok (.invokevirtual 247, 3) := by decide +kernel
theorem dX7_wantStone_50 : decode cX7_wantStone 50 = .ok (.istore_n 2, 1) := by decide +kernel
theorem dX7_wantStone_51 : decode cX7_wantStone 51 = .ok (.aload_n 0, 1) := by decide +kernel
theorem dX7_wantStone_52 : decode cX7_wantStone 52 = .ok (.ldc2_w 250, 3) := by decide +kernel
theorem dX7_wantStone_55 : decode cX7_wantStone 55 = .ok (.iconst 1, 1) := by decide +kernel
theorem dX7_wantStone_56 : decode cX7_wantStone 56 = .ok (.bipush 30, 2) := by decide +kernel
theorem dX7_wantStone_58 : decode cX7_wantStone 58 = .ok (.iconst 5, 1) := by decide +kernel
theorem dX7_wantStone_59 : decode cX7_wantStone 59 = .ok (.invokevirtual 252, 3) := by decide +kernel
theorem dX7_wantStone_62 : decode cX7_wantStone 62 = .ok (.istore_n 3, 1) := by decide +kernel
theorem dX7_wantStone_63 : decode cX7_wantStone 63 = .ok (.aload_n 0, 1) := by decide +kernel
theorem dX7_wantStone_64 : decode cX7_wantStone 64 = .ok (.ldc2_w 256, 3) := by decide +kernel
theorem dX7_wantStone_67 : decode cX7_wantStone 67 = .ok (.iconst 0, 1) := by decide +kernel
theorem dX7_wantStone_68 : decode cX7_wantStone 68 = .ok (.sipush 999, 3) := by decide +kernel
theorem dX7_wantStone_71 : decode cX7_wantStone 71 = .ok (.bipush 10, 2) := by decide +kernel
theorem dX7_wantStone_73 : decode cX7_wantStone 73 = .ok (.invokevirtual 252, 3) := by decide +kernel
theorem dX7_wantStone_76 : decode cX7_wantStone 76 = .ok (.istore 4, 2) := by decide +kernel
theorem dX7_wantStone_78 : decode cX7_wantStone 78 = .ok (.aload_n 0, 1) := by decide +kernel
theorem dX7_wantStone_79 : decode cX7_wantStone 79 = .ok (.getfield 240, 3) := by decide +kernel
theorem dX7_wantStone_82 : decode cX7_wantStone 82 = .ok (.ifCond .eq 12, 3) := by decide +kernel
theorem dX7_wantStone_85 : decode cX7_wantStone 85 = .ok (.aload_n 0, 1) := by decide +kernel
theorem dX7_wantStone_86 : decode cX7_wantStone 86 = .ok (.iload_n 1, 1) := by decide +kernel
theorem dX7_wantStone_87 : decode cX7_wantStone 87 = .ok (.iload_n 2, 1) := by decide +kernel
theorem dX7_wantStone_88 : decode cX7_wantStone 88 = .ok (.iload_n 3, 1) := by decide +kernel
theorem dX7_wantStone_89 : decode cX7_wantStone 89 = .ok (.iload 4, 2) := by decide +kernel
theorem dX7_wantStone_91 : decode cX7_wantStone 91 = .ok (.invokevirtual 109, 3) := by decide +kernel
theorem dX7_wantStone_94 : decode cX7_wantStone 94 = .ok (.return_, 1) := by decide +kernel
def rmX7_wantStone : Room := { frames := 5, cells := 0, slots := 0, locals := 111 }
abbrev eX7_wantStone := Ev cX7_wantStone 5 none RX7 rmX7_wantStone
set_option maxRecDepth 20000 in
theorem mt_X7_wantStone (p0 : Int32) (σ : St) (Q : St → Prop)  (hP : P_X7_wantStone p0 σ Q) : Mt yX7_wantStone cX7_wantStone 5 none rmX7_wantStone [.ref (49), .int (p0)] σ (qV Q) := by
  refine Mt.of (k := 3) (ls := [.ref (49), .int (p0), un, un, un]) (by decide +kernel) rfl (Nat.le_of_ble_eq_true rfl) ?_
  show eX7_wantStone 0 [.ref (49), .int (p0), un, un, un] [] σ _
  unfold P_X7_wantStone at hP
  refine E_aload_n dX7_wantStone_0 rfl ?_
  refine E_callV (As := []) (rest := []) dX7_wantStone_1 cl_RX7_244 tw_648 (show kd 49 = 7 by decide) (by decide) rfl tw_649 ⟨rfl, rfl, Nat.le_of_ble_eq_true rfl, Nat.le_of_ble_eq_true rfl⟩ rfl rfl (Nat.le_of_ble_eq_true rfl) (mt_X7_advance  _ _  hP) ?_
  rintro _ t1 ⟨rfl, hP⟩
  show eX7_wantStone 4 [.ref (49), .int (p0), un, un, un] [] t1 _
  refine E_aload_n dX7_wantStone_4 rfl ?_
  refine E_aload_n dX7_wantStone_5 rfl ?_
  refine E_getI (j := 10) dX7_wantStone_6 (show kd 49 = 7 by decide) (by decide) rfl fd_RX7_208 ?_
  refine E_iconst (v := 2) dX7_wantStone_9 (by decide) ?_
  refine E_icmp_ne 40 dX7_wantStone_10 (by decide) (fun hc => ?_) (fun hc => ?_)
  · replace hP := hP.1 hc
    refine E_iconst (v := 0) dX7_wantStone_40 (by decide) ?_
    refine E_putZ (j := 15) dX7_wantStone_41 (show kd 49 = 7 by decide) (by decide) rfl fd_RX7_240 fp_7_15 (Or.inl rfl) ?_
    refine E_aload_n dX7_wantStone_44 rfl ?_
    refine E_iconst (v := 0) dX7_wantStone_45 (by decide) ?_
    refine E_iconst (v := 3) dX7_wantStone_46 (by decide) ?_
    refine E_callV (As := [.int (0), .int (3)]) (rest := []) dX7_wantStone_47 cl_RX7_247 tw_652 (show kd 49 = 7 by decide) (by decide) rfl tw_653 ⟨rfl, rfl, Nat.le_of_ble_eq_true rfl, Nat.le_of_ble_eq_true rfl⟩ rfl rfl (Nat.le_of_ble_eq_true rfl) (mt_X7_wantNumber _ _ _ _  hP) ?_
    rintro _ t47 ⟨r47, rfl, hP⟩
    show eX7_wantStone 50 [.ref (49), .int (p0), un, un, un] [.int (r47)] t47 _
    refine E_istore_n (ls' := [.ref (49), .int (p0), .int (r47), un, un]) dX7_wantStone_50 (by decide) rfl ?_
    refine E_aload_n dX7_wantStone_51 rfl ?_
    refine E_ldc2 (v := 164222) dX7_wantStone_52 tw_654 ?_
    refine E_iconst (v := 1) dX7_wantStone_55 (by decide) ?_
    refine E_bipush (v := 30) dX7_wantStone_56 (by decide) ?_
    refine E_iconst (v := 5) dX7_wantStone_58 (by decide) ?_
    refine E_callV (As := [.long (164222), .int (1), .int (30), .int (5)]) (rest := []) dX7_wantStone_59 cl_RX7_252 tw_658 (show kd 49 = 7 by decide) (by decide) rfl tw_659 ⟨rfl, rfl, Nat.le_of_ble_eq_true rfl, Nat.le_of_ble_eq_true rfl⟩ rfl rfl (Nat.le_of_ble_eq_true rfl) (mt_X7_mayWant _ _ _ _ _ _  hP) ?_
    rintro _ t59 ⟨r59, rfl, hP⟩
    show eX7_wantStone 62 [.ref (49), .int (p0), .int (r47), un, un] [.int (r59)] t59 _
    refine E_istore_n (ls' := [.ref (49), .int (p0), .int (r47), .int (r59), un]) dX7_wantStone_62 (by decide) rfl ?_
    refine E_aload_n dX7_wantStone_63 rfl ?_
    refine E_ldc2 (v := 8863997) dX7_wantStone_64 tw_655 ?_
    refine E_iconst (v := 0) dX7_wantStone_67 (by decide) ?_
    refine E_sipush (v := 999) dX7_wantStone_68 (by decide) ?_
    refine E_bipush (v := 10) dX7_wantStone_71 (by decide) ?_
    refine E_callV (As := [.long (8863997), .int (0), .int (999), .int (10)]) (rest := []) dX7_wantStone_73 cl_RX7_252 tw_658 (show kd 49 = 7 by decide) (by decide) rfl tw_659 ⟨rfl, rfl, Nat.le_of_ble_eq_true rfl, Nat.le_of_ble_eq_true rfl⟩ rfl rfl (Nat.le_of_ble_eq_true rfl) (mt_X7_mayWant _ _ _ _ _ _  hP) ?_
    rintro _ t73 ⟨r73, rfl, hP⟩
    show eX7_wantStone 76 [.ref (49), .int (p0), .int (r47), .int (r59), un] [.int (r73)] t73 _
    refine E_istore (ls' := [.ref (49), .int (p0), .int (r47), .int (r59), .int (r73)]) dX7_wantStone_76 (by decide) rfl ?_
    refine E_aload_n dX7_wantStone_78 rfl ?_
    refine E_getZ (j := 15) dX7_wantStone_79 (show kd 49 = 7 by decide) (by decide) rfl fd_RX7_240 ?_
    refine E_if_eq 94 dX7_wantStone_82 (by decide) (fun hc => ?_) (fun hc => ?_)
    · replace hP := hP.1 hc
      exact E_vret dX7_wantStone_94 rfl ⟨rfl, hP⟩
    · replace hP := hP.2 hc
      refine E_aload_n dX7_wantStone_85 rfl ?_
      refine E_iload_n dX7_wantStone_86 rfl ?_
      refine E_iload_n dX7_wantStone_87 rfl ?_
      refine E_iload_n dX7_wantStone_88 rfl ?_
      refine E_iload dX7_wantStone_89 rfl ?_
      refine E_callV (As := [.int (p0), .int (r47), .int (r59), .int (r73)]) (rest := []) dX7_wantStone_91 cl_RX7_109 tw_511 (show kd 49 = 7 by decide) (by decide) rfl tw_512 ⟨rfl, rfl, Nat.le_of_ble_eq_true rfl, Nat.le_of_ble_eq_true rfl⟩ rfl rfl (Nat.le_of_ble_eq_true rfl) (mt_X7_addStone _ _ _ _ _ _  hP) ?_
      rintro _ t91 ⟨rfl, hP⟩
      show eX7_wantStone 94 [.ref (49), .int (p0), .int (r47), .int (r59), .int (r73)] [] t91 _
      exact E_vret dX7_wantStone_94 rfl ⟨rfl, hP⟩
  · replace hP := hP.2 hc
    refine E_aload_n dX7_wantStone_13 rfl ?_
    refine E_getI (j := 14) dX7_wantStone_14 (show kd 49 = 7 by decide) (by decide) rfl fd_RX7_215 ?_
    refine E_callS (As := [.int (gI t1 49 14)]) (rest := [.ref (49)]) dX7_wantStone_17 cl_RX7_62 tw_464 ⟨rfl, rfl, Nat.le_of_ble_eq_true rfl, Nat.le_of_ble_eq_true rfl⟩ rfl rfl (Nat.le_of_ble_eq_true rfl) (mt_X7_isWall _ _ _  hP) ?_
    intro r0 s0 hq0; obtain ⟨r17, h0, hs0, hP⟩ := hq0; subst h0; rw [hs0]
    show eX7_wantStone 20 [.ref (49), .int (p0), un, un, un] [.int (bI r17), .ref (49)] t1 _
    refine E_ifz_eq 40 dX7_wantStone_20 (by decide) (fun hc => ?_) (fun hc => ?_)
    · replace hP := hP.1 hc
      refine E_iconst (v := 0) dX7_wantStone_40 (by decide) ?_
      refine E_putZ (j := 15) dX7_wantStone_41 (show kd 49 = 7 by decide) (by decide) rfl fd_RX7_240 fp_7_15 (Or.inl rfl) ?_
      refine E_aload_n dX7_wantStone_44 rfl ?_
      refine E_iconst (v := 0) dX7_wantStone_45 (by decide) ?_
      refine E_iconst (v := 3) dX7_wantStone_46 (by decide) ?_
      refine E_callV (As := [.int (0), .int (3)]) (rest := []) dX7_wantStone_47 cl_RX7_247 tw_652 (show kd 49 = 7 by decide) (by decide) rfl tw_653 ⟨rfl, rfl, Nat.le_of_ble_eq_true rfl, Nat.le_of_ble_eq_true rfl⟩ rfl rfl (Nat.le_of_ble_eq_true rfl) (mt_X7_wantNumber _ _ _ _  hP) ?_
      rintro _ t47 ⟨r47, rfl, hP⟩
      show eX7_wantStone 50 [.ref (49), .int (p0), un, un, un] [.int (r47)] t47 _
      refine E_istore_n (ls' := [.ref (49), .int (p0), .int (r47), un, un]) dX7_wantStone_50 (by decide) rfl ?_
      refine E_aload_n dX7_wantStone_51 rfl ?_
      refine E_ldc2 (v := 164222) dX7_wantStone_52 tw_654 ?_
      refine E_iconst (v := 1) dX7_wantStone_55 (by decide) ?_
      refine E_bipush (v := 30) dX7_wantStone_56 (by decide) ?_
      refine E_iconst (v := 5) dX7_wantStone_58 (by decide) ?_
      refine E_callV (As := [.long (164222), .int (1), .int (30), .int (5)]) (rest := []) dX7_wantStone_59 cl_RX7_252 tw_658 (show kd 49 = 7 by decide) (by decide) rfl tw_659 ⟨rfl, rfl, Nat.le_of_ble_eq_true rfl, Nat.le_of_ble_eq_true rfl⟩ rfl rfl (Nat.le_of_ble_eq_true rfl) (mt_X7_mayWant _ _ _ _ _ _  hP) ?_
      rintro _ t59 ⟨r59, rfl, hP⟩
      show eX7_wantStone 62 [.ref (49), .int (p0), .int (r47), un, un] [.int (r59)] t59 _
      refine E_istore_n (ls' := [.ref (49), .int (p0), .int (r47), .int (r59), un]) dX7_wantStone_62 (by decide) rfl ?_
      refine E_aload_n dX7_wantStone_63 rfl ?_
      refine E_ldc2 (v := 8863997) dX7_wantStone_64 tw_655 ?_
      refine E_iconst (v := 0) dX7_wantStone_67 (by decide) ?_
      refine E_sipush (v := 999) dX7_wantStone_68 (by decide) ?_
      refine E_bipush (v := 10) dX7_wantStone_71 (by decide) ?_
      refine E_callV (As := [.long (8863997), .int (0), .int (999), .int (10)]) (rest := []) dX7_wantStone_73 cl_RX7_252 tw_658 (show kd 49 = 7 by decide) (by decide) rfl tw_659 ⟨rfl, rfl, Nat.le_of_ble_eq_true rfl, Nat.le_of_ble_eq_true rfl⟩ rfl rfl (Nat.le_of_ble_eq_true rfl) (mt_X7_mayWant _ _ _ _ _ _  hP) ?_
      rintro _ t73 ⟨r73, rfl, hP⟩
      show eX7_wantStone 76 [.ref (49), .int (p0), .int (r47), .int (r59), un] [.int (r73)] t73 _
      refine E_istore (ls' := [.ref (49), .int (p0), .int (r47), .int (r59), .int (r73)]) dX7_wantStone_76 (by decide) rfl ?_
      refine E_aload_n dX7_wantStone_78 rfl ?_
      refine E_getZ (j := 15) dX7_wantStone_79 (show kd 49 = 7 by decide) (by decide) rfl fd_RX7_240 ?_
      refine E_if_eq 94 dX7_wantStone_82 (by decide) (fun hc => ?_) (fun hc => ?_)
      · replace hP := hP.1 hc
        exact E_vret dX7_wantStone_94 rfl ⟨rfl, hP⟩
      · replace hP := hP.2 hc
        refine E_aload_n dX7_wantStone_85 rfl ?_
        refine E_iload_n dX7_wantStone_86 rfl ?_
        refine E_iload_n dX7_wantStone_87 rfl ?_
        refine E_iload_n dX7_wantStone_88 rfl ?_
        refine E_iload dX7_wantStone_89 rfl ?_
        refine E_callV (As := [.int (p0), .int (r47), .int (r59), .int (r73)]) (rest := []) dX7_wantStone_91 cl_RX7_109 tw_511 (show kd 49 = 7 by decide) (by decide) rfl tw_512 ⟨rfl, rfl, Nat.le_of_ble_eq_true rfl, Nat.le_of_ble_eq_true rfl⟩ rfl rfl (Nat.le_of_ble_eq_true rfl) (mt_X7_addStone _ _ _ _ _ _  hP) ?_
        rintro _ t91 ⟨rfl, hP⟩
        show eX7_wantStone 94 [.ref (49), .int (p0), .int (r47), .int (r59), .int (r73)] [] t91 _
        exact E_vret dX7_wantStone_94 rfl ⟨rfl, hP⟩
    · replace hP := hP.2 hc
      refine E_aload_n dX7_wantStone_23 rfl ?_
      refine E_aload_n dX7_wantStone_24 rfl ?_
      refine E_getI (j := 14) dX7_wantStone_25 (show kd 49 = 7 by decide) (by decide) rfl fd_RX7_215 ?_
      refine E_callV (As := [.int (gI t1 49 14)]) (rest := [.ref (49)]) dX7_wantStone_28 cl_RX7_66 tw_460 (show kd 49 = 7 by decide) (by decide) rfl tw_461 ⟨rfl, rfl, Nat.le_of_ble_eq_true rfl, Nat.le_of_ble_eq_true rfl⟩ rfl rfl (Nat.le_of_ble_eq_true rfl) (mt_X7_many _ _ _  hP) ?_
      intro r0 s0 hq0; obtain ⟨r28, h0, hs0, hP⟩ := hq0; subst h0; rw [hs0]
      show eX7_wantStone 31 [.ref (49), .int (p0), un, un, un] [.int (r28), .ref (49)] t1 _
      refine E_bipush (v := 7) dX7_wantStone_31 (by decide) ?_
      refine E_icmp_ge 40 dX7_wantStone_33 (by decide) (fun hc => ?_) (fun hc => ?_)
      · replace hP := hP.1 hc
        refine E_iconst (v := 0) dX7_wantStone_40 (by decide) ?_
        refine E_putZ (j := 15) dX7_wantStone_41 (show kd 49 = 7 by decide) (by decide) rfl fd_RX7_240 fp_7_15 (Or.inl rfl) ?_
        refine E_aload_n dX7_wantStone_44 rfl ?_
        refine E_iconst (v := 0) dX7_wantStone_45 (by decide) ?_
        refine E_iconst (v := 3) dX7_wantStone_46 (by decide) ?_
        refine E_callV (As := [.int (0), .int (3)]) (rest := []) dX7_wantStone_47 cl_RX7_247 tw_652 (show kd 49 = 7 by decide) (by decide) rfl tw_653 ⟨rfl, rfl, Nat.le_of_ble_eq_true rfl, Nat.le_of_ble_eq_true rfl⟩ rfl rfl (Nat.le_of_ble_eq_true rfl) (mt_X7_wantNumber _ _ _ _  hP) ?_
        rintro _ t47 ⟨r47, rfl, hP⟩
        show eX7_wantStone 50 [.ref (49), .int (p0), un, un, un] [.int (r47)] t47 _
        refine E_istore_n (ls' := [.ref (49), .int (p0), .int (r47), un, un]) dX7_wantStone_50 (by decide) rfl ?_
        refine E_aload_n dX7_wantStone_51 rfl ?_
        refine E_ldc2 (v := 164222) dX7_wantStone_52 tw_654 ?_
        refine E_iconst (v := 1) dX7_wantStone_55 (by decide) ?_
        refine E_bipush (v := 30) dX7_wantStone_56 (by decide) ?_
        refine E_iconst (v := 5) dX7_wantStone_58 (by decide) ?_
        refine E_callV (As := [.long (164222), .int (1), .int (30), .int (5)]) (rest := []) dX7_wantStone_59 cl_RX7_252 tw_658 (show kd 49 = 7 by decide) (by decide) rfl tw_659 ⟨rfl, rfl, Nat.le_of_ble_eq_true rfl, Nat.le_of_ble_eq_true rfl⟩ rfl rfl (Nat.le_of_ble_eq_true rfl) (mt_X7_mayWant _ _ _ _ _ _  hP) ?_
        rintro _ t59 ⟨r59, rfl, hP⟩
        show eX7_wantStone 62 [.ref (49), .int (p0), .int (r47), un, un] [.int (r59)] t59 _
        refine E_istore_n (ls' := [.ref (49), .int (p0), .int (r47), .int (r59), un]) dX7_wantStone_62 (by decide) rfl ?_
        refine E_aload_n dX7_wantStone_63 rfl ?_
        refine E_ldc2 (v := 8863997) dX7_wantStone_64 tw_655 ?_
        refine E_iconst (v := 0) dX7_wantStone_67 (by decide) ?_
        refine E_sipush (v := 999) dX7_wantStone_68 (by decide) ?_
        refine E_bipush (v := 10) dX7_wantStone_71 (by decide) ?_
        refine E_callV (As := [.long (8863997), .int (0), .int (999), .int (10)]) (rest := []) dX7_wantStone_73 cl_RX7_252 tw_658 (show kd 49 = 7 by decide) (by decide) rfl tw_659 ⟨rfl, rfl, Nat.le_of_ble_eq_true rfl, Nat.le_of_ble_eq_true rfl⟩ rfl rfl (Nat.le_of_ble_eq_true rfl) (mt_X7_mayWant _ _ _ _ _ _  hP) ?_
        rintro _ t73 ⟨r73, rfl, hP⟩
        show eX7_wantStone 76 [.ref (49), .int (p0), .int (r47), .int (r59), un] [.int (r73)] t73 _
        refine E_istore (ls' := [.ref (49), .int (p0), .int (r47), .int (r59), .int (r73)]) dX7_wantStone_76 (by decide) rfl ?_
        refine E_aload_n dX7_wantStone_78 rfl ?_
        refine E_getZ (j := 15) dX7_wantStone_79 (show kd 49 = 7 by decide) (by decide) rfl fd_RX7_240 ?_
        refine E_if_eq 94 dX7_wantStone_82 (by decide) (fun hc => ?_) (fun hc => ?_)
        · replace hP := hP.1 hc
          exact E_vret dX7_wantStone_94 rfl ⟨rfl, hP⟩
        · replace hP := hP.2 hc
          refine E_aload_n dX7_wantStone_85 rfl ?_
          refine E_iload_n dX7_wantStone_86 rfl ?_
          refine E_iload_n dX7_wantStone_87 rfl ?_
          refine E_iload_n dX7_wantStone_88 rfl ?_
          refine E_iload dX7_wantStone_89 rfl ?_
          refine E_callV (As := [.int (p0), .int (r47), .int (r59), .int (r73)]) (rest := []) dX7_wantStone_91 cl_RX7_109 tw_511 (show kd 49 = 7 by decide) (by decide) rfl tw_512 ⟨rfl, rfl, Nat.le_of_ble_eq_true rfl, Nat.le_of_ble_eq_true rfl⟩ rfl rfl (Nat.le_of_ble_eq_true rfl) (mt_X7_addStone _ _ _ _ _ _  hP) ?_
          rintro _ t91 ⟨rfl, hP⟩
          show eX7_wantStone 94 [.ref (49), .int (p0), .int (r47), .int (r59), .int (r73)] [] t91 _
          exact E_vret dX7_wantStone_94 rfl ⟨rfl, hP⟩
      · replace hP := hP.2 hc
        refine E_iconst (v := 1) dX7_wantStone_36 (by decide) ?_
        refine E_goto 41 dX7_wantStone_37 (by decide) ?_
        refine E_putZ (j := 15) dX7_wantStone_41 (show kd 49 = 7 by decide) (by decide) rfl fd_RX7_240 fp_7_15 (Or.inr rfl) ?_
        refine E_aload_n dX7_wantStone_44 rfl ?_
        refine E_iconst (v := 0) dX7_wantStone_45 (by decide) ?_
        refine E_iconst (v := 3) dX7_wantStone_46 (by decide) ?_
        refine E_callV (As := [.int (0), .int (3)]) (rest := []) dX7_wantStone_47 cl_RX7_247 tw_652 (show kd 49 = 7 by decide) (by decide) rfl tw_653 ⟨rfl, rfl, Nat.le_of_ble_eq_true rfl, Nat.le_of_ble_eq_true rfl⟩ rfl rfl (Nat.le_of_ble_eq_true rfl) (mt_X7_wantNumber _ _ _ _  hP) ?_
        rintro _ t47 ⟨r47, rfl, hP⟩
        show eX7_wantStone 50 [.ref (49), .int (p0), un, un, un] [.int (r47)] t47 _
        refine E_istore_n (ls' := [.ref (49), .int (p0), .int (r47), un, un]) dX7_wantStone_50 (by decide) rfl ?_
        refine E_aload_n dX7_wantStone_51 rfl ?_
        refine E_ldc2 (v := 164222) dX7_wantStone_52 tw_654 ?_
        refine E_iconst (v := 1) dX7_wantStone_55 (by decide) ?_
        refine E_bipush (v := 30) dX7_wantStone_56 (by decide) ?_
        refine E_iconst (v := 5) dX7_wantStone_58 (by decide) ?_
        refine E_callV (As := [.long (164222), .int (1), .int (30), .int (5)]) (rest := []) dX7_wantStone_59 cl_RX7_252 tw_658 (show kd 49 = 7 by decide) (by decide) rfl tw_659 ⟨rfl, rfl, Nat.le_of_ble_eq_true rfl, Nat.le_of_ble_eq_true rfl⟩ rfl rfl (Nat.le_of_ble_eq_true rfl) (mt_X7_mayWant _ _ _ _ _ _  hP) ?_
        rintro _ t59 ⟨r59, rfl, hP⟩
        show eX7_wantStone 62 [.ref (49), .int (p0), .int (r47), un, un] [.int (r59)] t59 _
        refine E_istore_n (ls' := [.ref (49), .int (p0), .int (r47), .int (r59), un]) dX7_wantStone_62 (by decide) rfl ?_
        refine E_aload_n dX7_wantStone_63 rfl ?_
        refine E_ldc2 (v := 8863997) dX7_wantStone_64 tw_655 ?_
        refine E_iconst (v := 0) dX7_wantStone_67 (by decide) ?_
        refine E_sipush (v := 999) dX7_wantStone_68 (by decide) ?_
        refine E_bipush (v := 10) dX7_wantStone_71 (by decide) ?_
        refine E_callV (As := [.long (8863997), .int (0), .int (999), .int (10)]) (rest := []) dX7_wantStone_73 cl_RX7_252 tw_658 (show kd 49 = 7 by decide) (by decide) rfl tw_659 ⟨rfl, rfl, Nat.le_of_ble_eq_true rfl, Nat.le_of_ble_eq_true rfl⟩ rfl rfl (Nat.le_of_ble_eq_true rfl) (mt_X7_mayWant _ _ _ _ _ _  hP) ?_
        rintro _ t73 ⟨r73, rfl, hP⟩
        show eX7_wantStone 76 [.ref (49), .int (p0), .int (r47), .int (r59), un] [.int (r73)] t73 _
        refine E_istore (ls' := [.ref (49), .int (p0), .int (r47), .int (r59), .int (r73)]) dX7_wantStone_76 (by decide) rfl ?_
        refine E_aload_n dX7_wantStone_78 rfl ?_
        refine E_getZ (j := 15) dX7_wantStone_79 (show kd 49 = 7 by decide) (by decide) rfl fd_RX7_240 ?_
        refine E_if_eq 94 dX7_wantStone_82 (by decide) (fun hc => ?_) (fun hc => ?_)
        · replace hP := hP.1 hc
          exact E_vret dX7_wantStone_94 rfl ⟨rfl, hP⟩
        · replace hP := hP.2 hc
          refine E_aload_n dX7_wantStone_85 rfl ?_
          refine E_iload_n dX7_wantStone_86 rfl ?_
          refine E_iload_n dX7_wantStone_87 rfl ?_
          refine E_iload_n dX7_wantStone_88 rfl ?_
          refine E_iload dX7_wantStone_89 rfl ?_
          refine E_callV (As := [.int (p0), .int (r47), .int (r59), .int (r73)]) (rest := []) dX7_wantStone_91 cl_RX7_109 tw_511 (show kd 49 = 7 by decide) (by decide) rfl tw_512 ⟨rfl, rfl, Nat.le_of_ble_eq_true rfl, Nat.le_of_ble_eq_true rfl⟩ rfl rfl (Nat.le_of_ble_eq_true rfl) (mt_X7_addStone _ _ _ _ _ _  hP) ?_
          rintro _ t91 ⟨rfl, hP⟩
          show eX7_wantStone 94 [.ref (49), .int (p0), .int (r47), .int (r59), .int (r73)] [] t91 _
          exact E_vret dX7_wantStone_94 rfl ⟨rfl, hP⟩
theorem dX7_wantBeam_0 : decode cX7_wantBeam 0 = .ok (.aload_n 0, 1) := by decide +kernel
theorem dX7_wantBeam_1 : decode cX7_wantBeam 1 = .ok (.invokevirtual 244, 3) := by decide +kernel
theorem dX7_wantBeam_4 : decode cX7_wantBeam 4 = .ok (.aload_n 0, 1) := by decide +kernel
theorem dX7_wantBeam_5 : decode cX7_wantBeam 5 = .ok (.iconst 0, 1) := by decide +kernel
theorem dX7_wantBeam_6 : decode cX7_wantBeam 6 = .ok (.iconst 2, 1) := by decide +kernel
theorem dX7_wantBeam_7 : decode cX7_wantBeam 7 = .ok (.invokevirtual 247, 3) := by decide +kernel
theorem dX7_wantBeam_10 : decode cX7_wantBeam 10 = .ok (.istore_n 1, 1) := by decide +kernel
theorem dX7_wantBeam_11 : decode cX7_wantBeam 11 = .ok (.aload_n 0, 1) := by decide +kernel
theorem dX7_wantBeam_12 : decode cX7_wantBeam 12 = .ok (.getfield 240, 3) := by decide +kernel
theorem dX7_wantBeam_15 : decode cX7_wantBeam 15 = .ok (.ifCond .eq 17, 3) := by decide +kernel
theorem dX7_wantBeam_18 : decode cX7_wantBeam 18 = .ok (.aload_n 0, 1) := by decide +kernel
theorem dX7_wantBeam_19 : decode cX7_wantBeam 19 = .ok (.ldc2_w 258, 3) := by decide +kernel
theorem dX7_wantBeam_22 : decode cX7_wantBeam 22 = .ok (.invokevirtual 226, 3) := by decide +kernel
theorem dX7_wantBeam_25 : decode cX7_wantBeam 25 = .ok (.ifCond .eq 7, 3) := by decide +kernel
theorem dX7_wantBeam_28 : decode cX7_wantBeam 28 = .ok (.iconst 1, 1) := by decide +kernel
theorem dX7_wantBeam_29 : decode cX7_wantBeam 29 = .ok (.goto 4, 3) := by decide +kernel
theorem dX7_wantBeam_32 : decode cX7_wantBeam 32 = .ok (.iconst 0, 1) := by decide +kernel
theorem dX7_wantBeam_33 : decode cX7_wantBeam 33 = .ok (.istore_n 2, 1) := by decide +kernel
theorem dX7_wantBeam_34 : decode cX7_wantBeam 34 = .ok (.aload_n 0, 1) := by decide +kernel
theorem dX7_wantBeam_35 : decode cX7_wantBeam 35 = .ok (.iload_n 2, 1) := by decide +kernel
theorem dX7_wantBeam_36 : decode cX7_wantBeam 36 = .ok (.ifCond .ne 20, 3) := by decide +kernel
theorem dX7_wantBeam_39 : decode cX7_wantBeam 39 = .ok (.aload_n 0, 1) := by decide +kernel
theorem dX7_wantBeam_40 : decode cX7_wantBeam 40 = .ok (.getfield 240, 3) := by decide +kernel
theorem dX7_wantBeam_43 : decode cX7_wantBeam 43 = .ok (.ifCond .eq 17, 3) := by decide +kernel
theorem dX7_wantBeam_46 : decode cX7_wantBeam 46 = .ok (.aload_n 0, 1) := by decide +kernel
theorem dX7_wantBeam_47 : decode cX7_wantBeam 47 = .ok (.ldc2_w 260, 3) := by decide +kernel
theorem dX7_wantBeam_50 : decode cX7_wantBeam 50 = .ok (.invokevirtual 226, 3) := by decide +kernel
theorem dX7_wantBeam_53 : decode cX7_wantBeam 53 = .ok (.ifCond .eq 7, 3) := by decide +kernel
theorem dX7_wantBeam_56 : decode cX7_wantBeam 56 = .ok (.iconst 1, 1) := by decide +kernel
theorem dX7_wantBeam_57 : decode cX7_wantBeam 57 = .ok (.goto 4, 3) := by decide +kernel
theorem dX7_wantBeam_60 : decode cX7_wantBeam 60 = .ok (.iconst 0, 1) := by decide +kernel
theorem dX7_wantBeam_61 : decode cX7_wantBeam 61 = .ok (.putfield 240, 3) := by decide +kernel
theorem dX7_wantBeam_64 : decode cX7_wantBeam 64 = .ok (.aload_n 0, 1) := by decide +kernel
theorem dX7_wantBeam_65 : decode cX7_wantBeam 65 = .ok (.getfield 240, 3) := by decide +kernel
theorem dX7_wantBeam_68 : decode cX7_wantBeam 68 = .ok (.ifCond .eq 45, 3) := by decide +kernel
theorem dX7_wantBeam_71 : decode cX7_wantBeam 71 = .ok (.aload_n 0, 1) := by decide +kernel
theorem dX7_wantBeam_72 : decode cX7_wantBeam 72 = .ok (.getfield 7, 3) := by decide +kernel
theorem dX7_wantBeam_75 : decode cX7_wantBeam 75 = .ok (.bipush 92, 2) := by decide +kernel
theorem dX7_wantBeam_77 : decode cX7_wantBeam 77 = .ok (.iload_n 2, 1) := by decide +kernel
theorem dX7_wantBeam_78 : decode cX7_wantBeam 78 = .ok (.ifCond .eq 17, 3) := by decide +kernel
theorem dX7_wantBeam_81 : decode cX7_wantBeam 81 = .ok (.aload_n 0, 1) := by decide +kernel
theorem dX7_wantBeam_82 : decode cX7_wantBeam 82 = .ok (.getfield 7, 3) := by decide +kernel
theorem dX7_wantBeam_85 : decode cX7_wantBeam 85 = .ok (.bipush 92, 2) := by decide +kernel
theorem dX7_wantBeam_87 : decode cX7_wantBeam 87 = .ok (.iaload, 1) := by decide +kernel
theorem dX7_wantBeam_88 : decode cX7_wantBeam 88 = .ok (.iconst 1, 1) := by decide +kernel
theorem dX7_wantBeam_89 : decode cX7_wantBeam 89 = .ok (.iload_n 1, 1) := by decide +kernel
theorem dX7_wantBeam_90 : decode cX7_wantBeam 90 = .ok (.ishl, 1) := by decide +kernel
theorem dX7_wantBeam_91 : decode cX7_wantBeam 91 = .ok (.ior, 1) := by decide +kernel
theorem dX7_wantBeam_92 : decode cX7_wantBeam 92 = .ok (.goto 16, 3) := by decide +kernel
theorem dX7_wantBeam_95 : decode cX7_wantBeam 95 = .ok (.aload_n 0, 1) := by decide +kernel
theorem dX7_wantBeam_96 : decode cX7_wantBeam 96 = .ok (.getfield 7, 3) := by decide +kernel
theorem dX7_wantBeam_99 : decode cX7_wantBeam 99 = .ok (.bipush 92, 2) := by decide +kernel
theorem dX7_wantBeam_101 : decode cX7_wantBeam 101 = .ok (.iaload, 1) := by decide +kernel
theorem dX7_wantBeam_102 : decode cX7_wantBeam 102 = .ok (.iconst 1, 1) := by decide +kernel
theorem dX7_wantBeam_103 : decode cX7_wantBeam 103 = .ok (.iload_n 1, 1) := by decide +kernel
theorem dX7_wantBeam_104 : decode cX7_wantBeam 104 = .ok (.ishl, 1) := by decide +kernel
theorem dX7_wantBeam_105 : decode cX7_wantBeam 105 = .ok (.iconst (-1), 1) := by decide +kernel
theorem dX7_wantBeam_106 : decode cX7_wantBeam 106 = .ok (.ixor, 1) := by decide +kernel
theorem dX7_wantBeam_107 : decode cX7_wantBeam 107 = .ok (.iand, 1) := by decide +kernel
theorem dX7_wantBeam_108 : decode cX7_wantBeam 108 = .ok (.iastore, 1) := by decide +kernel
theorem dX7_wantBeam_109 : decode cX7_wantBeam 109 = .ok (.aload_n 0, 1) := by decide +kernel
theorem dX7_wantBeam_110 : decode cX7_wantBeam 110 = .ok (.invokevirtual 244, 3) := by decide +kernel
theorem dX7_wantBeam_113 : decode cX7_wantBeam 113 = .ok (.return_, 1) := by decide +kernel
def rmX7_wantBeam : Room := { frames := 4, cells := 0, slots := 0, locals := 86 }
abbrev eX7_wantBeam := Ev cX7_wantBeam 3 none RX7 rmX7_wantBeam
set_option maxRecDepth 20000 in
theorem mt_X7_wantBeam  (σ : St) (Q : St → Prop)  (hP : P_X7_wantBeam  σ Q) : Mt yX7_wantBeam cX7_wantBeam 3 none rmX7_wantBeam [.ref (49)] σ (qV Q) := by
  refine Mt.of (k := 2) (ls := [.ref (49), un, un]) (by decide +kernel) rfl (Nat.le_of_ble_eq_true rfl) ?_
  show eX7_wantBeam 0 [.ref (49), un, un] [] σ _
  unfold P_X7_wantBeam at hP
  refine E_aload_n dX7_wantBeam_0 rfl ?_
  refine E_callV (As := []) (rest := []) dX7_wantBeam_1 cl_RX7_244 tw_648 (show kd 49 = 7 by decide) (by decide) rfl tw_649 ⟨rfl, rfl, Nat.le_of_ble_eq_true rfl, Nat.le_of_ble_eq_true rfl⟩ rfl rfl (Nat.le_of_ble_eq_true rfl) (mt_X7_advance  _ _  hP) ?_
  rintro _ t1 ⟨rfl, hP⟩
  show eX7_wantBeam 4 [.ref (49), un, un] [] t1 _
  refine E_aload_n dX7_wantBeam_4 rfl ?_
  refine E_iconst (v := 0) dX7_wantBeam_5 (by decide) ?_
  refine E_iconst (v := 2) dX7_wantBeam_6 (by decide) ?_
  refine E_callV (As := [.int (0), .int (2)]) (rest := []) dX7_wantBeam_7 cl_RX7_247 tw_652 (show kd 49 = 7 by decide) (by decide) rfl tw_653 ⟨rfl, rfl, Nat.le_of_ble_eq_true rfl, Nat.le_of_ble_eq_true rfl⟩ rfl rfl (Nat.le_of_ble_eq_true rfl) (mt_X7_wantNumber _ _ _ _  hP) ?_
  rintro _ t7 ⟨r7, rfl, hP⟩
  show eX7_wantBeam 10 [.ref (49), un, un] [.int (r7)] t7 _
  refine E_istore_n (ls' := [.ref (49), .int (r7), un]) dX7_wantBeam_10 (by decide) rfl ?_
  refine E_aload_n dX7_wantBeam_11 rfl ?_
  refine E_getZ (j := 15) dX7_wantBeam_12 (show kd 49 = 7 by decide) (by decide) rfl fd_RX7_240 ?_
  refine E_if_eq 32 dX7_wantBeam_15 (by decide) (fun hc => ?_) (fun hc => ?_)
  · replace hP := hP.1 hc
    refine E_iconst (v := 0) dX7_wantBeam_32 (by decide) ?_
    refine E_istore_n (ls' := [.ref (49), .int (r7), .int (0)]) dX7_wantBeam_33 (by decide) rfl ?_
    refine E_aload_n dX7_wantBeam_34 rfl ?_
    refine E_iload_n dX7_wantBeam_35 rfl ?_
    refine E_if_ne 56 dX7_wantBeam_36 (by decide) (fun hc => absurd hc (by decide)) (fun _ => ?_)
    refine E_aload_n dX7_wantBeam_39 rfl ?_
    refine E_getZ (j := 15) dX7_wantBeam_40 (show kd 49 = 7 by decide) (by decide) rfl fd_RX7_240 ?_
    refine E_if_eq 60 dX7_wantBeam_43 (by decide) (fun hc => ?_) (fun hc => ?_)
    · replace hP := hP.1 hc
      refine E_iconst (v := 0) dX7_wantBeam_60 (by decide) ?_
      refine E_putZ (j := 15) dX7_wantBeam_61 (show kd 49 = 7 by decide) (by decide) rfl fd_RX7_240 fp_7_15 (Or.inl rfl) ?_
      refine E_nm (fun s61 hs61 => ?_)
      replace hP := hP s61 hs61
      refine E_aload_n dX7_wantBeam_64 rfl ?_
      refine E_getZ (j := 15) dX7_wantBeam_65 (show kd 49 = 7 by decide) (by decide) rfl fd_RX7_240 ?_
      refine E_if_eq 113 dX7_wantBeam_68 (by decide) (fun hc => ?_) (fun hc => ?_)
      · replace hP := hP.1 hc
        exact E_vret dX7_wantBeam_113 rfl ⟨rfl, hP⟩
      · replace hP := hP.2 hc
        refine E_aload_n dX7_wantBeam_71 rfl ?_
        refine E_getR (j := 0) dX7_wantBeam_72 (show kd 49 = 7 by decide) (by decide) rfl fd_RX7_7 (by decide) ?_
        refine E_bipush (v := 92) dX7_wantBeam_75 (by decide) ?_
        refine E_iload_n dX7_wantBeam_77 rfl ?_
        refine E_if_eq 95 dX7_wantBeam_78 (by decide) (fun _ => ?_) (fun hc => absurd hc (by decide))
        refine E_aload_n dX7_wantBeam_95 rfl ?_
        refine E_getR (j := 0) dX7_wantBeam_96 (show kd 49 = 7 by decide) (by decide) rfl fd_RX7_7 (by decide) ?_
        refine E_bipush (v := 92) dX7_wantBeam_99 (by decide) ?_
        refine E_iald dX7_wantBeam_101 (ar_7_1 (show kd 49 = 7 by decide)).1 (ar_7_1 (show kd 49 = 7 by decide)).2 (vp_c (by decide)) ?_
        refine E_iconst (v := 1) dX7_wantBeam_102 (by decide) ?_
        refine E_iload_n dX7_wantBeam_103 rfl ?_
        refine E_ishl dX7_wantBeam_104 ?_
        refine E_iconst (v := (-1)) dX7_wantBeam_105 (by decide) ?_
        refine E_ixor dX7_wantBeam_106 ?_
        refine E_iand dX7_wantBeam_107 ?_
        refine E_iast dX7_wantBeam_108 (ar_7_1 (show kd 49 = 7 by decide)).1 (ar_7_1 (show kd 49 = 7 by decide)).2 (vp_c (by decide)) ?_
        refine E_aload_n dX7_wantBeam_109 rfl ?_
        refine E_callV (As := []) (rest := []) dX7_wantBeam_110 cl_RX7_244 tw_648 (show kd 49 = 7 by decide) (by decide) rfl tw_649 ⟨rfl, rfl, Nat.le_of_ble_eq_true rfl, Nat.le_of_ble_eq_true rfl⟩ rfl rfl (Nat.le_of_ble_eq_true rfl) (mt_X7_advance  _ _  hP) ?_
        rintro _ t110 ⟨rfl, hP⟩
        show eX7_wantBeam 113 [.ref (49), .int (r7), .int (0)] [] t110 _
        exact E_vret dX7_wantBeam_113 rfl ⟨rfl, hP⟩
    · replace hP := hP.2 hc
      refine E_aload_n dX7_wantBeam_46 rfl ?_
      refine E_ldc2 (v := 11103) dX7_wantBeam_47 tw_660 ?_
      refine E_callV (As := [.long (11103)]) (rest := [.ref (49)]) dX7_wantBeam_50 cl_RX7_226 tw_643 (show kd 49 = 7 by decide) (by decide) rfl tw_644 ⟨rfl, rfl, Nat.le_of_ble_eq_true rfl, Nat.le_of_ble_eq_true rfl⟩ rfl rfl (Nat.le_of_ble_eq_true rfl) (mt_X7_isWord _ _ _  hP) ?_
      intro r0 s0 hq0; obtain ⟨r50, h0, hs0, hP⟩ := hq0; subst h0; rw [hs0]
      show eX7_wantBeam 53 [.ref (49), .int (r7), .int (0)] [.int (bI r50), .ref (49)] t7 _
      refine E_ifz_eq 60 dX7_wantBeam_53 (by decide) (fun hc => ?_) (fun hc => ?_)
      · replace hP := hP.1 hc
        refine E_iconst (v := 0) dX7_wantBeam_60 (by decide) ?_
        refine E_putZ (j := 15) dX7_wantBeam_61 (show kd 49 = 7 by decide) (by decide) rfl fd_RX7_240 fp_7_15 (Or.inl rfl) ?_
        refine E_nm (fun s61 hs61 => ?_)
        replace hP := hP s61 hs61
        refine E_aload_n dX7_wantBeam_64 rfl ?_
        refine E_getZ (j := 15) dX7_wantBeam_65 (show kd 49 = 7 by decide) (by decide) rfl fd_RX7_240 ?_
        refine E_if_eq 113 dX7_wantBeam_68 (by decide) (fun hc => ?_) (fun hc => ?_)
        · replace hP := hP.1 hc
          exact E_vret dX7_wantBeam_113 rfl ⟨rfl, hP⟩
        · replace hP := hP.2 hc
          refine E_aload_n dX7_wantBeam_71 rfl ?_
          refine E_getR (j := 0) dX7_wantBeam_72 (show kd 49 = 7 by decide) (by decide) rfl fd_RX7_7 (by decide) ?_
          refine E_bipush (v := 92) dX7_wantBeam_75 (by decide) ?_
          refine E_iload_n dX7_wantBeam_77 rfl ?_
          refine E_if_eq 95 dX7_wantBeam_78 (by decide) (fun _ => ?_) (fun hc => absurd hc (by decide))
          refine E_aload_n dX7_wantBeam_95 rfl ?_
          refine E_getR (j := 0) dX7_wantBeam_96 (show kd 49 = 7 by decide) (by decide) rfl fd_RX7_7 (by decide) ?_
          refine E_bipush (v := 92) dX7_wantBeam_99 (by decide) ?_
          refine E_iald dX7_wantBeam_101 (ar_7_1 (show kd 49 = 7 by decide)).1 (ar_7_1 (show kd 49 = 7 by decide)).2 (vp_c (by decide)) ?_
          refine E_iconst (v := 1) dX7_wantBeam_102 (by decide) ?_
          refine E_iload_n dX7_wantBeam_103 rfl ?_
          refine E_ishl dX7_wantBeam_104 ?_
          refine E_iconst (v := (-1)) dX7_wantBeam_105 (by decide) ?_
          refine E_ixor dX7_wantBeam_106 ?_
          refine E_iand dX7_wantBeam_107 ?_
          refine E_iast dX7_wantBeam_108 (ar_7_1 (show kd 49 = 7 by decide)).1 (ar_7_1 (show kd 49 = 7 by decide)).2 (vp_c (by decide)) ?_
          refine E_aload_n dX7_wantBeam_109 rfl ?_
          refine E_callV (As := []) (rest := []) dX7_wantBeam_110 cl_RX7_244 tw_648 (show kd 49 = 7 by decide) (by decide) rfl tw_649 ⟨rfl, rfl, Nat.le_of_ble_eq_true rfl, Nat.le_of_ble_eq_true rfl⟩ rfl rfl (Nat.le_of_ble_eq_true rfl) (mt_X7_advance  _ _  hP) ?_
          rintro _ t110 ⟨rfl, hP⟩
          show eX7_wantBeam 113 [.ref (49), .int (r7), .int (0)] [] t110 _
          exact E_vret dX7_wantBeam_113 rfl ⟨rfl, hP⟩
      · replace hP := hP.2 hc
        refine E_iconst (v := 1) dX7_wantBeam_56 (by decide) ?_
        refine E_goto 61 dX7_wantBeam_57 (by decide) ?_
        refine E_putZ (j := 15) dX7_wantBeam_61 (show kd 49 = 7 by decide) (by decide) rfl fd_RX7_240 fp_7_15 (Or.inr rfl) ?_
        refine E_nm (fun s61 hs61 => ?_)
        replace hP := hP s61 hs61
        refine E_aload_n dX7_wantBeam_64 rfl ?_
        refine E_getZ (j := 15) dX7_wantBeam_65 (show kd 49 = 7 by decide) (by decide) rfl fd_RX7_240 ?_
        refine E_if_eq 113 dX7_wantBeam_68 (by decide) (fun hc => ?_) (fun hc => ?_)
        · replace hP := hP.1 hc
          exact E_vret dX7_wantBeam_113 rfl ⟨rfl, hP⟩
        · replace hP := hP.2 hc
          refine E_aload_n dX7_wantBeam_71 rfl ?_
          refine E_getR (j := 0) dX7_wantBeam_72 (show kd 49 = 7 by decide) (by decide) rfl fd_RX7_7 (by decide) ?_
          refine E_bipush (v := 92) dX7_wantBeam_75 (by decide) ?_
          refine E_iload_n dX7_wantBeam_77 rfl ?_
          refine E_if_eq 95 dX7_wantBeam_78 (by decide) (fun _ => ?_) (fun hc => absurd hc (by decide))
          refine E_aload_n dX7_wantBeam_95 rfl ?_
          refine E_getR (j := 0) dX7_wantBeam_96 (show kd 49 = 7 by decide) (by decide) rfl fd_RX7_7 (by decide) ?_
          refine E_bipush (v := 92) dX7_wantBeam_99 (by decide) ?_
          refine E_iald dX7_wantBeam_101 (ar_7_1 (show kd 49 = 7 by decide)).1 (ar_7_1 (show kd 49 = 7 by decide)).2 (vp_c (by decide)) ?_
          refine E_iconst (v := 1) dX7_wantBeam_102 (by decide) ?_
          refine E_iload_n dX7_wantBeam_103 rfl ?_
          refine E_ishl dX7_wantBeam_104 ?_
          refine E_iconst (v := (-1)) dX7_wantBeam_105 (by decide) ?_
          refine E_ixor dX7_wantBeam_106 ?_
          refine E_iand dX7_wantBeam_107 ?_
          refine E_iast dX7_wantBeam_108 (ar_7_1 (show kd 49 = 7 by decide)).1 (ar_7_1 (show kd 49 = 7 by decide)).2 (vp_c (by decide)) ?_
          refine E_aload_n dX7_wantBeam_109 rfl ?_
          refine E_callV (As := []) (rest := []) dX7_wantBeam_110 cl_RX7_244 tw_648 (show kd 49 = 7 by decide) (by decide) rfl tw_649 ⟨rfl, rfl, Nat.le_of_ble_eq_true rfl, Nat.le_of_ble_eq_true rfl⟩ rfl rfl (Nat.le_of_ble_eq_true rfl) (mt_X7_advance  _ _  hP) ?_
          rintro _ t110 ⟨rfl, hP⟩
          show eX7_wantBeam 113 [.ref (49), .int (r7), .int (0)] [] t110 _
          exact E_vret dX7_wantBeam_113 rfl ⟨rfl, hP⟩
  · replace hP := hP.2 hc
    refine E_aload_n dX7_wantBeam_18 rfl ?_
    refine E_ldc2 (v := 419) dX7_wantBeam_19 tw_661 ?_
    refine E_callV (As := [.long (419)]) (rest := []) dX7_wantBeam_22 cl_RX7_226 tw_643 (show kd 49 = 7 by decide) (by decide) rfl tw_644 ⟨rfl, rfl, Nat.le_of_ble_eq_true rfl, Nat.le_of_ble_eq_true rfl⟩ rfl rfl (Nat.le_of_ble_eq_true rfl) (mt_X7_isWord _ _ _  hP) ?_
    intro r0 s0 hq0; obtain ⟨r22, h0, hs0, hP⟩ := hq0; subst h0; rw [hs0]
    show eX7_wantBeam 25 [.ref (49), .int (r7), un] [.int (bI r22)] t7 _
    refine E_ifz_eq 32 dX7_wantBeam_25 (by decide) (fun hc => ?_) (fun hc => ?_)
    · replace hP := hP.1 hc
      refine E_iconst (v := 0) dX7_wantBeam_32 (by decide) ?_
      refine E_istore_n (ls' := [.ref (49), .int (r7), .int (0)]) dX7_wantBeam_33 (by decide) rfl ?_
      refine E_aload_n dX7_wantBeam_34 rfl ?_
      refine E_iload_n dX7_wantBeam_35 rfl ?_
      refine E_if_ne 56 dX7_wantBeam_36 (by decide) (fun hc => absurd hc (by decide)) (fun _ => ?_)
      refine E_aload_n dX7_wantBeam_39 rfl ?_
      refine E_getZ (j := 15) dX7_wantBeam_40 (show kd 49 = 7 by decide) (by decide) rfl fd_RX7_240 ?_
      refine E_if_eq 60 dX7_wantBeam_43 (by decide) (fun hc => ?_) (fun hc => ?_)
      · replace hP := hP.1 hc
        refine E_iconst (v := 0) dX7_wantBeam_60 (by decide) ?_
        refine E_putZ (j := 15) dX7_wantBeam_61 (show kd 49 = 7 by decide) (by decide) rfl fd_RX7_240 fp_7_15 (Or.inl rfl) ?_
        refine E_nm (fun s61 hs61 => ?_)
        replace hP := hP s61 hs61
        refine E_aload_n dX7_wantBeam_64 rfl ?_
        refine E_getZ (j := 15) dX7_wantBeam_65 (show kd 49 = 7 by decide) (by decide) rfl fd_RX7_240 ?_
        refine E_if_eq 113 dX7_wantBeam_68 (by decide) (fun hc => ?_) (fun hc => ?_)
        · replace hP := hP.1 hc
          exact E_vret dX7_wantBeam_113 rfl ⟨rfl, hP⟩
        · replace hP := hP.2 hc
          refine E_aload_n dX7_wantBeam_71 rfl ?_
          refine E_getR (j := 0) dX7_wantBeam_72 (show kd 49 = 7 by decide) (by decide) rfl fd_RX7_7 (by decide) ?_
          refine E_bipush (v := 92) dX7_wantBeam_75 (by decide) ?_
          refine E_iload_n dX7_wantBeam_77 rfl ?_
          refine E_if_eq 95 dX7_wantBeam_78 (by decide) (fun _ => ?_) (fun hc => absurd hc (by decide))
          refine E_aload_n dX7_wantBeam_95 rfl ?_
          refine E_getR (j := 0) dX7_wantBeam_96 (show kd 49 = 7 by decide) (by decide) rfl fd_RX7_7 (by decide) ?_
          refine E_bipush (v := 92) dX7_wantBeam_99 (by decide) ?_
          refine E_iald dX7_wantBeam_101 (ar_7_1 (show kd 49 = 7 by decide)).1 (ar_7_1 (show kd 49 = 7 by decide)).2 (vp_c (by decide)) ?_
          refine E_iconst (v := 1) dX7_wantBeam_102 (by decide) ?_
          refine E_iload_n dX7_wantBeam_103 rfl ?_
          refine E_ishl dX7_wantBeam_104 ?_
          refine E_iconst (v := (-1)) dX7_wantBeam_105 (by decide) ?_
          refine E_ixor dX7_wantBeam_106 ?_
          refine E_iand dX7_wantBeam_107 ?_
          refine E_iast dX7_wantBeam_108 (ar_7_1 (show kd 49 = 7 by decide)).1 (ar_7_1 (show kd 49 = 7 by decide)).2 (vp_c (by decide)) ?_
          refine E_aload_n dX7_wantBeam_109 rfl ?_
          refine E_callV (As := []) (rest := []) dX7_wantBeam_110 cl_RX7_244 tw_648 (show kd 49 = 7 by decide) (by decide) rfl tw_649 ⟨rfl, rfl, Nat.le_of_ble_eq_true rfl, Nat.le_of_ble_eq_true rfl⟩ rfl rfl (Nat.le_of_ble_eq_true rfl) (mt_X7_advance  _ _  hP) ?_
          rintro _ t110 ⟨rfl, hP⟩
          show eX7_wantBeam 113 [.ref (49), .int (r7), .int (0)] [] t110 _
          exact E_vret dX7_wantBeam_113 rfl ⟨rfl, hP⟩
      · replace hP := hP.2 hc
        refine E_aload_n dX7_wantBeam_46 rfl ?_
        refine E_ldc2 (v := 11103) dX7_wantBeam_47 tw_660 ?_
        refine E_callV (As := [.long (11103)]) (rest := [.ref (49)]) dX7_wantBeam_50 cl_RX7_226 tw_643 (show kd 49 = 7 by decide) (by decide) rfl tw_644 ⟨rfl, rfl, Nat.le_of_ble_eq_true rfl, Nat.le_of_ble_eq_true rfl⟩ rfl rfl (Nat.le_of_ble_eq_true rfl) (mt_X7_isWord _ _ _  hP) ?_
        intro r0 s0 hq0; obtain ⟨r50, h0, hs0, hP⟩ := hq0; subst h0; rw [hs0]
        show eX7_wantBeam 53 [.ref (49), .int (r7), .int (0)] [.int (bI r50), .ref (49)] t7 _
        refine E_ifz_eq 60 dX7_wantBeam_53 (by decide) (fun hc => ?_) (fun hc => ?_)
        · replace hP := hP.1 hc
          refine E_iconst (v := 0) dX7_wantBeam_60 (by decide) ?_
          refine E_putZ (j := 15) dX7_wantBeam_61 (show kd 49 = 7 by decide) (by decide) rfl fd_RX7_240 fp_7_15 (Or.inl rfl) ?_
          refine E_nm (fun s61 hs61 => ?_)
          replace hP := hP s61 hs61
          refine E_aload_n dX7_wantBeam_64 rfl ?_
          refine E_getZ (j := 15) dX7_wantBeam_65 (show kd 49 = 7 by decide) (by decide) rfl fd_RX7_240 ?_
          refine E_if_eq 113 dX7_wantBeam_68 (by decide) (fun hc => ?_) (fun hc => ?_)
          · replace hP := hP.1 hc
            exact E_vret dX7_wantBeam_113 rfl ⟨rfl, hP⟩
          · replace hP := hP.2 hc
            refine E_aload_n dX7_wantBeam_71 rfl ?_
            refine E_getR (j := 0) dX7_wantBeam_72 (show kd 49 = 7 by decide) (by decide) rfl fd_RX7_7 (by decide) ?_
            refine E_bipush (v := 92) dX7_wantBeam_75 (by decide) ?_
            refine E_iload_n dX7_wantBeam_77 rfl ?_
            refine E_if_eq 95 dX7_wantBeam_78 (by decide) (fun _ => ?_) (fun hc => absurd hc (by decide))
            refine E_aload_n dX7_wantBeam_95 rfl ?_
            refine E_getR (j := 0) dX7_wantBeam_96 (show kd 49 = 7 by decide) (by decide) rfl fd_RX7_7 (by decide) ?_
            refine E_bipush (v := 92) dX7_wantBeam_99 (by decide) ?_
            refine E_iald dX7_wantBeam_101 (ar_7_1 (show kd 49 = 7 by decide)).1 (ar_7_1 (show kd 49 = 7 by decide)).2 (vp_c (by decide)) ?_
            refine E_iconst (v := 1) dX7_wantBeam_102 (by decide) ?_
            refine E_iload_n dX7_wantBeam_103 rfl ?_
            refine E_ishl dX7_wantBeam_104 ?_
            refine E_iconst (v := (-1)) dX7_wantBeam_105 (by decide) ?_
            refine E_ixor dX7_wantBeam_106 ?_
            refine E_iand dX7_wantBeam_107 ?_
            refine E_iast dX7_wantBeam_108 (ar_7_1 (show kd 49 = 7 by decide)).1 (ar_7_1 (show kd 49 = 7 by decide)).2 (vp_c (by decide)) ?_
            refine E_aload_n dX7_wantBeam_109 rfl ?_
            refine E_callV (As := []) (rest := []) dX7_wantBeam_110 cl_RX7_244 tw_648 (show kd 49 = 7 by decide) (by decide) rfl tw_649 ⟨rfl, rfl, Nat.le_of_ble_eq_true rfl, Nat.le_of_ble_eq_true rfl⟩ rfl rfl (Nat.le_of_ble_eq_true rfl) (mt_X7_advance  _ _  hP) ?_
            rintro _ t110 ⟨rfl, hP⟩
            show eX7_wantBeam 113 [.ref (49), .int (r7), .int (0)] [] t110 _
            exact E_vret dX7_wantBeam_113 rfl ⟨rfl, hP⟩
        · replace hP := hP.2 hc
          refine E_iconst (v := 1) dX7_wantBeam_56 (by decide) ?_
          refine E_goto 61 dX7_wantBeam_57 (by decide) ?_
          refine E_putZ (j := 15) dX7_wantBeam_61 (show kd 49 = 7 by decide) (by decide) rfl fd_RX7_240 fp_7_15 (Or.inr rfl) ?_
          refine E_nm (fun s61 hs61 => ?_)
          replace hP := hP s61 hs61
          refine E_aload_n dX7_wantBeam_64 rfl ?_
          refine E_getZ (j := 15) dX7_wantBeam_65 (show kd 49 = 7 by decide) (by decide) rfl fd_RX7_240 ?_
          refine E_if_eq 113 dX7_wantBeam_68 (by decide) (fun hc => ?_) (fun hc => ?_)
          · replace hP := hP.1 hc
            exact E_vret dX7_wantBeam_113 rfl ⟨rfl, hP⟩
          · replace hP := hP.2 hc
            refine E_aload_n dX7_wantBeam_71 rfl ?_
            refine E_getR (j := 0) dX7_wantBeam_72 (show kd 49 = 7 by decide) (by decide) rfl fd_RX7_7 (by decide) ?_
            refine E_bipush (v := 92) dX7_wantBeam_75 (by decide) ?_
            refine E_iload_n dX7_wantBeam_77 rfl ?_
            refine E_if_eq 95 dX7_wantBeam_78 (by decide) (fun _ => ?_) (fun hc => absurd hc (by decide))
            refine E_aload_n dX7_wantBeam_95 rfl ?_
            refine E_getR (j := 0) dX7_wantBeam_96 (show kd 49 = 7 by decide) (by decide) rfl fd_RX7_7 (by decide) ?_
            refine E_bipush (v := 92) dX7_wantBeam_99 (by decide) ?_
            refine E_iald dX7_wantBeam_101 (ar_7_1 (show kd 49 = 7 by decide)).1 (ar_7_1 (show kd 49 = 7 by decide)).2 (vp_c (by decide)) ?_
            refine E_iconst (v := 1) dX7_wantBeam_102 (by decide) ?_
            refine E_iload_n dX7_wantBeam_103 rfl ?_
            refine E_ishl dX7_wantBeam_104 ?_
            refine E_iconst (v := (-1)) dX7_wantBeam_105 (by decide) ?_
            refine E_ixor dX7_wantBeam_106 ?_
            refine E_iand dX7_wantBeam_107 ?_
            refine E_iast dX7_wantBeam_108 (ar_7_1 (show kd 49 = 7 by decide)).1 (ar_7_1 (show kd 49 = 7 by decide)).2 (vp_c (by decide)) ?_
            refine E_aload_n dX7_wantBeam_109 rfl ?_
            refine E_callV (As := []) (rest := []) dX7_wantBeam_110 cl_RX7_244 tw_648 (show kd 49 = 7 by decide) (by decide) rfl tw_649 ⟨rfl, rfl, Nat.le_of_ble_eq_true rfl, Nat.le_of_ble_eq_true rfl⟩ rfl rfl (Nat.le_of_ble_eq_true rfl) (mt_X7_advance  _ _  hP) ?_
            rintro _ t110 ⟨rfl, hP⟩
            show eX7_wantBeam 113 [.ref (49), .int (r7), .int (0)] [] t110 _
            exact E_vret dX7_wantBeam_113 rfl ⟨rfl, hP⟩
    · replace hP := hP.2 hc
      refine E_iconst (v := 1) dX7_wantBeam_28 (by decide) ?_
      refine E_goto 33 dX7_wantBeam_29 (by decide) ?_
      refine E_istore_n (ls' := [.ref (49), .int (r7), .int (1)]) dX7_wantBeam_33 (by decide) rfl ?_
      refine E_aload_n dX7_wantBeam_34 rfl ?_
      refine E_iload_n dX7_wantBeam_35 rfl ?_
      refine E_if_ne 56 dX7_wantBeam_36 (by decide) (fun _ => ?_) (fun hc => absurd hc (by decide))
      refine E_iconst (v := 1) dX7_wantBeam_56 (by decide) ?_
      refine E_goto 61 dX7_wantBeam_57 (by decide) ?_
      refine E_putZ (j := 15) dX7_wantBeam_61 (show kd 49 = 7 by decide) (by decide) rfl fd_RX7_240 fp_7_15 (Or.inr rfl) ?_
      refine E_nm (fun s61 hs61 => ?_)
      replace hP := hP s61 hs61
      refine E_aload_n dX7_wantBeam_64 rfl ?_
      refine E_getZ (j := 15) dX7_wantBeam_65 (show kd 49 = 7 by decide) (by decide) rfl fd_RX7_240 ?_
      refine E_if_eq 113 dX7_wantBeam_68 (by decide) (fun hc => ?_) (fun hc => ?_)
      · replace hP := hP.1 hc
        exact E_vret dX7_wantBeam_113 rfl ⟨rfl, hP⟩
      · replace hP := hP.2 hc
        refine E_aload_n dX7_wantBeam_71 rfl ?_
        refine E_getR (j := 0) dX7_wantBeam_72 (show kd 49 = 7 by decide) (by decide) rfl fd_RX7_7 (by decide) ?_
        refine E_bipush (v := 92) dX7_wantBeam_75 (by decide) ?_
        refine E_iload_n dX7_wantBeam_77 rfl ?_
        refine E_if_eq 95 dX7_wantBeam_78 (by decide) (fun hc => absurd hc (by decide)) (fun _ => ?_)
        refine E_aload_n dX7_wantBeam_81 rfl ?_
        refine E_getR (j := 0) dX7_wantBeam_82 (show kd 49 = 7 by decide) (by decide) rfl fd_RX7_7 (by decide) ?_
        refine E_bipush (v := 92) dX7_wantBeam_85 (by decide) ?_
        refine E_iald dX7_wantBeam_87 (ar_7_1 (show kd 49 = 7 by decide)).1 (ar_7_1 (show kd 49 = 7 by decide)).2 (vp_c (by decide)) ?_
        refine E_iconst (v := 1) dX7_wantBeam_88 (by decide) ?_
        refine E_iload_n dX7_wantBeam_89 rfl ?_
        refine E_ishl dX7_wantBeam_90 ?_
        refine E_ior dX7_wantBeam_91 ?_
        refine E_goto 108 dX7_wantBeam_92 (by decide) ?_
        refine E_iast dX7_wantBeam_108 (ar_7_1 (show kd 49 = 7 by decide)).1 (ar_7_1 (show kd 49 = 7 by decide)).2 (vp_c (by decide)) ?_
        refine E_aload_n dX7_wantBeam_109 rfl ?_
        refine E_callV (As := []) (rest := []) dX7_wantBeam_110 cl_RX7_244 tw_648 (show kd 49 = 7 by decide) (by decide) rfl tw_649 ⟨rfl, rfl, Nat.le_of_ble_eq_true rfl, Nat.le_of_ble_eq_true rfl⟩ rfl rfl (Nat.le_of_ble_eq_true rfl) (mt_X7_advance  _ _  hP) ?_
        rintro _ t110 ⟨rfl, hP⟩
        show eX7_wantBeam 113 [.ref (49), .int (r7), .int (1)] [] t110 _
        exact E_vret dX7_wantBeam_113 rfl ⟨rfl, hP⟩
theorem dX7_wantWedge_0 : decode cX7_wantWedge 0 = .ok (.aload_n 0, 1) := by decide +kernel
theorem dX7_wantWedge_1 : decode cX7_wantWedge 1 = .ok (.invokevirtual 244, 3) := by decide +kernel
theorem dX7_wantWedge_4 : decode cX7_wantWedge 4 = .ok (.aload_n 0, 1) := by decide +kernel
theorem dX7_wantWedge_5 : decode cX7_wantWedge 5 = .ok (.iconst 0, 1) := by decide +kernel
theorem dX7_wantWedge_6 : decode cX7_wantWedge 6 = .ok (.iconst 3, 1) := by decide +kernel
theorem dX7_wantWedge_7 : decode cX7_wantWedge 7 = .ok (.invokevirtual 247, 3) := by decide +kernel
theorem dX7_wantWedge_10 : decode cX7_wantWedge 10 = .ok (.istore_n 1, 1) := by decide +kernel
theorem dX7_wantWedge_11 : decode cX7_wantWedge 11 = .ok (.aload_n 0, 1) := by decide +kernel
theorem dX7_wantWedge_12 : decode cX7_wantWedge 12 = .ok (.iconst 0, 1) := by decide +kernel
theorem dX7_wantWedge_13 : decode cX7_wantWedge 13 = .ok (.bipush 20, 2) := by decide +kernel
theorem dX7_wantWedge_15 : decode cX7_wantWedge 15 = .ok (.invokevirtual 247, 3) := by decide +kernel
theorem dX7_wantWedge_18 : decode cX7_wantWedge 18 = .ok (.istore_n 2, 1) := by decide +kernel
theorem dX7_wantWedge_19 : decode cX7_wantWedge 19 = .ok (.aload_n 0, 1) := by decide +kernel
theorem dX7_wantWedge_20 : decode cX7_wantWedge 20 = .ok (.getfield 240, 3) := by decide +kernel
theorem dX7_wantWedge_23 : decode cX7_wantWedge 23 = .ok (.ifCond .eq 15, 3) := by decide +kernel
theorem dX7_wantWedge_26 : decode cX7_wantWedge 26 = .ok (.aload_n 0, 1) := by decide +kernel
theorem dX7_wantWedge_27 : decode cX7_wantWedge 27 = .ok (.getfield 7, 3) := by decide +kernel
theorem dX7_wantWedge_30 : decode cX7_wantWedge 30 = .ok (.bipush 23, 2) := by decide +kernel
theorem dX7_wantWedge_32 : decode cX7_wantWedge 32 = .ok (.iload_n 1, 1) := by decide +kernel
theorem dX7_wantWedge_33 : decode cX7_wantWedge 33 = .ok (.imul, 1) := by decide +kernel
theorem dX7_wantWedge_34 : decode cX7_wantWedge 34 = .ok (.iconst 1, 1) := by decide +kernel
theorem dX7_wantWedge_35 : decode cX7_wantWedge 35 = .ok (.iadd, 1) := by decide +kernel
theorem dX7_wantWedge_36 : decode cX7_wantWedge 36 = .ok (.iload_n 2, 1) := by decide +kernel
theorem dX7_wantWedge_37 : decode cX7_wantWedge 37 = .ok (.iastore, 1) := by decide +kernel
theorem dX7_wantWedge_38 : decode cX7_wantWedge 38 = .ok (.return_, 1) := by decide +kernel
def rmX7_wantWedge : Room := { frames := 4, cells := 0, slots := 0, locals := 86 }
abbrev eX7_wantWedge := Ev cX7_wantWedge 3 none RX7 rmX7_wantWedge
set_option maxRecDepth 20000 in
theorem mt_X7_wantWedge  (σ : St) (Q : St → Prop)  (hP : P_X7_wantWedge  σ Q) : Mt yX7_wantWedge cX7_wantWedge 3 none rmX7_wantWedge [.ref (49)] σ (qV Q) := by
  refine Mt.of (k := 2) (ls := [.ref (49), un, un]) (by decide +kernel) rfl (Nat.le_of_ble_eq_true rfl) ?_
  show eX7_wantWedge 0 [.ref (49), un, un] [] σ _
  unfold P_X7_wantWedge at hP
  refine E_aload_n dX7_wantWedge_0 rfl ?_
  refine E_callV (As := []) (rest := []) dX7_wantWedge_1 cl_RX7_244 tw_648 (show kd 49 = 7 by decide) (by decide) rfl tw_649 ⟨rfl, rfl, Nat.le_of_ble_eq_true rfl, Nat.le_of_ble_eq_true rfl⟩ rfl rfl (Nat.le_of_ble_eq_true rfl) (mt_X7_advance  _ _  hP) ?_
  rintro _ t1 ⟨rfl, hP⟩
  show eX7_wantWedge 4 [.ref (49), un, un] [] t1 _
  refine E_aload_n dX7_wantWedge_4 rfl ?_
  refine E_iconst (v := 0) dX7_wantWedge_5 (by decide) ?_
  refine E_iconst (v := 3) dX7_wantWedge_6 (by decide) ?_
  refine E_callV (As := [.int (0), .int (3)]) (rest := []) dX7_wantWedge_7 cl_RX7_247 tw_652 (show kd 49 = 7 by decide) (by decide) rfl tw_653 ⟨rfl, rfl, Nat.le_of_ble_eq_true rfl, Nat.le_of_ble_eq_true rfl⟩ rfl rfl (Nat.le_of_ble_eq_true rfl) (mt_X7_wantNumber _ _ _ _  hP) ?_
  rintro _ t7 ⟨r7, rfl, hP⟩
  show eX7_wantWedge 10 [.ref (49), un, un] [.int (r7)] t7 _
  refine E_istore_n (ls' := [.ref (49), .int (r7), un]) dX7_wantWedge_10 (by decide) rfl ?_
  refine E_aload_n dX7_wantWedge_11 rfl ?_
  refine E_iconst (v := 0) dX7_wantWedge_12 (by decide) ?_
  refine E_bipush (v := 20) dX7_wantWedge_13 (by decide) ?_
  refine E_callV (As := [.int (0), .int (20)]) (rest := []) dX7_wantWedge_15 cl_RX7_247 tw_652 (show kd 49 = 7 by decide) (by decide) rfl tw_653 ⟨rfl, rfl, Nat.le_of_ble_eq_true rfl, Nat.le_of_ble_eq_true rfl⟩ rfl rfl (Nat.le_of_ble_eq_true rfl) (mt_X7_wantNumber _ _ _ _  hP) ?_
  rintro _ t15 ⟨r15, rfl, hP⟩
  show eX7_wantWedge 18 [.ref (49), .int (r7), un] [.int (r15)] t15 _
  refine E_istore_n (ls' := [.ref (49), .int (r7), .int (r15)]) dX7_wantWedge_18 (by decide) rfl ?_
  refine E_aload_n dX7_wantWedge_19 rfl ?_
  refine E_getZ (j := 15) dX7_wantWedge_20 (show kd 49 = 7 by decide) (by decide) rfl fd_RX7_240 ?_
  refine E_if_eq 38 dX7_wantWedge_23 (by decide) (fun hc => ?_) (fun hc => ?_)
  · replace hP := hP.1 hc
    exact E_vret dX7_wantWedge_38 rfl ⟨rfl, hP⟩
  · replace hP := hP.2 hc
    refine E_aload_n dX7_wantWedge_26 rfl ?_
    refine E_getR (j := 0) dX7_wantWedge_27 (show kd 49 = 7 by decide) (by decide) rfl fd_RX7_7 (by decide) ?_
    refine E_bipush (v := 23) dX7_wantWedge_30 (by decide) ?_
    refine E_iload_n dX7_wantWedge_32 rfl ?_
    refine E_imul dX7_wantWedge_33 ?_
    refine E_iconst (v := 1) dX7_wantWedge_34 (by decide) ?_
    refine E_iadd dX7_wantWedge_35 ?_
    refine E_iload_n dX7_wantWedge_36 rfl ?_
    obtain ⟨hb, hP⟩ := hP
    refine E_iast dX7_wantWedge_37 (ar_7_1 (show kd 49 = 7 by decide)).1 (ar_7_1 (show kd 49 = 7 by decide)).2 hb ?_
    exact E_vret dX7_wantWedge_38 rfl ⟨rfl, hP⟩
theorem dX7_wantSlack_0 : decode cX7_wantSlack 0 = .ok (.aload_n 0, 1) := by decide +kernel
theorem dX7_wantSlack_1 : decode cX7_wantSlack 1 = .ok (.invokevirtual 244, 3) := by decide +kernel
theorem dX7_wantSlack_4 : decode cX7_wantSlack 4 = .ok (.aload_n 0, 1) := by decide +kernel
theorem dX7_wantSlack_5 : decode cX7_wantSlack 5 = .ok (.iconst 0, 1) := by decide +kernel
theorem dX7_wantSlack_6 : decode cX7_wantSlack 6 = .ok (.bipush 99, 2) := by decide +kernel
theorem dX7_wantSlack_8 : decode cX7_wantSlack 8 = .ok (.invokevirtual 247, 3) := by decide +kernel
theorem dX7_wantSlack_11 : decode cX7_wantSlack 11 = .ok (.istore_n 1, 1) := by decide +kernel
theorem dX7_wantSlack_12 : decode cX7_wantSlack 12 = .ok (.aload_n 0, 1) := by decide +kernel
theorem dX7_wantSlack_13 : decode cX7_wantSlack 13 = .ok (.getfield 240, 3) := by decide +kernel
theorem dX7_wantSlack_16 : decode cX7_wantSlack 16 = .ok (.ifCond .eq 11, 3) := by decide +kernel
theorem dX7_wantSlack_19 : decode cX7_wantSlack 19 = .ok (.aload_n 0, 1) := by decide +kernel
theorem dX7_wantSlack_20 : decode cX7_wantSlack 20 = .ok (.getfield 7, 3) := by decide +kernel
theorem dX7_wantSlack_23 : decode cX7_wantSlack 23 = .ok (.bipush 93, 2) := by decide +kernel
theorem dX7_wantSlack_25 : decode cX7_wantSlack 25 = .ok (.iload_n 1, 1) := by decide +kernel
theorem dX7_wantSlack_26 : decode cX7_wantSlack 26 = .ok (.iastore, 1) := by decide +kernel
theorem dX7_wantSlack_27 : decode cX7_wantSlack 27 = .ok (.return_, 1) := by decide +kernel
def rmX7_wantSlack : Room := { frames := 4, cells := 0, slots := 0, locals := 86 }
abbrev eX7_wantSlack := Ev cX7_wantSlack 2 none RX7 rmX7_wantSlack
set_option maxRecDepth 20000 in
theorem mt_X7_wantSlack  (σ : St) (Q : St → Prop)  (hP : P_X7_wantSlack  σ Q) : Mt yX7_wantSlack cX7_wantSlack 2 none rmX7_wantSlack [.ref (49)] σ (qV Q) := by
  refine Mt.of (k := 1) (ls := [.ref (49), un]) (by decide +kernel) rfl (Nat.le_of_ble_eq_true rfl) ?_
  show eX7_wantSlack 0 [.ref (49), un] [] σ _
  unfold P_X7_wantSlack at hP
  refine E_aload_n dX7_wantSlack_0 rfl ?_
  refine E_callV (As := []) (rest := []) dX7_wantSlack_1 cl_RX7_244 tw_648 (show kd 49 = 7 by decide) (by decide) rfl tw_649 ⟨rfl, rfl, Nat.le_of_ble_eq_true rfl, Nat.le_of_ble_eq_true rfl⟩ rfl rfl (Nat.le_of_ble_eq_true rfl) (mt_X7_advance  _ _  hP) ?_
  rintro _ t1 ⟨rfl, hP⟩
  show eX7_wantSlack 4 [.ref (49), un] [] t1 _
  refine E_aload_n dX7_wantSlack_4 rfl ?_
  refine E_iconst (v := 0) dX7_wantSlack_5 (by decide) ?_
  refine E_bipush (v := 99) dX7_wantSlack_6 (by decide) ?_
  refine E_callV (As := [.int (0), .int (99)]) (rest := []) dX7_wantSlack_8 cl_RX7_247 tw_652 (show kd 49 = 7 by decide) (by decide) rfl tw_653 ⟨rfl, rfl, Nat.le_of_ble_eq_true rfl, Nat.le_of_ble_eq_true rfl⟩ rfl rfl (Nat.le_of_ble_eq_true rfl) (mt_X7_wantNumber _ _ _ _  hP) ?_
  rintro _ t8 ⟨r8, rfl, hP⟩
  show eX7_wantSlack 11 [.ref (49), un] [.int (r8)] t8 _
  refine E_istore_n (ls' := [.ref (49), .int (r8)]) dX7_wantSlack_11 (by decide) rfl ?_
  refine E_aload_n dX7_wantSlack_12 rfl ?_
  refine E_getZ (j := 15) dX7_wantSlack_13 (show kd 49 = 7 by decide) (by decide) rfl fd_RX7_240 ?_
  refine E_if_eq 27 dX7_wantSlack_16 (by decide) (fun hc => ?_) (fun hc => ?_)
  · replace hP := hP.1 hc
    exact E_vret dX7_wantSlack_27 rfl ⟨rfl, hP⟩
  · replace hP := hP.2 hc
    refine E_aload_n dX7_wantSlack_19 rfl ?_
    refine E_getR (j := 0) dX7_wantSlack_20 (show kd 49 = 7 by decide) (by decide) rfl fd_RX7_7 (by decide) ?_
    refine E_bipush (v := 93) dX7_wantSlack_23 (by decide) ?_
    refine E_iload_n dX7_wantSlack_25 rfl ?_
    refine E_iast dX7_wantSlack_26 (ar_7_1 (show kd 49 = 7 by decide)).1 (ar_7_1 (show kd 49 = 7 by decide)).2 (vp_c (by decide)) ?_
    exact E_vret dX7_wantSlack_27 rfl ⟨rfl, hP⟩
theorem dX7_wantPulls_0 : decode cX7_wantPulls 0 = .ok (.aload_n 0, 1) := by decide +kernel
theorem dX7_wantPulls_1 : decode cX7_wantPulls 1 = .ok (.invokevirtual 244, 3) := by decide +kernel
theorem dX7_wantPulls_4 : decode cX7_wantPulls 4 = .ok (.iconst 1, 1) := by decide +kernel
theorem dX7_wantPulls_5 : decode cX7_wantPulls 5 = .ok (.istore_n 1, 1) := by decide +kernel
theorem dX7_wantPulls_6 : decode cX7_wantPulls 6 = .ok (.iload_n 1, 1) := by decide +kernel
theorem dX7_wantPulls_7 : decode cX7_wantPulls 7 = .ok (.ifCond .eq 91, 3) := by decide +kernel
theorem dX7_wantPulls_10 : decode cX7_wantPulls 10 = .ok (.aload_n 0, 1) := by decide +kernel
theorem dX7_wantPulls_11 : decode cX7_wantPulls 11 = .ok (.aload_n 0, 1) := by decide +kernel
theorem dX7_wantPulls_12 : decode cX7_wantPulls 12 = .ok (.getfield 240, 3) := by decide +kernel
theorem dX7_wantPulls_15 : decode cX7_wantPulls 15 = .ok (.ifCond .eq 36, 3) := by decide +kernel
theorem dX7_wantPulls_18 : decode cX7_wantPulls 18 = .ok (.aload_n 0, 1) := by decide +kernel
theorem dX7_wantPulls_19 : decode cX7_wantPulls 19 = .ok (.getfield 208, 3) := by decide +kernel
theorem dX7_wantPulls_22 : decode cX7_wantPulls 22 = .ok (.iconst 2, 1) := by decide +kernel
theorem dX7_wantPulls_23 : decode cX7_wantPulls 23 = .ok (.if_icmp .ne 28, 3) := by decide +kernel
theorem dX7_wantPulls_26 : decode cX7_wantPulls 26 = .ok (.aload_n 0, 1) := by decide +kernel
theorem dX7_wantPulls_27 : decode cX7_wantPulls 27 = .ok (.getfield 215, 3) := by decide +kernel
theorem dX7_wantPulls_30 : decode cX7_wantPulls 30 = .ok (.invokestatic 62, 3) := by decide +kernel
theorem dX7_wantPulls_33 : decode cX7_wantPulls 33 = .ok (.ifCond .eq 18, 3) := by decide +kernel
theorem dX7_wantPulls_36 : decode cX7_wantPulls 36 = .ok (.aload_n 0, 1) := by decide +kernel
theorem dX7_wantPulls_37 : decode cX7_wantPulls 37 = .ok (.aload_n 0, 1) := by decide +kernel
theorem dX7_wantPulls_38 : decode cX7_wantPulls 38 = .ok (.getfield 215, 3) := by decide +kernel
theorem dX7_wantPulls_41 : decode cX7_wantPulls 41 = .ok (.invokevirtual 142, 3) := by decide +kernel
theorem dX7_wantPulls_44 : decode cX7_wantPulls 44 = .ok (.ifCond .eq 7, 3) := by decide +kernel
theorem dX7_wantPulls_47 : decode cX7_wantPulls 47 = .ok (.iconst 1, 1) := by decide +kernel
theorem dX7_wantPulls_48 : decode cX7_wantPulls 48 = .ok (.goto 4, 3) := by decide +kernel
theorem dX7_wantPulls_51 : decode cX7_wantPulls 51 = .ok (.iconst 0, 1) := by decide +kernel
theorem dX7_wantPulls_52 : decode cX7_wantPulls 52 = .ok (.putfield 240, 3) := by decide +kernel
theorem dX7_wantPulls_55 : decode cX7_wantPulls 55 = .ok (.aload_n 0, 1) := by decide +kernel
theorem dX7_wantPulls_56 : decode cX7_wantPulls 56 = .ok (.getfield 240, 3) := by decide +kernel
theorem dX7_wantPulls_59 : decode cX7_wantPulls 59 = .ok (.ifCond .eq 15, 3) := by decide +kernel
theorem dX7_wantPulls_62 : decode cX7_wantPulls 62 = .ok (.aload_n 0, 1) := by decide +kernel
theorem dX7_wantPulls_63 : decode cX7_wantPulls 63 = .ok (.aload_n 0, 1) := by decide +kernel
theorem dX7_wantPulls_64 : decode cX7_wantPulls 64 = .ok (.getfield 215, 3) := by decide +kernel
theorem dX7_wantPulls_67 : decode cX7_wantPulls 67 = .ok (.invokevirtual 145, 3) := by decide +kernel
theorem dX7_wantPulls_70 : decode cX7_wantPulls 70 = .ok (.aload_n 0, 1) := by decide +kernel
theorem dX7_wantPulls_71 : decode cX7_wantPulls 71 = .ok (.invokevirtual 244, 3) := by decide +kernel
theorem dX7_wantPulls_74 : decode cX7_wantPulls 74 = .ok (.aload_n 0, 1) := by decide +kernel
theorem dX7_wantPulls_75 : decode cX7_wantPulls 75 = .ok (.getfield 240, 3) := by decide +kernel
theorem dX7_wantPulls_78 : decode cX7_wantPulls 78 = .ok (.ifCond .eq 15, 3) := by decide +kernel
theorem dX7_wantPulls_81 : decode cX7_wantPulls 81 = .ok (.aload_n 0, 1) := by decide +kernel
theorem dX7_wantPulls_82 : decode cX7_wantPulls 82 = .ok (.getfield 208, 3) := by decide +kernel
theorem dX7_wantPulls_85 : decode cX7_wantPulls 85 = .ok (.iconst 2, 1) := by decide +kernel
theorem dX7_wantPulls_86 : decode cX7_wantPulls 86 = .ok (.if_icmp .ne 7, 3) := by decide +kernel
theorem dX7_wantPulls_89 : decode cX7_wantPulls 89 = .ok (.iconst 1, 1) := by decide +kernel
theorem dX7_wantPulls_90 : decode cX7_wantPulls 90 = .ok (.goto 4, 3) := by decide +kernel
theorem dX7_wantPulls_93 : decode cX7_wantPulls 93 = .ok (.iconst 0, 1) := by decide +kernel
theorem dX7_wantPulls_94 : decode cX7_wantPulls 94 = .ok (.istore_n 1, 1) := by decide +kernel
theorem dX7_wantPulls_95 : decode cX7_wantPulls 95 = .ok (.goto (-89), 3) := by decide +kernel
theorem dX7_wantPulls_98 : decode cX7_wantPulls 98 = .ok (.return_, 1) := by decide +kernel
def rmX7_wantPulls : Room := { frames := 6, cells := 0, slots := 0, locals := 133 }
abbrev eX7_wantPulls := Ev cX7_wantPulls 2 none RX7 rmX7_wantPulls
set_option maxRecDepth 20000 in
theorem ev_X7_wantPulls_l6   (K : St → Prop) (Q : St → Prop) (hK : ∀  s, K  s → eX7_wantPulls 98 [un, un] [] s (qV Q)) : ∀ (n : Nat) (l1 : Int32) (σ : St), P_X7_wantPulls_l6  K Q n l1 σ → eX7_wantPulls 6 [.ref (49), .int (l1)] [] σ (qV Q) := by
  intro n
  induction n with
  | zero => intro l1 σ hP; exact hP.elim
  | succ n ih =>
    intro l1 σ hP
    rw [P_X7_wantPulls_l6] at hP
    refine E_iload_n dX7_wantPulls_6 rfl ?_
    refine E_if_eq 98 dX7_wantPulls_7 (by decide) (fun hc => ?_) (fun hc => ?_)
    · replace hP := hP.1 hc
      refine E_mask [false, false] rfl ?_
      exact hK  _ hP
    · replace hP := hP.2 hc
      refine E_aload_n dX7_wantPulls_10 rfl ?_
      refine E_aload_n dX7_wantPulls_11 rfl ?_
      refine E_getZ (j := 15) dX7_wantPulls_12 (show kd 49 = 7 by decide) (by decide) rfl fd_RX7_240 ?_
      refine E_if_eq 51 dX7_wantPulls_15 (by decide) (fun hc => ?_) (fun hc => ?_)
      · replace hP := hP.1 hc
        refine E_iconst (v := 0) dX7_wantPulls_51 (by decide) ?_
        refine E_putZ (j := 15) dX7_wantPulls_52 (show kd 49 = 7 by decide) (by decide) rfl fd_RX7_240 fp_7_15 (Or.inl rfl) ?_
        refine E_nm (fun s52 hs52 => ?_)
        replace hP := hP s52 hs52
        refine E_aload_n dX7_wantPulls_55 rfl ?_
        refine E_getZ (j := 15) dX7_wantPulls_56 (show kd 49 = 7 by decide) (by decide) rfl fd_RX7_240 ?_
        refine E_if_eq 74 dX7_wantPulls_59 (by decide) (fun hc => ?_) (fun hc => ?_)
        · replace hP := hP.1 hc
          refine E_aload_n dX7_wantPulls_74 rfl ?_
          refine E_getZ (j := 15) dX7_wantPulls_75 (show kd 49 = 7 by decide) (by decide) rfl fd_RX7_240 ?_
          refine E_if_eq 93 dX7_wantPulls_78 (by decide) (fun hc => ?_) (fun hc => ?_)
          · replace hP := hP.1 hc
            refine E_iconst (v := 0) dX7_wantPulls_93 (by decide) ?_
            refine E_istore_n (ls' := [.ref (49), .int (0)]) dX7_wantPulls_94 (by decide) rfl ?_
            refine E_goto 6 dX7_wantPulls_95 (by decide) ?_
            exact ih (0) _ hP
          · replace hP := hP.2 hc
            refine E_aload_n dX7_wantPulls_81 rfl ?_
            refine E_getI (j := 10) dX7_wantPulls_82 (show kd 49 = 7 by decide) (by decide) rfl fd_RX7_208 ?_
            refine E_iconst (v := 2) dX7_wantPulls_85 (by decide) ?_
            refine E_icmp_ne 93 dX7_wantPulls_86 (by decide) (fun hc => ?_) (fun hc => ?_)
            · replace hP := hP.1 hc
              refine E_iconst (v := 0) dX7_wantPulls_93 (by decide) ?_
              refine E_istore_n (ls' := [.ref (49), .int (0)]) dX7_wantPulls_94 (by decide) rfl ?_
              refine E_goto 6 dX7_wantPulls_95 (by decide) ?_
              exact ih (0) _ hP
            · replace hP := hP.2 hc
              refine E_iconst (v := 1) dX7_wantPulls_89 (by decide) ?_
              refine E_goto 94 dX7_wantPulls_90 (by decide) ?_
              refine E_istore_n (ls' := [.ref (49), .int (1)]) dX7_wantPulls_94 (by decide) rfl ?_
              refine E_goto 6 dX7_wantPulls_95 (by decide) ?_
              exact ih (1) _ hP
        · replace hP := hP.2 hc
          refine E_aload_n dX7_wantPulls_62 rfl ?_
          refine E_aload_n dX7_wantPulls_63 rfl ?_
          refine E_getI (j := 14) dX7_wantPulls_64 (show kd 49 = 7 by decide) (by decide) rfl fd_RX7_215 ?_
          refine E_callV (As := [.int (gI s52 49 14)]) (rest := []) dX7_wantPulls_67 cl_RX7_145 tw_552 (show kd 49 = 7 by decide) (by decide) rfl tw_553 ⟨rfl, rfl, Nat.le_of_ble_eq_true rfl, Nat.le_of_ble_eq_true rfl⟩ rfl rfl (Nat.le_of_ble_eq_true rfl) (mt_X7_takeOut _ _ _  hP) ?_
          rintro _ t67 ⟨rfl, hP⟩
          show eX7_wantPulls 70 [.ref (49), .int (l1)] [] t67 _
          refine E_aload_n dX7_wantPulls_70 rfl ?_
          refine E_callV (As := []) (rest := []) dX7_wantPulls_71 cl_RX7_244 tw_648 (show kd 49 = 7 by decide) (by decide) rfl tw_649 ⟨rfl, rfl, Nat.le_of_ble_eq_true rfl, Nat.le_of_ble_eq_true rfl⟩ rfl rfl (Nat.le_of_ble_eq_true rfl) (mt_X7_advance  _ _  hP) ?_
          rintro _ t71 ⟨rfl, hP⟩
          show eX7_wantPulls 74 [.ref (49), .int (l1)] [] t71 _
          refine E_aload_n dX7_wantPulls_74 rfl ?_
          refine E_getZ (j := 15) dX7_wantPulls_75 (show kd 49 = 7 by decide) (by decide) rfl fd_RX7_240 ?_
          refine E_if_eq 93 dX7_wantPulls_78 (by decide) (fun hc => ?_) (fun hc => ?_)
          · replace hP := hP.1 hc
            refine E_iconst (v := 0) dX7_wantPulls_93 (by decide) ?_
            refine E_istore_n (ls' := [.ref (49), .int (0)]) dX7_wantPulls_94 (by decide) rfl ?_
            refine E_goto 6 dX7_wantPulls_95 (by decide) ?_
            exact ih (0) _ hP
          · replace hP := hP.2 hc
            refine E_aload_n dX7_wantPulls_81 rfl ?_
            refine E_getI (j := 10) dX7_wantPulls_82 (show kd 49 = 7 by decide) (by decide) rfl fd_RX7_208 ?_
            refine E_iconst (v := 2) dX7_wantPulls_85 (by decide) ?_
            refine E_icmp_ne 93 dX7_wantPulls_86 (by decide) (fun hc => ?_) (fun hc => ?_)
            · replace hP := hP.1 hc
              refine E_iconst (v := 0) dX7_wantPulls_93 (by decide) ?_
              refine E_istore_n (ls' := [.ref (49), .int (0)]) dX7_wantPulls_94 (by decide) rfl ?_
              refine E_goto 6 dX7_wantPulls_95 (by decide) ?_
              exact ih (0) _ hP
            · replace hP := hP.2 hc
              refine E_iconst (v := 1) dX7_wantPulls_89 (by decide) ?_
              refine E_goto 94 dX7_wantPulls_90 (by decide) ?_
              refine E_istore_n (ls' := [.ref (49), .int (1)]) dX7_wantPulls_94 (by decide) rfl ?_
              refine E_goto 6 dX7_wantPulls_95 (by decide) ?_
              exact ih (1) _ hP
      · replace hP := hP.2 hc
        refine E_aload_n dX7_wantPulls_18 rfl ?_
        refine E_getI (j := 10) dX7_wantPulls_19 (show kd 49 = 7 by decide) (by decide) rfl fd_RX7_208 ?_
        refine E_iconst (v := 2) dX7_wantPulls_22 (by decide) ?_
        refine E_icmp_ne 51 dX7_wantPulls_23 (by decide) (fun hc => ?_) (fun hc => ?_)
        · replace hP := hP.1 hc
          refine E_iconst (v := 0) dX7_wantPulls_51 (by decide) ?_
          refine E_putZ (j := 15) dX7_wantPulls_52 (show kd 49 = 7 by decide) (by decide) rfl fd_RX7_240 fp_7_15 (Or.inl rfl) ?_
          refine E_nm (fun s52 hs52 => ?_)
          replace hP := hP s52 hs52
          refine E_aload_n dX7_wantPulls_55 rfl ?_
          refine E_getZ (j := 15) dX7_wantPulls_56 (show kd 49 = 7 by decide) (by decide) rfl fd_RX7_240 ?_
          refine E_if_eq 74 dX7_wantPulls_59 (by decide) (fun hc => ?_) (fun hc => ?_)
          · replace hP := hP.1 hc
            refine E_aload_n dX7_wantPulls_74 rfl ?_
            refine E_getZ (j := 15) dX7_wantPulls_75 (show kd 49 = 7 by decide) (by decide) rfl fd_RX7_240 ?_
            refine E_if_eq 93 dX7_wantPulls_78 (by decide) (fun hc => ?_) (fun hc => ?_)
            · replace hP := hP.1 hc
              refine E_iconst (v := 0) dX7_wantPulls_93 (by decide) ?_
              refine E_istore_n (ls' := [.ref (49), .int (0)]) dX7_wantPulls_94 (by decide) rfl ?_
              refine E_goto 6 dX7_wantPulls_95 (by decide) ?_
              exact ih (0) _ hP
            · replace hP := hP.2 hc
              refine E_aload_n dX7_wantPulls_81 rfl ?_
              refine E_getI (j := 10) dX7_wantPulls_82 (show kd 49 = 7 by decide) (by decide) rfl fd_RX7_208 ?_
              refine E_iconst (v := 2) dX7_wantPulls_85 (by decide) ?_
              refine E_icmp_ne 93 dX7_wantPulls_86 (by decide) (fun hc => ?_) (fun hc => ?_)
              · replace hP := hP.1 hc
                refine E_iconst (v := 0) dX7_wantPulls_93 (by decide) ?_
                refine E_istore_n (ls' := [.ref (49), .int (0)]) dX7_wantPulls_94 (by decide) rfl ?_
                refine E_goto 6 dX7_wantPulls_95 (by decide) ?_
                exact ih (0) _ hP
              · replace hP := hP.2 hc
                refine E_iconst (v := 1) dX7_wantPulls_89 (by decide) ?_
                refine E_goto 94 dX7_wantPulls_90 (by decide) ?_
                refine E_istore_n (ls' := [.ref (49), .int (1)]) dX7_wantPulls_94 (by decide) rfl ?_
                refine E_goto 6 dX7_wantPulls_95 (by decide) ?_
                exact ih (1) _ hP
          · replace hP := hP.2 hc
            refine E_aload_n dX7_wantPulls_62 rfl ?_
            refine E_aload_n dX7_wantPulls_63 rfl ?_
            refine E_getI (j := 14) dX7_wantPulls_64 (show kd 49 = 7 by decide) (by decide) rfl fd_RX7_215 ?_
            refine E_callV (As := [.int (gI s52 49 14)]) (rest := []) dX7_wantPulls_67 cl_RX7_145 tw_552 (show kd 49 = 7 by decide) (by decide) rfl tw_553 ⟨rfl, rfl, Nat.le_of_ble_eq_true rfl, Nat.le_of_ble_eq_true rfl⟩ rfl rfl (Nat.le_of_ble_eq_true rfl) (mt_X7_takeOut _ _ _  hP) ?_
            rintro _ t67 ⟨rfl, hP⟩
            show eX7_wantPulls 70 [.ref (49), .int (l1)] [] t67 _
            refine E_aload_n dX7_wantPulls_70 rfl ?_
            refine E_callV (As := []) (rest := []) dX7_wantPulls_71 cl_RX7_244 tw_648 (show kd 49 = 7 by decide) (by decide) rfl tw_649 ⟨rfl, rfl, Nat.le_of_ble_eq_true rfl, Nat.le_of_ble_eq_true rfl⟩ rfl rfl (Nat.le_of_ble_eq_true rfl) (mt_X7_advance  _ _  hP) ?_
            rintro _ t71 ⟨rfl, hP⟩
            show eX7_wantPulls 74 [.ref (49), .int (l1)] [] t71 _
            refine E_aload_n dX7_wantPulls_74 rfl ?_
            refine E_getZ (j := 15) dX7_wantPulls_75 (show kd 49 = 7 by decide) (by decide) rfl fd_RX7_240 ?_
            refine E_if_eq 93 dX7_wantPulls_78 (by decide) (fun hc => ?_) (fun hc => ?_)
            · replace hP := hP.1 hc
              refine E_iconst (v := 0) dX7_wantPulls_93 (by decide) ?_
              refine E_istore_n (ls' := [.ref (49), .int (0)]) dX7_wantPulls_94 (by decide) rfl ?_
              refine E_goto 6 dX7_wantPulls_95 (by decide) ?_
              exact ih (0) _ hP
            · replace hP := hP.2 hc
              refine E_aload_n dX7_wantPulls_81 rfl ?_
              refine E_getI (j := 10) dX7_wantPulls_82 (show kd 49 = 7 by decide) (by decide) rfl fd_RX7_208 ?_
              refine E_iconst (v := 2) dX7_wantPulls_85 (by decide) ?_
              refine E_icmp_ne 93 dX7_wantPulls_86 (by decide) (fun hc => ?_) (fun hc => ?_)
              · replace hP := hP.1 hc
                refine E_iconst (v := 0) dX7_wantPulls_93 (by decide) ?_
                refine E_istore_n (ls' := [.ref (49), .int (0)]) dX7_wantPulls_94 (by decide) rfl ?_
                refine E_goto 6 dX7_wantPulls_95 (by decide) ?_
                exact ih (0) _ hP
              · replace hP := hP.2 hc
                refine E_iconst (v := 1) dX7_wantPulls_89 (by decide) ?_
                refine E_goto 94 dX7_wantPulls_90 (by decide) ?_
                refine E_istore_n (ls' := [.ref (49), .int (1)]) dX7_wantPulls_94 (by decide) rfl ?_
                refine E_goto 6 dX7_wantPulls_95 (by decide) ?_
                exact ih (1) _ hP
        · replace hP := hP.2 hc
          refine E_aload_n dX7_wantPulls_26 rfl ?_
          refine E_getI (j := 14) dX7_wantPulls_27 (show kd 49 = 7 by decide) (by decide) rfl fd_RX7_215 ?_
          refine E_callS (As := [.int (gI σ 49 14)]) (rest := [.ref (49)]) dX7_wantPulls_30 cl_RX7_62 tw_464 ⟨rfl, rfl, Nat.le_of_ble_eq_true rfl, Nat.le_of_ble_eq_true rfl⟩ rfl rfl (Nat.le_of_ble_eq_true rfl) (mt_X7_isWall _ _ _  hP) ?_
          intro r0 s0 hq0; obtain ⟨r30, h0, hs0, hP⟩ := hq0; subst h0; rw [hs0]
          show eX7_wantPulls 33 [.ref (49), .int (l1)] [.int (bI r30), .ref (49)] σ _
          refine E_ifz_eq 51 dX7_wantPulls_33 (by decide) (fun hc => ?_) (fun hc => ?_)
          · replace hP := hP.1 hc
            refine E_iconst (v := 0) dX7_wantPulls_51 (by decide) ?_
            refine E_putZ (j := 15) dX7_wantPulls_52 (show kd 49 = 7 by decide) (by decide) rfl fd_RX7_240 fp_7_15 (Or.inl rfl) ?_
            refine E_nm (fun s52 hs52 => ?_)
            replace hP := hP s52 hs52
            refine E_aload_n dX7_wantPulls_55 rfl ?_
            refine E_getZ (j := 15) dX7_wantPulls_56 (show kd 49 = 7 by decide) (by decide) rfl fd_RX7_240 ?_
            refine E_if_eq 74 dX7_wantPulls_59 (by decide) (fun hc => ?_) (fun hc => ?_)
            · replace hP := hP.1 hc
              refine E_aload_n dX7_wantPulls_74 rfl ?_
              refine E_getZ (j := 15) dX7_wantPulls_75 (show kd 49 = 7 by decide) (by decide) rfl fd_RX7_240 ?_
              refine E_if_eq 93 dX7_wantPulls_78 (by decide) (fun hc => ?_) (fun hc => ?_)
              · replace hP := hP.1 hc
                refine E_iconst (v := 0) dX7_wantPulls_93 (by decide) ?_
                refine E_istore_n (ls' := [.ref (49), .int (0)]) dX7_wantPulls_94 (by decide) rfl ?_
                refine E_goto 6 dX7_wantPulls_95 (by decide) ?_
                exact ih (0) _ hP
              · replace hP := hP.2 hc
                refine E_aload_n dX7_wantPulls_81 rfl ?_
                refine E_getI (j := 10) dX7_wantPulls_82 (show kd 49 = 7 by decide) (by decide) rfl fd_RX7_208 ?_
                refine E_iconst (v := 2) dX7_wantPulls_85 (by decide) ?_
                refine E_icmp_ne 93 dX7_wantPulls_86 (by decide) (fun hc => ?_) (fun hc => ?_)
                · replace hP := hP.1 hc
                  refine E_iconst (v := 0) dX7_wantPulls_93 (by decide) ?_
                  refine E_istore_n (ls' := [.ref (49), .int (0)]) dX7_wantPulls_94 (by decide) rfl ?_
                  refine E_goto 6 dX7_wantPulls_95 (by decide) ?_
                  exact ih (0) _ hP
                · replace hP := hP.2 hc
                  refine E_iconst (v := 1) dX7_wantPulls_89 (by decide) ?_
                  refine E_goto 94 dX7_wantPulls_90 (by decide) ?_
                  refine E_istore_n (ls' := [.ref (49), .int (1)]) dX7_wantPulls_94 (by decide) rfl ?_
                  refine E_goto 6 dX7_wantPulls_95 (by decide) ?_
                  exact ih (1) _ hP
            · replace hP := hP.2 hc
              refine E_aload_n dX7_wantPulls_62 rfl ?_
              refine E_aload_n dX7_wantPulls_63 rfl ?_
              refine E_getI (j := 14) dX7_wantPulls_64 (show kd 49 = 7 by decide) (by decide) rfl fd_RX7_215 ?_
              refine E_callV (As := [.int (gI s52 49 14)]) (rest := []) dX7_wantPulls_67 cl_RX7_145 tw_552 (show kd 49 = 7 by decide) (by decide) rfl tw_553 ⟨rfl, rfl, Nat.le_of_ble_eq_true rfl, Nat.le_of_ble_eq_true rfl⟩ rfl rfl (Nat.le_of_ble_eq_true rfl) (mt_X7_takeOut _ _ _  hP) ?_
              rintro _ t67 ⟨rfl, hP⟩
              show eX7_wantPulls 70 [.ref (49), .int (l1)] [] t67 _
              refine E_aload_n dX7_wantPulls_70 rfl ?_
              refine E_callV (As := []) (rest := []) dX7_wantPulls_71 cl_RX7_244 tw_648 (show kd 49 = 7 by decide) (by decide) rfl tw_649 ⟨rfl, rfl, Nat.le_of_ble_eq_true rfl, Nat.le_of_ble_eq_true rfl⟩ rfl rfl (Nat.le_of_ble_eq_true rfl) (mt_X7_advance  _ _  hP) ?_
              rintro _ t71 ⟨rfl, hP⟩
              show eX7_wantPulls 74 [.ref (49), .int (l1)] [] t71 _
              refine E_aload_n dX7_wantPulls_74 rfl ?_
              refine E_getZ (j := 15) dX7_wantPulls_75 (show kd 49 = 7 by decide) (by decide) rfl fd_RX7_240 ?_
              refine E_if_eq 93 dX7_wantPulls_78 (by decide) (fun hc => ?_) (fun hc => ?_)
              · replace hP := hP.1 hc
                refine E_iconst (v := 0) dX7_wantPulls_93 (by decide) ?_
                refine E_istore_n (ls' := [.ref (49), .int (0)]) dX7_wantPulls_94 (by decide) rfl ?_
                refine E_goto 6 dX7_wantPulls_95 (by decide) ?_
                exact ih (0) _ hP
              · replace hP := hP.2 hc
                refine E_aload_n dX7_wantPulls_81 rfl ?_
                refine E_getI (j := 10) dX7_wantPulls_82 (show kd 49 = 7 by decide) (by decide) rfl fd_RX7_208 ?_
                refine E_iconst (v := 2) dX7_wantPulls_85 (by decide) ?_
                refine E_icmp_ne 93 dX7_wantPulls_86 (by decide) (fun hc => ?_) (fun hc => ?_)
                · replace hP := hP.1 hc
                  refine E_iconst (v := 0) dX7_wantPulls_93 (by decide) ?_
                  refine E_istore_n (ls' := [.ref (49), .int (0)]) dX7_wantPulls_94 (by decide) rfl ?_
                  refine E_goto 6 dX7_wantPulls_95 (by decide) ?_
                  exact ih (0) _ hP
                · replace hP := hP.2 hc
                  refine E_iconst (v := 1) dX7_wantPulls_89 (by decide) ?_
                  refine E_goto 94 dX7_wantPulls_90 (by decide) ?_
                  refine E_istore_n (ls' := [.ref (49), .int (1)]) dX7_wantPulls_94 (by decide) rfl ?_
                  refine E_goto 6 dX7_wantPulls_95 (by decide) ?_
                  exact ih (1) _ hP
          · replace hP := hP.2 hc
            refine E_aload_n dX7_wantPulls_36 rfl ?_
            refine E_aload_n dX7_wantPulls_37 rfl ?_
            refine E_getI (j := 14) dX7_wantPulls_38 (show kd 49 = 7 by decide) (by decide) rfl fd_RX7_215 ?_
            refine E_callV (As := [.int (gI σ 49 14)]) (rest := [.ref (49)]) dX7_wantPulls_41 cl_RX7_142 tw_556 (show kd 49 = 7 by decide) (by decide) rfl tw_557 ⟨rfl, rfl, Nat.le_of_ble_eq_true rfl, Nat.le_of_ble_eq_true rfl⟩ rfl rfl (Nat.le_of_ble_eq_true rfl) (mt_X7_canPullNow _ _ _  hP) ?_
            rintro _ t41 ⟨r41, rfl, hP⟩
            show eX7_wantPulls 44 [.ref (49), .int (l1)] [.int (bI r41), .ref (49)] t41 _
            refine E_ifz_eq 51 dX7_wantPulls_44 (by decide) (fun hc => ?_) (fun hc => ?_)
            · replace hP := hP.1 hc
              refine E_iconst (v := 0) dX7_wantPulls_51 (by decide) ?_
              refine E_putZ (j := 15) dX7_wantPulls_52 (show kd 49 = 7 by decide) (by decide) rfl fd_RX7_240 fp_7_15 (Or.inl rfl) ?_
              refine E_nm (fun s52 hs52 => ?_)
              replace hP := hP s52 hs52
              refine E_aload_n dX7_wantPulls_55 rfl ?_
              refine E_getZ (j := 15) dX7_wantPulls_56 (show kd 49 = 7 by decide) (by decide) rfl fd_RX7_240 ?_
              refine E_if_eq 74 dX7_wantPulls_59 (by decide) (fun hc => ?_) (fun hc => ?_)
              · replace hP := hP.1 hc
                refine E_aload_n dX7_wantPulls_74 rfl ?_
                refine E_getZ (j := 15) dX7_wantPulls_75 (show kd 49 = 7 by decide) (by decide) rfl fd_RX7_240 ?_
                refine E_if_eq 93 dX7_wantPulls_78 (by decide) (fun hc => ?_) (fun hc => ?_)
                · replace hP := hP.1 hc
                  refine E_iconst (v := 0) dX7_wantPulls_93 (by decide) ?_
                  refine E_istore_n (ls' := [.ref (49), .int (0)]) dX7_wantPulls_94 (by decide) rfl ?_
                  refine E_goto 6 dX7_wantPulls_95 (by decide) ?_
                  exact ih (0) _ hP
                · replace hP := hP.2 hc
                  refine E_aload_n dX7_wantPulls_81 rfl ?_
                  refine E_getI (j := 10) dX7_wantPulls_82 (show kd 49 = 7 by decide) (by decide) rfl fd_RX7_208 ?_
                  refine E_iconst (v := 2) dX7_wantPulls_85 (by decide) ?_
                  refine E_icmp_ne 93 dX7_wantPulls_86 (by decide) (fun hc => ?_) (fun hc => ?_)
                  · replace hP := hP.1 hc
                    refine E_iconst (v := 0) dX7_wantPulls_93 (by decide) ?_
                    refine E_istore_n (ls' := [.ref (49), .int (0)]) dX7_wantPulls_94 (by decide) rfl ?_
                    refine E_goto 6 dX7_wantPulls_95 (by decide) ?_
                    exact ih (0) _ hP
                  · replace hP := hP.2 hc
                    refine E_iconst (v := 1) dX7_wantPulls_89 (by decide) ?_
                    refine E_goto 94 dX7_wantPulls_90 (by decide) ?_
                    refine E_istore_n (ls' := [.ref (49), .int (1)]) dX7_wantPulls_94 (by decide) rfl ?_
                    refine E_goto 6 dX7_wantPulls_95 (by decide) ?_
                    exact ih (1) _ hP
              · replace hP := hP.2 hc
                refine E_aload_n dX7_wantPulls_62 rfl ?_
                refine E_aload_n dX7_wantPulls_63 rfl ?_
                refine E_getI (j := 14) dX7_wantPulls_64 (show kd 49 = 7 by decide) (by decide) rfl fd_RX7_215 ?_
                refine E_callV (As := [.int (gI s52 49 14)]) (rest := []) dX7_wantPulls_67 cl_RX7_145 tw_552 (show kd 49 = 7 by decide) (by decide) rfl tw_553 ⟨rfl, rfl, Nat.le_of_ble_eq_true rfl, Nat.le_of_ble_eq_true rfl⟩ rfl rfl (Nat.le_of_ble_eq_true rfl) (mt_X7_takeOut _ _ _  hP) ?_
                rintro _ t67 ⟨rfl, hP⟩
                show eX7_wantPulls 70 [.ref (49), .int (l1)] [] t67 _
                refine E_aload_n dX7_wantPulls_70 rfl ?_
                refine E_callV (As := []) (rest := []) dX7_wantPulls_71 cl_RX7_244 tw_648 (show kd 49 = 7 by decide) (by decide) rfl tw_649 ⟨rfl, rfl, Nat.le_of_ble_eq_true rfl, Nat.le_of_ble_eq_true rfl⟩ rfl rfl (Nat.le_of_ble_eq_true rfl) (mt_X7_advance  _ _  hP) ?_
                rintro _ t71 ⟨rfl, hP⟩
                show eX7_wantPulls 74 [.ref (49), .int (l1)] [] t71 _
                refine E_aload_n dX7_wantPulls_74 rfl ?_
                refine E_getZ (j := 15) dX7_wantPulls_75 (show kd 49 = 7 by decide) (by decide) rfl fd_RX7_240 ?_
                refine E_if_eq 93 dX7_wantPulls_78 (by decide) (fun hc => ?_) (fun hc => ?_)
                · replace hP := hP.1 hc
                  refine E_iconst (v := 0) dX7_wantPulls_93 (by decide) ?_
                  refine E_istore_n (ls' := [.ref (49), .int (0)]) dX7_wantPulls_94 (by decide) rfl ?_
                  refine E_goto 6 dX7_wantPulls_95 (by decide) ?_
                  exact ih (0) _ hP
                · replace hP := hP.2 hc
                  refine E_aload_n dX7_wantPulls_81 rfl ?_
                  refine E_getI (j := 10) dX7_wantPulls_82 (show kd 49 = 7 by decide) (by decide) rfl fd_RX7_208 ?_
                  refine E_iconst (v := 2) dX7_wantPulls_85 (by decide) ?_
                  refine E_icmp_ne 93 dX7_wantPulls_86 (by decide) (fun hc => ?_) (fun hc => ?_)
                  · replace hP := hP.1 hc
                    refine E_iconst (v := 0) dX7_wantPulls_93 (by decide) ?_
                    refine E_istore_n (ls' := [.ref (49), .int (0)]) dX7_wantPulls_94 (by decide) rfl ?_
                    refine E_goto 6 dX7_wantPulls_95 (by decide) ?_
                    exact ih (0) _ hP
                  · replace hP := hP.2 hc
                    refine E_iconst (v := 1) dX7_wantPulls_89 (by decide) ?_
                    refine E_goto 94 dX7_wantPulls_90 (by decide) ?_
                    refine E_istore_n (ls' := [.ref (49), .int (1)]) dX7_wantPulls_94 (by decide) rfl ?_
                    refine E_goto 6 dX7_wantPulls_95 (by decide) ?_
                    exact ih (1) _ hP
            · replace hP := hP.2 hc
              refine E_iconst (v := 1) dX7_wantPulls_47 (by decide) ?_
              refine E_goto 52 dX7_wantPulls_48 (by decide) ?_
              refine E_putZ (j := 15) dX7_wantPulls_52 (show kd 49 = 7 by decide) (by decide) rfl fd_RX7_240 fp_7_15 (Or.inr rfl) ?_
              refine E_nm (fun s52 hs52 => ?_)
              replace hP := hP s52 hs52
              refine E_aload_n dX7_wantPulls_55 rfl ?_
              refine E_getZ (j := 15) dX7_wantPulls_56 (show kd 49 = 7 by decide) (by decide) rfl fd_RX7_240 ?_
              refine E_if_eq 74 dX7_wantPulls_59 (by decide) (fun hc => ?_) (fun hc => ?_)
              · replace hP := hP.1 hc
                refine E_aload_n dX7_wantPulls_74 rfl ?_
                refine E_getZ (j := 15) dX7_wantPulls_75 (show kd 49 = 7 by decide) (by decide) rfl fd_RX7_240 ?_
                refine E_if_eq 93 dX7_wantPulls_78 (by decide) (fun hc => ?_) (fun hc => ?_)
                · replace hP := hP.1 hc
                  refine E_iconst (v := 0) dX7_wantPulls_93 (by decide) ?_
                  refine E_istore_n (ls' := [.ref (49), .int (0)]) dX7_wantPulls_94 (by decide) rfl ?_
                  refine E_goto 6 dX7_wantPulls_95 (by decide) ?_
                  exact ih (0) _ hP
                · replace hP := hP.2 hc
                  refine E_aload_n dX7_wantPulls_81 rfl ?_
                  refine E_getI (j := 10) dX7_wantPulls_82 (show kd 49 = 7 by decide) (by decide) rfl fd_RX7_208 ?_
                  refine E_iconst (v := 2) dX7_wantPulls_85 (by decide) ?_
                  refine E_icmp_ne 93 dX7_wantPulls_86 (by decide) (fun hc => ?_) (fun hc => ?_)
                  · replace hP := hP.1 hc
                    refine E_iconst (v := 0) dX7_wantPulls_93 (by decide) ?_
                    refine E_istore_n (ls' := [.ref (49), .int (0)]) dX7_wantPulls_94 (by decide) rfl ?_
                    refine E_goto 6 dX7_wantPulls_95 (by decide) ?_
                    exact ih (0) _ hP
                  · replace hP := hP.2 hc
                    refine E_iconst (v := 1) dX7_wantPulls_89 (by decide) ?_
                    refine E_goto 94 dX7_wantPulls_90 (by decide) ?_
                    refine E_istore_n (ls' := [.ref (49), .int (1)]) dX7_wantPulls_94 (by decide) rfl ?_
                    refine E_goto 6 dX7_wantPulls_95 (by decide) ?_
                    exact ih (1) _ hP
              · replace hP := hP.2 hc
                refine E_aload_n dX7_wantPulls_62 rfl ?_
                refine E_aload_n dX7_wantPulls_63 rfl ?_
                refine E_getI (j := 14) dX7_wantPulls_64 (show kd 49 = 7 by decide) (by decide) rfl fd_RX7_215 ?_
                refine E_callV (As := [.int (gI s52 49 14)]) (rest := []) dX7_wantPulls_67 cl_RX7_145 tw_552 (show kd 49 = 7 by decide) (by decide) rfl tw_553 ⟨rfl, rfl, Nat.le_of_ble_eq_true rfl, Nat.le_of_ble_eq_true rfl⟩ rfl rfl (Nat.le_of_ble_eq_true rfl) (mt_X7_takeOut _ _ _  hP) ?_
                rintro _ t67 ⟨rfl, hP⟩
                show eX7_wantPulls 70 [.ref (49), .int (l1)] [] t67 _
                refine E_aload_n dX7_wantPulls_70 rfl ?_
                refine E_callV (As := []) (rest := []) dX7_wantPulls_71 cl_RX7_244 tw_648 (show kd 49 = 7 by decide) (by decide) rfl tw_649 ⟨rfl, rfl, Nat.le_of_ble_eq_true rfl, Nat.le_of_ble_eq_true rfl⟩ rfl rfl (Nat.le_of_ble_eq_true rfl) (mt_X7_advance  _ _  hP) ?_
                rintro _ t71 ⟨rfl, hP⟩
                show eX7_wantPulls 74 [.ref (49), .int (l1)] [] t71 _
                refine E_aload_n dX7_wantPulls_74 rfl ?_
                refine E_getZ (j := 15) dX7_wantPulls_75 (show kd 49 = 7 by decide) (by decide) rfl fd_RX7_240 ?_
                refine E_if_eq 93 dX7_wantPulls_78 (by decide) (fun hc => ?_) (fun hc => ?_)
                · replace hP := hP.1 hc
                  refine E_iconst (v := 0) dX7_wantPulls_93 (by decide) ?_
                  refine E_istore_n (ls' := [.ref (49), .int (0)]) dX7_wantPulls_94 (by decide) rfl ?_
                  refine E_goto 6 dX7_wantPulls_95 (by decide) ?_
                  exact ih (0) _ hP
                · replace hP := hP.2 hc
                  refine E_aload_n dX7_wantPulls_81 rfl ?_
                  refine E_getI (j := 10) dX7_wantPulls_82 (show kd 49 = 7 by decide) (by decide) rfl fd_RX7_208 ?_
                  refine E_iconst (v := 2) dX7_wantPulls_85 (by decide) ?_
                  refine E_icmp_ne 93 dX7_wantPulls_86 (by decide) (fun hc => ?_) (fun hc => ?_)
                  · replace hP := hP.1 hc
                    refine E_iconst (v := 0) dX7_wantPulls_93 (by decide) ?_
                    refine E_istore_n (ls' := [.ref (49), .int (0)]) dX7_wantPulls_94 (by decide) rfl ?_
                    refine E_goto 6 dX7_wantPulls_95 (by decide) ?_
                    exact ih (0) _ hP
                  · replace hP := hP.2 hc
                    refine E_iconst (v := 1) dX7_wantPulls_89 (by decide) ?_
                    refine E_goto 94 dX7_wantPulls_90 (by decide) ?_
                    refine E_istore_n (ls' := [.ref (49), .int (1)]) dX7_wantPulls_94 (by decide) rfl ?_
                    refine E_goto 6 dX7_wantPulls_95 (by decide) ?_
                    exact ih (1) _ hP
set_option maxRecDepth 20000 in
theorem mt_X7_wantPulls  (σ : St) (Q : St → Prop)  (hP : P_X7_wantPulls  σ Q) : Mt yX7_wantPulls cX7_wantPulls 2 none rmX7_wantPulls [.ref (49)] σ (qV Q) := by
  refine Mt.of (k := 1) (ls := [.ref (49), un]) (by decide +kernel) rfl (Nat.le_of_ble_eq_true rfl) ?_
  show eX7_wantPulls 0 [.ref (49), un] [] σ _
  unfold P_X7_wantPulls at hP
  refine E_aload_n dX7_wantPulls_0 rfl ?_
  refine E_callV (As := []) (rest := []) dX7_wantPulls_1 cl_RX7_244 tw_648 (show kd 49 = 7 by decide) (by decide) rfl tw_649 ⟨rfl, rfl, Nat.le_of_ble_eq_true rfl, Nat.le_of_ble_eq_true rfl⟩ rfl rfl (Nat.le_of_ble_eq_true rfl) (mt_X7_advance  _ _  hP) ?_
  rintro _ t1 ⟨rfl, hP⟩
  show eX7_wantPulls 4 [.ref (49), un] [] t1 _
  refine E_iconst (v := 1) dX7_wantPulls_4 (by decide) ?_
  refine E_istore_n (ls' := [.ref (49), .int (1)]) dX7_wantPulls_5 (by decide) rfl ?_
  obtain ⟨m6, hP⟩ := hP
  refine ev_X7_wantPulls_l6   _ Q ?_ m6 _ _ hP
  intro  t98 hP
  exact E_vret dX7_wantPulls_98 rfl ⟨rfl, hP⟩
theorem dX7_wantItem_0 : decode cX7_wantItem 0 = .ok (.aload_n 0, 1) := by decide +kernel
theorem dX7_wantItem_1 : decode cX7_wantItem 1 = .ok (.invokevirtual 262, 3) := by decide +kernel
theorem dX7_wantItem_4 : decode cX7_wantItem 4 = .ok (.ifCond .lt 14, 3) := by decide +kernel
theorem dX7_wantItem_7 : decode cX7_wantItem 7 = .ok (.aload_n 0, 1) := by decide +kernel
theorem dX7_wantItem_8 : decode cX7_wantItem 8 = .ok (.aload_n 0, 1) := by decide +kernel
theorem dX7_wantItem_9 : decode cX7_wantItem 9 = .ok (.invokevirtual 262, 3) := by decide +kernel
theorem dX7_wantItem_12 : decode cX7_wantItem 12 = .ok (.invokevirtual 265, 3) := by decide +kernel
theorem dX7_wantItem_15 : decode cX7_wantItem 15 = .ok (.goto 76, 3) := by decide +kernel
theorem dX7_wantItem_18 : decode cX7_wantItem 18 = .ok (.aload_n 0, 1) := by decide +kernel
theorem dX7_wantItem_19 : decode cX7_wantItem 19 = .ok (.ldc2_w 268, 3) := by decide +kernel
theorem dX7_wantItem_22 : decode cX7_wantItem 22 = .ok (.invokevirtual 226, 3) := by decide +kernel
theorem dX7_wantItem_25 : decode cX7_wantItem 25 = .ok (.ifCond .eq 10, 3) := by decide +kernel
theorem dX7_wantItem_28 : decode cX7_wantItem 28 = .ok (.aload_n 0, 1) := by decide +kernel
theorem dX7_wantItem_29 : decode cX7_wantItem 29 = .ok (.invokevirtual 270, 3) := by decide +kernel
theorem dX7_wantItem_32 : decode cX7_wantItem 32 = .ok (.goto 59, 3) := by decide +kernel
theorem dX7_wantItem_35 : decode cX7_wantItem 35 = .ok (.aload_n 0, 1) := by decide +kernel
theorem dX7_wantItem_36 : decode cX7_wantItem 36 = .ok (.ldc2_w 273, 3) := by decide +kernel
theorem dX7_wantItem_39 : decode cX7_wantItem 39 = .ok (.invokevirtual 226, 3) := by decide +kernel
theorem dX7_wantItem_42 : decode cX7_wantItem 42 = .ok (.ifCond .eq 10, 3) := by decide +kernel
theorem dX7_wantItem_45 : decode cX7_wantItem 45 = .ok (.aload_n 0, 1) := by decide +kernel
theorem dX7_wantItem_46 : decode cX7_wantItem 46 = .ok (.invokevirtual 275, 3) := by decide +kernel
theorem dX7_wantItem_49 : decode cX7_wantItem 49 = .ok (.goto 42, 3) := by decide +kernel
theorem dX7_wantItem_52 : decode cX7_wantItem 52 = .ok (.aload_n 0, 1) := by decide +kernel
theorem dX7_wantItem_53 : decode cX7_wantItem 53 = .ok (.ldc2_w 278, 3) := by decide +kernel
theorem dX7_wantItem_56 : decode cX7_wantItem 56 = .ok (.invokevirtual 226, 3) := by decide +kernel
theorem dX7_wantItem_59 : decode cX7_wantItem 59 = .ok (.ifCond .eq 10, 3) := by decide +kernel
theorem dX7_wantItem_62 : decode cX7_wantItem 62 = .ok (.aload_n 0, 1) := by decide +kernel
theorem dX7_wantItem_63 : decode cX7_wantItem 63 = .ok (.invokevirtual 280, 3) := by decide +kernel
theorem dX7_wantItem_66 : decode cX7_wantItem 66 = .ok (.goto 25, 3) := by decide +kernel
theorem dX7_wantItem_69 : decode cX7_wantItem 69 = .ok (.aload_n 0, 1) := by decide +kernel
theorem dX7_wantItem_70 : decode cX7_wantItem 70 = .ok (.ldc2_w 283, 3) := by decide +kernel
theorem dX7_wantItem_73 : decode cX7_wantItem 73 = .ok (.invokevirtual 226, 3) := by decide +kernel
theorem dX7_wantItem_76 : decode cX7_wantItem 76 = .ok (.ifCond .eq 10, 3) := by decide +kernel
theorem dX7_wantItem_79 : decode cX7_wantItem 79 = .ok (.aload_n 0, 1) := by decide +kernel
theorem dX7_wantItem_80 : decode cX7_wantItem 80 = .ok (.invokevirtual 285, 3) := by decide +kernel
theorem dX7_wantItem_83 : decode cX7_wantItem 83 = .ok (.goto 8, 3) := by decide +kernel
theorem dX7_wantItem_86 : decode cX7_wantItem 86 = .ok (.aload_n 0, 1) := by decide +kernel
theorem dX7_wantItem_87 : decode cX7_wantItem 87 = .ok (.iconst 0, 1) := by decide +kernel
theorem dX7_wantItem_88 : decode cX7_wantItem 88 = .ok (.putfield 240, 3) := by decide +kernel
theorem dX7_wantItem_91 : decode cX7_wantItem 91 = .ok (.return_, 1) := by decide +kernel
def rmX7_wantItem : Room := { frames := 7, cells := 0, slots := 0, locals := 154 }
abbrev eX7_wantItem := Ev cX7_wantItem 1 none RX7 rmX7_wantItem
set_option maxRecDepth 20000 in
theorem mt_X7_wantItem  (σ : St) (Q : St → Prop)  (hP : P_X7_wantItem  σ Q) : Mt yX7_wantItem cX7_wantItem 1 none rmX7_wantItem [.ref (49)] σ (qV Q) := by
  refine Mt.of (k := 0) (ls := [.ref (49)]) (by decide +kernel) rfl (Nat.le_of_ble_eq_true rfl) ?_
  show eX7_wantItem 0 [.ref (49)] [] σ _
  unfold P_X7_wantItem at hP
  refine E_aload_n dX7_wantItem_0 rfl ?_
  refine E_callV (As := []) (rest := []) dX7_wantItem_1 cl_RX7_262 tw_688 (show kd 49 = 7 by decide) (by decide) rfl tw_689 ⟨rfl, rfl, Nat.le_of_ble_eq_true rfl, Nat.le_of_ble_eq_true rfl⟩ rfl rfl (Nat.le_of_ble_eq_true rfl) (mt_X7_kindHere  _ _  hP) ?_
  intro r0 s0 hq0; obtain ⟨r1, h0, hs0, hP⟩ := hq0; subst h0; rw [hs0]
  show eX7_wantItem 4 [.ref (49)] [.int (r1)] σ _
  refine E_if_lt 18 dX7_wantItem_4 (by decide) (fun hc => ?_) (fun hc => ?_)
  · replace hP := hP.1 hc
    refine E_aload_n dX7_wantItem_18 rfl ?_
    refine E_ldc2 (v := 43051) dX7_wantItem_19 tw_662 ?_
    refine E_callV (As := [.long (43051)]) (rest := []) dX7_wantItem_22 cl_RX7_226 tw_643 (show kd 49 = 7 by decide) (by decide) rfl tw_644 ⟨rfl, rfl, Nat.le_of_ble_eq_true rfl, Nat.le_of_ble_eq_true rfl⟩ rfl rfl (Nat.le_of_ble_eq_true rfl) (mt_X7_isWord _ _ _  hP) ?_
    intro r0 s0 hq0; obtain ⟨r22, h0, hs0, hP⟩ := hq0; subst h0; rw [hs0]
    show eX7_wantItem 25 [.ref (49)] [.int (bI r22)] σ _
    refine E_ifz_eq 35 dX7_wantItem_25 (by decide) (fun hc => ?_) (fun hc => ?_)
    · replace hP := hP.1 hc
      refine E_aload_n dX7_wantItem_35 rfl ?_
      refine E_ldc2 (v := 12324668) dX7_wantItem_36 tw_663 ?_
      refine E_callV (As := [.long (12324668)]) (rest := []) dX7_wantItem_39 cl_RX7_226 tw_643 (show kd 49 = 7 by decide) (by decide) rfl tw_644 ⟨rfl, rfl, Nat.le_of_ble_eq_true rfl, Nat.le_of_ble_eq_true rfl⟩ rfl rfl (Nat.le_of_ble_eq_true rfl) (mt_X7_isWord _ _ _  hP) ?_
      intro r0 s0 hq0; obtain ⟨r39, h0, hs0, hP⟩ := hq0; subst h0; rw [hs0]
      show eX7_wantItem 42 [.ref (49)] [.int (bI r39)] σ _
      refine E_ifz_eq 52 dX7_wantItem_42 (by decide) (fun hc => ?_) (fun hc => ?_)
      · replace hP := hP.1 hc
        refine E_aload_n dX7_wantItem_52 rfl ?_
        refine E_ldc2 (v := 10334396) dX7_wantItem_53 tw_664 ?_
        refine E_callV (As := [.long (10334396)]) (rest := []) dX7_wantItem_56 cl_RX7_226 tw_643 (show kd 49 = 7 by decide) (by decide) rfl tw_644 ⟨rfl, rfl, Nat.le_of_ble_eq_true rfl, Nat.le_of_ble_eq_true rfl⟩ rfl rfl (Nat.le_of_ble_eq_true rfl) (mt_X7_isWord _ _ _  hP) ?_
        intro r0 s0 hq0; obtain ⟨r56, h0, hs0, hP⟩ := hq0; subst h0; rw [hs0]
        show eX7_wantItem 59 [.ref (49)] [.int (bI r56)] σ _
        refine E_ifz_eq 69 dX7_wantItem_59 (by decide) (fun hc => ?_) (fun hc => ?_)
        · replace hP := hP.1 hc
          refine E_aload_n dX7_wantItem_69 rfl ?_
          refine E_ldc2 (v := 330573) dX7_wantItem_70 tw_665 ?_
          refine E_callV (As := [.long (330573)]) (rest := []) dX7_wantItem_73 cl_RX7_226 tw_643 (show kd 49 = 7 by decide) (by decide) rfl tw_644 ⟨rfl, rfl, Nat.le_of_ble_eq_true rfl, Nat.le_of_ble_eq_true rfl⟩ rfl rfl (Nat.le_of_ble_eq_true rfl) (mt_X7_isWord _ _ _  hP) ?_
          intro r0 s0 hq0; obtain ⟨r73, h0, hs0, hP⟩ := hq0; subst h0; rw [hs0]
          show eX7_wantItem 76 [.ref (49)] [.int (bI r73)] σ _
          refine E_ifz_eq 86 dX7_wantItem_76 (by decide) (fun hc => ?_) (fun hc => ?_)
          · replace hP := hP.1 hc
            refine E_aload_n dX7_wantItem_86 rfl ?_
            refine E_iconst (v := 0) dX7_wantItem_87 (by decide) ?_
            refine E_putZ (j := 15) dX7_wantItem_88 (show kd 49 = 7 by decide) (by decide) rfl fd_RX7_240 fp_7_15 (Or.inl rfl) ?_
            exact E_vret dX7_wantItem_91 rfl ⟨rfl, hP⟩
          · replace hP := hP.2 hc
            refine E_aload_n dX7_wantItem_79 rfl ?_
            refine E_callV (As := []) (rest := []) dX7_wantItem_80 cl_RX7_285 tw_668 (show kd 49 = 7 by decide) (by decide) rfl tw_669 ⟨rfl, rfl, Nat.le_of_ble_eq_true rfl, Nat.le_of_ble_eq_true rfl⟩ rfl rfl (Nat.le_of_ble_eq_true rfl) (mt_X7_wantPulls  _ _  hP) ?_
            rintro _ t80 ⟨rfl, hP⟩
            show eX7_wantItem 83 [.ref (49)] [] t80 _
            refine E_goto 91 dX7_wantItem_83 (by decide) ?_
            exact E_vret dX7_wantItem_91 rfl ⟨rfl, hP⟩
        · replace hP := hP.2 hc
          refine E_aload_n dX7_wantItem_62 rfl ?_
          refine E_callV (As := []) (rest := []) dX7_wantItem_63 cl_RX7_280 tw_672 (show kd 49 = 7 by decide) (by decide) rfl tw_673 ⟨rfl, rfl, Nat.le_of_ble_eq_true rfl, Nat.le_of_ble_eq_true rfl⟩ rfl rfl (Nat.le_of_ble_eq_true rfl) (mt_X7_wantSlack  _ _  hP) ?_
          rintro _ t63 ⟨rfl, hP⟩
          show eX7_wantItem 66 [.ref (49)] [] t63 _
          refine E_goto 91 dX7_wantItem_66 (by decide) ?_
          exact E_vret dX7_wantItem_91 rfl ⟨rfl, hP⟩
      · replace hP := hP.2 hc
        refine E_aload_n dX7_wantItem_45 rfl ?_
        refine E_callV (As := []) (rest := []) dX7_wantItem_46 cl_RX7_275 tw_676 (show kd 49 = 7 by decide) (by decide) rfl tw_677 ⟨rfl, rfl, Nat.le_of_ble_eq_true rfl, Nat.le_of_ble_eq_true rfl⟩ rfl rfl (Nat.le_of_ble_eq_true rfl) (mt_X7_wantWedge  _ _  hP) ?_
        rintro _ t46 ⟨rfl, hP⟩
        show eX7_wantItem 49 [.ref (49)] [] t46 _
        refine E_goto 91 dX7_wantItem_49 (by decide) ?_
        exact E_vret dX7_wantItem_91 rfl ⟨rfl, hP⟩
    · replace hP := hP.2 hc
      refine E_aload_n dX7_wantItem_28 rfl ?_
      refine E_callV (As := []) (rest := []) dX7_wantItem_29 cl_RX7_270 tw_680 (show kd 49 = 7 by decide) (by decide) rfl tw_681 ⟨rfl, rfl, Nat.le_of_ble_eq_true rfl, Nat.le_of_ble_eq_true rfl⟩ rfl rfl (Nat.le_of_ble_eq_true rfl) (mt_X7_wantBeam  _ _  hP) ?_
      rintro _ t29 ⟨rfl, hP⟩
      show eX7_wantItem 32 [.ref (49)] [] t29 _
      refine E_goto 91 dX7_wantItem_32 (by decide) ?_
      exact E_vret dX7_wantItem_91 rfl ⟨rfl, hP⟩
  · replace hP := hP.2 hc
    refine E_aload_n dX7_wantItem_7 rfl ?_
    refine E_aload_n dX7_wantItem_8 rfl ?_
    refine E_callV (As := []) (rest := [.ref (49)]) dX7_wantItem_9 cl_RX7_262 tw_688 (show kd 49 = 7 by decide) (by decide) rfl tw_689 ⟨rfl, rfl, Nat.le_of_ble_eq_true rfl, Nat.le_of_ble_eq_true rfl⟩ rfl rfl (Nat.le_of_ble_eq_true rfl) (mt_X7_kindHere  _ _  hP) ?_
    intro r0 s0 hq0; obtain ⟨r9, h0, hs0, hP⟩ := hq0; subst h0; rw [hs0]
    show eX7_wantItem 12 [.ref (49)] [.int (r9), .ref (49)] σ _
    refine E_callV (As := [.int (r9)]) (rest := []) dX7_wantItem_12 cl_RX7_265 tw_684 (show kd 49 = 7 by decide) (by decide) rfl tw_685 ⟨rfl, rfl, Nat.le_of_ble_eq_true rfl, Nat.le_of_ble_eq_true rfl⟩ rfl rfl (Nat.le_of_ble_eq_true rfl) (mt_X7_wantStone _ _ _  hP) ?_
    rintro _ t12 ⟨rfl, hP⟩
    show eX7_wantItem 15 [.ref (49)] [] t12 _
    refine E_goto 91 dX7_wantItem_15 (by decide) ?_
    exact E_vret dX7_wantItem_91 rfl ⟨rfl, hP⟩
theorem dX7_moveAll_0 : decode cX7_moveAll 0 = .ok (.iconst 0, 1) := by decide +kernel
theorem dX7_moveAll_1 : decode cX7_moveAll 1 = .ok (.istore_n 3, 1) := by decide +kernel
theorem dX7_moveAll_2 : decode cX7_moveAll 2 = .ok (.iload_n 3, 1) := by decide +kernel
theorem dX7_moveAll_3 : decode cX7_moveAll 3 = .ok (.bipush 96, 2) := by decide +kernel
theorem dX7_moveAll_5 : decode cX7_moveAll 5 = .ok (.if_icmp .ge 34, 3) := by decide +kernel
theorem dX7_moveAll_8 : decode cX7_moveAll 8 = .ok (.iload_n 1, 1) := by decide +kernel
theorem dX7_moveAll_9 : decode cX7_moveAll 9 = .ok (.ifCond .eq 15, 3) := by decide +kernel
theorem dX7_moveAll_12 : decode cX7_moveAll 12 = .ok (.aload_n 2, 1) := by decide +kernel
theorem dX7_moveAll_13 : decode cX7_moveAll 13 = .ok (.iload_n 3, 1) := by decide +kernel
theorem dX7_moveAll_14 : decode cX7_moveAll 14 = .ok (.aload_n 0, 1) := by decide +kernel
theorem dX7_moveAll_15 : decode cX7_moveAll 15 = .ok (.getfield 7, 3) := by decide +kernel
theorem dX7_moveAll_18 : decode cX7_moveAll 18 = .ok (.iload_n 3, 1) := by decide +kernel
theorem dX7_moveAll_19 : decode cX7_moveAll 19 = .ok (.iaload, 1) := by decide +kernel
theorem dX7_moveAll_20 : decode cX7_moveAll 20 = .ok (.iastore, 1) := by decide +kernel
theorem dX7_moveAll_21 : decode cX7_moveAll 21 = .ok (.goto 12, 3) := by decide +kernel
theorem dX7_moveAll_24 : decode cX7_moveAll 24 = .ok (.aload_n 0, 1) := by decide +kernel
theorem dX7_moveAll_25 : decode cX7_moveAll 25 = .ok (.getfield 7, 3) := by decide +kernel
theorem dX7_moveAll_28 : decode cX7_moveAll 28 = .ok (.iload_n 3, 1) := by decide +kernel
theorem dX7_moveAll_29 : decode cX7_moveAll 29 = .ok (.aload_n 2, 1) := by decide +kernel
theorem dX7_moveAll_30 : decode cX7_moveAll 30 = .ok (.iload_n 3, 1) := by decide +kernel
theorem dX7_moveAll_31 : decode cX7_moveAll 31 = .ok (.iaload, 1) := by decide +kernel
theorem dX7_moveAll_32 : decode cX7_moveAll 32 = .ok (.iastore, 1) := by decide +kernel
theorem dX7_moveAll_33 : decode cX7_moveAll 33 = .ok (.iinc 3 1, 3) := by decide +kernel
theorem dX7_moveAll_36 : decode cX7_moveAll 36 = .ok (.goto (-34), 3) := by decide +kernel
theorem dX7_moveAll_39 : decode cX7_moveAll 39 = .ok (.return_, 1) := by decide +kernel
def rmX7_moveAll : Room := { frames := 0, cells := 0, slots := 0, locals := 0 }
abbrev eX7_moveAll := Ev cX7_moveAll 4 none RX7 rmX7_moveAll
set_option maxRecDepth 20000 in
theorem ev_X7_moveAll_l2 (l1 : Bool) (l2 : Nat) (o_l2 : kd (l2) = 8) (K : St → Prop) (Q : St → Prop) (hK : ∀  s, K  s → eX7_moveAll 39 [un, un, un, un] [] s (qV Q)) : ∀ (n : Nat) (l3 : Int32) (σ : St), P_X7_moveAll_l2 l1 l2 K Q n l3 σ → eX7_moveAll 2 [.ref (49), .int (bI l1), .ref (l2), .int (l3)] [] σ (qV Q) := by
  intro n
  induction n with
  | zero => intro l3 σ hP; exact hP.elim
  | succ n ih =>
    intro l3 σ hP
    rw [P_X7_moveAll_l2] at hP
    refine E_iload_n dX7_moveAll_2 rfl ?_
    refine E_bipush (v := 96) dX7_moveAll_3 (by decide) ?_
    refine E_icmp_ge 39 dX7_moveAll_5 (by decide) (fun hc => ?_) (fun hc => ?_)
    · replace hP := hP.1 hc
      refine E_mask [false, false, false, false] rfl ?_
      exact hK  _ hP
    · replace hP := hP.2 hc
      refine E_iload_n dX7_moveAll_8 rfl ?_
      refine E_ifz_eq 24 dX7_moveAll_9 (by decide) (fun hc => ?_) (fun hc => ?_)
      · replace hP := hP.1 hc
        refine E_aload_n dX7_moveAll_24 rfl ?_
        refine E_getR (j := 0) dX7_moveAll_25 (show kd 49 = 7 by decide) (by decide) rfl fd_RX7_7 (by decide) ?_
        refine E_iload_n dX7_moveAll_28 rfl ?_
        refine E_aload_n dX7_moveAll_29 rfl ?_
        refine E_iload_n dX7_moveAll_30 rfl ?_
        obtain ⟨hb, hP⟩ := hP
        refine E_iald dX7_moveAll_31 o_l2 rfl hb ?_
        obtain ⟨hb, hP⟩ := hP
        refine E_iast dX7_moveAll_32 (ar_7_1 (show kd 49 = 7 by decide)).1 (ar_7_1 (show kd 49 = 7 by decide)).2 hb ?_
        refine E_iinc (ls' := [.ref (49), .int (bI l1), .ref (l2), .int (l3 + 1)]) dX7_moveAll_33 rfl rfl (by decide) rfl ?_
        refine E_goto 2 dX7_moveAll_36 (by decide) ?_
        exact ih (l3 + 1) _ hP
      · replace hP := hP.2 hc
        refine E_aload_n dX7_moveAll_12 rfl ?_
        refine E_iload_n dX7_moveAll_13 rfl ?_
        refine E_aload_n dX7_moveAll_14 rfl ?_
        refine E_getR (j := 0) dX7_moveAll_15 (show kd 49 = 7 by decide) (by decide) rfl fd_RX7_7 (by decide) ?_
        refine E_iload_n dX7_moveAll_18 rfl ?_
        obtain ⟨hb, hP⟩ := hP
        refine E_iald dX7_moveAll_19 (ar_7_1 (show kd 49 = 7 by decide)).1 (ar_7_1 (show kd 49 = 7 by decide)).2 hb ?_
        obtain ⟨hb, hP⟩ := hP
        refine E_iast dX7_moveAll_20 o_l2 rfl hb ?_
        refine E_goto 33 dX7_moveAll_21 (by decide) ?_
        refine E_iinc (ls' := [.ref (49), .int (bI l1), .ref (l2), .int (l3 + 1)]) dX7_moveAll_33 rfl rfl (by decide) rfl ?_
        refine E_goto 2 dX7_moveAll_36 (by decide) ?_
        exact ih (l3 + 1) _ hP
set_option maxRecDepth 20000 in
theorem mt_X7_moveAll (p0 : Bool) (p1 : Nat) (σ : St) (Q : St → Prop) (o_p1 : kd p1 = 8) (hP : P_X7_moveAll p0 p1 σ Q) : Mt yX7_moveAll cX7_moveAll 4 none rmX7_moveAll [.ref (49), .int (bI p0), .ref (p1)] σ (qV Q) := by
  refine Mt.of (k := 1) (ls := [.ref (49), .int (bI p0), .ref (p1), un]) (by decide +kernel) rfl (Nat.le_of_ble_eq_true rfl) ?_
  show eX7_moveAll 0 [.ref (49), .int (bI p0), .ref (p1), un] [] σ _
  unfold P_X7_moveAll at hP
  refine E_iconst (v := 0) dX7_moveAll_0 (by decide) ?_
  refine E_istore_n (ls' := [.ref (49), .int (bI p0), .ref (p1), .int (0)]) dX7_moveAll_1 (by decide) rfl ?_
  obtain ⟨m2, hP⟩ := hP
  refine ev_X7_moveAll_l2 (p0) (p1) o_p1 _ Q ?_ m2 _ _ hP
  intro  t39 hP
  exact E_vret dX7_moveAll_39 rfl ⟨rfl, hP⟩
theorem dX7_house_0 : decode cX7_house 0 = .ok (.aload_n 0, 1) := by decide +kernel
theorem dX7_house_1 : decode cX7_house 1 = .ok (.iconst 1, 1) := by decide +kernel
theorem dX7_house_2 : decode cX7_house 2 = .ok (.aload_n 0, 1) := by decide +kernel
theorem dX7_house_3 : decode cX7_house 3 = .ok (.getfield 54, 3) := by decide +kernel
theorem dX7_house_6 : decode cX7_house 6 = .ok (.invokevirtual 288, 3) := by decide +kernel
theorem dX7_house_9 : decode cX7_house 9 = .ok (.aload_n 0, 1) := by decide +kernel
theorem dX7_house_10 : decode cX7_house 10 = .ok (.iconst 0, 1) := by decide +kernel
theorem dX7_house_11 : decode cX7_house 11 = .ok (.putfield 193, 3) := by decide +kernel
theorem dX7_house_14 : decode cX7_house 14 = .ok (.aload_n 0, 1) := by decide +kernel
theorem dX7_house_15 : decode cX7_house 15 = .ok (.iconst 1, 1) := by decide +kernel
theorem dX7_house_16 : decode cX7_house 16 = .ok (.putfield 240, 3) := by decide +kernel
theorem dX7_house_19 : decode cX7_house 19 = .ok (.iconst 0, 1) := by decide +kernel
theorem dX7_house_20 : decode cX7_house 20 = .ok (.istore_n 1, 1) := by decide +kernel
theorem dX7_house_21 : decode cX7_house 21 = .ok (.iconst 1, 1) := by decide +kernel
theorem dX7_house_22 : decode cX7_house 22 = .ok (.istore_n 2, 1) := by decide +kernel
theorem dX7_house_23 : decode cX7_house 23 = .ok (.iload_n 2, 1) := by decide +kernel
theorem dX7_house_24 : decode cX7_house 24 = .ok (.ifCond .eq 47, 3) := by decide +kernel
theorem dX7_house_27 : decode cX7_house 27 = .ok (.aload_n 0, 1) := by decide +kernel
theorem dX7_house_28 : decode cX7_house 28 = .ok (.invokevirtual 244, 3) := by decide +kernel
theorem dX7_house_31 : decode cX7_house 31 = .ok (.aload_n 0, 1) := by decide +kernel
theorem dX7_house_32 : decode cX7_house 32 = .ok (.invokevirtual 292, 3) := by decide +kernel
theorem dX7_house_35 : decode cX7_house 35 = .ok (.iinc 1 1, 3) := by decide +kernel
theorem dX7_house_38 : decode cX7_house 38 = .ok (.aload_n 0, 1) := by decide +kernel
theorem dX7_house_39 : decode cX7_house 39 = .ok (.getfield 240, 3) := by decide +kernel
theorem dX7_house_42 : decode cX7_house 42 = .ok (.ifCond .eq 24, 3) := by decide +kernel
theorem dX7_house_45 : decode cX7_house 45 = .ok (.aload_n 0, 1) := by decide +kernel
theorem dX7_house_46 : decode cX7_house 46 = .ok (.getfield 208, 3) := by decide +kernel
theorem dX7_house_49 : decode cX7_house 49 = .ok (.iconst 3, 1) := by decide +kernel
theorem dX7_house_50 : decode cX7_house 50 = .ok (.if_icmp .ne 16, 3) := by decide +kernel
theorem dX7_house_53 : decode cX7_house 53 = .ok (.aload_n 0, 1) := by decide +kernel
theorem dX7_house_54 : decode cX7_house 54 = .ok (.getfield 215, 3) := by decide +kernel
theorem dX7_house_57 : decode cX7_house 57 = .ok (.bipush 59, 2) := by decide +kernel
theorem dX7_house_59 : decode cX7_house 59 = .ok (.if_icmp .ne 7, 3) := by decide +kernel
theorem dX7_house_62 : decode cX7_house 62 = .ok (.iconst 1, 1) := by decide +kernel
theorem dX7_house_63 : decode cX7_house 63 = .ok (.goto 4, 3) := by decide +kernel
theorem dX7_house_66 : decode cX7_house 66 = .ok (.iconst 0, 1) := by decide +kernel
theorem dX7_house_67 : decode cX7_house 67 = .ok (.istore_n 2, 1) := by decide +kernel
theorem dX7_house_68 : decode cX7_house 68 = .ok (.goto (-45), 3) := by decide +kernel
theorem dX7_house_71 : decode cX7_house 71 = .ok (.aload_n 0, 1) := by decide +kernel
theorem dX7_house_72 : decode cX7_house 72 = .ok (.aload_n 0, 1) := by decide +kernel
theorem dX7_house_73 : decode cX7_house 73 = .ok (.getfield 240, 3) := by decide +kernel
theorem dX7_house_76 : decode cX7_house 76 = .ok (.ifCond .eq 14, 3) := by decide +kernel
theorem dX7_house_79 : decode cX7_house 79 = .ok (.aload_n 0, 1) := by decide +kernel
theorem dX7_house_80 : decode cX7_house 80 = .ok (.getfield 208, 3) := by decide +kernel
theorem dX7_house_83 : decode cX7_house 83 = .ok (.ifCond .ne 7, 3) := by decide +kernel
theorem dX7_house_86 : decode cX7_house 86 = .ok (.iconst 1, 1) := by decide +kernel
theorem dX7_house_87 : decode cX7_house 87 = .ok (.goto 4, 3) := by decide +kernel
theorem dX7_house_90 : decode cX7_house 90 = .ok (.iconst 0, 1) := by decide +kernel
theorem dX7_house_91 : decode cX7_house 91 = .ok (.putfield 240, 3) := by decide +kernel
theorem dX7_house_94 : decode cX7_house 94 = .ok (.aload_n 0, 1) := by decide +kernel
theorem dX7_house_95 : decode cX7_house 95 = .ok (.iconst 0, 1) := by decide +kernel
theorem dX7_house_96 : decode cX7_house 96 = .ok (.putfield 189, 3) := by decide +kernel
theorem dX7_house_99 : decode cX7_house 99 = .ok (.aload_n 0, 1) := by decide +kernel
theorem dX7_house_100 : decode cX7_house 100 = .ok (.getfield 240, 3) := by decide +kernel
theorem dX7_house_103 : decode cX7_house 103 = .ok (.ifCond .ne 19, 3) := by decide +kernel
theorem dX7_house_106 : decode cX7_house 106 = .ok (.aload_n 0, 1) := by decide +kernel
theorem dX7_house_107 : decode cX7_house 107 = .ok (.iconst 0, 1) := by decide +kernel
theorem dX7_house_108 : decode cX7_house 108 = .ok (.aload_n 0, 1) := by decide +kernel
theorem dX7_house_109 : decode cX7_house 109 = .ok (.getfield 54, 3) := by decide +kernel
theorem dX7_house_112 : decode cX7_house 112 = .ok (.invokevirtual 288, 3) := by decide +kernel
theorem dX7_house_115 : decode cX7_house 115 = .ok (.iconst (-1), 1) := by decide +kernel
theorem dX7_house_116 : decode cX7_house 116 = .ok (.aload_n 0, 1) := by decide +kernel
theorem dX7_house_117 : decode cX7_house 117 = .ok (.getfield 196, 3) := by decide +kernel
theorem dX7_house_120 : decode cX7_house 120 = .ok (.isub, 1) := by decide +kernel
theorem dX7_house_121 : decode cX7_house 121 = .ok (.ireturn, 1) := by decide +kernel
theorem dX7_house_122 : decode cX7_house 122 = .ok (.iload_n 1, 1) := by decide +kernel
theorem dX7_house_123 : decode cX7_house 123 = .ok (.ireturn, 1) := by decide +kernel
def rmX7_house : Room := { frames := 8, cells := 0, slots := 0, locals := 174 }
abbrev eX7_house := Ev cX7_house 3 (some .int) RX7 rmX7_house
set_option maxRecDepth 20000 in
theorem ev_X7_house_l23   (K : Int32 → St → Prop) (Q : Int32 → St → Prop) (hK : ∀ k1 s, K k1 s → eX7_house 71 [.ref (49), .int (k1), un] [] s (qI Q)) : ∀ (n : Nat) (l1 : Int32) (l2 : Int32) (σ : St), P_X7_house_l23  K Q n l1 l2 σ → eX7_house 23 [.ref (49), .int (l1), .int (l2)] [] σ (qI Q) := by
  intro n
  induction n with
  | zero => intro l1 l2 σ hP; exact hP.elim
  | succ n ih =>
    intro l1 l2 σ hP
    rw [P_X7_house_l23] at hP
    refine E_iload_n dX7_house_23 rfl ?_
    refine E_if_eq 71 dX7_house_24 (by decide) (fun hc => ?_) (fun hc => ?_)
    · replace hP := hP.1 hc
      refine E_mask [true, true, false] rfl ?_
      exact hK (l1) _ hP
    · replace hP := hP.2 hc
      refine E_aload_n dX7_house_27 rfl ?_
      refine E_callV (As := []) (rest := []) dX7_house_28 cl_RX7_244 tw_648 (show kd 49 = 7 by decide) (by decide) rfl tw_649 ⟨rfl, rfl, Nat.le_of_ble_eq_true rfl, Nat.le_of_ble_eq_true rfl⟩ rfl rfl (Nat.le_of_ble_eq_true rfl) (mt_X7_advance  _ _  hP) ?_
      rintro _ t28 ⟨rfl, hP⟩
      show eX7_house 31 [.ref (49), .int (l1), .int (l2)] [] t28 _
      refine E_aload_n dX7_house_31 rfl ?_
      refine E_callV (As := []) (rest := []) dX7_house_32 cl_RX7_292 tw_693 (show kd 49 = 7 by decide) (by decide) rfl tw_694 ⟨rfl, rfl, Nat.le_of_ble_eq_true rfl, Nat.le_of_ble_eq_true rfl⟩ rfl rfl (Nat.le_of_ble_eq_true rfl) (mt_X7_wantItem  _ _  hP) ?_
      rintro _ t32 ⟨rfl, hP⟩
      show eX7_house 35 [.ref (49), .int (l1), .int (l2)] [] t32 _
      refine E_iinc (ls' := [.ref (49), .int (l1 + 1), .int (l2)]) dX7_house_35 rfl rfl (by decide) rfl ?_
      refine E_aload_n dX7_house_38 rfl ?_
      refine E_getZ (j := 15) dX7_house_39 (show kd 49 = 7 by decide) (by decide) rfl fd_RX7_240 ?_
      refine E_if_eq 66 dX7_house_42 (by decide) (fun hc => ?_) (fun hc => ?_)
      · replace hP := hP.1 hc
        refine E_iconst (v := 0) dX7_house_66 (by decide) ?_
        refine E_istore_n (ls' := [.ref (49), .int (l1 + 1), .int (0)]) dX7_house_67 (by decide) rfl ?_
        refine E_goto 23 dX7_house_68 (by decide) ?_
        exact ih (l1 + 1) (0) _ hP
      · replace hP := hP.2 hc
        refine E_aload_n dX7_house_45 rfl ?_
        refine E_getI (j := 10) dX7_house_46 (show kd 49 = 7 by decide) (by decide) rfl fd_RX7_208 ?_
        refine E_iconst (v := 3) dX7_house_49 (by decide) ?_
        refine E_icmp_ne 66 dX7_house_50 (by decide) (fun hc => ?_) (fun hc => ?_)
        · replace hP := hP.1 hc
          refine E_iconst (v := 0) dX7_house_66 (by decide) ?_
          refine E_istore_n (ls' := [.ref (49), .int (l1 + 1), .int (0)]) dX7_house_67 (by decide) rfl ?_
          refine E_goto 23 dX7_house_68 (by decide) ?_
          exact ih (l1 + 1) (0) _ hP
        · replace hP := hP.2 hc
          refine E_aload_n dX7_house_53 rfl ?_
          refine E_getI (j := 14) dX7_house_54 (show kd 49 = 7 by decide) (by decide) rfl fd_RX7_215 ?_
          refine E_bipush (v := 59) dX7_house_57 (by decide) ?_
          refine E_icmp_ne 66 dX7_house_59 (by decide) (fun hc => ?_) (fun hc => ?_)
          · replace hP := hP.1 hc
            refine E_iconst (v := 0) dX7_house_66 (by decide) ?_
            refine E_istore_n (ls' := [.ref (49), .int (l1 + 1), .int (0)]) dX7_house_67 (by decide) rfl ?_
            refine E_goto 23 dX7_house_68 (by decide) ?_
            exact ih (l1 + 1) (0) _ hP
          · replace hP := hP.2 hc
            refine E_iconst (v := 1) dX7_house_62 (by decide) ?_
            refine E_goto 67 dX7_house_63 (by decide) ?_
            refine E_istore_n (ls' := [.ref (49), .int (l1 + 1), .int (1)]) dX7_house_67 (by decide) rfl ?_
            refine E_goto 23 dX7_house_68 (by decide) ?_
            exact ih (l1 + 1) (1) _ hP
set_option maxRecDepth 20000 in
theorem mt_X7_house  (σ : St) (Q : Int32 → St → Prop)  (hP : P_X7_house  σ Q) : Mt yX7_house cX7_house 3 (some .int) rmX7_house [.ref (49)] σ (qI Q) := by
  refine Mt.of (k := 2) (ls := [.ref (49), un, un]) (by decide +kernel) rfl (Nat.le_of_ble_eq_true rfl) ?_
  show eX7_house 0 [.ref (49), un, un] [] σ _
  unfold P_X7_house at hP
  refine E_aload_n dX7_house_0 rfl ?_
  refine E_iconst (v := 1) dX7_house_1 (by decide) ?_
  refine E_aload_n dX7_house_2 rfl ?_
  refine E_getR (j := 21) dX7_house_3 (show kd 49 = 7 by decide) (by decide) rfl fd_RX7_54 (by decide) ?_
  refine E_callV (As := [.int (bI true), .ref (64)]) (rest := []) dX7_house_6 cl_RX7_288 tw_697 (show kd 49 = 7 by decide) (by decide) rfl tw_698 ⟨rfl, rfl, Nat.le_of_ble_eq_true rfl, Nat.le_of_ble_eq_true rfl⟩ rfl rfl (Nat.le_of_ble_eq_true rfl) (mt_X7_moveAll _ _ _ _ (ar_7_15 (show kd 49 = 7 by decide)).1 hP) ?_
  rintro _ t6 ⟨rfl, hP⟩
  show eX7_house 9 [.ref (49), un, un] [] t6 _
  refine E_aload_n dX7_house_9 rfl ?_
  refine E_iconst (v := 0) dX7_house_10 (by decide) ?_
  refine E_putI (j := 12) dX7_house_11 (show kd 49 = 7 by decide) (by decide) rfl fd_RX7_193 fp_7_12 ?_
  refine E_aload_n dX7_house_14 rfl ?_
  refine E_iconst (v := 1) dX7_house_15 (by decide) ?_
  refine E_putZ (j := 15) dX7_house_16 (show kd 49 = 7 by decide) (by decide) rfl fd_RX7_240 fp_7_15 (Or.inr rfl) ?_
  refine E_iconst (v := 0) dX7_house_19 (by decide) ?_
  refine E_istore_n (ls' := [.ref (49), .int (0), un]) dX7_house_20 (by decide) rfl ?_
  refine E_iconst (v := 1) dX7_house_21 (by decide) ?_
  refine E_istore_n (ls' := [.ref (49), .int (0), .int (1)]) dX7_house_22 (by decide) rfl ?_
  obtain ⟨m23, hP⟩ := hP
  refine ev_X7_house_l23   _ Q ?_ m23 _ _ _ hP
  intro k1 t71 hP
  refine E_aload_n dX7_house_71 rfl ?_
  refine E_aload_n dX7_house_72 rfl ?_
  refine E_getZ (j := 15) dX7_house_73 (show kd 49 = 7 by decide) (by decide) rfl fd_RX7_240 ?_
  refine E_if_eq 90 dX7_house_76 (by decide) (fun hc => ?_) (fun hc => ?_)
  · replace hP := hP.1 hc
    refine E_iconst (v := 0) dX7_house_90 (by decide) ?_
    refine E_putZ (j := 15) dX7_house_91 (show kd 49 = 7 by decide) (by decide) rfl fd_RX7_240 fp_7_15 (Or.inl rfl) ?_
    refine E_aload_n dX7_house_94 rfl ?_
    refine E_iconst (v := 0) dX7_house_95 (by decide) ?_
    refine E_putI (j := 9) dX7_house_96 (show kd 49 = 7 by decide) (by decide) rfl fd_RX7_189 fp_7_9 ?_
    refine E_nm (fun s96 hs96 => ?_)
    replace hP := hP s96 hs96
    refine E_aload_n dX7_house_99 rfl ?_
    refine E_getZ (j := 15) dX7_house_100 (show kd 49 = 7 by decide) (by decide) rfl fd_RX7_240 ?_
    refine E_if_ne 122 dX7_house_103 (by decide) (fun hc => ?_) (fun hc => ?_)
    · replace hP := hP.1 hc
      refine E_iload_n dX7_house_122 rfl ?_
      exact E_iret dX7_house_123 rfl ⟨_, rfl, hP⟩
    · replace hP := hP.2 hc
      refine E_aload_n dX7_house_106 rfl ?_
      refine E_iconst (v := 0) dX7_house_107 (by decide) ?_
      refine E_aload_n dX7_house_108 rfl ?_
      refine E_getR (j := 21) dX7_house_109 (show kd 49 = 7 by decide) (by decide) rfl fd_RX7_54 (by decide) ?_
      refine E_callV (As := [.int (bI false), .ref (64)]) (rest := []) dX7_house_112 cl_RX7_288 tw_697 (show kd 49 = 7 by decide) (by decide) rfl tw_698 ⟨rfl, rfl, Nat.le_of_ble_eq_true rfl, Nat.le_of_ble_eq_true rfl⟩ rfl rfl (Nat.le_of_ble_eq_true rfl) (mt_X7_moveAll _ _ _ _ (ar_7_15 (show kd 49 = 7 by decide)).1 hP) ?_
      rintro _ t112 ⟨rfl, hP⟩
      show eX7_house 115 [.ref (49), .int (k1), un] [] t112 _
      refine E_iconst (v := (-1)) dX7_house_115 (by decide) ?_
      refine E_aload_n dX7_house_116 rfl ?_
      refine E_getI (j := 11) dX7_house_117 (show kd 49 = 7 by decide) (by decide) rfl fd_RX7_196 ?_
      refine E_isub dX7_house_120 ?_
      exact E_iret dX7_house_121 rfl ⟨_, rfl, hP⟩
  · replace hP := hP.2 hc
    refine E_aload_n dX7_house_79 rfl ?_
    refine E_getI (j := 10) dX7_house_80 (show kd 49 = 7 by decide) (by decide) rfl fd_RX7_208 ?_
    refine E_if_ne 90 dX7_house_83 (by decide) (fun hc => ?_) (fun hc => ?_)
    · replace hP := hP.1 hc
      refine E_iconst (v := 0) dX7_house_90 (by decide) ?_
      refine E_putZ (j := 15) dX7_house_91 (show kd 49 = 7 by decide) (by decide) rfl fd_RX7_240 fp_7_15 (Or.inl rfl) ?_
      refine E_aload_n dX7_house_94 rfl ?_
      refine E_iconst (v := 0) dX7_house_95 (by decide) ?_
      refine E_putI (j := 9) dX7_house_96 (show kd 49 = 7 by decide) (by decide) rfl fd_RX7_189 fp_7_9 ?_
      refine E_nm (fun s96 hs96 => ?_)
      replace hP := hP s96 hs96
      refine E_aload_n dX7_house_99 rfl ?_
      refine E_getZ (j := 15) dX7_house_100 (show kd 49 = 7 by decide) (by decide) rfl fd_RX7_240 ?_
      refine E_if_ne 122 dX7_house_103 (by decide) (fun hc => ?_) (fun hc => ?_)
      · replace hP := hP.1 hc
        refine E_iload_n dX7_house_122 rfl ?_
        exact E_iret dX7_house_123 rfl ⟨_, rfl, hP⟩
      · replace hP := hP.2 hc
        refine E_aload_n dX7_house_106 rfl ?_
        refine E_iconst (v := 0) dX7_house_107 (by decide) ?_
        refine E_aload_n dX7_house_108 rfl ?_
        refine E_getR (j := 21) dX7_house_109 (show kd 49 = 7 by decide) (by decide) rfl fd_RX7_54 (by decide) ?_
        refine E_callV (As := [.int (bI false), .ref (64)]) (rest := []) dX7_house_112 cl_RX7_288 tw_697 (show kd 49 = 7 by decide) (by decide) rfl tw_698 ⟨rfl, rfl, Nat.le_of_ble_eq_true rfl, Nat.le_of_ble_eq_true rfl⟩ rfl rfl (Nat.le_of_ble_eq_true rfl) (mt_X7_moveAll _ _ _ _ (ar_7_15 (show kd 49 = 7 by decide)).1 hP) ?_
        rintro _ t112 ⟨rfl, hP⟩
        show eX7_house 115 [.ref (49), .int (k1), un] [] t112 _
        refine E_iconst (v := (-1)) dX7_house_115 (by decide) ?_
        refine E_aload_n dX7_house_116 rfl ?_
        refine E_getI (j := 11) dX7_house_117 (show kd 49 = 7 by decide) (by decide) rfl fd_RX7_196 ?_
        refine E_isub dX7_house_120 ?_
        exact E_iret dX7_house_121 rfl ⟨_, rfl, hP⟩
    · replace hP := hP.2 hc
      refine E_iconst (v := 1) dX7_house_86 (by decide) ?_
      refine E_goto 91 dX7_house_87 (by decide) ?_
      refine E_putZ (j := 15) dX7_house_91 (show kd 49 = 7 by decide) (by decide) rfl fd_RX7_240 fp_7_15 (Or.inr rfl) ?_
      refine E_aload_n dX7_house_94 rfl ?_
      refine E_iconst (v := 0) dX7_house_95 (by decide) ?_
      refine E_putI (j := 9) dX7_house_96 (show kd 49 = 7 by decide) (by decide) rfl fd_RX7_189 fp_7_9 ?_
      refine E_nm (fun s96 hs96 => ?_)
      replace hP := hP s96 hs96
      refine E_aload_n dX7_house_99 rfl ?_
      refine E_getZ (j := 15) dX7_house_100 (show kd 49 = 7 by decide) (by decide) rfl fd_RX7_240 ?_
      refine E_if_ne 122 dX7_house_103 (by decide) (fun hc => ?_) (fun hc => ?_)
      · replace hP := hP.1 hc
        refine E_iload_n dX7_house_122 rfl ?_
        exact E_iret dX7_house_123 rfl ⟨_, rfl, hP⟩
      · replace hP := hP.2 hc
        refine E_aload_n dX7_house_106 rfl ?_
        refine E_iconst (v := 0) dX7_house_107 (by decide) ?_
        refine E_aload_n dX7_house_108 rfl ?_
        refine E_getR (j := 21) dX7_house_109 (show kd 49 = 7 by decide) (by decide) rfl fd_RX7_54 (by decide) ?_
        refine E_callV (As := [.int (bI false), .ref (64)]) (rest := []) dX7_house_112 cl_RX7_288 tw_697 (show kd 49 = 7 by decide) (by decide) rfl tw_698 ⟨rfl, rfl, Nat.le_of_ble_eq_true rfl, Nat.le_of_ble_eq_true rfl⟩ rfl rfl (Nat.le_of_ble_eq_true rfl) (mt_X7_moveAll _ _ _ _ (ar_7_15 (show kd 49 = 7 by decide)).1 hP) ?_
        rintro _ t112 ⟨rfl, hP⟩
        show eX7_house 115 [.ref (49), .int (k1), un] [] t112 _
        refine E_iconst (v := (-1)) dX7_house_115 (by decide) ?_
        refine E_aload_n dX7_house_116 rfl ?_
        refine E_getI (j := 11) dX7_house_117 (show kd 49 = 7 by decide) (by decide) rfl fd_RX7_196 ?_
        refine E_isub dX7_house_120 ?_
        exact E_iret dX7_house_121 rfl ⟨_, rfl, hP⟩
theorem dX7_isSheet_0 : decode cX7_isSheet 0 = .ok (.iload_n 0, 1) := by decide +kernel
theorem dX7_isSheet_1 : decode cX7_isSheet 1 = .ok (.iconst 0, 1) := by decide +kernel
theorem dX7_isSheet_2 : decode cX7_isSheet 2 = .ok (.iconst 3, 1) := by decide +kernel
theorem dX7_isSheet_3 : decode cX7_isSheet 3 = .ok (.invokestatic 58, 3) := by decide +kernel
theorem dX7_isSheet_6 : decode cX7_isSheet 6 = .ok (.ireturn, 1) := by decide +kernel
def rmX7_isSheet : Room := { frames := 1, cells := 0, slots := 0, locals := 22 }
abbrev eX7_isSheet := Ev cX7_isSheet 1 (some .boolean) RX7 rmX7_isSheet
set_option maxRecDepth 20000 in
theorem mt_X7_isSheet (p0 : Int32) (σ : St) (Q : Bool → Prop)  (hP : P_X7_isSheet p0 σ Q) : Mt yX7_isSheet cX7_isSheet 1 (some .boolean) rmX7_isSheet [.int (p0)] σ (qB fun x s => s = σ ∧ Q x) := by
  refine Mt.of (k := 0) (ls := [.int (p0)]) (by decide +kernel) rfl (Nat.le_of_ble_eq_true rfl) ?_
  show eX7_isSheet 0 [.int (p0)] [] σ _
  unfold P_X7_isSheet at hP
  refine E_iload_n dX7_isSheet_0 rfl ?_
  refine E_iconst (v := 0) dX7_isSheet_1 (by decide) ?_
  refine E_iconst (v := 3) dX7_isSheet_2 (by decide) ?_
  refine E_callS (As := [.int (p0), .int (0), .int (3)]) (rest := []) dX7_isSheet_3 cl_RX7_58 tw_456 ⟨rfl, rfl, Nat.le_of_ble_eq_true rfl, Nat.le_of_ble_eq_true rfl⟩ rfl rfl (Nat.le_of_ble_eq_true rfl) (mt_X7_in _ _ _ _ _  hP) ?_
  intro r0 s0 hq0; obtain ⟨r3, h0, hs0, hP⟩ := hq0; subst h0; rw [hs0]
  show eX7_isSheet 6 [.int (p0)] [.int (bI r3)] σ _
  exact E_nret dX7_isSheet_6 rfl (nar_b r3) ⟨r3, rfl, rfl, hP⟩
theorem dX7_narrow_0 : decode cX7_narrow 0 = .ok (.iload_n 0, 1) := by decide +kernel
theorem dX7_narrow_1 : decode cX7_narrow 1 = .ok (.bipush 8, 2) := by decide +kernel
theorem dX7_narrow_3 : decode cX7_narrow 3 = .ok (.if_icmp .ne 13, 3) := by decide +kernel
theorem dX7_narrow_6 : decode cX7_narrow 6 = .ok (.lload_n 1, 1) := by decide +kernel
theorem dX7_narrow_7 : decode cX7_narrow 7 = .ok (.bipush 56, 2) := by decide +kernel
theorem dX7_narrow_9 : decode cX7_narrow 9 = .ok (.lshl, 1) := by decide +kernel
theorem dX7_narrow_10 : decode cX7_narrow 10 = .ok (.bipush 56, 2) := by decide +kernel
theorem dX7_narrow_12 : decode cX7_narrow 12 = .ok (.lshr, 1) := by decide +kernel
theorem dX7_narrow_13 : decode cX7_narrow 13 = .ok (.goto 20, 3) := by decide +kernel
theorem dX7_narrow_16 : decode cX7_narrow 16 = .ok (.iload_n 0, 1) := by decide +kernel
theorem dX7_narrow_17 : decode cX7_narrow 17 = .ok (.bipush 16, 2) := by decide +kernel
theorem dX7_narrow_19 : decode cX7_narrow 19 = .ok (.if_icmp .ne 13, 3) := by decide +kernel
theorem dX7_narrow_22 : decode cX7_narrow 22 = .ok (.lload_n 1, 1) := by decide +kernel
theorem dX7_narrow_23 : decode cX7_narrow 23 = .ok (.bipush 48, 2) := by decide +kernel
theorem dX7_narrow_25 : decode cX7_narrow 25 = .ok (.lshl, 1) := by decide +kernel
theorem dX7_narrow_26 : decode cX7_narrow 26 = .ok (.bipush 48, 2) := by decide +kernel
theorem dX7_narrow_28 : decode cX7_narrow 28 = .ok (.lshr, 1) := by decide +kernel
theorem dX7_narrow_29 : decode cX7_narrow 29 = .ok (.goto 4, 3) := by decide +kernel
theorem dX7_narrow_32 : decode cX7_narrow 32 = .ok (.lload_n 1, 1) := by decide +kernel
theorem dX7_narrow_33 : decode cX7_narrow 33 = .ok (.lreturn, 1) := by decide +kernel
def rmX7_narrow : Room := { frames := 0, cells := 0, slots := 0, locals := 0 }
abbrev eX7_narrow := Ev cX7_narrow 3 (some .long) RX7 rmX7_narrow
set_option maxRecDepth 20000 in
theorem mt_X7_narrow (p0 : Int32) (p1 : Int64) (σ : St) (Q : Int64 → Prop)  (hP : P_X7_narrow p0 p1 σ Q) : Mt yX7_narrow cX7_narrow 3 (some .long) rmX7_narrow [.int (p0), .long (p1)] σ (qL fun x s => s = σ ∧ Q x) := by
  refine Mt.of (k := 0) (ls := [.int (p0), .long (p1), un]) (by decide +kernel) rfl (Nat.le_of_ble_eq_true rfl) ?_
  show eX7_narrow 0 [.int (p0), .long (p1), un] [] σ _
  unfold P_X7_narrow at hP
  refine E_iload_n dX7_narrow_0 rfl ?_
  refine E_bipush (v := 8) dX7_narrow_1 (by decide) ?_
  refine E_icmp_ne 16 dX7_narrow_3 (by decide) (fun hc => ?_) (fun hc => ?_)
  · replace hP := hP.1 hc
    refine E_iload_n dX7_narrow_16 rfl ?_
    refine E_bipush (v := 16) dX7_narrow_17 (by decide) ?_
    refine E_icmp_ne 32 dX7_narrow_19 (by decide) (fun hc => ?_) (fun hc => ?_)
    · replace hP := hP.1 hc
      refine E_lload_n dX7_narrow_32 rfl ?_
      exact E_lret dX7_narrow_33 rfl ⟨_, rfl, rfl, hP⟩
    · replace hP := hP.2 hc
      refine E_lload_n dX7_narrow_22 rfl ?_
      refine E_bipush (v := 48) dX7_narrow_23 (by decide) ?_
      refine E_lshl dX7_narrow_25 ?_
      refine E_bipush (v := 48) dX7_narrow_26 (by decide) ?_
      refine E_lshr dX7_narrow_28 ?_
      refine E_goto 33 dX7_narrow_29 (by decide) ?_
      exact E_lret dX7_narrow_33 rfl ⟨_, rfl, rfl, hP⟩
  · replace hP := hP.2 hc
    refine E_lload_n dX7_narrow_6 rfl ?_
    refine E_bipush (v := 56) dX7_narrow_7 (by decide) ?_
    refine E_lshl dX7_narrow_9 ?_
    refine E_bipush (v := 56) dX7_narrow_10 (by decide) ?_
    refine E_lshr dX7_narrow_12 ?_
    refine E_goto 33 dX7_narrow_13 (by decide) ?_
    exact E_lret dX7_narrow_33 rfl ⟨_, rfl, rfl, hP⟩
