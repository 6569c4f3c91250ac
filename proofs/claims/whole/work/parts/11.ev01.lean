theorem dX3_lowestMayGo_0 : decode cX3_lowestMayGo 0 = .ok (.iload_n 1, 1) := by decide +kernel
theorem dX3_lowestMayGo_1 : decode cX3_lowestMayGo 1 = .ok (.iload_n 2, 1) := by decide +kernel
theorem dX3_lowestMayGo_2 : decode cX3_lowestMayGo 2 = .ok (.invokestatic 21, 3) := by decide +kernel
theorem dX3_lowestMayGo_5 : decode cX3_lowestMayGo 5 = .ok (.istore_n 3, 1) := by decide +kernel
theorem dX3_lowestMayGo_6 : decode cX3_lowestMayGo 6 = .ok (.iload_n 3, 1) := by decide +kernel
theorem dX3_lowestMayGo_7 : decode cX3_lowestMayGo 7 = .ok (.ifCond .ne 5, 3) := by decide +kernel
theorem dX3_lowestMayGo_10 : decode cX3_lowestMayGo 10 = .ok (.iconst 0, 1) := by decide +kernel
theorem dX3_lowestMayGo_11 : decode cX3_lowestMayGo 11 = .ok (.ireturn, 1) := by decide +kernel
theorem dX3_lowestMayGo_12 : decode cX3_lowestMayGo 12 = .ok (.aload_n 0, 1) := by decide +kernel
theorem dX3_lowestMayGo_13 : decode cX3_lowestMayGo 13 = .ok (.getfield 18, 3) := by decide +kernel
theorem dX3_lowestMayGo_16 : decode cX3_lowestMayGo 16 = .ok (.iload_n 2, 1) := by decide +kernel
theorem dX3_lowestMayGo_17 : decode cX3_lowestMayGo 17 = .ok (.bipush 8, 2) := by decide +kernel
theorem dX3_lowestMayGo_19 : decode cX3_lowestMayGo 19 = .ok (.imul, 1) := by decide +kernel
theorem dX3_lowestMayGo_20 : decode cX3_lowestMayGo 20 = .ok (.iload_n 3, 1) := by decide +kernel
theorem dX3_lowestMayGo_21 : decode cX3_lowestMayGo 21 = .ok (.iadd, 1) := by decide +kernel
theorem dX3_lowestMayGo_22 : decode cX3_lowestMayGo 22 = .ok (.iaload, 1) := by decide +kernel
theorem dX3_lowestMayGo_23 : decode cX3_lowestMayGo 23 = .ok (.istore 4, 2) := by decide +kernel
theorem dX3_lowestMayGo_25 : decode cX3_lowestMayGo 25 = .ok (.iload 4, 2) := by decide +kernel
theorem dX3_lowestMayGo_27 : decode cX3_lowestMayGo 27 = .ok (.iconst 1, 1) := by decide +kernel
theorem dX3_lowestMayGo_28 : decode cX3_lowestMayGo 28 = .ok (.if_icmp .eq 17, 3) := by decide +kernel
theorem dX3_lowestMayGo_31 : decode cX3_lowestMayGo 31 = .ok (.iload 4, 2) := by decide +kernel
theorem dX3_lowestMayGo_33 : decode cX3_lowestMayGo 33 = .ok (.iconst 4, 1) := by decide +kernel
theorem dX3_lowestMayGo_34 : decode cX3_lowestMayGo 34 = .ok (.if_icmp .eq 11, 3) := by decide +kernel
theorem dX3_lowestMayGo_37 : decode cX3_lowestMayGo 37 = .ok (.iload 4, 2) := by decide +kernel
theorem dX3_lowestMayGo_39 : decode cX3_lowestMayGo 39 = .ok (.iconst 3, 1) := by decide +kernel
theorem dX3_lowestMayGo_40 : decode cX3_lowestMayGo 40 = .ok (.if_icmp .eq 5, 3) := by decide +kernel
theorem dX3_lowestMayGo_43 : decode cX3_lowestMayGo 43 = .ok (.iconst 1, 1) := by decide +kernel
theorem dX3_lowestMayGo_44 : decode cX3_lowestMayGo 44 = .ok (.ireturn, 1) := by decide +kernel
theorem dX3_lowestMayGo_45 : decode cX3_lowestMayGo 45 = .ok (.iload_n 2, 1) := by decide +kernel
theorem dX3_lowestMayGo_46 : decode cX3_lowestMayGo 46 = .ok (.iconst 3, 1) := by decide +kernel
theorem dX3_lowestMayGo_47 : decode cX3_lowestMayGo 47 = .ok (.if_icmp .ge 16, 3) := by decide +kernel
theorem dX3_lowestMayGo_50 : decode cX3_lowestMayGo 50 = .ok (.iload_n 1, 1) := by decide +kernel
theorem dX3_lowestMayGo_51 : decode cX3_lowestMayGo 51 = .ok (.iload_n 2, 1) := by decide +kernel
theorem dX3_lowestMayGo_52 : decode cX3_lowestMayGo 52 = .ok (.iconst 1, 1) := by decide +kernel
theorem dX3_lowestMayGo_53 : decode cX3_lowestMayGo 53 = .ok (.iadd, 1) := by decide +kernel
theorem dX3_lowestMayGo_54 : decode cX3_lowestMayGo 54 = .ok (.invokestatic 21, 3) := by decide +kernel
theorem dX3_lowestMayGo_57 : decode cX3_lowestMayGo 57 = .ok (.iload_n 3, 1) := by decide +kernel
theorem dX3_lowestMayGo_58 : decode cX3_lowestMayGo 58 = .ok (.if_icmp .le 5, 3) := by decide +kernel
theorem dX3_lowestMayGo_61 : decode cX3_lowestMayGo 61 = .ok (.iconst 0, 1) := by decide +kernel
theorem dX3_lowestMayGo_62 : decode cX3_lowestMayGo 62 = .ok (.ireturn, 1) := by decide +kernel
theorem dX3_lowestMayGo_63 : decode cX3_lowestMayGo 63 = .ok (.iload 4, 2) := by decide +kernel
theorem dX3_lowestMayGo_65 : decode cX3_lowestMayGo 65 = .ok (.iconst 3, 1) := by decide +kernel
theorem dX3_lowestMayGo_66 : decode cX3_lowestMayGo 66 = .ok (.if_icmp .eq 18, 3) := by decide +kernel
theorem dX3_lowestMayGo_69 : decode cX3_lowestMayGo 69 = .ok (.iload_n 2, 1) := by decide +kernel
theorem dX3_lowestMayGo_70 : decode cX3_lowestMayGo 70 = .ok (.ifCond .eq 14, 3) := by decide +kernel
theorem dX3_lowestMayGo_73 : decode cX3_lowestMayGo 73 = .ok (.iload_n 1, 1) := by decide +kernel
theorem dX3_lowestMayGo_74 : decode cX3_lowestMayGo 74 = .ok (.iload_n 2, 1) := by decide +kernel
theorem dX3_lowestMayGo_75 : decode cX3_lowestMayGo 75 = .ok (.iconst 1, 1) := by decide +kernel
theorem dX3_lowestMayGo_76 : decode cX3_lowestMayGo 76 = .ok (.isub, 1) := by decide +kernel
theorem dX3_lowestMayGo_77 : decode cX3_lowestMayGo 77 = .ok (.invokestatic 21, 3) := by decide +kernel
theorem dX3_lowestMayGo_80 : decode cX3_lowestMayGo 80 = .ok (.iload_n 3, 1) := by decide +kernel
theorem dX3_lowestMayGo_81 : decode cX3_lowestMayGo 81 = .ok (.if_icmp .gt 7, 3) := by decide +kernel
theorem dX3_lowestMayGo_84 : decode cX3_lowestMayGo 84 = .ok (.iconst 1, 1) := by decide +kernel
theorem dX3_lowestMayGo_85 : decode cX3_lowestMayGo 85 = .ok (.goto 4, 3) := by decide +kernel
theorem dX3_lowestMayGo_88 : decode cX3_lowestMayGo 88 = .ok (.iconst 0, 1) := by decide +kernel
theorem dX3_lowestMayGo_89 : decode cX3_lowestMayGo 89 = .ok (.ireturn, 1) := by decide +kernel
def rmX3_lowestMayGo : Room := { frames := 1, cells := 0, slots := 0, locals := 21 }
abbrev eX3_lowestMayGo := Ev cX3_lowestMayGo 5 (some .boolean) RX3 rmX3_lowestMayGo
set_option maxRecDepth 20000 in
theorem mt_X3_lowestMayGo (a0 : Nat) (p0 : Int32) (p1 : Int32) (σ : St) (Q : Bool → Prop) (o_a0 : kd a0 = 3) (hP : P_X3_lowestMayGo a0 p0 p1 σ Q) : Mt yX3_lowestMayGo cX3_lowestMayGo 5 (some .boolean) rmX3_lowestMayGo [.ref (a0), .int (p0), .int (p1)] σ (qB fun x s => s = σ ∧ Q x) := by
  refine Mt.of (k := 2) (ls := [.ref (a0), .int (p0), .int (p1), un, un]) (by decide +kernel) rfl (Nat.le_of_ble_eq_true rfl) ?_
  show eX3_lowestMayGo 0 [.ref (a0), .int (p0), .int (p1), un, un] [] σ _
  unfold P_X3_lowestMayGo at hP
  refine E_iload_n dX3_lowestMayGo_0 rfl ?_
  refine E_iload_n dX3_lowestMayGo_1 rfl ?_
  refine E_callS (As := [.int (p0), .int (p1)]) (rest := []) dX3_lowestMayGo_2 cl_RX3_21 tw_47 ⟨rfl, rfl, Nat.le_of_ble_eq_true rfl, Nat.le_of_ble_eq_true rfl⟩ rfl rfl (Nat.le_of_ble_eq_true rfl) (mt_X3_leftAt _ _ _ _  hP) ?_
  intro r0 s0 hq0; obtain ⟨r2, h0, hs0, hP⟩ := hq0; subst h0; rw [hs0]
  show eX3_lowestMayGo 5 [.ref (a0), .int (p0), .int (p1), un, un] [.int (r2)] σ _
  refine E_istore_n (ls' := [.ref (a0), .int (p0), .int (p1), .int (r2), un]) dX3_lowestMayGo_5 (by decide) rfl ?_
  refine E_iload_n dX3_lowestMayGo_6 rfl ?_
  refine E_if_ne 12 dX3_lowestMayGo_7 (by decide) (fun hc => ?_) (fun hc => ?_)
  · replace hP := hP.1 hc
    refine E_aload_n dX3_lowestMayGo_12 rfl ?_
    refine E_getR (j := 2) dX3_lowestMayGo_13 o_a0 (by decide) rfl fd_RX3_18 (by decide) ?_
    refine E_iload_n dX3_lowestMayGo_16 rfl ?_
    refine E_bipush (v := 8) dX3_lowestMayGo_17 (by decide) ?_
    refine E_imul dX3_lowestMayGo_19 ?_
    refine E_iload_n dX3_lowestMayGo_20 rfl ?_
    refine E_iadd dX3_lowestMayGo_21 ?_
    obtain ⟨hb, hP⟩ := hP
    refine E_iald dX3_lowestMayGo_22 (ar_3_3 o_a0).1 (ar_3_3 o_a0).2 hb ?_
    refine E_istore (ls' := [.ref (a0), .int (p0), .int (p1), .int (r2), .int (gI σ (a0 + 3) ((p1 * 8) + r2).toNatClampNeg)]) dX3_lowestMayGo_23 (by decide) rfl ?_
    refine E_iload dX3_lowestMayGo_25 rfl ?_
    refine E_iconst (v := 1) dX3_lowestMayGo_27 (by decide) ?_
    refine E_icmp_eq 45 dX3_lowestMayGo_28 (by decide) (fun hc => ?_) (fun hc => ?_)
    · replace hP := hP.1 hc
      refine E_iload_n dX3_lowestMayGo_45 rfl ?_
      refine E_iconst (v := 3) dX3_lowestMayGo_46 (by decide) ?_
      refine E_icmp_ge 63 dX3_lowestMayGo_47 (by decide) (fun hc => ?_) (fun hc => ?_)
      · replace hP := hP.1 hc
        refine E_iload dX3_lowestMayGo_63 rfl ?_
        refine E_iconst (v := 3) dX3_lowestMayGo_65 (by decide) ?_
        refine E_icmp_eq 84 dX3_lowestMayGo_66 (by decide) (fun hc => ?_) (fun hc => ?_)
        · replace hP := hP.1 hc
          refine E_iconst (v := 1) dX3_lowestMayGo_84 (by decide) ?_
          refine E_goto 89 dX3_lowestMayGo_85 (by decide) ?_
          exact E_nret dX3_lowestMayGo_89 rfl (nar_b true) ⟨true, rfl, rfl, hP⟩
        · replace hP := hP.2 hc
          refine E_iload_n dX3_lowestMayGo_69 rfl ?_
          refine E_if_eq 84 dX3_lowestMayGo_70 (by decide) (fun hc => ?_) (fun hc => ?_)
          · replace hP := hP.1 hc
            refine E_iconst (v := 1) dX3_lowestMayGo_84 (by decide) ?_
            refine E_goto 89 dX3_lowestMayGo_85 (by decide) ?_
            exact E_nret dX3_lowestMayGo_89 rfl (nar_b true) ⟨true, rfl, rfl, hP⟩
          · replace hP := hP.2 hc
            refine E_iload_n dX3_lowestMayGo_73 rfl ?_
            refine E_iload_n dX3_lowestMayGo_74 rfl ?_
            refine E_iconst (v := 1) dX3_lowestMayGo_75 (by decide) ?_
            refine E_isub dX3_lowestMayGo_76 ?_
            refine E_callS (As := [.int (p0), .int (p1 - 1)]) (rest := []) dX3_lowestMayGo_77 cl_RX3_21 tw_47 ⟨rfl, rfl, Nat.le_of_ble_eq_true rfl, Nat.le_of_ble_eq_true rfl⟩ rfl rfl (Nat.le_of_ble_eq_true rfl) (mt_X3_leftAt _ _ _ _  hP) ?_
            intro r0 s0 hq0; obtain ⟨r77, h0, hs0, hP⟩ := hq0; subst h0; rw [hs0]
            show eX3_lowestMayGo 80 [.ref (a0), .int (p0), .int (p1), .int (r2), .int (gI σ (a0 + 3) ((p1 * 8) + r2).toNatClampNeg)] [.int (r77)] σ _
            refine E_iload_n dX3_lowestMayGo_80 rfl ?_
            refine E_icmp_gt 88 dX3_lowestMayGo_81 (by decide) (fun hc => ?_) (fun hc => ?_)
            · replace hP := hP.1 hc
              refine E_iconst (v := 0) dX3_lowestMayGo_88 (by decide) ?_
              exact E_nret dX3_lowestMayGo_89 rfl (nar_b false) ⟨false, rfl, rfl, hP⟩
            · replace hP := hP.2 hc
              refine E_iconst (v := 1) dX3_lowestMayGo_84 (by decide) ?_
              refine E_goto 89 dX3_lowestMayGo_85 (by decide) ?_
              exact E_nret dX3_lowestMayGo_89 rfl (nar_b true) ⟨true, rfl, rfl, hP⟩
      · replace hP := hP.2 hc
        refine E_iload_n dX3_lowestMayGo_50 rfl ?_
        refine E_iload_n dX3_lowestMayGo_51 rfl ?_
        refine E_iconst (v := 1) dX3_lowestMayGo_52 (by decide) ?_
        refine E_iadd dX3_lowestMayGo_53 ?_
        refine E_callS (As := [.int (p0), .int (p1 + 1)]) (rest := []) dX3_lowestMayGo_54 cl_RX3_21 tw_47 ⟨rfl, rfl, Nat.le_of_ble_eq_true rfl, Nat.le_of_ble_eq_true rfl⟩ rfl rfl (Nat.le_of_ble_eq_true rfl) (mt_X3_leftAt _ _ _ _  hP) ?_
        intro r0 s0 hq0; obtain ⟨r54, h0, hs0, hP⟩ := hq0; subst h0; rw [hs0]
        show eX3_lowestMayGo 57 [.ref (a0), .int (p0), .int (p1), .int (r2), .int (gI σ (a0 + 3) ((p1 * 8) + r2).toNatClampNeg)] [.int (r54)] σ _
        refine E_iload_n dX3_lowestMayGo_57 rfl ?_
        refine E_icmp_le 63 dX3_lowestMayGo_58 (by decide) (fun hc => ?_) (fun hc => ?_)
        · replace hP := hP.1 hc
          refine E_iload dX3_lowestMayGo_63 rfl ?_
          refine E_iconst (v := 3) dX3_lowestMayGo_65 (by decide) ?_
          refine E_icmp_eq 84 dX3_lowestMayGo_66 (by decide) (fun hc => ?_) (fun hc => ?_)
          · replace hP := hP.1 hc
            refine E_iconst (v := 1) dX3_lowestMayGo_84 (by decide) ?_
            refine E_goto 89 dX3_lowestMayGo_85 (by decide) ?_
            exact E_nret dX3_lowestMayGo_89 rfl (nar_b true) ⟨true, rfl, rfl, hP⟩
          · replace hP := hP.2 hc
            refine E_iload_n dX3_lowestMayGo_69 rfl ?_
            refine E_if_eq 84 dX3_lowestMayGo_70 (by decide) (fun hc => ?_) (fun hc => ?_)
            · replace hP := hP.1 hc
              refine E_iconst (v := 1) dX3_lowestMayGo_84 (by decide) ?_
              refine E_goto 89 dX3_lowestMayGo_85 (by decide) ?_
              exact E_nret dX3_lowestMayGo_89 rfl (nar_b true) ⟨true, rfl, rfl, hP⟩
            · replace hP := hP.2 hc
              refine E_iload_n dX3_lowestMayGo_73 rfl ?_
              refine E_iload_n dX3_lowestMayGo_74 rfl ?_
              refine E_iconst (v := 1) dX3_lowestMayGo_75 (by decide) ?_
              refine E_isub dX3_lowestMayGo_76 ?_
              refine E_callS (As := [.int (p0), .int (p1 - 1)]) (rest := []) dX3_lowestMayGo_77 cl_RX3_21 tw_47 ⟨rfl, rfl, Nat.le_of_ble_eq_true rfl, Nat.le_of_ble_eq_true rfl⟩ rfl rfl (Nat.le_of_ble_eq_true rfl) (mt_X3_leftAt _ _ _ _  hP) ?_
              intro r0 s0 hq0; obtain ⟨r77, h0, hs0, hP⟩ := hq0; subst h0; rw [hs0]
              show eX3_lowestMayGo 80 [.ref (a0), .int (p0), .int (p1), .int (r2), .int (gI σ (a0 + 3) ((p1 * 8) + r2).toNatClampNeg)] [.int (r77)] σ _
              refine E_iload_n dX3_lowestMayGo_80 rfl ?_
              refine E_icmp_gt 88 dX3_lowestMayGo_81 (by decide) (fun hc => ?_) (fun hc => ?_)
              · replace hP := hP.1 hc
                refine E_iconst (v := 0) dX3_lowestMayGo_88 (by decide) ?_
                exact E_nret dX3_lowestMayGo_89 rfl (nar_b false) ⟨false, rfl, rfl, hP⟩
              · replace hP := hP.2 hc
                refine E_iconst (v := 1) dX3_lowestMayGo_84 (by decide) ?_
                refine E_goto 89 dX3_lowestMayGo_85 (by decide) ?_
                exact E_nret dX3_lowestMayGo_89 rfl (nar_b true) ⟨true, rfl, rfl, hP⟩
        · replace hP := hP.2 hc
          refine E_iconst (v := 0) dX3_lowestMayGo_61 (by decide) ?_
          exact E_nret dX3_lowestMayGo_62 rfl (nar_b false) ⟨false, rfl, rfl, hP⟩
    · replace hP := hP.2 hc
      refine E_iload dX3_lowestMayGo_31 rfl ?_
      refine E_iconst (v := 4) dX3_lowestMayGo_33 (by decide) ?_
      refine E_icmp_eq 45 dX3_lowestMayGo_34 (by decide) (fun hc => ?_) (fun hc => ?_)
      · replace hP := hP.1 hc
        refine E_iload_n dX3_lowestMayGo_45 rfl ?_
        refine E_iconst (v := 3) dX3_lowestMayGo_46 (by decide) ?_
        refine E_icmp_ge 63 dX3_lowestMayGo_47 (by decide) (fun hc => ?_) (fun hc => ?_)
        · replace hP := hP.1 hc
          refine E_iload dX3_lowestMayGo_63 rfl ?_
          refine E_iconst (v := 3) dX3_lowestMayGo_65 (by decide) ?_
          refine E_icmp_eq 84 dX3_lowestMayGo_66 (by decide) (fun hc => ?_) (fun hc => ?_)
          · replace hP := hP.1 hc
            refine E_iconst (v := 1) dX3_lowestMayGo_84 (by decide) ?_
            refine E_goto 89 dX3_lowestMayGo_85 (by decide) ?_
            exact E_nret dX3_lowestMayGo_89 rfl (nar_b true) ⟨true, rfl, rfl, hP⟩
          · replace hP := hP.2 hc
            refine E_iload_n dX3_lowestMayGo_69 rfl ?_
            refine E_if_eq 84 dX3_lowestMayGo_70 (by decide) (fun hc => ?_) (fun hc => ?_)
            · replace hP := hP.1 hc
              refine E_iconst (v := 1) dX3_lowestMayGo_84 (by decide) ?_
              refine E_goto 89 dX3_lowestMayGo_85 (by decide) ?_
              exact E_nret dX3_lowestMayGo_89 rfl (nar_b true) ⟨true, rfl, rfl, hP⟩
            · replace hP := hP.2 hc
              refine E_iload_n dX3_lowestMayGo_73 rfl ?_
              refine E_iload_n dX3_lowestMayGo_74 rfl ?_
              refine E_iconst (v := 1) dX3_lowestMayGo_75 (by decide) ?_
              refine E_isub dX3_lowestMayGo_76 ?_
              refine E_callS (As := [.int (p0), .int (p1 - 1)]) (rest := []) dX3_lowestMayGo_77 cl_RX3_21 tw_47 ⟨rfl, rfl, Nat.le_of_ble_eq_true rfl, Nat.le_of_ble_eq_true rfl⟩ rfl rfl (Nat.le_of_ble_eq_true rfl) (mt_X3_leftAt _ _ _ _  hP) ?_
              intro r0 s0 hq0; obtain ⟨r77, h0, hs0, hP⟩ := hq0; subst h0; rw [hs0]
              show eX3_lowestMayGo 80 [.ref (a0), .int (p0), .int (p1), .int (r2), .int (gI σ (a0 + 3) ((p1 * 8) + r2).toNatClampNeg)] [.int (r77)] σ _
              refine E_iload_n dX3_lowestMayGo_80 rfl ?_
              refine E_icmp_gt 88 dX3_lowestMayGo_81 (by decide) (fun hc => ?_) (fun hc => ?_)
              · replace hP := hP.1 hc
                refine E_iconst (v := 0) dX3_lowestMayGo_88 (by decide) ?_
                exact E_nret dX3_lowestMayGo_89 rfl (nar_b false) ⟨false, rfl, rfl, hP⟩
              · replace hP := hP.2 hc
                refine E_iconst (v := 1) dX3_lowestMayGo_84 (by decide) ?_
                refine E_goto 89 dX3_lowestMayGo_85 (by decide) ?_
                exact E_nret dX3_lowestMayGo_89 rfl (nar_b true) ⟨true, rfl, rfl, hP⟩
        · replace hP := hP.2 hc
          refine E_iload_n dX3_lowestMayGo_50 rfl ?_
          refine E_iload_n dX3_lowestMayGo_51 rfl ?_
          refine E_iconst (v := 1) dX3_lowestMayGo_52 (by decide) ?_
          refine E_iadd dX3_lowestMayGo_53 ?_
          refine E_callS (As := [.int (p0), .int (p1 + 1)]) (rest := []) dX3_lowestMayGo_54 cl_RX3_21 tw_47 ⟨rfl, rfl, Nat.le_of_ble_eq_true rfl, Nat.le_of_ble_eq_true rfl⟩ rfl rfl (Nat.le_of_ble_eq_true rfl) (mt_X3_leftAt _ _ _ _  hP) ?_
          intro r0 s0 hq0; obtain ⟨r54, h0, hs0, hP⟩ := hq0; subst h0; rw [hs0]
          show eX3_lowestMayGo 57 [.ref (a0), .int (p0), .int (p1), .int (r2), .int (gI σ (a0 + 3) ((p1 * 8) + r2).toNatClampNeg)] [.int (r54)] σ _
          refine E_iload_n dX3_lowestMayGo_57 rfl ?_
          refine E_icmp_le 63 dX3_lowestMayGo_58 (by decide) (fun hc => ?_) (fun hc => ?_)
          · replace hP := hP.1 hc
            refine E_iload dX3_lowestMayGo_63 rfl ?_
            refine E_iconst (v := 3) dX3_lowestMayGo_65 (by decide) ?_
            refine E_icmp_eq 84 dX3_lowestMayGo_66 (by decide) (fun hc => ?_) (fun hc => ?_)
            · replace hP := hP.1 hc
              refine E_iconst (v := 1) dX3_lowestMayGo_84 (by decide) ?_
              refine E_goto 89 dX3_lowestMayGo_85 (by decide) ?_
              exact E_nret dX3_lowestMayGo_89 rfl (nar_b true) ⟨true, rfl, rfl, hP⟩
            · replace hP := hP.2 hc
              refine E_iload_n dX3_lowestMayGo_69 rfl ?_
              refine E_if_eq 84 dX3_lowestMayGo_70 (by decide) (fun hc => ?_) (fun hc => ?_)
              · replace hP := hP.1 hc
                refine E_iconst (v := 1) dX3_lowestMayGo_84 (by decide) ?_
                refine E_goto 89 dX3_lowestMayGo_85 (by decide) ?_
                exact E_nret dX3_lowestMayGo_89 rfl (nar_b true) ⟨true, rfl, rfl, hP⟩
              · replace hP := hP.2 hc
                refine E_iload_n dX3_lowestMayGo_73 rfl ?_
                refine E_iload_n dX3_lowestMayGo_74 rfl ?_
                refine E_iconst (v := 1) dX3_lowestMayGo_75 (by decide) ?_
                refine E_isub dX3_lowestMayGo_76 ?_
                refine E_callS (As := [.int (p0), .int (p1 - 1)]) (rest := []) dX3_lowestMayGo_77 cl_RX3_21 tw_47 ⟨rfl, rfl, Nat.le_of_ble_eq_true rfl, Nat.le_of_ble_eq_true rfl⟩ rfl rfl (Nat.le_of_ble_eq_true rfl) (mt_X3_leftAt _ _ _ _  hP) ?_
                intro r0 s0 hq0; obtain ⟨r77, h0, hs0, hP⟩ := hq0; subst h0; rw [hs0]
                show eX3_lowestMayGo 80 [.ref (a0), .int (p0), .int (p1), .int (r2), .int (gI σ (a0 + 3) ((p1 * 8) + r2).toNatClampNeg)] [.int (r77)] σ _
                refine E_iload_n dX3_lowestMayGo_80 rfl ?_
                refine E_icmp_gt 88 dX3_lowestMayGo_81 (by decide) (fun hc => ?_) (fun hc => ?_)
                · replace hP := hP.1 hc
                  refine E_iconst (v := 0) dX3_lowestMayGo_88 (by decide) ?_
                  exact E_nret dX3_lowestMayGo_89 rfl (nar_b false) ⟨false, rfl, rfl, hP⟩
                · replace hP := hP.2 hc
                  refine E_iconst (v := 1) dX3_lowestMayGo_84 (by decide) ?_
                  refine E_goto 89 dX3_lowestMayGo_85 (by decide) ?_
                  exact E_nret dX3_lowestMayGo_89 rfl (nar_b true) ⟨true, rfl, rfl, hP⟩
          · replace hP := hP.2 hc
            refine E_iconst (v := 0) dX3_lowestMayGo_61 (by decide) ?_
            exact E_nret dX3_lowestMayGo_62 rfl (nar_b false) ⟨false, rfl, rfl, hP⟩
      · replace hP := hP.2 hc
        refine E_iload dX3_lowestMayGo_37 rfl ?_
        refine E_iconst (v := 3) dX3_lowestMayGo_39 (by decide) ?_
        refine E_icmp_eq 45 dX3_lowestMayGo_40 (by decide) (fun hc => ?_) (fun hc => ?_)
        · replace hP := hP.1 hc
          refine E_iload_n dX3_lowestMayGo_45 rfl ?_
          refine E_iconst (v := 3) dX3_lowestMayGo_46 (by decide) ?_
          refine E_icmp_ge 63 dX3_lowestMayGo_47 (by decide) (fun hc => ?_) (fun hc => ?_)
          · replace hP := hP.1 hc
            refine E_iload dX3_lowestMayGo_63 rfl ?_
            refine E_iconst (v := 3) dX3_lowestMayGo_65 (by decide) ?_
            refine E_icmp_eq 84 dX3_lowestMayGo_66 (by decide) (fun hc => ?_) (fun hc => ?_)
            · replace hP := hP.1 hc
              refine E_iconst (v := 1) dX3_lowestMayGo_84 (by decide) ?_
              refine E_goto 89 dX3_lowestMayGo_85 (by decide) ?_
              exact E_nret dX3_lowestMayGo_89 rfl (nar_b true) ⟨true, rfl, rfl, hP⟩
            · replace hP := hP.2 hc
              refine E_iload_n dX3_lowestMayGo_69 rfl ?_
              refine E_if_eq 84 dX3_lowestMayGo_70 (by decide) (fun hc => ?_) (fun hc => ?_)
              · replace hP := hP.1 hc
                refine E_iconst (v := 1) dX3_lowestMayGo_84 (by decide) ?_
                refine E_goto 89 dX3_lowestMayGo_85 (by decide) ?_
                exact E_nret dX3_lowestMayGo_89 rfl (nar_b true) ⟨true, rfl, rfl, hP⟩
              · replace hP := hP.2 hc
                refine E_iload_n dX3_lowestMayGo_73 rfl ?_
                refine E_iload_n dX3_lowestMayGo_74 rfl ?_
                refine E_iconst (v := 1) dX3_lowestMayGo_75 (by decide) ?_
                refine E_isub dX3_lowestMayGo_76 ?_
                refine E_callS (As := [.int (p0), .int (p1 - 1)]) (rest := []) dX3_lowestMayGo_77 cl_RX3_21 tw_47 ⟨rfl, rfl, Nat.le_of_ble_eq_true rfl, Nat.le_of_ble_eq_true rfl⟩ rfl rfl (Nat.le_of_ble_eq_true rfl) (mt_X3_leftAt _ _ _ _  hP) ?_
                intro r0 s0 hq0; obtain ⟨r77, h0, hs0, hP⟩ := hq0; subst h0; rw [hs0]
                show eX3_lowestMayGo 80 [.ref (a0), .int (p0), .int (p1), .int (r2), .int (gI σ (a0 + 3) ((p1 * 8) + r2).toNatClampNeg)] [.int (r77)] σ _
                refine E_iload_n dX3_lowestMayGo_80 rfl ?_
                refine E_icmp_gt 88 dX3_lowestMayGo_81 (by decide) (fun hc => ?_) (fun hc => ?_)
                · replace hP := hP.1 hc
                  refine E_iconst (v := 0) dX3_lowestMayGo_88 (by decide) ?_
                  exact E_nret dX3_lowestMayGo_89 rfl (nar_b false) ⟨false, rfl, rfl, hP⟩
                · replace hP := hP.2 hc
                  refine E_iconst (v := 1) dX3_lowestMayGo_84 (by decide) ?_
                  refine E_goto 89 dX3_lowestMayGo_85 (by decide) ?_
                  exact E_nret dX3_lowestMayGo_89 rfl (nar_b true) ⟨true, rfl, rfl, hP⟩
          · replace hP := hP.2 hc
            refine E_iload_n dX3_lowestMayGo_50 rfl ?_
            refine E_iload_n dX3_lowestMayGo_51 rfl ?_
            refine E_iconst (v := 1) dX3_lowestMayGo_52 (by decide) ?_
            refine E_iadd dX3_lowestMayGo_53 ?_
            refine E_callS (As := [.int (p0), .int (p1 + 1)]) (rest := []) dX3_lowestMayGo_54 cl_RX3_21 tw_47 ⟨rfl, rfl, Nat.le_of_ble_eq_true rfl, Nat.le_of_ble_eq_true rfl⟩ rfl rfl (Nat.le_of_ble_eq_true rfl) (mt_X3_leftAt _ _ _ _  hP) ?_
            intro r0 s0 hq0; obtain ⟨r54, h0, hs0, hP⟩ := hq0; subst h0; rw [hs0]
            show eX3_lowestMayGo 57 [.ref (a0), .int (p0), .int (p1), .int (r2), .int (gI σ (a0 + 3) ((p1 * 8) + r2).toNatClampNeg)] [.int (r54)] σ _
            refine E_iload_n dX3_lowestMayGo_57 rfl ?_
            refine E_icmp_le 63 dX3_lowestMayGo_58 (by decide) (fun hc => ?_) (fun hc => ?_)
            · replace hP := hP.1 hc
              refine E_iload dX3_lowestMayGo_63 rfl ?_
              refine E_iconst (v := 3) dX3_lowestMayGo_65 (by decide) ?_
              refine E_icmp_eq 84 dX3_lowestMayGo_66 (by decide) (fun hc => ?_) (fun hc => ?_)
              · replace hP := hP.1 hc
                refine E_iconst (v := 1) dX3_lowestMayGo_84 (by decide) ?_
                refine E_goto 89 dX3_lowestMayGo_85 (by decide) ?_
                exact E_nret dX3_lowestMayGo_89 rfl (nar_b true) ⟨true, rfl, rfl, hP⟩
              · replace hP := hP.2 hc
                refine E_iload_n dX3_lowestMayGo_69 rfl ?_
                refine E_if_eq 84 dX3_lowestMayGo_70 (by decide) (fun hc => ?_) (fun hc => ?_)
                · replace hP := hP.1 hc
                  refine E_iconst (v := 1) dX3_lowestMayGo_84 (by decide) ?_
                  refine E_goto 89 dX3_lowestMayGo_85 (by decide) ?_
                  exact E_nret dX3_lowestMayGo_89 rfl (nar_b true) ⟨true, rfl, rfl, hP⟩
                · replace hP := hP.2 hc
                  refine E_iload_n dX3_lowestMayGo_73 rfl ?_
                  refine E_iload_n dX3_lowestMayGo_74 rfl ?_
                  refine E_iconst (v := 1) dX3_lowestMayGo_75 (by decide) ?_
                  refine E_isub dX3_lowestMayGo_76 ?_
                  refine E_callS (As := [.int (p0), .int (p1 - 1)]) (rest := []) dX3_lowestMayGo_77 cl_RX3_21 tw_47 ⟨rfl, rfl, Nat.le_of_ble_eq_true rfl, Nat.le_of_ble_eq_true rfl⟩ rfl rfl (Nat.le_of_ble_eq_true rfl) (mt_X3_leftAt _ _ _ _  hP) ?_
                  intro r0 s0 hq0; obtain ⟨r77, h0, hs0, hP⟩ := hq0; subst h0; rw [hs0]
                  show eX3_lowestMayGo 80 [.ref (a0), .int (p0), .int (p1), .int (r2), .int (gI σ (a0 + 3) ((p1 * 8) + r2).toNatClampNeg)] [.int (r77)] σ _
                  refine E_iload_n dX3_lowestMayGo_80 rfl ?_
                  refine E_icmp_gt 88 dX3_lowestMayGo_81 (by decide) (fun hc => ?_) (fun hc => ?_)
                  · replace hP := hP.1 hc
                    refine E_iconst (v := 0) dX3_lowestMayGo_88 (by decide) ?_
                    exact E_nret dX3_lowestMayGo_89 rfl (nar_b false) ⟨false, rfl, rfl, hP⟩
                  · replace hP := hP.2 hc
                    refine E_iconst (v := 1) dX3_lowestMayGo_84 (by decide) ?_
                    refine E_goto 89 dX3_lowestMayGo_85 (by decide) ?_
                    exact E_nret dX3_lowestMayGo_89 rfl (nar_b true) ⟨true, rfl, rfl, hP⟩
            · replace hP := hP.2 hc
              refine E_iconst (v := 0) dX3_lowestMayGo_61 (by decide) ?_
              exact E_nret dX3_lowestMayGo_62 rfl (nar_b false) ⟨false, rfl, rfl, hP⟩
        · replace hP := hP.2 hc
          refine E_iconst (v := 1) dX3_lowestMayGo_43 (by decide) ?_
          exact E_nret dX3_lowestMayGo_44 rfl (nar_b true) ⟨true, rfl, rfl, hP⟩
  · replace hP := hP.2 hc
    refine E_iconst (v := 0) dX3_lowestMayGo_10 (by decide) ?_
    exact E_nret dX3_lowestMayGo_11 rfl (nar_b false) ⟨false, rfl, rfl, hP⟩
theorem dX3_nextCoin_0 : decode cX3_nextCoin 0 = .ok (.iload_n 2, 1) := by decide +kernel
theorem dX3_nextCoin_1 : decode cX3_nextCoin 1 = .ok (.bipush 8, 2) := by decide +kernel
theorem dX3_nextCoin_3 : decode cX3_nextCoin 3 = .ok (.imul, 1) := by decide +kernel
theorem dX3_nextCoin_4 : decode cX3_nextCoin 4 = .ok (.iload_n 1, 1) := by decide +kernel
theorem dX3_nextCoin_5 : decode cX3_nextCoin 5 = .ok (.iload_n 2, 1) := by decide +kernel
theorem dX3_nextCoin_6 : decode cX3_nextCoin 6 = .ok (.invokestatic 21, 3) := by decide +kernel
theorem dX3_nextCoin_9 : decode cX3_nextCoin 9 = .ok (.iadd, 1) := by decide +kernel
theorem dX3_nextCoin_10 : decode cX3_nextCoin 10 = .ok (.istore_n 3, 1) := by decide +kernel
theorem dX3_nextCoin_11 : decode cX3_nextCoin 11 = .ok (.aload_n 0, 1) := by decide +kernel
theorem dX3_nextCoin_12 : decode cX3_nextCoin 12 = .ok (.getfield 15, 3) := by decide +kernel
theorem dX3_nextCoin_15 : decode cX3_nextCoin 15 = .ok (.iload_n 3, 1) := by decide +kernel
theorem dX3_nextCoin_16 : decode cX3_nextCoin 16 = .ok (.iconst 1, 1) := by decide +kernel
theorem dX3_nextCoin_17 : decode cX3_nextCoin 17 = .ok (.isub, 1) := by decide +kernel
theorem dX3_nextCoin_18 : decode cX3_nextCoin 18 = .ok (.iaload, 1) := by decide +kernel
theorem dX3_nextCoin_19 : decode cX3_nextCoin 19 = .ok (.aload_n 0, 1) := by decide +kernel
theorem dX3_nextCoin_20 : decode cX3_nextCoin 20 = .ok (.getfield 15, 3) := by decide +kernel
theorem dX3_nextCoin_23 : decode cX3_nextCoin 23 = .ok (.iload_n 3, 1) := by decide +kernel
theorem dX3_nextCoin_24 : decode cX3_nextCoin 24 = .ok (.iaload, 1) := by decide +kernel
theorem dX3_nextCoin_25 : decode cX3_nextCoin 25 = .ok (.isub, 1) := by decide +kernel
theorem dX3_nextCoin_26 : decode cX3_nextCoin 26 = .ok (.ireturn, 1) := by decide +kernel
def rmX3_nextCoin : Room := { frames := 1, cells := 0, slots := 0, locals := 21 }
abbrev eX3_nextCoin := Ev cX3_nextCoin 4 (some .int) RX3 rmX3_nextCoin
set_option maxRecDepth 20000 in
theorem mt_X3_nextCoin (a0 : Nat) (p0 : Int32) (p1 : Int32) (σ : St) (Q : Int32 → Prop) (o_a0 : kd a0 = 3) (hP : P_X3_nextCoin a0 p0 p1 σ Q) : Mt yX3_nextCoin cX3_nextCoin 4 (some .int) rmX3_nextCoin [.ref (a0), .int (p0), .int (p1)] σ (qI fun x s => s = σ ∧ Q x) := by
  refine Mt.of (k := 1) (ls := [.ref (a0), .int (p0), .int (p1), un]) (by decide +kernel) rfl (Nat.le_of_ble_eq_true rfl) ?_
  show eX3_nextCoin 0 [.ref (a0), .int (p0), .int (p1), un] [] σ _
  unfold P_X3_nextCoin at hP
  refine E_iload_n dX3_nextCoin_0 rfl ?_
  refine E_bipush (v := 8) dX3_nextCoin_1 (by decide) ?_
  refine E_imul dX3_nextCoin_3 ?_
  refine E_iload_n dX3_nextCoin_4 rfl ?_
  refine E_iload_n dX3_nextCoin_5 rfl ?_
  refine E_callS (As := [.int (p0), .int (p1)]) (rest := [.int (p1 * 8)]) dX3_nextCoin_6 cl_RX3_21 tw_47 ⟨rfl, rfl, Nat.le_of_ble_eq_true rfl, Nat.le_of_ble_eq_true rfl⟩ rfl rfl (Nat.le_of_ble_eq_true rfl) (mt_X3_leftAt _ _ _ _  hP) ?_
  intro r0 s0 hq0; obtain ⟨r6, h0, hs0, hP⟩ := hq0; subst h0; rw [hs0]
  show eX3_nextCoin 9 [.ref (a0), .int (p0), .int (p1), un] [.int (r6), .int (p1 * 8)] σ _
  refine E_iadd dX3_nextCoin_9 ?_
  refine E_istore_n (ls' := [.ref (a0), .int (p0), .int (p1), .int ((p1 * 8) + r6)]) dX3_nextCoin_10 (by decide) rfl ?_
  refine E_aload_n dX3_nextCoin_11 rfl ?_
  refine E_getR (j := 1) dX3_nextCoin_12 o_a0 (by decide) rfl fd_RX3_15 (by decide) ?_
  refine E_iload_n dX3_nextCoin_15 rfl ?_
  refine E_iconst (v := 1) dX3_nextCoin_16 (by decide) ?_
  refine E_isub dX3_nextCoin_17 ?_
  obtain ⟨hb, hP⟩ := hP
  refine E_iald dX3_nextCoin_18 (ar_3_2 o_a0).1 (ar_3_2 o_a0).2 hb ?_
  refine E_aload_n dX3_nextCoin_19 rfl ?_
  refine E_getR (j := 1) dX3_nextCoin_20 o_a0 (by decide) rfl fd_RX3_15 (by decide) ?_
  refine E_iload_n dX3_nextCoin_23 rfl ?_
  obtain ⟨hb, hP⟩ := hP
  refine E_iald dX3_nextCoin_24 (ar_3_2 o_a0).1 (ar_3_2 o_a0).2 hb ?_
  refine E_isub dX3_nextCoin_25 ?_
  exact E_iret dX3_nextCoin_26 rfl ⟨_, rfl, rfl, hP⟩
theorem dX3_pulledAt_0 : decode cX3_pulledAt 0 = .ok (.aload_n 0, 1) := by decide +kernel
theorem dX3_pulledAt_1 : decode cX3_pulledAt 1 = .ok (.getfield 31, 3) := by decide +kernel
theorem dX3_pulledAt_4 : decode cX3_pulledAt 4 = .ok (.invokestatic 61, 3) := by decide +kernel
theorem dX3_pulledAt_7 : decode cX3_pulledAt 7 = .ok (.iload_n 1, 1) := by decide +kernel
theorem dX3_pulledAt_8 : decode cX3_pulledAt 8 = .ok (.invokestatic 61, 3) := by decide +kernel
theorem dX3_pulledAt_11 : decode cX3_pulledAt 11 = .ok (.isub, 1) := by decide +kernel
theorem dX3_pulledAt_12 : decode cX3_pulledAt 12 = .ok (.ireturn, 1) := by decide +kernel
def rmX3_pulledAt : Room := { frames := 2, cells := 0, slots := 0, locals := 41 }
abbrev eX3_pulledAt := Ev cX3_pulledAt 2 (some .int) RX3 rmX3_pulledAt
set_option maxRecDepth 20000 in
theorem mt_X3_pulledAt (a0 : Nat) (p0 : Int32) (σ : St) (Q : Int32 → Prop) (o_a0 : kd a0 = 3) (hP : P_X3_pulledAt a0 p0 σ Q) : Mt yX3_pulledAt cX3_pulledAt 2 (some .int) rmX3_pulledAt [.ref (a0), .int (p0)] σ (qI fun x s => s = σ ∧ Q x) := by
  refine Mt.of (k := 0) (ls := [.ref (a0), .int (p0)]) (by decide +kernel) rfl (Nat.le_of_ble_eq_true rfl) ?_
  show eX3_pulledAt 0 [.ref (a0), .int (p0)] [] σ _
  unfold P_X3_pulledAt at hP
  refine E_aload_n dX3_pulledAt_0 rfl ?_
  refine E_getI (j := 3) dX3_pulledAt_1 o_a0 (by decide) rfl fd_RX3_31 ?_
  refine E_callS (As := [.int (gI σ a0 3)]) (rest := []) dX3_pulledAt_4 cl_RX3_61 tw_50 ⟨rfl, rfl, Nat.le_of_ble_eq_true rfl, Nat.le_of_ble_eq_true rfl⟩ rfl rfl (Nat.le_of_ble_eq_true rfl) (mt_X3_stonesAt _ _ _  hP) ?_
  intro r0 s0 hq0; obtain ⟨r4, h0, hs0, hP⟩ := hq0; subst h0; rw [hs0]
  show eX3_pulledAt 7 [.ref (a0), .int (p0)] [.int (r4)] σ _
  refine E_iload_n dX3_pulledAt_7 rfl ?_
  refine E_callS (As := [.int (p0)]) (rest := [.int (r4)]) dX3_pulledAt_8 cl_RX3_61 tw_50 ⟨rfl, rfl, Nat.le_of_ble_eq_true rfl, Nat.le_of_ble_eq_true rfl⟩ rfl rfl (Nat.le_of_ble_eq_true rfl) (mt_X3_stonesAt _ _ _  hP) ?_
  intro r0 s0 hq0; obtain ⟨r8, h0, hs0, hP⟩ := hq0; subst h0; rw [hs0]
  show eX3_pulledAt 11 [.ref (a0), .int (p0)] [.int (r8), .int (r4)] σ _
  refine E_isub dX3_pulledAt_11 ?_
  exact E_iret dX3_pulledAt_12 rfl ⟨_, rfl, rfl, hP⟩
theorem dX3_unlikeAt_0 : decode cX3_unlikeAt 0 = .ok (.iconst 0, 1) := by decide +kernel
theorem dX3_unlikeAt_1 : decode cX3_unlikeAt 1 = .ok (.istore_n 2, 1) := by decide +kernel
theorem dX3_unlikeAt_2 : decode cX3_unlikeAt 2 = .ok (.aload_n 0, 1) := by decide +kernel
theorem dX3_unlikeAt_3 : decode cX3_unlikeAt 3 = .ok (.getfield 11, 3) := by decide +kernel
theorem dX3_unlikeAt_6 : decode cX3_unlikeAt 6 = .ok (.iload_n 1, 1) := by decide +kernel
theorem dX3_unlikeAt_7 : decode cX3_unlikeAt 7 = .ok (.iconst 0, 1) := by decide +kernel
theorem dX3_unlikeAt_8 : decode cX3_unlikeAt 8 = .ok (.invokestatic 21, 3) := by decide +kernel
theorem dX3_unlikeAt_11 : decode cX3_unlikeAt 11 = .ok (.iaload, 1) := by decide +kernel
theorem dX3_unlikeAt_12 : decode cX3_unlikeAt 12 = .ok (.istore_n 3, 1) := by decide +kernel
theorem dX3_unlikeAt_13 : decode cX3_unlikeAt 13 = .ok (.iconst 0, 1) := by decide +kernel
theorem dX3_unlikeAt_14 : decode cX3_unlikeAt 14 = .ok (.istore 4, 2) := by decide +kernel
theorem dX3_unlikeAt_16 : decode cX3_unlikeAt 16 = .ok (.iload 4, 2) := by decide +kernel
theorem dX3_unlikeAt_18 : decode cX3_unlikeAt 18 = .ok (.iconst 3, 1) := by decide +kernel
theorem dX3_unlikeAt_19 : decode cX3_unlikeAt 19 = .ok (.if_icmp .ge 60, 3) := by decide +kernel
theorem dX3_unlikeAt_22 : decode cX3_unlikeAt 22 = .ok (.aload_n 0, 1) := by decide +kernel
theorem dX3_unlikeAt_23 : decode cX3_unlikeAt 23 = .ok (.getfield 11, 3) := by decide +kernel
theorem dX3_unlikeAt_26 : decode cX3_unlikeAt 26 = .ok (.iload 4, 2) := by decide +kernel
theorem dX3_unlikeAt_28 : decode cX3_unlikeAt 28 = .ok (.iconst 1, 1) := by decide +kernel
theorem dX3_unlikeAt_29 : decode cX3_unlikeAt 29 = .ok (.iadd, 1) := by decide +kernel
theorem dX3_unlikeAt_30 : decode cX3_unlikeAt 30 = .ok (.bipush 8, 2) := by decide +kernel
theorem dX3_unlikeAt_32 : decode cX3_unlikeAt 32 = .ok (.imul, 1) := by decide +kernel
theorem dX3_unlikeAt_33 : decode cX3_unlikeAt 33 = .ok (.iload_n 1, 1) := by decide +kernel
theorem dX3_unlikeAt_34 : decode cX3_unlikeAt 34 = .ok (.iload 4, 2) := by decide +kernel
theorem dX3_unlikeAt_36 : decode cX3_unlikeAt 36 = .ok (.iconst 1, 1) := by decide +kernel
theorem dX3_unlikeAt_37 : decode cX3_unlikeAt 37 = .ok (.iadd, 1) := by decide +kernel
theorem dX3_unlikeAt_38 : decode cX3_unlikeAt 38 = .ok (.invokestatic 21, 3) := by decide +kernel
theorem dX3_unlikeAt_41 : decode cX3_unlikeAt 41 = .ok (.iadd, 1) := by decide +kernel
theorem dX3_unlikeAt_42 : decode cX3_unlikeAt 42 = .ok (.iaload, 1) := by decide +kernel
theorem dX3_unlikeAt_43 : decode cX3_unlikeAt 43 = .ok (.istore 5, 2) := by decide +kernel
theorem dX3_unlikeAt_45 : decode cX3_unlikeAt 45 = .ok (.aload_n 0, 1) := by decide +kernel
theorem dX3_unlikeAt_46 : decode cX3_unlikeAt 46 = .ok (.getfield 38, 3) := by decide +kernel
theorem dX3_unlikeAt_49 : decode cX3_unlikeAt 49 = .ok (.iload 4, 2) := by decide +kernel
theorem dX3_unlikeAt_51 : decode cX3_unlikeAt 51 = .ok (.ishr, 1) := by decide +kernel
theorem dX3_unlikeAt_52 : decode cX3_unlikeAt 52 = .ok (.iconst 1, 1) := by decide +kernel
theorem dX3_unlikeAt_53 : decode cX3_unlikeAt 53 = .ok (.iand, 1) := by decide +kernel
theorem dX3_unlikeAt_54 : decode cX3_unlikeAt 54 = .ok (.iconst 1, 1) := by decide +kernel
theorem dX3_unlikeAt_55 : decode cX3_unlikeAt 55 = .ok (.if_icmp .ne 15, 3) := by decide +kernel
theorem dX3_unlikeAt_58 : decode cX3_unlikeAt 58 = .ok (.iload_n 2, 1) := by decide +kernel
theorem dX3_unlikeAt_59 : decode cX3_unlikeAt 59 = .ok (.iload_n 3, 1) := by decide +kernel
theorem dX3_unlikeAt_60 : decode cX3_unlikeAt 60 = .ok (.iload 5, 2) := by decide +kernel
theorem dX3_unlikeAt_62 : decode cX3_unlikeAt 62 = .ok (.isub, 1) := by decide +kernel
theorem dX3_unlikeAt_63 : decode cX3_unlikeAt 63 = .ok (.invokestatic 65, 3) := by decide +kernel
theorem dX3_unlikeAt_66 : decode cX3_unlikeAt 66 = .ok (.invokestatic 70, 3) := by decide +kernel
theorem dX3_unlikeAt_69 : decode cX3_unlikeAt 69 = .ok (.istore_n 2, 1) := by decide +kernel
theorem dX3_unlikeAt_70 : decode cX3_unlikeAt 70 = .ok (.iload 5, 2) := by decide +kernel
theorem dX3_unlikeAt_72 : decode cX3_unlikeAt 72 = .ok (.istore_n 3, 1) := by decide +kernel
theorem dX3_unlikeAt_73 : decode cX3_unlikeAt 73 = .ok (.iinc 4 1, 3) := by decide +kernel
theorem dX3_unlikeAt_76 : decode cX3_unlikeAt 76 = .ok (.goto (-60), 3) := by decide +kernel
theorem dX3_unlikeAt_79 : decode cX3_unlikeAt 79 = .ok (.iload_n 2, 1) := by decide +kernel
theorem dX3_unlikeAt_80 : decode cX3_unlikeAt 80 = .ok (.ireturn, 1) := by decide +kernel
def rmX3_unlikeAt : Room := { frames := 1, cells := 0, slots := 0, locals := 26 }
abbrev eX3_unlikeAt := Ev cX3_unlikeAt 6 (some .int) RX3 rmX3_unlikeAt
set_option maxRecDepth 20000 in
theorem ev_X3_unlikeAt_l16 (l0 : Nat) (l1 : Int32) (o_l0 : kd (l0) = 3) (K : Int32 → St → Prop) (Q : Int32 → Prop) (σ0 : St) (hK : ∀ k2 s, K k2 s → s = σ0 → eX3_unlikeAt 79 [un, un, .int (k2), un, un, un] [] s (qI fun x s => s = σ0 ∧ Q x)) : ∀ (n : Nat) (l2 : Int32) (l3 : Int32) (l4 : Int32) (σ : St), σ = σ0 → P_X3_unlikeAt_l16 l0 l1 K Q n l2 l3 l4 σ → eX3_unlikeAt 16 [.ref (l0), .int (l1), .int (l2), .int (l3), .int (l4), un] [] σ (qI fun x s => s = σ0 ∧ Q x) := by
  intro n
  induction n with
  | zero => intro l2 l3 l4 σ hs hP; exact hP.elim
  | succ n ih =>
    intro l2 l3 l4 σ hs hP
    subst hs
    rw [P_X3_unlikeAt_l16] at hP
    refine E_iload dX3_unlikeAt_16 rfl ?_
    refine E_iconst (v := 3) dX3_unlikeAt_18 (by decide) ?_
    refine E_icmp_ge 79 dX3_unlikeAt_19 (by decide) (fun hc => ?_) (fun hc => ?_)
    · replace hP := hP.1 hc
      refine E_mask [false, false, true, false, false, false] rfl ?_
      exact hK (l2) _ hP rfl
    · replace hP := hP.2 hc
      refine E_aload_n dX3_unlikeAt_22 rfl ?_
      refine E_getR (j := 0) dX3_unlikeAt_23 o_l0 (by decide) rfl fd_RX3_11 (by decide) ?_
      refine E_iload dX3_unlikeAt_26 rfl ?_
      refine E_iconst (v := 1) dX3_unlikeAt_28 (by decide) ?_
      refine E_iadd dX3_unlikeAt_29 ?_
      refine E_bipush (v := 8) dX3_unlikeAt_30 (by decide) ?_
      refine E_imul dX3_unlikeAt_32 ?_
      refine E_iload_n dX3_unlikeAt_33 rfl ?_
      refine E_iload dX3_unlikeAt_34 rfl ?_
      refine E_iconst (v := 1) dX3_unlikeAt_36 (by decide) ?_
      refine E_iadd dX3_unlikeAt_37 ?_
      refine E_callS (As := [.int (l1), .int (l4 + 1)]) (rest := [.int ((l4 + 1) * 8), .ref (l0 + 1)]) dX3_unlikeAt_38 cl_RX3_21 tw_47 ⟨rfl, rfl, Nat.le_of_ble_eq_true rfl, Nat.le_of_ble_eq_true rfl⟩ rfl rfl (Nat.le_of_ble_eq_true rfl) (mt_X3_leftAt _ _ _ _  hP) ?_
      intro r0 s0 hq0; obtain ⟨r38, h0, hs0, hP⟩ := hq0; subst h0; rw [hs0]
      show eX3_unlikeAt 41 [.ref (l0), .int (l1), .int (l2), .int (l3), .int (l4), un] [.int (r38), .int ((l4 + 1) * 8), .ref (l0 + 1)] σ _
      refine E_iadd dX3_unlikeAt_41 ?_
      obtain ⟨hb, hP⟩ := hP
      refine E_iald dX3_unlikeAt_42 (ar_3_1 o_l0).1 (ar_3_1 o_l0).2 hb ?_
      refine E_istore (ls' := [.ref (l0), .int (l1), .int (l2), .int (l3), .int (l4), .int (gI σ (l0 + 1) (((l4 + 1) * 8) + r38).toNatClampNeg)]) dX3_unlikeAt_43 (by decide) rfl ?_
      refine E_aload_n dX3_unlikeAt_45 rfl ?_
      refine E_getI (j := 4) dX3_unlikeAt_46 o_l0 (by decide) rfl fd_RX3_38 ?_
      refine E_iload dX3_unlikeAt_49 rfl ?_
      refine E_ishr dX3_unlikeAt_51 ?_
      refine E_iconst (v := 1) dX3_unlikeAt_52 (by decide) ?_
      refine E_iand dX3_unlikeAt_53 ?_
      refine E_iconst (v := 1) dX3_unlikeAt_54 (by decide) ?_
      refine E_icmp_ne 70 dX3_unlikeAt_55 (by decide) (fun hc => ?_) (fun hc => ?_)
      · replace hP := hP.1 hc
        refine E_iload dX3_unlikeAt_70 rfl ?_
        refine E_istore_n (ls' := [.ref (l0), .int (l1), .int (l2), .int (gI σ (l0 + 1) (((l4 + 1) * 8) + r38).toNatClampNeg), .int (l4), .int (gI σ (l0 + 1) (((l4 + 1) * 8) + r38).toNatClampNeg)]) dX3_unlikeAt_72 (by decide) rfl ?_
        refine E_iinc (ls' := [.ref (l0), .int (l1), .int (l2), .int (gI σ (l0 + 1) (((l4 + 1) * 8) + r38).toNatClampNeg), .int (l4 + 1), .int (gI σ (l0 + 1) (((l4 + 1) * 8) + r38).toNatClampNeg)]) dX3_unlikeAt_73 rfl rfl (by decide) rfl ?_
        refine E_goto 16 dX3_unlikeAt_76 (by decide) ?_
        refine E_mask [true, true, true, true, true, false] rfl ?_
        exact ih (l2) (gI σ (l0 + 1) (((l4 + 1) * 8) + r38).toNatClampNeg) (l4 + 1) _ rfl hP
      · replace hP := hP.2 hc
        refine E_iload_n dX3_unlikeAt_58 rfl ?_
        refine E_iload_n dX3_unlikeAt_59 rfl ?_
        refine E_iload dX3_unlikeAt_60 rfl ?_
        refine E_isub dX3_unlikeAt_62 ?_
        refine E_abs dX3_unlikeAt_63 tw_68 tw_69 tw_20 tw_70 ⟨Nat.le_of_ble_eq_true rfl, Nat.le_of_ble_eq_true rfl⟩ ?_
        refine E_max dX3_unlikeAt_66 tw_67 tw_27 tw_20 tw_28 ⟨Nat.le_of_ble_eq_true rfl, Nat.le_of_ble_eq_true rfl⟩ ?_
        refine E_istore_n (ls' := [.ref (l0), .int (l1), .int (mxI l2 (abI (l3 - (gI σ (l0 + 1) (((l4 + 1) * 8) + r38).toNatClampNeg)))), .int (l3), .int (l4), .int (gI σ (l0 + 1) (((l4 + 1) * 8) + r38).toNatClampNeg)]) dX3_unlikeAt_69 (by decide) rfl ?_
        refine E_iload dX3_unlikeAt_70 rfl ?_
        refine E_istore_n (ls' := [.ref (l0), .int (l1), .int (mxI l2 (abI (l3 - (gI σ (l0 + 1) (((l4 + 1) * 8) + r38).toNatClampNeg)))), .int (gI σ (l0 + 1) (((l4 + 1) * 8) + r38).toNatClampNeg), .int (l4), .int (gI σ (l0 + 1) (((l4 + 1) * 8) + r38).toNatClampNeg)]) dX3_unlikeAt_72 (by decide) rfl ?_
        refine E_iinc (ls' := [.ref (l0), .int (l1), .int (mxI l2 (abI (l3 - (gI σ (l0 + 1) (((l4 + 1) * 8) + r38).toNatClampNeg)))), .int (gI σ (l0 + 1) (((l4 + 1) * 8) + r38).toNatClampNeg), .int (l4 + 1), .int (gI σ (l0 + 1) (((l4 + 1) * 8) + r38).toNatClampNeg)]) dX3_unlikeAt_73 rfl rfl (by decide) rfl ?_
        refine E_goto 16 dX3_unlikeAt_76 (by decide) ?_
        refine E_mask [true, true, true, true, true, false] rfl ?_
        exact ih (mxI l2 (abI (l3 - (gI σ (l0 + 1) (((l4 + 1) * 8) + r38).toNatClampNeg)))) (gI σ (l0 + 1) (((l4 + 1) * 8) + r38).toNatClampNeg) (l4 + 1) _ rfl hP
set_option maxRecDepth 20000 in
theorem mt_X3_unlikeAt (a0 : Nat) (p0 : Int32) (σ : St) (Q : Int32 → Prop) (o_a0 : kd a0 = 3) (hP : P_X3_unlikeAt a0 p0 σ Q) : Mt yX3_unlikeAt cX3_unlikeAt 6 (some .int) rmX3_unlikeAt [.ref (a0), .int (p0)] σ (qI fun x s => s = σ ∧ Q x) := by
  refine Mt.of (k := 4) (ls := [.ref (a0), .int (p0), un, un, un, un]) (by decide +kernel) rfl (Nat.le_of_ble_eq_true rfl) ?_
  show eX3_unlikeAt 0 [.ref (a0), .int (p0), un, un, un, un] [] σ _
  unfold P_X3_unlikeAt at hP
  refine E_iconst (v := 0) dX3_unlikeAt_0 (by decide) ?_
  refine E_istore_n (ls' := [.ref (a0), .int (p0), .int (0), un, un, un]) dX3_unlikeAt_1 (by decide) rfl ?_
  refine E_aload_n dX3_unlikeAt_2 rfl ?_
  refine E_getR (j := 0) dX3_unlikeAt_3 o_a0 (by decide) rfl fd_RX3_11 (by decide) ?_
  refine E_iload_n dX3_unlikeAt_6 rfl ?_
  refine E_iconst (v := 0) dX3_unlikeAt_7 (by decide) ?_
  refine E_callS (As := [.int (p0), .int (0)]) (rest := [.ref (a0 + 1)]) dX3_unlikeAt_8 cl_RX3_21 tw_47 ⟨rfl, rfl, Nat.le_of_ble_eq_true rfl, Nat.le_of_ble_eq_true rfl⟩ rfl rfl (Nat.le_of_ble_eq_true rfl) (mt_X3_leftAt _ _ _ _  hP) ?_
  intro r0 s0 hq0; obtain ⟨r8, h0, hs0, hP⟩ := hq0; subst h0; rw [hs0]
  show eX3_unlikeAt 11 [.ref (a0), .int (p0), .int (0), un, un, un] [.int (r8), .ref (a0 + 1)] σ _
  obtain ⟨hb, hP⟩ := hP
  refine E_iald dX3_unlikeAt_11 (ar_3_1 o_a0).1 (ar_3_1 o_a0).2 hb ?_
  refine E_istore_n (ls' := [.ref (a0), .int (p0), .int (0), .int (gI σ (a0 + 1) r8.toNatClampNeg), un, un]) dX3_unlikeAt_12 (by decide) rfl ?_
  refine E_iconst (v := 0) dX3_unlikeAt_13 (by decide) ?_
  refine E_istore (ls' := [.ref (a0), .int (p0), .int (0), .int (gI σ (a0 + 1) r8.toNatClampNeg), .int (0), un]) dX3_unlikeAt_14 (by decide) rfl ?_
  obtain ⟨m16, hP⟩ := hP
  refine ev_X3_unlikeAt_l16 (a0) (p0) o_a0 _ Q σ ?_ m16 _ _ _ _ rfl hP
  intro k2 t79 hP hs
  rw [hs]
  refine E_iload_n dX3_unlikeAt_79 rfl ?_
  exact E_iret dX3_unlikeAt_80 rfl ⟨_, rfl, rfl, hP⟩
theorem dX1_fill_0 : decode cX1_fill 0 = .ok (.aload_n 0, 1) := by decide +kernel
theorem dX1_fill_1 : decode cX1_fill 1 = .ok (.getfield 11, 3) := by decide +kernel
theorem dX1_fill_4 : decode cX1_fill 4 = .ok (.iconst 0, 1) := by decide +kernel
theorem dX1_fill_5 : decode cX1_fill 5 = .ok (.aload_n 1, 1) := by decide +kernel
theorem dX1_fill_6 : decode cX1_fill 6 = .ok (.getfield 21, 3) := by decide +kernel
theorem dX1_fill_9 : decode cX1_fill 9 = .ok (.iconst 1, 1) := by decide +kernel
theorem dX1_fill_10 : decode cX1_fill 10 = .ok (.iadd, 1) := by decide +kernel
theorem dX1_fill_11 : decode cX1_fill 11 = .ok (.lconst 0, 1) := by decide +kernel
theorem dX1_fill_12 : decode cX1_fill 12 = .ok (.invokestatic 25, 3) := by decide +kernel
theorem dX1_fill_15 : decode cX1_fill 15 = .ok (.aload_n 0, 1) := by decide +kernel
theorem dX1_fill_16 : decode cX1_fill 16 = .ok (.getfield 11, 3) := by decide +kernel
theorem dX1_fill_19 : decode cX1_fill 19 = .ok (.aload_n 1, 1) := by decide +kernel
theorem dX1_fill_20 : decode cX1_fill 20 = .ok (.getfield 21, 3) := by decide +kernel
theorem dX1_fill_23 : decode cX1_fill 23 = .ok (.lconst 1, 1) := by decide +kernel
theorem dX1_fill_24 : decode cX1_fill 24 = .ok (.lastore, 1) := by decide +kernel
theorem dX1_fill_25 : decode cX1_fill 25 = .ok (.iconst 0, 1) := by decide +kernel
theorem dX1_fill_26 : decode cX1_fill 26 = .ok (.istore_n 3, 1) := by decide +kernel
theorem dX1_fill_27 : decode cX1_fill 27 = .ok (.aload_n 1, 1) := by decide +kernel
theorem dX1_fill_28 : decode cX1_fill 28 = .ok (.getfield 21, 3) := by decide +kernel
theorem dX1_fill_31 : decode cX1_fill 31 = .ok (.istore 4, 2) := by decide +kernel
theorem dX1_fill_33 : decode cX1_fill 33 = .ok (.iload 4, 2) := by decide +kernel
theorem dX1_fill_35 : decode cX1_fill 35 = .ok (.ifCond .lt 134, 3) := by decide +kernel
theorem dX1_fill_38 : decode cX1_fill 38 = .ok (.aload_n 0, 1) := by decide +kernel
theorem dX1_fill_39 : decode cX1_fill 39 = .ok (.getfield 11, 3) := by decide +kernel
theorem dX1_fill_42 : decode cX1_fill 42 = .ok (.iload 4, 2) := by decide +kernel
theorem dX1_fill_44 : decode cX1_fill 44 = .ok (.laload, 1) := by decide +kernel
theorem dX1_fill_45 : decode cX1_fill 45 = .ok (.lconst 0, 1) := by decide +kernel
theorem dX1_fill_46 : decode cX1_fill 46 = .ok (.lcmp, 1) := by decide +kernel
theorem dX1_fill_47 : decode cX1_fill 47 = .ok (.ifCond .ne 6, 3) := by decide +kernel
theorem dX1_fill_50 : decode cX1_fill 50 = .ok (.goto 113, 3) := by decide +kernel
theorem dX1_fill_53 : decode cX1_fill 53 = .ok (.iload 4, 2) := by decide +kernel
theorem dX1_fill_55 : decode cX1_fill 55 = .ok (.aload_n 1, 1) := by decide +kernel
theorem dX1_fill_56 : decode cX1_fill 56 = .ok (.getfield 21, 3) := by decide +kernel
theorem dX1_fill_59 : decode cX1_fill 59 = .ok (.if_icmp .eq 27, 3) := by decide +kernel
theorem dX1_fill_62 : decode cX1_fill 62 = .ok (.aload_n 1, 1) := by decide +kernel
theorem dX1_fill_63 : decode cX1_fill 63 = .ok (.iload 4, 2) := by decide +kernel
theorem dX1_fill_65 : decode cX1_fill 65 = .ok (.invokevirtual 31, 3) := by decide +kernel
theorem dX1_fill_68 : decode cX1_fill 68 = .ok (.aload_n 1, 1) := by decide +kernel
theorem dX1_fill_69 : decode cX1_fill 69 = .ok (.getfield 35, 3) := by decide +kernel
theorem dX1_fill_72 : decode cX1_fill 72 = .ok (.if_icmp .le 14, 3) := by decide +kernel
theorem dX1_fill_75 : decode cX1_fill 75 = .ok (.aload_n 0, 1) := by decide +kernel
theorem dX1_fill_76 : decode cX1_fill 76 = .ok (.getfield 11, 3) := by decide +kernel
theorem dX1_fill_79 : decode cX1_fill 79 = .ok (.iload 4, 2) := by decide +kernel
theorem dX1_fill_81 : decode cX1_fill 81 = .ok (.lconst 0, 1) := by decide +kernel
theorem dX1_fill_82 : decode cX1_fill 82 = .ok (.lastore, 1) := by decide +kernel
theorem dX1_fill_83 : decode cX1_fill 83 = .ok (.goto 80, 3) := by decide +kernel
theorem dX1_fill_86 : decode cX1_fill 86 = .ok (.iinc 3 1, 3) := by decide +kernel
theorem dX1_fill_89 : decode cX1_fill 89 = .ok (.iconst 0, 1) := by decide +kernel
theorem dX1_fill_90 : decode cX1_fill 90 = .ok (.istore 5, 2) := by decide +kernel
theorem dX1_fill_92 : decode cX1_fill 92 = .ok (.iload 5, 2) := by decide +kernel
theorem dX1_fill_94 : decode cX1_fill 94 = .ok (.iconst 4, 1) := by decide +kernel
theorem dX1_fill_95 : decode cX1_fill 95 = .ok (.if_icmp .ge 68, 3) := by decide +kernel
theorem dX1_fill_98 : decode cX1_fill 98 = .ok (.aload_n 1, 1) := by decide +kernel
theorem dX1_fill_99 : decode cX1_fill 99 = .ok (.iload 4, 2) := by decide +kernel
theorem dX1_fill_101 : decode cX1_fill 101 = .ok (.iload 5, 2) := by decide +kernel
theorem dX1_fill_103 : decode cX1_fill 103 = .ok (.invokevirtual 38, 3) := by decide +kernel
theorem dX1_fill_106 : decode cX1_fill 106 = .ok (.ifCond .eq 51, 3) := by decide +kernel
theorem dX1_fill_109 : decode cX1_fill 109 = .ok (.aload_n 2, 1) := by decide +kernel
theorem dX1_fill_110 : decode cX1_fill 110 = .ok (.ifnull 24, 3) := by decide +kernel
theorem dX1_fill_113 : decode cX1_fill 113 = .ok (.aload_n 2, 1) := by decide +kernel
theorem dX1_fill_114 : decode cX1_fill 114 = .ok (.aload_n 1, 1) := by decide +kernel
theorem dX1_fill_115 : decode cX1_fill 115 = .ok (.iload 4, 2) := by decide +kernel
theorem dX1_fill_117 : decode cX1_fill 117 = .ok (.invokevirtual 42, 3) := by decide +kernel
theorem dX1_fill_120 : decode cX1_fill 120 = .ok (.aload_n 1, 1) := by decide +kernel
theorem dX1_fill_121 : decode cX1_fill 121 = .ok (.iload 4, 2) := by decide +kernel
theorem dX1_fill_123 : decode cX1_fill 123 = .ok (.iload 5, 2) := by decide +kernel
theorem dX1_fill_125 : decode cX1_fill 125 = .ok (.invokevirtual 45, 3) := by decide +kernel
theorem dX1_fill_128 : decode cX1_fill 128 = .ok (.invokevirtual 49, 3) := by decide +kernel
theorem dX1_fill_131 : decode cX1_fill 131 = .ok (.ifCond .eq 26, 3) := by decide +kernel
theorem dX1_fill_134 : decode cX1_fill 134 = .ok (.aload_n 0, 1) := by decide +kernel
theorem dX1_fill_135 : decode cX1_fill 135 = .ok (.getfield 11, 3) := by decide +kernel
theorem dX1_fill_138 : decode cX1_fill 138 = .ok (.iload 4, 2) := by decide +kernel
theorem dX1_fill_140 : decode cX1_fill 140 = .ok (.iload 5, 2) := by decide +kernel
theorem dX1_fill_142 : decode cX1_fill 142 = .ok (.invokestatic 54, 3) := by decide +kernel
theorem dX1_fill_145 : decode cX1_fill 145 = .ok (.isub, 1) := by decide +kernel
theorem dX1_fill_146 : decode cX1_fill 146 = .ok (.dup2, 1) := by decide +kernel
theorem dX1_fill_147 : decode cX1_fill 147 = .ok (.laload, 1) := by decide +kernel
theorem dX1_fill_148 : decode cX1_fill 148 = .ok (.aload_n 0, 1) := by decide +kernel
theorem dX1_fill_149 : decode cX1_fill 149 = .ok (.getfield 11, 3) := by decide +kernel
theorem dX1_fill_152 : decode cX1_fill 152 = .ok (.iload 4, 2) := by decide +kernel
theorem dX1_fill_154 : decode cX1_fill 154 = .ok (.laload, 1) := by decide +kernel
theorem dX1_fill_155 : decode cX1_fill 155 = .ok (.ladd, 1) := by decide +kernel
theorem dX1_fill_156 : decode cX1_fill 156 = .ok (.lastore, 1) := by decide +kernel
theorem dX1_fill_157 : decode cX1_fill 157 = .ok (.iinc 5 1, 3) := by decide +kernel
theorem dX1_fill_160 : decode cX1_fill 160 = .ok (.goto (-68), 3) := by decide +kernel
theorem dX1_fill_163 : decode cX1_fill 163 = .ok (.iinc 4 (-1), 3) := by decide +kernel
theorem dX1_fill_166 : decode cX1_fill 166 = .ok (.goto (-133), 3) := by decide +kernel
theorem dX1_fill_169 : decode cX1_fill 169 = .ok (.iload_n 3, 1) := by decide +kernel
theorem dX1_fill_170 : decode cX1_fill 170 = .ok (.ireturn, 1) := by decide +kernel
def rmX1_fill : Room := { frames := 3, cells := 0, slots := 0, locals := 62 }
abbrev eX1_fill := Ev cX1_fill 6 (some .int) RX1 rmX1_fill
set_option maxRecDepth 20000 in
theorem ev_X1_fill_l92 (l1 : Nat) (l2 : Nat) (l3 : Int32) (l4 : Int32) (o_l1 : kd (l1) = 3) (o_l2 : ¬ l2 = 999 → kd l2 = 2) (K : St → Prop) (Q : Int32 → St → Prop) (hK : ∀  s, K  s → eX1_fill 163 [.ref (23), .ref (l1), .ref (l2), .int (l3), .int (l4), un] [] s (qI Q)) : ∀ (n : Nat) (l5 : Int32) (σ : St), P_X1_fill_l92 l1 l2 l3 l4 K Q n l5 σ → eX1_fill 92 [.ref (23), .ref (l1), .ref (l2), .int (l3), .int (l4), .int (l5)] [] σ (qI Q) := by
  intro n
  induction n with
  | zero => intro l5 σ hP; exact hP.elim
  | succ n ih =>
    intro l5 σ hP
    rw [P_X1_fill_l92] at hP
    refine E_iload dX1_fill_92 rfl ?_
    refine E_iconst (v := 4) dX1_fill_94 (by decide) ?_
    refine E_icmp_ge 163 dX1_fill_95 (by decide) (fun hc => ?_) (fun hc => ?_)
    · replace hP := hP.1 hc
      refine E_mask [true, true, true, true, true, false] rfl ?_
      exact hK  _ hP
    · replace hP := hP.2 hc
      refine E_aload_n dX1_fill_98 rfl ?_
      refine E_iload dX1_fill_99 rfl ?_
      refine E_iload dX1_fill_101 rfl ?_
      refine E_callV (As := [.int (l4), .int (l5)]) (rest := []) dX1_fill_103 cl_RX1_38 tw_89 o_l1 (by decide) rfl tw_90 ⟨rfl, rfl, Nat.le_of_ble_eq_true rfl, Nat.le_of_ble_eq_true rfl⟩ rfl rfl (Nat.le_of_ble_eq_true rfl) (mt_X3_lowestMayGo _ _ _ _ _ o_l1 hP) ?_
      intro r0 s0 hq0; obtain ⟨r103, h0, hs0, hP⟩ := hq0; subst h0; rw [hs0]
      show eX1_fill 106 [.ref (23), .ref (l1), .ref (l2), .int (l3), .int (l4), .int (l5)] [.int (bI r103)] σ _
      refine E_ifz_eq 157 dX1_fill_106 (by decide) (fun hc => ?_) (fun hc => ?_)
      · replace hP := hP.1 hc
        refine E_iinc (ls' := [.ref (23), .ref (l1), .ref (l2), .int (l3), .int (l4), .int (l5 + 1)]) dX1_fill_157 rfl rfl (by decide) rfl ?_
        refine E_goto 92 dX1_fill_160 (by decide) ?_
        exact ih (l5 + 1) _ hP
      · replace hP := hP.2 hc
        refine E_aload_n dX1_fill_109 rfl ?_
        refine E_ifnull 134 dX1_fill_110 (by decide) (fun h9 => ?_) (fun h9 => ?_)
        · replace hP := hP.1 h9
          refine E_aload_n dX1_fill_134 rfl ?_
          refine E_getR (j := 0) dX1_fill_135 (show kd 23 = 1 by decide) (by decide) rfl fd_RX1_11 (by decide) ?_
          refine E_iload dX1_fill_138 rfl ?_
          refine E_iload dX1_fill_140 rfl ?_
          refine E_callS (As := [.int (l5)]) (rest := [.int (l4), .ref (24)]) dX1_fill_142 cl_RX1_54 tw_44 ⟨rfl, rfl, Nat.le_of_ble_eq_true rfl, Nat.le_of_ble_eq_true rfl⟩ rfl rfl (Nat.le_of_ble_eq_true rfl) (mt_X3_unit _ _ _  hP) ?_
          intro r0 s0 hq0; obtain ⟨r142, h0, hs0, hP⟩ := hq0; subst h0; rw [hs0]
          show eX1_fill 145 [.ref (23), .ref (l1), .ref (l2), .int (l3), .int (l4), .int (l5)] [.int (r142), .int (l4), .ref (24)] σ _
          refine E_isub dX1_fill_145 ?_
          refine E_dup2 dX1_fill_146 rfl rfl ?_
          obtain ⟨hb, hP⟩ := hP
          refine E_lald dX1_fill_147 (ar_1_1 (show kd 23 = 1 by decide)).1 (ar_1_1 (show kd 23 = 1 by decide)).2 hb ?_
          refine E_aload_n dX1_fill_148 rfl ?_
          refine E_getR (j := 0) dX1_fill_149 (show kd 23 = 1 by decide) (by decide) rfl fd_RX1_11 (by decide) ?_
          refine E_iload dX1_fill_152 rfl ?_
          obtain ⟨hb, hP⟩ := hP
          refine E_lald dX1_fill_154 (ar_1_1 (show kd 23 = 1 by decide)).1 (ar_1_1 (show kd 23 = 1 by decide)).2 hb ?_
          refine E_ladd dX1_fill_155 ?_
          obtain ⟨hb, hP⟩ := hP
          refine E_last dX1_fill_156 (ar_1_1 (show kd 23 = 1 by decide)).1 (ar_1_1 (show kd 23 = 1 by decide)).2 hb ?_
          refine E_iinc (ls' := [.ref (23), .ref (l1), .ref (l2), .int (l3), .int (l4), .int (l5 + 1)]) dX1_fill_157 rfl rfl (by decide) rfl ?_
          refine E_goto 92 dX1_fill_160 (by decide) ?_
          exact ih (l5 + 1) _ hP
        · replace hP := hP.2 h9
          refine E_aload_n dX1_fill_113 rfl ?_
          refine E_aload_n dX1_fill_114 rfl ?_
          refine E_iload dX1_fill_115 rfl ?_
          refine E_callV (As := [.int (l4)]) (rest := [.ref (l2)]) dX1_fill_117 cl_RX1_42 tw_85 o_l1 (by decide) rfl tw_86 ⟨rfl, rfl, Nat.le_of_ble_eq_true rfl, Nat.le_of_ble_eq_true rfl⟩ rfl rfl (Nat.le_of_ble_eq_true rfl) (mt_X3_pulledAt _ _ _ _ o_l1 hP) ?_
          intro r0 s0 hq0; obtain ⟨r117, h0, hs0, hP⟩ := hq0; subst h0; rw [hs0]
          show eX1_fill 120 [.ref (23), .ref (l1), .ref (l2), .int (l3), .int (l4), .int (l5)] [.int (r117), .ref (l2)] σ _
          refine E_aload_n dX1_fill_120 rfl ?_
          refine E_iload dX1_fill_121 rfl ?_
          refine E_iload dX1_fill_123 rfl ?_
          refine E_callV (As := [.int (l4), .int (l5)]) (rest := [.int (r117), .ref (l2)]) dX1_fill_125 cl_RX1_45 tw_81 o_l1 (by decide) rfl tw_82 ⟨rfl, rfl, Nat.le_of_ble_eq_true rfl, Nat.le_of_ble_eq_true rfl⟩ rfl rfl (Nat.le_of_ble_eq_true rfl) (mt_X3_nextCoin _ _ _ _ _ o_l1 hP) ?_
          intro r0 s0 hq0; obtain ⟨r125, h0, hs0, hP⟩ := hq0; subst h0; rw [hs0]
          show eX1_fill 128 [.ref (23), .ref (l1), .ref (l2), .int (l3), .int (l4), .int (l5)] [.int (r125), .int (r117), .ref (l2)] σ _
          refine E_callV (As := [.int (r117), .int (r125)]) (rest := []) dX1_fill_128 cl_RX1_49 tw_77 (o_l2 h9) (by decide) rfl tw_78 ⟨rfl, rfl, Nat.le_of_ble_eq_true rfl, Nat.le_of_ble_eq_true rfl⟩ rfl rfl (Nat.le_of_ble_eq_true rfl) (mt_X2_tells _ _ _ _ _ (o_l2 h9) hP) ?_
          intro r0 s0 hq0; obtain ⟨r128, h0, hs0, hP⟩ := hq0; subst h0; rw [hs0]
          show eX1_fill 131 [.ref (23), .ref (l1), .ref (l2), .int (l3), .int (l4), .int (l5)] [.int (bI r128)] σ _
          refine E_ifz_eq 157 dX1_fill_131 (by decide) (fun hc => ?_) (fun hc => ?_)
          · replace hP := hP.1 hc
            refine E_iinc (ls' := [.ref (23), .ref (l1), .ref (l2), .int (l3), .int (l4), .int (l5 + 1)]) dX1_fill_157 rfl rfl (by decide) rfl ?_
            refine E_goto 92 dX1_fill_160 (by decide) ?_
            exact ih (l5 + 1) _ hP
          · replace hP := hP.2 hc
            refine E_aload_n dX1_fill_134 rfl ?_
            refine E_getR (j := 0) dX1_fill_135 (show kd 23 = 1 by decide) (by decide) rfl fd_RX1_11 (by decide) ?_
            refine E_iload dX1_fill_138 rfl ?_
            refine E_iload dX1_fill_140 rfl ?_
            refine E_callS (As := [.int (l5)]) (rest := [.int (l4), .ref (24)]) dX1_fill_142 cl_RX1_54 tw_44 ⟨rfl, rfl, Nat.le_of_ble_eq_true rfl, Nat.le_of_ble_eq_true rfl⟩ rfl rfl (Nat.le_of_ble_eq_true rfl) (mt_X3_unit _ _ _  hP) ?_
            intro r0 s0 hq0; obtain ⟨r142, h0, hs0, hP⟩ := hq0; subst h0; rw [hs0]
            show eX1_fill 145 [.ref (23), .ref (l1), .ref (l2), .int (l3), .int (l4), .int (l5)] [.int (r142), .int (l4), .ref (24)] σ _
            refine E_isub dX1_fill_145 ?_
            refine E_dup2 dX1_fill_146 rfl rfl ?_
            obtain ⟨hb, hP⟩ := hP
            refine E_lald dX1_fill_147 (ar_1_1 (show kd 23 = 1 by decide)).1 (ar_1_1 (show kd 23 = 1 by decide)).2 hb ?_
            refine E_aload_n dX1_fill_148 rfl ?_
            refine E_getR (j := 0) dX1_fill_149 (show kd 23 = 1 by decide) (by decide) rfl fd_RX1_11 (by decide) ?_
            refine E_iload dX1_fill_152 rfl ?_
            obtain ⟨hb, hP⟩ := hP
            refine E_lald dX1_fill_154 (ar_1_1 (show kd 23 = 1 by decide)).1 (ar_1_1 (show kd 23 = 1 by decide)).2 hb ?_
            refine E_ladd dX1_fill_155 ?_
            obtain ⟨hb, hP⟩ := hP
            refine E_last dX1_fill_156 (ar_1_1 (show kd 23 = 1 by decide)).1 (ar_1_1 (show kd 23 = 1 by decide)).2 hb ?_
            refine E_iinc (ls' := [.ref (23), .ref (l1), .ref (l2), .int (l3), .int (l4), .int (l5 + 1)]) dX1_fill_157 rfl rfl (by decide) rfl ?_
            refine E_goto 92 dX1_fill_160 (by decide) ?_
            exact ih (l5 + 1) _ hP
set_option maxRecDepth 20000 in
theorem ev_X1_fill_l33 (l1 : Nat) (l2 : Nat) (o_l1 : kd (l1) = 3) (o_l2 : ¬ l2 = 999 → kd l2 = 2) (K : Int32 → St → Prop) (Q : Int32 → St → Prop) (hK : ∀ k3 s, K k3 s → eX1_fill 169 [un, un, un, .int (k3), un, un] [] s (qI Q)) : ∀ (n : Nat) (l3 : Int32) (l4 : Int32) (σ : St), P_X1_fill_l33 l1 l2 K Q n l3 l4 σ → eX1_fill 33 [.ref (23), .ref (l1), .ref (l2), .int (l3), .int (l4), un] [] σ (qI Q) := by
  intro n
  induction n with
  | zero => intro l3 l4 σ hP; exact hP.elim
  | succ n ih =>
    intro l3 l4 σ hP
    rw [P_X1_fill_l33] at hP
    refine E_iload dX1_fill_33 rfl ?_
    refine E_if_lt 169 dX1_fill_35 (by decide) (fun hc => ?_) (fun hc => ?_)
    · replace hP := hP.1 hc
      refine E_mask [false, false, false, true, false, false] rfl ?_
      exact hK (l3) _ hP
    · replace hP := hP.2 hc
      refine E_aload_n dX1_fill_38 rfl ?_
      refine E_getR (j := 0) dX1_fill_39 (show kd 23 = 1 by decide) (by decide) rfl fd_RX1_11 (by decide) ?_
      refine E_iload dX1_fill_42 rfl ?_
      obtain ⟨hb, hP⟩ := hP
      refine E_lald dX1_fill_44 (ar_1_1 (show kd 23 = 1 by decide)).1 (ar_1_1 (show kd 23 = 1 by decide)).2 hb ?_
      refine E_lconst (v := 0) dX1_fill_45 (by decide) ?_
      refine E_lcmp dX1_fill_46 ?_
      refine E_if_ne 53 dX1_fill_47 (by decide) (fun hc => ?_) (fun hc => ?_)
      · replace hP := hP.1 hc
        refine E_iload dX1_fill_53 rfl ?_
        refine E_aload_n dX1_fill_55 rfl ?_
        refine E_getI (j := 3) dX1_fill_56 o_l1 (by decide) rfl fd_RX1_21 ?_
        refine E_icmp_eq 86 dX1_fill_59 (by decide) (fun hc => ?_) (fun hc => ?_)
        · replace hP := hP.1 hc
          refine E_iinc (ls' := [.ref (23), .ref (l1), .ref (l2), .int (l3 + 1), .int (l4), un]) dX1_fill_86 rfl rfl (by decide) rfl ?_
          refine E_iconst (v := 0) dX1_fill_89 (by decide) ?_
          refine E_istore (ls' := [.ref (23), .ref (l1), .ref (l2), .int (l3 + 1), .int (l4), .int (0)]) dX1_fill_90 (by decide) rfl ?_
          obtain ⟨m92, hP⟩ := hP
          refine ev_X1_fill_l92 (l1) (l2) (l3 + 1) (l4) o_l1 o_l2 _ Q ?_ m92 _ _ hP
          intro  t163 hP
          refine E_iinc (ls' := [.ref (23), .ref (l1), .ref (l2), .int (l3 + 1), .int (l4 + (-1)), un]) dX1_fill_163 rfl rfl (by decide) rfl ?_
          refine E_goto 33 dX1_fill_166 (by decide) ?_
          exact ih (l3 + 1) (l4 + (-1)) _ hP
        · replace hP := hP.2 hc
          refine E_aload_n dX1_fill_62 rfl ?_
          refine E_iload dX1_fill_63 rfl ?_
          refine E_callV (As := [.int (l4)]) (rest := []) dX1_fill_65 cl_RX1_31 tw_94 o_l1 (by decide) rfl tw_95 ⟨rfl, rfl, Nat.le_of_ble_eq_true rfl, Nat.le_of_ble_eq_true rfl⟩ rfl rfl (Nat.le_of_ble_eq_true rfl) (mt_X3_unlikeAt _ _ _ _ o_l1 hP) ?_
          intro r0 s0 hq0; obtain ⟨r65, h0, hs0, hP⟩ := hq0; subst h0; rw [hs0]
          show eX1_fill 68 [.ref (23), .ref (l1), .ref (l2), .int (l3), .int (l4), un] [.int (r65)] σ _
          refine E_aload_n dX1_fill_68 rfl ?_
          refine E_getI (j := 5) dX1_fill_69 o_l1 (by decide) rfl fd_RX1_35 ?_
          refine E_icmp_le 86 dX1_fill_72 (by decide) (fun hc => ?_) (fun hc => ?_)
          · replace hP := hP.1 hc
            refine E_iinc (ls' := [.ref (23), .ref (l1), .ref (l2), .int (l3 + 1), .int (l4), un]) dX1_fill_86 rfl rfl (by decide) rfl ?_
            refine E_iconst (v := 0) dX1_fill_89 (by decide) ?_
            refine E_istore (ls' := [.ref (23), .ref (l1), .ref (l2), .int (l3 + 1), .int (l4), .int (0)]) dX1_fill_90 (by decide) rfl ?_
            obtain ⟨m92, hP⟩ := hP
            refine ev_X1_fill_l92 (l1) (l2) (l3 + 1) (l4) o_l1 o_l2 _ Q ?_ m92 _ _ hP
            intro  t163 hP
            refine E_iinc (ls' := [.ref (23), .ref (l1), .ref (l2), .int (l3 + 1), .int (l4 + (-1)), un]) dX1_fill_163 rfl rfl (by decide) rfl ?_
            refine E_goto 33 dX1_fill_166 (by decide) ?_
            exact ih (l3 + 1) (l4 + (-1)) _ hP
          · replace hP := hP.2 hc
            refine E_aload_n dX1_fill_75 rfl ?_
            refine E_getR (j := 0) dX1_fill_76 (show kd 23 = 1 by decide) (by decide) rfl fd_RX1_11 (by decide) ?_
            refine E_iload dX1_fill_79 rfl ?_
            refine E_lconst (v := 0) dX1_fill_81 (by decide) ?_
            obtain ⟨hb, hP⟩ := hP
            refine E_last dX1_fill_82 (ar_1_1 (show kd 23 = 1 by decide)).1 (ar_1_1 (show kd 23 = 1 by decide)).2 hb ?_
            refine E_goto 163 dX1_fill_83 (by decide) ?_
            refine E_iinc (ls' := [.ref (23), .ref (l1), .ref (l2), .int (l3), .int (l4 + (-1)), un]) dX1_fill_163 rfl rfl (by decide) rfl ?_
            refine E_goto 33 dX1_fill_166 (by decide) ?_
            exact ih (l3) (l4 + (-1)) _ hP
      · replace hP := hP.2 hc
        refine E_goto 163 dX1_fill_50 (by decide) ?_
        refine E_iinc (ls' := [.ref (23), .ref (l1), .ref (l2), .int (l3), .int (l4 + (-1)), un]) dX1_fill_163 rfl rfl (by decide) rfl ?_
        refine E_goto 33 dX1_fill_166 (by decide) ?_
        exact ih (l3) (l4 + (-1)) _ hP
set_option maxRecDepth 20000 in
theorem mt_X1_fill (p0 : Nat) (p1 : Nat) (σ : St) (Q : Int32 → St → Prop) (o_p0 : kd p0 = 3) (o_p1 : ¬ p1 = 999 → kd p1 = 2) (hP : P_X1_fill p0 p1 σ Q) : Mt yX1_fill cX1_fill 6 (some .int) rmX1_fill [.ref (23), .ref (p0), .ref (p1)] σ (qI Q) := by
  refine Mt.of (k := 3) (ls := [.ref (23), .ref (p0), .ref (p1), un, un, un]) (by decide +kernel) rfl (Nat.le_of_ble_eq_true rfl) ?_
  show eX1_fill 0 [.ref (23), .ref (p0), .ref (p1), un, un, un] [] σ _
  unfold P_X1_fill at hP
  refine E_aload_n dX1_fill_0 rfl ?_
  refine E_getR (j := 0) dX1_fill_1 (show kd 23 = 1 by decide) (by decide) rfl fd_RX1_11 (by decide) ?_
  refine E_iconst (v := 0) dX1_fill_4 (by decide) ?_
  refine E_aload_n dX1_fill_5 rfl ?_
  refine E_getI (j := 3) dX1_fill_6 o_p0 (by decide) rfl fd_RX1_21 ?_
  refine E_iconst (v := 1) dX1_fill_9 (by decide) ?_
  refine E_iadd dX1_fill_10 ?_
  refine E_lconst (v := 0) dX1_fill_11 (by decide) ?_
  refine E_callS (As := [.ref (24), .int (0), .int ((gI σ p0 3) + 1), .long (0)]) (rest := []) dX1_fill_12 cl_RX1_25 tw_98 ⟨rfl, rfl, Nat.le_of_ble_eq_true rfl, Nat.le_of_ble_eq_true rfl⟩ rfl rfl (Nat.le_of_ble_eq_true rfl) (mt_J7_fill_bad5a _ _ _ _ _ _ (ar_1_1 (show kd 23 = 1 by decide)).1 hP) ?_
  rintro _ t12 ⟨rfl, hP⟩
  show eX1_fill 15 [.ref (23), .ref (p0), .ref (p1), un, un, un] [] t12 _
  refine E_aload_n dX1_fill_15 rfl ?_
  refine E_getR (j := 0) dX1_fill_16 (show kd 23 = 1 by decide) (by decide) rfl fd_RX1_11 (by decide) ?_
  refine E_aload_n dX1_fill_19 rfl ?_
  refine E_getI (j := 3) dX1_fill_20 o_p0 (by decide) rfl fd_RX1_21 ?_
  refine E_lconst (v := 1) dX1_fill_23 (by decide) ?_
  obtain ⟨hb, hP⟩ := hP
  refine E_last dX1_fill_24 (ar_1_1 (show kd 23 = 1 by decide)).1 (ar_1_1 (show kd 23 = 1 by decide)).2 hb ?_
  refine E_iconst (v := 0) dX1_fill_25 (by decide) ?_
  refine E_istore_n (ls' := [.ref (23), .ref (p0), .ref (p1), .int (0), un, un]) dX1_fill_26 (by decide) rfl ?_
  refine E_aload_n dX1_fill_27 rfl ?_
  refine E_getI (j := 3) dX1_fill_28 o_p0 (by decide) rfl fd_RX1_21 ?_
  refine E_istore (ls' := [.ref (23), .ref (p0), .ref (p1), .int (0), .int (gI (sL t12 24 ((gI t12 p0 3).toNatClampNeg) 1) p0 3), un]) dX1_fill_31 (by decide) rfl ?_
  obtain ⟨m33, hP⟩ := hP
  refine ev_X1_fill_l33 (p0) (p1) o_p0 o_p1 _ Q ?_ m33 _ _ _ hP
  intro k3 t169 hP
  refine E_iload_n dX1_fill_169 rfl ?_
  exact E_iret dX1_fill_170 rfl ⟨_, rfl, hP⟩
theorem dX3_canPullAt_0 : decode cX3_canPullAt 0 = .ok (.aload_n 0, 1) := by decide +kernel
theorem dX3_canPullAt_1 : decode cX3_canPullAt 1 = .ok (.iload_n 1, 1) := by decide +kernel
theorem dX3_canPullAt_2 : decode cX3_canPullAt 2 = .ok (.iload_n 2, 1) := by decide +kernel
theorem dX3_canPullAt_3 : decode cX3_canPullAt 3 = .ok (.invokevirtual 73, 3) := by decide +kernel
theorem dX3_canPullAt_6 : decode cX3_canPullAt 6 = .ok (.ifCond .eq 24, 3) := by decide +kernel
theorem dX3_canPullAt_9 : decode cX3_canPullAt 9 = .ok (.aload_n 0, 1) := by decide +kernel
theorem dX3_canPullAt_10 : decode cX3_canPullAt 10 = .ok (.iload_n 1, 1) := by decide +kernel
theorem dX3_canPullAt_11 : decode cX3_canPullAt 11 = .ok (.iload_n 2, 1) := by decide +kernel
theorem dX3_canPullAt_12 : decode cX3_canPullAt 12 = .ok (.invokestatic 77, 3) := by decide +kernel
theorem dX3_canPullAt_15 : decode cX3_canPullAt 15 = .ok (.isub, 1) := by decide +kernel
theorem dX3_canPullAt_16 : decode cX3_canPullAt 16 = .ok (.invokevirtual 80, 3) := by decide +kernel
theorem dX3_canPullAt_19 : decode cX3_canPullAt 19 = .ok (.aload_n 0, 1) := by decide +kernel
theorem dX3_canPullAt_20 : decode cX3_canPullAt 20 = .ok (.getfield 42, 3) := by decide +kernel
theorem dX3_canPullAt_23 : decode cX3_canPullAt 23 = .ok (.if_icmp .gt 7, 3) := by decide +kernel
theorem dX3_canPullAt_26 : decode cX3_canPullAt 26 = .ok (.iconst 1, 1) := by decide +kernel
theorem dX3_canPullAt_27 : decode cX3_canPullAt 27 = .ok (.goto 4, 3) := by decide +kernel
theorem dX3_canPullAt_30 : decode cX3_canPullAt 30 = .ok (.iconst 0, 1) := by decide +kernel
theorem dX3_canPullAt_31 : decode cX3_canPullAt 31 = .ok (.ireturn, 1) := by decide +kernel
def rmX3_canPullAt : Room := { frames := 2, cells := 0, slots := 0, locals := 51 }
abbrev eX3_canPullAt := Ev cX3_canPullAt 3 (some .boolean) RX3 rmX3_canPullAt
set_option maxRecDepth 20000 in
theorem mt_X3_canPullAt (a0 : Nat) (p0 : Int32) (p1 : Int32) (σ : St) (Q : Bool → Prop) (o_a0 : kd a0 = 3) (hP : P_X3_canPullAt a0 p0 p1 σ Q) : Mt yX3_canPullAt cX3_canPullAt 3 (some .boolean) rmX3_canPullAt [.ref (a0), .int (p0), .int (p1)] σ (qB fun x s => s = σ ∧ Q x) := by
  refine Mt.of (k := 0) (ls := [.ref (a0), .int (p0), .int (p1)]) (by decide +kernel) rfl (Nat.le_of_ble_eq_true rfl) ?_
  show eX3_canPullAt 0 [.ref (a0), .int (p0), .int (p1)] [] σ _
  unfold P_X3_canPullAt at hP
  refine E_aload_n dX3_canPullAt_0 rfl ?_
  refine E_iload_n dX3_canPullAt_1 rfl ?_
  refine E_iload_n dX3_canPullAt_2 rfl ?_
  refine E_callV (As := [.int (p0), .int (p1)]) (rest := []) dX3_canPullAt_3 cl_RX3_73 tw_89 o_a0 (by decide) rfl tw_90 ⟨rfl, rfl, Nat.le_of_ble_eq_true rfl, Nat.le_of_ble_eq_true rfl⟩ rfl rfl (Nat.le_of_ble_eq_true rfl) (mt_X3_lowestMayGo _ _ _ _ _ o_a0 hP) ?_
  intro r0 s0 hq0; obtain ⟨r3, h0, hs0, hP⟩ := hq0; subst h0; rw [hs0]
  show eX3_canPullAt 6 [.ref (a0), .int (p0), .int (p1)] [.int (bI r3)] σ _
  refine E_ifz_eq 30 dX3_canPullAt_6 (by decide) (fun hc => ?_) (fun hc => ?_)
  · replace hP := hP.1 hc
    refine E_iconst (v := 0) dX3_canPullAt_30 (by decide) ?_
    exact E_nret dX3_canPullAt_31 rfl (nar_b false) ⟨false, rfl, rfl, hP⟩
  · replace hP := hP.2 hc
    refine E_aload_n dX3_canPullAt_9 rfl ?_
    refine E_iload_n dX3_canPullAt_10 rfl ?_
    refine E_iload_n dX3_canPullAt_11 rfl ?_
    refine E_callS (As := [.int (p1)]) (rest := [.int (p0), .ref (a0)]) dX3_canPullAt_12 cl_RX3_77 tw_44 ⟨rfl, rfl, Nat.le_of_ble_eq_true rfl, Nat.le_of_ble_eq_true rfl⟩ rfl rfl (Nat.le_of_ble_eq_true rfl) (mt_X3_unit _ _ _  hP) ?_
    intro r0 s0 hq0; obtain ⟨r12, h0, hs0, hP⟩ := hq0; subst h0; rw [hs0]
    show eX3_canPullAt 15 [.ref (a0), .int (p0), .int (p1)] [.int (r12), .int (p0), .ref (a0)] σ _
    refine E_isub dX3_canPullAt_15 ?_
    refine E_callV (As := [.int (p0 - r12)]) (rest := []) dX3_canPullAt_16 cl_RX3_80 tw_94 o_a0 (by decide) rfl tw_95 ⟨rfl, rfl, Nat.le_of_ble_eq_true rfl, Nat.le_of_ble_eq_true rfl⟩ rfl rfl (Nat.le_of_ble_eq_true rfl) (mt_X3_unlikeAt _ _ _ _ o_a0 hP) ?_
    intro r0 s0 hq0; obtain ⟨r16, h0, hs0, hP⟩ := hq0; subst h0; rw [hs0]
    show eX3_canPullAt 19 [.ref (a0), .int (p0), .int (p1)] [.int (r16)] σ _
    refine E_aload_n dX3_canPullAt_19 rfl ?_
    refine E_getI (j := 5) dX3_canPullAt_20 o_a0 (by decide) rfl fd_RX3_42 ?_
    refine E_icmp_gt 30 dX3_canPullAt_23 (by decide) (fun hc => ?_) (fun hc => ?_)
    · replace hP := hP.1 hc
      refine E_iconst (v := 0) dX3_canPullAt_30 (by decide) ?_
      exact E_nret dX3_canPullAt_31 rfl (nar_b false) ⟨false, rfl, rfl, hP⟩
    · replace hP := hP.2 hc
      refine E_iconst (v := 1) dX3_canPullAt_26 (by decide) ?_
      refine E_goto 31 dX3_canPullAt_27 (by decide) ?_
      exact E_nret dX3_canPullAt_31 rfl (nar_b true) ⟨true, rfl, rfl, hP⟩
theorem dX1_leadFrom_0 : decode cX1_leadFrom 0 = .ok (.iconst 0, 1) := by decide +kernel
theorem dX1_leadFrom_1 : decode cX1_leadFrom 1 = .ok (.istore_n 3, 1) := by decide +kernel
theorem dX1_leadFrom_2 : decode cX1_leadFrom 2 = .ok (.iload_n 3, 1) := by decide +kernel
theorem dX1_leadFrom_3 : decode cX1_leadFrom 3 = .ok (.iconst 4, 1) := by decide +kernel
theorem dX1_leadFrom_4 : decode cX1_leadFrom 4 = .ok (.if_icmp .ge 36, 3) := by decide +kernel
theorem dX1_leadFrom_7 : decode cX1_leadFrom 7 = .ok (.aload_n 1, 1) := by decide +kernel
theorem dX1_leadFrom_8 : decode cX1_leadFrom 8 = .ok (.iload_n 2, 1) := by decide +kernel
theorem dX1_leadFrom_9 : decode cX1_leadFrom 9 = .ok (.iload_n 3, 1) := by decide +kernel
theorem dX1_leadFrom_10 : decode cX1_leadFrom 10 = .ok (.invokevirtual 64, 3) := by decide +kernel
theorem dX1_leadFrom_13 : decode cX1_leadFrom 13 = .ok (.ifCond .eq 21, 3) := by decide +kernel
theorem dX1_leadFrom_16 : decode cX1_leadFrom 16 = .ok (.aload_n 0, 1) := by decide +kernel
theorem dX1_leadFrom_17 : decode cX1_leadFrom 17 = .ok (.getfield 11, 3) := by decide +kernel
theorem dX1_leadFrom_20 : decode cX1_leadFrom 20 = .ok (.iload_n 2, 1) := by decide +kernel
theorem dX1_leadFrom_21 : decode cX1_leadFrom 21 = .ok (.iload_n 3, 1) := by decide +kernel
theorem dX1_leadFrom_22 : decode cX1_leadFrom 22 = .ok (.invokestatic 54, 3) := by decide +kernel
theorem dX1_leadFrom_25 : decode cX1_leadFrom 25 = .ok (.isub, 1) := by decide +kernel
theorem dX1_leadFrom_26 : decode cX1_leadFrom 26 = .ok (.laload, 1) := by decide +kernel
theorem dX1_leadFrom_27 : decode cX1_leadFrom 27 = .ok (.lconst 0, 1) := by decide +kernel
theorem dX1_leadFrom_28 : decode cX1_leadFrom 28 = .ok (.lcmp, 1) := by decide +kernel
theorem dX1_leadFrom_29 : decode cX1_leadFrom 29 = .ok (.ifCond .le 5, 3) := by decide +kernel
theorem dX1_leadFrom_32 : decode cX1_leadFrom 32 = .ok (.iload_n 3, 1) := by decide +kernel
theorem dX1_leadFrom_33 : decode cX1_leadFrom 33 = .ok (.ireturn, 1) := by decide +kernel
theorem dX1_leadFrom_34 : decode cX1_leadFrom 34 = .ok (.iinc 3 1, 3) := by decide +kernel
theorem dX1_leadFrom_37 : decode cX1_leadFrom 37 = .ok (.goto (-35), 3) := by decide +kernel
theorem dX1_leadFrom_40 : decode cX1_leadFrom 40 = .ok (.iconst (-1), 1) := by decide +kernel
theorem dX1_leadFrom_41 : decode cX1_leadFrom 41 = .ok (.ireturn, 1) := by decide +kernel
def rmX1_leadFrom : Room := { frames := 3, cells := 0, slots := 0, locals := 73 }
abbrev eX1_leadFrom := Ev cX1_leadFrom 4 (some .int) RX1 rmX1_leadFrom
set_option maxRecDepth 20000 in
theorem ev_X1_leadFrom_l2 (l1 : Nat) (l2 : Int32) (o_l1 : kd (l1) = 3) (K : St → Prop) (Q : Int32 → Prop) (σ0 : St) (hK : ∀  s, K  s → s = σ0 → eX1_leadFrom 40 [un, un, un, un] [] s (qI fun x s => s = σ0 ∧ Q x)) : ∀ (n : Nat) (l3 : Int32) (σ : St), σ = σ0 → P_X1_leadFrom_l2 l1 l2 K Q n l3 σ → eX1_leadFrom 2 [.ref (23), .ref (l1), .int (l2), .int (l3)] [] σ (qI fun x s => s = σ0 ∧ Q x) := by
  intro n
  induction n with
  | zero => intro l3 σ hs hP; exact hP.elim
  | succ n ih =>
    intro l3 σ hs hP
    subst hs
    rw [P_X1_leadFrom_l2] at hP
    refine E_iload_n dX1_leadFrom_2 rfl ?_
    refine E_iconst (v := 4) dX1_leadFrom_3 (by decide) ?_
    refine E_icmp_ge 40 dX1_leadFrom_4 (by decide) (fun hc => ?_) (fun hc => ?_)
    · replace hP := hP.1 hc
      refine E_mask [false, false, false, false] rfl ?_
      exact hK  _ hP rfl
    · replace hP := hP.2 hc
      refine E_aload_n dX1_leadFrom_7 rfl ?_
      refine E_iload_n dX1_leadFrom_8 rfl ?_
      refine E_iload_n dX1_leadFrom_9 rfl ?_
      refine E_callV (As := [.int (l2), .int (l3)]) (rest := []) dX1_leadFrom_10 cl_RX1_64 tw_105 o_l1 (by decide) rfl tw_106 ⟨rfl, rfl, Nat.le_of_ble_eq_true rfl, Nat.le_of_ble_eq_true rfl⟩ rfl rfl (Nat.le_of_ble_eq_true rfl) (mt_X3_canPullAt _ _ _ _ _ o_l1 hP) ?_
      intro r0 s0 hq0; obtain ⟨r10, h0, hs0, hP⟩ := hq0; subst h0; rw [hs0]
      show eX1_leadFrom 13 [.ref (23), .ref (l1), .int (l2), .int (l3)] [.int (bI r10)] σ _
      refine E_ifz_eq 34 dX1_leadFrom_13 (by decide) (fun hc => ?_) (fun hc => ?_)
      · replace hP := hP.1 hc
        refine E_iinc (ls' := [.ref (23), .ref (l1), .int (l2), .int (l3 + 1)]) dX1_leadFrom_34 rfl rfl (by decide) rfl ?_
        refine E_goto 2 dX1_leadFrom_37 (by decide) ?_
        exact ih (l3 + 1) _ rfl hP
      · replace hP := hP.2 hc
        refine E_aload_n dX1_leadFrom_16 rfl ?_
        refine E_getR (j := 0) dX1_leadFrom_17 (show kd 23 = 1 by decide) (by decide) rfl fd_RX1_11 (by decide) ?_
        refine E_iload_n dX1_leadFrom_20 rfl ?_
        refine E_iload_n dX1_leadFrom_21 rfl ?_
        refine E_callS (As := [.int (l3)]) (rest := [.int (l2), .ref (24)]) dX1_leadFrom_22 cl_RX1_54 tw_44 ⟨rfl, rfl, Nat.le_of_ble_eq_true rfl, Nat.le_of_ble_eq_true rfl⟩ rfl rfl (Nat.le_of_ble_eq_true rfl) (mt_X3_unit _ _ _  hP) ?_
        intro r0 s0 hq0; obtain ⟨r22, h0, hs0, hP⟩ := hq0; subst h0; rw [hs0]
        show eX1_leadFrom 25 [.ref (23), .ref (l1), .int (l2), .int (l3)] [.int (r22), .int (l2), .ref (24)] σ _
        refine E_isub dX1_leadFrom_25 ?_
        obtain ⟨hb, hP⟩ := hP
        refine E_lald dX1_leadFrom_26 (ar_1_1 (show kd 23 = 1 by decide)).1 (ar_1_1 (show kd 23 = 1 by decide)).2 hb ?_
        refine E_lconst (v := 0) dX1_leadFrom_27 (by decide) ?_
        refine E_lcmp dX1_leadFrom_28 ?_
        refine E_if_le 34 dX1_leadFrom_29 (by decide) (fun hc => ?_) (fun hc => ?_)
        · replace hP := hP.1 hc
          refine E_iinc (ls' := [.ref (23), .ref (l1), .int (l2), .int (l3 + 1)]) dX1_leadFrom_34 rfl rfl (by decide) rfl ?_
          refine E_goto 2 dX1_leadFrom_37 (by decide) ?_
          exact ih (l3 + 1) _ rfl hP
        · replace hP := hP.2 hc
          refine E_iload_n dX1_leadFrom_32 rfl ?_
          exact E_iret dX1_leadFrom_33 rfl ⟨_, rfl, rfl, hP⟩
set_option maxRecDepth 20000 in
theorem mt_X1_leadFrom (p0 : Nat) (p1 : Int32) (σ : St) (Q : Int32 → Prop) (o_p0 : kd p0 = 3) (hP : P_X1_leadFrom p0 p1 σ Q) : Mt yX1_leadFrom cX1_leadFrom 4 (some .int) rmX1_leadFrom [.ref (23), .ref (p0), .int (p1)] σ (qI fun x s => s = σ ∧ Q x) := by
  refine Mt.of (k := 1) (ls := [.ref (23), .ref (p0), .int (p1), un]) (by decide +kernel) rfl (Nat.le_of_ble_eq_true rfl) ?_
  show eX1_leadFrom 0 [.ref (23), .ref (p0), .int (p1), un] [] σ _
  unfold P_X1_leadFrom at hP
  refine E_iconst (v := 0) dX1_leadFrom_0 (by decide) ?_
  refine E_istore_n (ls' := [.ref (23), .ref (p0), .int (p1), .int (0)]) dX1_leadFrom_1 (by decide) rfl ?_
  obtain ⟨m2, hP⟩ := hP
  refine ev_X1_leadFrom_l2 (p0) (p1) o_p0 _ Q σ ?_ m2 _ _ rfl hP
  intro  t40 hP hs
  rw [hs]
  refine E_iconst (v := (-1)) dX1_leadFrom_40 (by decide) ?_
  exact E_iret dX1_leadFrom_41 rfl ⟨_, rfl, rfl, hP⟩
theorem dX3_isPartOf_0 : decode cX3_isPartOf 0 = .ok (.iload_n 0, 1) := by decide +kernel
theorem dX3_isPartOf_1 : decode cX3_isPartOf 1 = .ok (.ifCond .lt 10, 3) := by decide +kernel
theorem dX3_isPartOf_4 : decode cX3_isPartOf 4 = .ok (.iload_n 0, 1) := by decide +kernel
theorem dX3_isPartOf_5 : decode cX3_isPartOf 5 = .ok (.sipush 4096, 3) := by decide +kernel
theorem dX3_isPartOf_8 : decode cX3_isPartOf 8 = .ok (.if_icmp .lt 5, 3) := by decide +kernel
theorem dX3_isPartOf_11 : decode cX3_isPartOf 11 = .ok (.iconst 0, 1) := by decide +kernel
theorem dX3_isPartOf_12 : decode cX3_isPartOf 12 = .ok (.ireturn, 1) := by decide +kernel
theorem dX3_isPartOf_13 : decode cX3_isPartOf 13 = .ok (.iconst 0, 1) := by decide +kernel
theorem dX3_isPartOf_14 : decode cX3_isPartOf 14 = .ok (.istore_n 2, 1) := by decide +kernel
theorem dX3_isPartOf_15 : decode cX3_isPartOf 15 = .ok (.iload_n 2, 1) := by decide +kernel
theorem dX3_isPartOf_16 : decode cX3_isPartOf 16 = .ok (.iconst 4, 1) := by decide +kernel
theorem dX3_isPartOf_17 : decode cX3_isPartOf 17 = .ok (.if_icmp .ge 24, 3) := by decide +kernel
theorem dX3_isPartOf_20 : decode cX3_isPartOf 20 = .ok (.iload_n 0, 1) := by decide +kernel
theorem dX3_isPartOf_21 : decode cX3_isPartOf 21 = .ok (.iload_n 2, 1) := by decide +kernel
theorem dX3_isPartOf_22 : decode cX3_isPartOf 22 = .ok (.invokestatic 21, 3) := by decide +kernel
theorem dX3_isPartOf_25 : decode cX3_isPartOf 25 = .ok (.iload_n 1, 1) := by decide +kernel
theorem dX3_isPartOf_26 : decode cX3_isPartOf 26 = .ok (.iload_n 2, 1) := by decide +kernel
theorem dX3_isPartOf_27 : decode cX3_isPartOf 27 = .ok (.invokestatic 21, 3) := by decide +kernel
theorem dX3_isPartOf_30 : decode cX3_isPartOf 30 = .ok (.if_icmp .le 5, 3) := by decide +kernel
theorem dX3_isPartOf_33 : decode cX3_isPartOf 33 = .ok (.iconst 0, 1) := by decide +kernel
theorem dX3_isPartOf_34 : decode cX3_isPartOf 34 = .ok (.ireturn, 1) := by decide +kernel
theorem dX3_isPartOf_35 : decode cX3_isPartOf 35 = .ok (.iinc 2 1, 3) := by decide +kernel
theorem dX3_isPartOf_38 : decode cX3_isPartOf 38 = .ok (.goto (-23), 3) := by decide +kernel
theorem dX3_isPartOf_41 : decode cX3_isPartOf 41 = .ok (.iconst 1, 1) := by decide +kernel
theorem dX3_isPartOf_42 : decode cX3_isPartOf 42 = .ok (.ireturn, 1) := by decide +kernel
def rmX3_isPartOf : Room := { frames := 1, cells := 0, slots := 0, locals := 21 }
abbrev eX3_isPartOf := Ev cX3_isPartOf 3 (some .boolean) RX3 rmX3_isPartOf
set_option maxRecDepth 20000 in
theorem ev_X3_isPartOf_l15 (l0 : Int32) (l1 : Int32)  (K : St → Prop) (Q : Bool → Prop) (σ0 : St) (hK : ∀  s, K  s → s = σ0 → eX3_isPartOf 41 [un, un, un] [] s (qB fun x s => s = σ0 ∧ Q x)) : ∀ (n : Nat) (l2 : Int32) (σ : St), σ = σ0 → P_X3_isPartOf_l15 l0 l1 K Q n l2 σ → eX3_isPartOf 15 [.int (l0), .int (l1), .int (l2)] [] σ (qB fun x s => s = σ0 ∧ Q x) := by
  intro n
  induction n with
  | zero => intro l2 σ hs hP; exact hP.elim
  | succ n ih =>
    intro l2 σ hs hP
    subst hs
    rw [P_X3_isPartOf_l15] at hP
    refine E_iload_n dX3_isPartOf_15 rfl ?_
    refine E_iconst (v := 4) dX3_isPartOf_16 (by decide) ?_
    refine E_icmp_ge 41 dX3_isPartOf_17 (by decide) (fun hc => ?_) (fun hc => ?_)
    · replace hP := hP.1 hc
      refine E_mask [false, false, false] rfl ?_
      exact hK  _ hP rfl
    · replace hP := hP.2 hc
      refine E_iload_n dX3_isPartOf_20 rfl ?_
      refine E_iload_n dX3_isPartOf_21 rfl ?_
      refine E_callS (As := [.int (l0), .int (l2)]) (rest := []) dX3_isPartOf_22 cl_RX3_21 tw_47 ⟨rfl, rfl, Nat.le_of_ble_eq_true rfl, Nat.le_of_ble_eq_true rfl⟩ rfl rfl (Nat.le_of_ble_eq_true rfl) (mt_X3_leftAt _ _ _ _  hP) ?_
      intro r0 s0 hq0; obtain ⟨r22, h0, hs0, hP⟩ := hq0; subst h0; rw [hs0]
      show eX3_isPartOf 25 [.int (l0), .int (l1), .int (l2)] [.int (r22)] σ _
      refine E_iload_n dX3_isPartOf_25 rfl ?_
      refine E_iload_n dX3_isPartOf_26 rfl ?_
      refine E_callS (As := [.int (l1), .int (l2)]) (rest := [.int (r22)]) dX3_isPartOf_27 cl_RX3_21 tw_47 ⟨rfl, rfl, Nat.le_of_ble_eq_true rfl, Nat.le_of_ble_eq_true rfl⟩ rfl rfl (Nat.le_of_ble_eq_true rfl) (mt_X3_leftAt _ _ _ _  hP) ?_
      intro r0 s0 hq0; obtain ⟨r27, h0, hs0, hP⟩ := hq0; subst h0; rw [hs0]
      show eX3_isPartOf 30 [.int (l0), .int (l1), .int (l2)] [.int (r27), .int (r22)] σ _
      refine E_icmp_le 35 dX3_isPartOf_30 (by decide) (fun hc => ?_) (fun hc => ?_)
      · replace hP := hP.1 hc
        refine E_iinc (ls' := [.int (l0), .int (l1), .int (l2 + 1)]) dX3_isPartOf_35 rfl rfl (by decide) rfl ?_
        refine E_goto 15 dX3_isPartOf_38 (by decide) ?_
        exact ih (l2 + 1) _ rfl hP
      · replace hP := hP.2 hc
        refine E_iconst (v := 0) dX3_isPartOf_33 (by decide) ?_
        exact E_nret dX3_isPartOf_34 rfl (nar_b false) ⟨false, rfl, rfl, hP⟩
set_option maxRecDepth 20000 in
theorem mt_X3_isPartOf (p0 : Int32) (p1 : Int32) (σ : St) (Q : Bool → Prop)  (hP : P_X3_isPartOf p0 p1 σ Q) : Mt yX3_isPartOf cX3_isPartOf 3 (some .boolean) rmX3_isPartOf [.int (p0), .int (p1)] σ (qB fun x s => s = σ ∧ Q x) := by
  refine Mt.of (k := 1) (ls := [.int (p0), .int (p1), un]) (by decide +kernel) rfl (Nat.le_of_ble_eq_true rfl) ?_
  show eX3_isPartOf 0 [.int (p0), .int (p1), un] [] σ _
  unfold P_X3_isPartOf at hP
  refine E_iload_n dX3_isPartOf_0 rfl ?_
  refine E_if_lt 11 dX3_isPartOf_1 (by decide) (fun hc => ?_) (fun hc => ?_)
  · replace hP := hP.1 hc
    refine E_iconst (v := 0) dX3_isPartOf_11 (by decide) ?_
    exact E_nret dX3_isPartOf_12 rfl (nar_b false) ⟨false, rfl, rfl, hP⟩
  · replace hP := hP.2 hc
    refine E_iload_n dX3_isPartOf_4 rfl ?_
    refine E_sipush (v := 4096) dX3_isPartOf_5 (by decide) ?_
    refine E_icmp_lt 13 dX3_isPartOf_8 (by decide) (fun hc => ?_) (fun hc => ?_)
    · replace hP := hP.1 hc
      refine E_iconst (v := 0) dX3_isPartOf_13 (by decide) ?_
      refine E_istore_n (ls' := [.int (p0), .int (p1), .int (0)]) dX3_isPartOf_14 (by decide) rfl ?_
      obtain ⟨m15, hP⟩ := hP
      refine ev_X3_isPartOf_l15 (p0) (p1)  _ Q σ ?_ m15 _ _ rfl hP
      intro  t41 hP hs
      rw [hs]
      refine E_iconst (v := 1) dX3_isPartOf_41 (by decide) ?_
      exact E_nret dX3_isPartOf_42 rfl (nar_b true) ⟨true, rfl, rfl, hP⟩
    · replace hP := hP.2 hc
      refine E_iconst (v := 0) dX3_isPartOf_11 (by decide) ?_
      exact E_nret dX3_isPartOf_12 rfl (nar_b false) ⟨false, rfl, rfl, hP⟩
theorem dX1_lead_0 : decode cX1_lead 0 = .ok (.aload_n 0, 1) := by decide +kernel
theorem dX1_lead_1 : decode cX1_lead 1 = .ok (.getfield 11, 3) := by decide +kernel
theorem dX1_lead_4 : decode cX1_lead 4 = .ok (.iconst 0, 1) := by decide +kernel
theorem dX1_lead_5 : decode cX1_lead 5 = .ok (.aload_n 1, 1) := by decide +kernel
theorem dX1_lead_6 : decode cX1_lead 6 = .ok (.getfield 21, 3) := by decide +kernel
theorem dX1_lead_9 : decode cX1_lead 9 = .ok (.iconst 1, 1) := by decide +kernel
theorem dX1_lead_10 : decode cX1_lead 10 = .ok (.iadd, 1) := by decide +kernel
theorem dX1_lead_11 : decode cX1_lead 11 = .ok (.lconst 0, 1) := by decide +kernel
theorem dX1_lead_12 : decode cX1_lead 12 = .ok (.invokestatic 25, 3) := by decide +kernel
theorem dX1_lead_15 : decode cX1_lead 15 = .ok (.aload_n 0, 1) := by decide +kernel
theorem dX1_lead_16 : decode cX1_lead 16 = .ok (.getfield 11, 3) := by decide +kernel
theorem dX1_lead_19 : decode cX1_lead 19 = .ok (.iload_n 2, 1) := by decide +kernel
theorem dX1_lead_20 : decode cX1_lead 20 = .ok (.lconst 1, 1) := by decide +kernel
theorem dX1_lead_21 : decode cX1_lead 21 = .ok (.lastore, 1) := by decide +kernel
theorem dX1_lead_22 : decode cX1_lead 22 = .ok (.iload_n 2, 1) := by decide +kernel
theorem dX1_lead_23 : decode cX1_lead 23 = .ok (.iconst 1, 1) := by decide +kernel
theorem dX1_lead_24 : decode cX1_lead 24 = .ok (.iadd, 1) := by decide +kernel
theorem dX1_lead_25 : decode cX1_lead 25 = .ok (.istore_n 3, 1) := by decide +kernel
theorem dX1_lead_26 : decode cX1_lead 26 = .ok (.iload_n 3, 1) := by decide +kernel
theorem dX1_lead_27 : decode cX1_lead 27 = .ok (.aload_n 1, 1) := by decide +kernel
theorem dX1_lead_28 : decode cX1_lead 28 = .ok (.getfield 21, 3) := by decide +kernel
theorem dX1_lead_31 : decode cX1_lead 31 = .ok (.if_icmp .gt 36, 3) := by decide +kernel
theorem dX1_lead_34 : decode cX1_lead 34 = .ok (.iload_n 3, 1) := by decide +kernel
theorem dX1_lead_35 : decode cX1_lead 35 = .ok (.aload_n 1, 1) := by decide +kernel
theorem dX1_lead_36 : decode cX1_lead 36 = .ok (.getfield 21, 3) := by decide +kernel
theorem dX1_lead_39 : decode cX1_lead 39 = .ok (.invokestatic 57, 3) := by decide +kernel
theorem dX1_lead_42 : decode cX1_lead 42 = .ok (.ifCond .eq 19, 3) := by decide +kernel
theorem dX1_lead_45 : decode cX1_lead 45 = .ok (.aload_n 0, 1) := by decide +kernel
theorem dX1_lead_46 : decode cX1_lead 46 = .ok (.aload_n 1, 1) := by decide +kernel
theorem dX1_lead_47 : decode cX1_lead 47 = .ok (.iload_n 3, 1) := by decide +kernel
theorem dX1_lead_48 : decode cX1_lead 48 = .ok (.invokevirtual 60, 3) := by decide +kernel
theorem dX1_lead_51 : decode cX1_lead 51 = .ok (.ifCond .lt 10, 3) := by decide +kernel
theorem dX1_lead_54 : decode cX1_lead 54 = .ok (.aload_n 0, 1) := by decide +kernel
theorem dX1_lead_55 : decode cX1_lead 55 = .ok (.getfield 11, 3) := by decide +kernel
theorem dX1_lead_58 : decode cX1_lead 58 = .ok (.iload_n 3, 1) := by decide +kernel
theorem dX1_lead_59 : decode cX1_lead 59 = .ok (.lconst 1, 1) := by decide +kernel
theorem dX1_lead_60 : decode cX1_lead 60 = .ok (.lastore, 1) := by decide +kernel
theorem dX1_lead_61 : decode cX1_lead 61 = .ok (.iinc 3 1, 3) := by decide +kernel
theorem dX1_lead_64 : decode cX1_lead 64 = .ok (.goto (-38), 3) := by decide +kernel
theorem dX1_lead_67 : decode cX1_lead 67 = .ok (.return_, 1) := by decide +kernel
def rmX1_lead : Room := { frames := 4, cells := 0, slots := 0, locals := 96 }
abbrev eX1_lead := Ev cX1_lead 4 none RX1 rmX1_lead
set_option maxRecDepth 20000 in
theorem ev_X1_lead_l26 (l1 : Nat) (o_l1 : kd (l1) = 3) (K : St → Prop) (Q : St → Prop) (hK : ∀  s, K  s → eX1_lead 67 [un, un, un, un] [] s (qV Q)) : ∀ (n : Nat) (l3 : Int32) (σ : St), P_X1_lead_l26 l1 K Q n l3 σ → eX1_lead 26 [.ref (23), .ref (l1), un, .int (l3)] [] σ (qV Q) := by
  intro n
  induction n with
  | zero => intro l3 σ hP; exact hP.elim
  | succ n ih =>
    intro l3 σ hP
    rw [P_X1_lead_l26] at hP
    refine E_iload_n dX1_lead_26 rfl ?_
    refine E_aload_n dX1_lead_27 rfl ?_
    refine E_getI (j := 3) dX1_lead_28 o_l1 (by decide) rfl fd_RX1_21 ?_
    refine E_icmp_gt 67 dX1_lead_31 (by decide) (fun hc => ?_) (fun hc => ?_)
    · replace hP := hP.1 hc
      refine E_mask [false, false, false, false] rfl ?_
      exact hK  _ hP
    · replace hP := hP.2 hc
      refine E_iload_n dX1_lead_34 rfl ?_
      refine E_aload_n dX1_lead_35 rfl ?_
      refine E_getI (j := 3) dX1_lead_36 o_l1 (by decide) rfl fd_RX1_21 ?_
      refine E_callS (As := [.int (l3), .int (gI σ l1 3)]) (rest := []) dX1_lead_39 cl_RX1_57 tw_114 ⟨rfl, rfl, Nat.le_of_ble_eq_true rfl, Nat.le_of_ble_eq_true rfl⟩ rfl rfl (Nat.le_of_ble_eq_true rfl) (mt_X3_isPartOf _ _ _ _  hP) ?_
      intro r0 s0 hq0; obtain ⟨r39, h0, hs0, hP⟩ := hq0; subst h0; rw [hs0]
      show eX1_lead 42 [.ref (23), .ref (l1), un, .int (l3)] [.int (bI r39)] σ _
      refine E_ifz_eq 61 dX1_lead_42 (by decide) (fun hc => ?_) (fun hc => ?_)
      · replace hP := hP.1 hc
        refine E_iinc (ls' := [.ref (23), .ref (l1), un, .int (l3 + 1)]) dX1_lead_61 rfl rfl (by decide) rfl ?_
        refine E_goto 26 dX1_lead_64 (by decide) ?_
        exact ih (l3 + 1) _ hP
      · replace hP := hP.2 hc
        refine E_aload_n dX1_lead_45 rfl ?_
        refine E_aload_n dX1_lead_46 rfl ?_
        refine E_iload_n dX1_lead_47 rfl ?_
        refine E_callV (As := [.ref (l1), .int (l3)]) (rest := []) dX1_lead_48 cl_RX1_60 tw_110 (show kd 23 = 1 by decide) (by decide) rfl tw_111 ⟨rfl, rfl, Nat.le_of_ble_eq_true rfl, Nat.le_of_ble_eq_true rfl⟩ rfl rfl (Nat.le_of_ble_eq_true rfl) (mt_X1_leadFrom _ _ _ _ o_l1 hP) ?_
        intro r0 s0 hq0; obtain ⟨r48, h0, hs0, hP⟩ := hq0; subst h0; rw [hs0]
        show eX1_lead 51 [.ref (23), .ref (l1), un, .int (l3)] [.int (r48)] σ _
        refine E_if_lt 61 dX1_lead_51 (by decide) (fun hc => ?_) (fun hc => ?_)
        · replace hP := hP.1 hc
          refine E_iinc (ls' := [.ref (23), .ref (l1), un, .int (l3 + 1)]) dX1_lead_61 rfl rfl (by decide) rfl ?_
          refine E_goto 26 dX1_lead_64 (by decide) ?_
          exact ih (l3 + 1) _ hP
        · replace hP := hP.2 hc
          refine E_aload_n dX1_lead_54 rfl ?_
          refine E_getR (j := 0) dX1_lead_55 (show kd 23 = 1 by decide) (by decide) rfl fd_RX1_11 (by decide) ?_
          refine E_iload_n dX1_lead_58 rfl ?_
          refine E_lconst (v := 1) dX1_lead_59 (by decide) ?_
          obtain ⟨hb, hP⟩ := hP
          refine E_last dX1_lead_60 (ar_1_1 (show kd 23 = 1 by decide)).1 (ar_1_1 (show kd 23 = 1 by decide)).2 hb ?_
          refine E_iinc (ls' := [.ref (23), .ref (l1), un, .int (l3 + 1)]) dX1_lead_61 rfl rfl (by decide) rfl ?_
          refine E_goto 26 dX1_lead_64 (by decide) ?_
          exact ih (l3 + 1) _ hP
set_option maxRecDepth 20000 in
theorem mt_X1_lead (p0 : Nat) (p1 : Int32) (σ : St) (Q : St → Prop) (o_p0 : kd p0 = 3) (hP : P_X1_lead p0 p1 σ Q) : Mt yX1_lead cX1_lead 4 none rmX1_lead [.ref (23), .ref (p0), .int (p1)] σ (qV Q) := by
  refine Mt.of (k := 1) (ls := [.ref (23), .ref (p0), .int (p1), un]) (by decide +kernel) rfl (Nat.le_of_ble_eq_true rfl) ?_
  show eX1_lead 0 [.ref (23), .ref (p0), .int (p1), un] [] σ _
  unfold P_X1_lead at hP
  refine E_aload_n dX1_lead_0 rfl ?_
  refine E_getR (j := 0) dX1_lead_1 (show kd 23 = 1 by decide) (by decide) rfl fd_RX1_11 (by decide) ?_
  refine E_iconst (v := 0) dX1_lead_4 (by decide) ?_
  refine E_aload_n dX1_lead_5 rfl ?_
  refine E_getI (j := 3) dX1_lead_6 o_p0 (by decide) rfl fd_RX1_21 ?_
  refine E_iconst (v := 1) dX1_lead_9 (by decide) ?_
  refine E_iadd dX1_lead_10 ?_
  refine E_lconst (v := 0) dX1_lead_11 (by decide) ?_
  refine E_callS (As := [.ref (24), .int (0), .int ((gI σ p0 3) + 1), .long (0)]) (rest := []) dX1_lead_12 cl_RX1_25 tw_98 ⟨rfl, rfl, Nat.le_of_ble_eq_true rfl, Nat.le_of_ble_eq_true rfl⟩ rfl rfl (Nat.le_of_ble_eq_true rfl) (mt_J7_fill_bad5a _ _ _ _ _ _ (ar_1_1 (show kd 23 = 1 by decide)).1 hP) ?_
  rintro _ t12 ⟨rfl, hP⟩
  show eX1_lead 15 [.ref (23), .ref (p0), .int (p1), un] [] t12 _
  refine E_aload_n dX1_lead_15 rfl ?_
  refine E_getR (j := 0) dX1_lead_16 (show kd 23 = 1 by decide) (by decide) rfl fd_RX1_11 (by decide) ?_
  refine E_iload_n dX1_lead_19 rfl ?_
  refine E_lconst (v := 1) dX1_lead_20 (by decide) ?_
  obtain ⟨hb, hP⟩ := hP
  refine E_last dX1_lead_21 (ar_1_1 (show kd 23 = 1 by decide)).1 (ar_1_1 (show kd 23 = 1 by decide)).2 hb ?_
  refine E_iload_n dX1_lead_22 rfl ?_
  refine E_iconst (v := 1) dX1_lead_23 (by decide) ?_
  refine E_iadd dX1_lead_24 ?_
  refine E_istore_n (ls' := [.ref (23), .ref (p0), .int (p1), .int (p1 + 1)]) dX1_lead_25 (by decide) rfl ?_
  refine E_mask [true, true, false, true] rfl ?_
  obtain ⟨m26, hP⟩ := hP
  refine ev_X1_lead_l26 (p0) o_p0 _ Q ?_ m26 _ _ hP
  intro  t67 hP
  exact E_vret dX1_lead_67 rfl ⟨rfl, hP⟩
theorem dX1_leastStand_0 : decode cX1_leastStand 0 = .ok (.aload_n 1, 1) := by decide +kernel
theorem dX1_leastStand_1 : decode cX1_leastStand 1 = .ok (.getfield 21, 3) := by decide +kernel
theorem dX1_leastStand_4 : decode cX1_leastStand 4 = .ok (.istore_n 2, 1) := by decide +kernel
theorem dX1_leastStand_5 : decode cX1_leastStand 5 = .ok (.aload_n 1, 1) := by decide +kernel
theorem dX1_leastStand_6 : decode cX1_leastStand 6 = .ok (.getfield 21, 3) := by decide +kernel
theorem dX1_leastStand_9 : decode cX1_leastStand 9 = .ok (.istore_n 3, 1) := by decide +kernel
theorem dX1_leastStand_10 : decode cX1_leastStand 10 = .ok (.iload_n 3, 1) := by decide +kernel
theorem dX1_leastStand_11 : decode cX1_leastStand 11 = .ok (.ifCond .lt 33, 3) := by decide +kernel
theorem dX1_leastStand_14 : decode cX1_leastStand 14 = .ok (.aload_n 0, 1) := by decide +kernel
theorem dX1_leastStand_15 : decode cX1_leastStand 15 = .ok (.getfield 11, 3) := by decide +kernel
theorem dX1_leastStand_18 : decode cX1_leastStand 18 = .ok (.iload_n 3, 1) := by decide +kernel
theorem dX1_leastStand_19 : decode cX1_leastStand 19 = .ok (.laload, 1) := by decide +kernel
theorem dX1_leastStand_20 : decode cX1_leastStand 20 = .ok (.lconst 0, 1) := by decide +kernel
theorem dX1_leastStand_21 : decode cX1_leastStand 21 = .ok (.lcmp, 1) := by decide +kernel
theorem dX1_leastStand_22 : decode cX1_leastStand 22 = .ok (.ifCond .le 16, 3) := by decide +kernel
theorem dX1_leastStand_25 : decode cX1_leastStand 25 = .ok (.iload_n 3, 1) := by decide +kernel
theorem dX1_leastStand_26 : decode cX1_leastStand 26 = .ok (.invokestatic 67, 3) := by decide +kernel
theorem dX1_leastStand_29 : decode cX1_leastStand 29 = .ok (.iload_n 2, 1) := by decide +kernel
theorem dX1_leastStand_30 : decode cX1_leastStand 30 = .ok (.invokestatic 67, 3) := by decide +kernel
theorem dX1_leastStand_33 : decode cX1_leastStand 33 = .ok (.if_icmp .gt 5, 3) := by decide +kernel
theorem dX1_leastStand_36 : decode cX1_leastStand 36 = .ok (.iload_n 3, 1) := by decide +kernel
theorem dX1_leastStand_37 : decode cX1_leastStand 37 = .ok (.istore_n 2, 1) := by decide +kernel
theorem dX1_leastStand_38 : decode cX1_leastStand 38 = .ok (.iinc 3 (-1), 3) := by decide +kernel
theorem dX1_leastStand_41 : decode cX1_leastStand 41 = .ok (.goto (-31), 3) := by decide +kernel
theorem dX1_leastStand_44 : decode cX1_leastStand 44 = .ok (.iload_n 2, 1) := by decide +kernel
theorem dX1_leastStand_45 : decode cX1_leastStand 45 = .ok (.ireturn, 1) := by decide +kernel
def rmX1_leastStand : Room := { frames := 2, cells := 0, slots := 0, locals := 41 }
abbrev eX1_leastStand := Ev cX1_leastStand 4 (some .int) RX1 rmX1_leastStand
set_option maxRecDepth 20000 in
theorem ev_X1_leastStand_l10   (K : Int32 → St → Prop) (Q : Int32 → Prop) (σ0 : St) (hK : ∀ k2 s, K k2 s → s = σ0 → eX1_leastStand 44 [un, un, .int (k2), un] [] s (qI fun x s => s = σ0 ∧ Q x)) : ∀ (n : Nat) (l2 : Int32) (l3 : Int32) (σ : St), σ = σ0 → P_X1_leastStand_l10  K Q n l2 l3 σ → eX1_leastStand 10 [.ref (23), un, .int (l2), .int (l3)] [] σ (qI fun x s => s = σ0 ∧ Q x) := by
  intro n
  induction n with
  | zero => intro l2 l3 σ hs hP; exact hP.elim
  | succ n ih =>
    intro l2 l3 σ hs hP
    subst hs
    rw [P_X1_leastStand_l10] at hP
    refine E_iload_n dX1_leastStand_10 rfl ?_
    refine E_if_lt 44 dX1_leastStand_11 (by decide) (fun hc => ?_) (fun hc => ?_)
    · replace hP := hP.1 hc
      refine E_mask [false, false, true, false] rfl ?_
      exact hK (l2) _ hP rfl
    · replace hP := hP.2 hc
      refine E_aload_n dX1_leastStand_14 rfl ?_
      refine E_getR (j := 0) dX1_leastStand_15 (show kd 23 = 1 by decide) (by decide) rfl fd_RX1_11 (by decide) ?_
      refine E_iload_n dX1_leastStand_18 rfl ?_
      obtain ⟨hb, hP⟩ := hP
      refine E_lald dX1_leastStand_19 (ar_1_1 (show kd 23 = 1 by decide)).1 (ar_1_1 (show kd 23 = 1 by decide)).2 hb ?_
      refine E_lconst (v := 0) dX1_leastStand_20 (by decide) ?_
      refine E_lcmp dX1_leastStand_21 ?_
      refine E_if_le 38 dX1_leastStand_22 (by decide) (fun hc => ?_) (fun hc => ?_)
      · replace hP := hP.1 hc
        refine E_iinc (ls' := [.ref (23), un, .int (l2), .int (l3 + (-1))]) dX1_leastStand_38 rfl rfl (by decide) rfl ?_
        refine E_goto 10 dX1_leastStand_41 (by decide) ?_
        exact ih (l2) (l3 + (-1)) _ rfl hP
      · replace hP := hP.2 hc
        refine E_iload_n dX1_leastStand_25 rfl ?_
        refine E_callS (As := [.int (l3)]) (rest := []) dX1_leastStand_26 cl_RX1_67 tw_50 ⟨rfl, rfl, Nat.le_of_ble_eq_true rfl, Nat.le_of_ble_eq_true rfl⟩ rfl rfl (Nat.le_of_ble_eq_true rfl) (mt_X3_stonesAt _ _ _  hP) ?_
        intro r0 s0 hq0; obtain ⟨r26, h0, hs0, hP⟩ := hq0; subst h0; rw [hs0]
        show eX1_leastStand 29 [.ref (23), un, .int (l2), .int (l3)] [.int (r26)] σ _
        refine E_iload_n dX1_leastStand_29 rfl ?_
        refine E_callS (As := [.int (l2)]) (rest := [.int (r26)]) dX1_leastStand_30 cl_RX1_67 tw_50 ⟨rfl, rfl, Nat.le_of_ble_eq_true rfl, Nat.le_of_ble_eq_true rfl⟩ rfl rfl (Nat.le_of_ble_eq_true rfl) (mt_X3_stonesAt _ _ _  hP) ?_
        intro r0 s0 hq0; obtain ⟨r30, h0, hs0, hP⟩ := hq0; subst h0; rw [hs0]
        show eX1_leastStand 33 [.ref (23), un, .int (l2), .int (l3)] [.int (r30), .int (r26)] σ _
        refine E_icmp_gt 38 dX1_leastStand_33 (by decide) (fun hc => ?_) (fun hc => ?_)
        · replace hP := hP.1 hc
          refine E_iinc (ls' := [.ref (23), un, .int (l2), .int (l3 + (-1))]) dX1_leastStand_38 rfl rfl (by decide) rfl ?_
          refine E_goto 10 dX1_leastStand_41 (by decide) ?_
          exact ih (l2) (l3 + (-1)) _ rfl hP
        · replace hP := hP.2 hc
          refine E_iload_n dX1_leastStand_36 rfl ?_
          refine E_istore_n (ls' := [.ref (23), un, .int (l3), .int (l3)]) dX1_leastStand_37 (by decide) rfl ?_
          refine E_iinc (ls' := [.ref (23), un, .int (l3), .int (l3 + (-1))]) dX1_leastStand_38 rfl rfl (by decide) rfl ?_
          refine E_goto 10 dX1_leastStand_41 (by decide) ?_
          exact ih (l3) (l3 + (-1)) _ rfl hP
set_option maxRecDepth 20000 in
theorem mt_X1_leastStand (p0 : Nat) (σ : St) (Q : Int32 → Prop) (o_p0 : kd p0 = 3) (hP : P_X1_leastStand p0 σ Q) : Mt yX1_leastStand cX1_leastStand 4 (some .int) rmX1_leastStand [.ref (23), .ref (p0)] σ (qI fun x s => s = σ ∧ Q x) := by
  refine Mt.of (k := 2) (ls := [.ref (23), .ref (p0), un, un]) (by decide +kernel) rfl (Nat.le_of_ble_eq_true rfl) ?_
  show eX1_leastStand 0 [.ref (23), .ref (p0), un, un] [] σ _
  unfold P_X1_leastStand at hP
  refine E_aload_n dX1_leastStand_0 rfl ?_
  refine E_getI (j := 3) dX1_leastStand_1 o_p0 (by decide) rfl fd_RX1_21 ?_
  refine E_istore_n (ls' := [.ref (23), .ref (p0), .int (gI σ p0 3), un]) dX1_leastStand_4 (by decide) rfl ?_
  refine E_aload_n dX1_leastStand_5 rfl ?_
  refine E_getI (j := 3) dX1_leastStand_6 o_p0 (by decide) rfl fd_RX1_21 ?_
  refine E_istore_n (ls' := [.ref (23), .ref (p0), .int (gI σ p0 3), .int (gI σ p0 3)]) dX1_leastStand_9 (by decide) rfl ?_
  refine E_mask [true, false, true, true] rfl ?_
  obtain ⟨m10, hP⟩ := hP
  refine ev_X1_leastStand_l10   _ Q σ ?_ m10 _ _ _ rfl hP
  intro k2 t44 hP hs
  rw [hs]
  refine E_iload_n dX1_leastStand_44 rfl ?_
  exact E_iret dX1_leastStand_45 rfl ⟨_, rfl, rfl, hP⟩
theorem dX1_fewestPulls_0 : decode cX1_fewestPulls 0 = .ok (.iconst (-1), 1) := by decide +kernel
theorem dX1_fewestPulls_1 : decode cX1_fewestPulls 1 = .ok (.istore 4, 2) := by decide +kernel
theorem dX1_fewestPulls_3 : decode cX1_fewestPulls 3 = .ok (.iconst 0, 1) := by decide +kernel
theorem dX1_fewestPulls_4 : decode cX1_fewestPulls 4 = .ok (.istore 5, 2) := by decide +kernel
theorem dX1_fewestPulls_6 : decode cX1_fewestPulls 6 = .ok (.iload 5, 2) := by decide +kernel
theorem dX1_fewestPulls_8 : decode cX1_fewestPulls 8 = .ok (.aload_n 1, 1) := by decide +kernel
theorem dX1_fewestPulls_9 : decode cX1_fewestPulls 9 = .ok (.getfield 21, 3) := by decide +kernel
theorem dX1_fewestPulls_12 : decode cX1_fewestPulls 12 = .ok (.if_icmp .gt 58, 3) := by decide +kernel
theorem dX1_fewestPulls_15 : decode cX1_fewestPulls 15 = .ok (.aload_n 0, 1) := by decide +kernel
theorem dX1_fewestPulls_16 : decode cX1_fewestPulls 16 = .ok (.getfield 11, 3) := by decide +kernel
theorem dX1_fewestPulls_19 : decode cX1_fewestPulls 19 = .ok (.iload 5, 2) := by decide +kernel
theorem dX1_fewestPulls_21 : decode cX1_fewestPulls 21 = .ok (.laload, 1) := by decide +kernel
theorem dX1_fewestPulls_22 : decode cX1_fewestPulls 22 = .ok (.lconst 0, 1) := by decide +kernel
theorem dX1_fewestPulls_23 : decode cX1_fewestPulls 23 = .ok (.lcmp, 1) := by decide +kernel
theorem dX1_fewestPulls_24 : decode cX1_fewestPulls 24 = .ok (.ifCond .le 40, 3) := by decide +kernel
theorem dX1_fewestPulls_27 : decode cX1_fewestPulls 27 = .ok (.iload 5, 2) := by decide +kernel
theorem dX1_fewestPulls_29 : decode cX1_fewestPulls 29 = .ok (.iload_n 2, 1) := by decide +kernel
theorem dX1_fewestPulls_30 : decode cX1_fewestPulls 30 = .ok (.invokestatic 70, 3) := by decide +kernel
theorem dX1_fewestPulls_33 : decode cX1_fewestPulls 33 = .ok (.iload_n 3, 1) := by decide +kernel
theorem dX1_fewestPulls_34 : decode cX1_fewestPulls 34 = .ok (.if_icmp .ne 30, 3) := by decide +kernel
theorem dX1_fewestPulls_37 : decode cX1_fewestPulls 37 = .ok (.aload_n 1, 1) := by decide +kernel
theorem dX1_fewestPulls_38 : decode cX1_fewestPulls 38 = .ok (.iload 5, 2) := by decide +kernel
theorem dX1_fewestPulls_40 : decode cX1_fewestPulls 40 = .ok (.invokevirtual 42, 3) := by decide +kernel
theorem dX1_fewestPulls_43 : decode cX1_fewestPulls 43 = .ok (.istore 6, 2) := by decide +kernel
theorem dX1_fewestPulls_45 : decode cX1_fewestPulls 45 = .ok (.iload 4, 2) := by decide +kernel
theorem dX1_fewestPulls_47 : decode cX1_fewestPulls 47 = .ok (.ifCond .ge 8, 3) := by decide +kernel
theorem dX1_fewestPulls_50 : decode cX1_fewestPulls 50 = .ok (.iload 6, 2) := by decide +kernel
theorem dX1_fewestPulls_52 : decode cX1_fewestPulls 52 = .ok (.goto 10, 3) := by decide +kernel
theorem dX1_fewestPulls_55 : decode cX1_fewestPulls 55 = .ok (.iload 4, 2) := by decide +kernel
theorem dX1_fewestPulls_57 : decode cX1_fewestPulls 57 = .ok (.iload 6, 2) := by decide +kernel
theorem dX1_fewestPulls_59 : decode cX1_fewestPulls 59 = .ok (.invokestatic 73, 3) := by decide +kernel
theorem dX1_fewestPulls_62 : decode cX1_fewestPulls 62 = .ok (.istore 4, 2) := by decide +kernel
theorem dX1_fewestPulls_64 : decode cX1_fewestPulls 64 = .ok (.iinc 5 1, 3) := by decide +kernel
theorem dX1_fewestPulls_67 : decode cX1_fewestPulls 67 = .ok (.goto (-61), 3) := by decide +kernel
theorem dX1_fewestPulls_70 : decode cX1_fewestPulls 70 = .ok (.iload 4, 2) := by decide +kernel
theorem dX1_fewestPulls_72 : decode cX1_fewestPulls 72 = .ok (.ireturn, 1) := by decide +kernel
def rmX1_fewestPulls : Room := { frames := 3, cells := 0, slots := 0, locals := 62 }
abbrev eX1_fewestPulls := Ev cX1_fewestPulls 7 (some .int) RX1 rmX1_fewestPulls
set_option maxRecDepth 20000 in
theorem ev_X1_fewestPulls_l6 (l1 : Nat) (l2 : Int32) (l3 : Int32) (o_l1 : kd (l1) = 3) (K : Int32 → St → Prop) (Q : Int32 → Prop) (σ0 : St) (hK : ∀ k4 s, K k4 s → s = σ0 → eX1_fewestPulls 70 [un, un, un, un, .int (k4), un, un] [] s (qI fun x s => s = σ0 ∧ Q x)) : ∀ (n : Nat) (l4 : Int32) (l5 : Int32) (σ : St), σ = σ0 → P_X1_fewestPulls_l6 l1 l2 l3 K Q n l4 l5 σ → eX1_fewestPulls 6 [.ref (23), .ref (l1), .int (l2), .int (l3), .int (l4), .int (l5), un] [] σ (qI fun x s => s = σ0 ∧ Q x) := by
  intro n
  induction n with
  | zero => intro l4 l5 σ hs hP; exact hP.elim
  | succ n ih =>
    intro l4 l5 σ hs hP
    subst hs
    rw [P_X1_fewestPulls_l6] at hP
    refine E_iload dX1_fewestPulls_6 rfl ?_
    refine E_aload_n dX1_fewestPulls_8 rfl ?_
    refine E_getI (j := 3) dX1_fewestPulls_9 o_l1 (by decide) rfl fd_RX1_21 ?_
    refine E_icmp_gt 70 dX1_fewestPulls_12 (by decide) (fun hc => ?_) (fun hc => ?_)
    · replace hP := hP.1 hc
      refine E_mask [false, false, false, false, true, false, false] rfl ?_
      exact hK (l4) _ hP rfl
    · replace hP := hP.2 hc
      refine E_aload_n dX1_fewestPulls_15 rfl ?_
      refine E_getR (j := 0) dX1_fewestPulls_16 (show kd 23 = 1 by decide) (by decide) rfl fd_RX1_11 (by decide) ?_
      refine E_iload dX1_fewestPulls_19 rfl ?_
      obtain ⟨hb, hP⟩ := hP
      refine E_lald dX1_fewestPulls_21 (ar_1_1 (show kd 23 = 1 by decide)).1 (ar_1_1 (show kd 23 = 1 by decide)).2 hb ?_
      refine E_lconst (v := 0) dX1_fewestPulls_22 (by decide) ?_
      refine E_lcmp dX1_fewestPulls_23 ?_
      refine E_if_le 64 dX1_fewestPulls_24 (by decide) (fun hc => ?_) (fun hc => ?_)
      · replace hP := hP.1 hc
        refine E_iinc (ls' := [.ref (23), .ref (l1), .int (l2), .int (l3), .int (l4), .int (l5 + 1), un]) dX1_fewestPulls_64 rfl rfl (by decide) rfl ?_
        refine E_goto 6 dX1_fewestPulls_67 (by decide) ?_
        exact ih (l4) (l5 + 1) _ rfl hP
      · replace hP := hP.2 hc
        refine E_iload dX1_fewestPulls_27 rfl ?_
        refine E_iload_n dX1_fewestPulls_29 rfl ?_
        refine E_callS (As := [.int (l5), .int (l2)]) (rest := []) dX1_fewestPulls_30 cl_RX1_70 tw_47 ⟨rfl, rfl, Nat.le_of_ble_eq_true rfl, Nat.le_of_ble_eq_true rfl⟩ rfl rfl (Nat.le_of_ble_eq_true rfl) (mt_X3_leftAt _ _ _ _  hP) ?_
        intro r0 s0 hq0; obtain ⟨r30, h0, hs0, hP⟩ := hq0; subst h0; rw [hs0]
        show eX1_fewestPulls 33 [.ref (23), .ref (l1), .int (l2), .int (l3), .int (l4), .int (l5), un] [.int (r30)] σ _
        refine E_iload_n dX1_fewestPulls_33 rfl ?_
        refine E_icmp_ne 64 dX1_fewestPulls_34 (by decide) (fun hc => ?_) (fun hc => ?_)
        · replace hP := hP.1 hc
          refine E_iinc (ls' := [.ref (23), .ref (l1), .int (l2), .int (l3), .int (l4), .int (l5 + 1), un]) dX1_fewestPulls_64 rfl rfl (by decide) rfl ?_
          refine E_goto 6 dX1_fewestPulls_67 (by decide) ?_
          exact ih (l4) (l5 + 1) _ rfl hP
        · replace hP := hP.2 hc
          refine E_aload_n dX1_fewestPulls_37 rfl ?_
          refine E_iload dX1_fewestPulls_38 rfl ?_
          refine E_callV (As := [.int (l5)]) (rest := []) dX1_fewestPulls_40 cl_RX1_42 tw_85 o_l1 (by decide) rfl tw_86 ⟨rfl, rfl, Nat.le_of_ble_eq_true rfl, Nat.le_of_ble_eq_true rfl⟩ rfl rfl (Nat.le_of_ble_eq_true rfl) (mt_X3_pulledAt _ _ _ _ o_l1 hP) ?_
          intro r0 s0 hq0; obtain ⟨r40, h0, hs0, hP⟩ := hq0; subst h0; rw [hs0]
          show eX1_fewestPulls 43 [.ref (23), .ref (l1), .int (l2), .int (l3), .int (l4), .int (l5), un] [.int (r40)] σ _
          refine E_istore (ls' := [.ref (23), .ref (l1), .int (l2), .int (l3), .int (l4), .int (l5), .int (r40)]) dX1_fewestPulls_43 (by decide) rfl ?_
          refine E_iload dX1_fewestPulls_45 rfl ?_
          refine E_if_ge 55 dX1_fewestPulls_47 (by decide) (fun hc => ?_) (fun hc => ?_)
          · replace hP := hP.1 hc
            refine E_iload dX1_fewestPulls_55 rfl ?_
            refine E_iload dX1_fewestPulls_57 rfl ?_
            refine E_min dX1_fewestPulls_59 tw_116 tw_19 tw_20 tw_21 ⟨Nat.le_of_ble_eq_true rfl, Nat.le_of_ble_eq_true rfl⟩ ?_
            refine E_istore (ls' := [.ref (23), .ref (l1), .int (l2), .int (l3), .int (mnI l4 r40), .int (l5), .int (r40)]) dX1_fewestPulls_62 (by decide) rfl ?_
            refine E_iinc (ls' := [.ref (23), .ref (l1), .int (l2), .int (l3), .int (mnI l4 r40), .int (l5 + 1), .int (r40)]) dX1_fewestPulls_64 rfl rfl (by decide) rfl ?_
            refine E_goto 6 dX1_fewestPulls_67 (by decide) ?_
            refine E_mask [true, true, true, true, true, true, false] rfl ?_
            exact ih (mnI l4 r40) (l5 + 1) _ rfl hP
          · replace hP := hP.2 hc
            refine E_iload dX1_fewestPulls_50 rfl ?_
            refine E_goto 62 dX1_fewestPulls_52 (by decide) ?_
            refine E_istore (ls' := [.ref (23), .ref (l1), .int (l2), .int (l3), .int (r40), .int (l5), .int (r40)]) dX1_fewestPulls_62 (by decide) rfl ?_
            refine E_iinc (ls' := [.ref (23), .ref (l1), .int (l2), .int (l3), .int (r40), .int (l5 + 1), .int (r40)]) dX1_fewestPulls_64 rfl rfl (by decide) rfl ?_
            refine E_goto 6 dX1_fewestPulls_67 (by decide) ?_
            refine E_mask [true, true, true, true, true, true, false] rfl ?_
            exact ih (r40) (l5 + 1) _ rfl hP
set_option maxRecDepth 20000 in
theorem mt_X1_fewestPulls (p0 : Nat) (p1 : Int32) (p2 : Int32) (σ : St) (Q : Int32 → Prop) (o_p0 : kd p0 = 3) (hP : P_X1_fewestPulls p0 p1 p2 σ Q) : Mt yX1_fewestPulls cX1_fewestPulls 7 (some .int) rmX1_fewestPulls [.ref (23), .ref (p0), .int (p1), .int (p2)] σ (qI fun x s => s = σ ∧ Q x) := by
  refine Mt.of (k := 3) (ls := [.ref (23), .ref (p0), .int (p1), .int (p2), un, un, un]) (by decide +kernel) rfl (Nat.le_of_ble_eq_true rfl) ?_
  show eX1_fewestPulls 0 [.ref (23), .ref (p0), .int (p1), .int (p2), un, un, un] [] σ _
  unfold P_X1_fewestPulls at hP
  refine E_iconst (v := (-1)) dX1_fewestPulls_0 (by decide) ?_
  refine E_istore (ls' := [.ref (23), .ref (p0), .int (p1), .int (p2), .int ((-1)), un, un]) dX1_fewestPulls_1 (by decide) rfl ?_
  refine E_iconst (v := 0) dX1_fewestPulls_3 (by decide) ?_
  refine E_istore (ls' := [.ref (23), .ref (p0), .int (p1), .int (p2), .int ((-1)), .int (0), un]) dX1_fewestPulls_4 (by decide) rfl ?_
  obtain ⟨m6, hP⟩ := hP
  refine ev_X1_fewestPulls_l6 (p0) (p1) (p2) o_p0 _ Q σ ?_ m6 _ _ _ rfl hP
  intro k4 t70 hP hs
  rw [hs]
  refine E_iload dX1_fewestPulls_70 rfl ?_
  exact E_iret dX1_fewestPulls_72 rfl ⟨_, rfl, rfl, hP⟩
theorem dX1_fewestLeft_0 : decode cX1_fewestLeft 0 = .ok (.bipush 7, 2) := by decide +kernel
theorem dX1_fewestLeft_2 : decode cX1_fewestLeft 2 = .ok (.istore_n 3, 1) := by decide +kernel
theorem dX1_fewestLeft_3 : decode cX1_fewestLeft 3 = .ok (.iconst 0, 1) := by decide +kernel
theorem dX1_fewestLeft_4 : decode cX1_fewestLeft 4 = .ok (.istore 4, 2) := by decide +kernel
theorem dX1_fewestLeft_6 : decode cX1_fewestLeft 6 = .ok (.iload 4, 2) := by decide +kernel
theorem dX1_fewestLeft_8 : decode cX1_fewestLeft 8 = .ok (.aload_n 1, 1) := by decide +kernel
theorem dX1_fewestLeft_9 : decode cX1_fewestLeft 9 = .ok (.getfield 21, 3) := by decide +kernel
theorem dX1_fewestLeft_12 : decode cX1_fewestLeft 12 = .ok (.if_icmp .gt 32, 3) := by decide +kernel
theorem dX1_fewestLeft_15 : decode cX1_fewestLeft 15 = .ok (.aload_n 0, 1) := by decide +kernel
theorem dX1_fewestLeft_16 : decode cX1_fewestLeft 16 = .ok (.getfield 11, 3) := by decide +kernel
theorem dX1_fewestLeft_19 : decode cX1_fewestLeft 19 = .ok (.iload 4, 2) := by decide +kernel
theorem dX1_fewestLeft_21 : decode cX1_fewestLeft 21 = .ok (.laload, 1) := by decide +kernel
theorem dX1_fewestLeft_22 : decode cX1_fewestLeft 22 = .ok (.lconst 0, 1) := by decide +kernel
theorem dX1_fewestLeft_23 : decode cX1_fewestLeft 23 = .ok (.lcmp, 1) := by decide +kernel
theorem dX1_fewestLeft_24 : decode cX1_fewestLeft 24 = .ok (.ifCond .le 14, 3) := by decide +kernel
theorem dX1_fewestLeft_27 : decode cX1_fewestLeft 27 = .ok (.iload_n 3, 1) := by decide +kernel
theorem dX1_fewestLeft_28 : decode cX1_fewestLeft 28 = .ok (.iload 4, 2) := by decide +kernel
theorem dX1_fewestLeft_30 : decode cX1_fewestLeft 30 = .ok (.iload_n 2, 1) := by decide +kernel
theorem dX1_fewestLeft_31 : decode cX1_fewestLeft 31 = .ok (.invokestatic 70, 3) := by decide +kernel
theorem dX1_fewestLeft_34 : decode cX1_fewestLeft 34 = .ok (.invokestatic 73, 3) := by decide +kernel
theorem dX1_fewestLeft_37 : decode cX1_fewestLeft 37 = .ok (.istore_n 3, 1) := by decide +kernel
theorem dX1_fewestLeft_38 : decode cX1_fewestLeft 38 = .ok (.iinc 4 1, 3) := by decide +kernel
theorem dX1_fewestLeft_41 : decode cX1_fewestLeft 41 = .ok (.goto (-35), 3) := by decide +kernel
theorem dX1_fewestLeft_44 : decode cX1_fewestLeft 44 = .ok (.iload_n 3, 1) := by decide +kernel
theorem dX1_fewestLeft_45 : decode cX1_fewestLeft 45 = .ok (.ireturn, 1) := by decide +kernel
def rmX1_fewestLeft : Room := { frames := 1, cells := 0, slots := 0, locals := 26 }
abbrev eX1_fewestLeft := Ev cX1_fewestLeft 5 (some .int) RX1 rmX1_fewestLeft
set_option maxRecDepth 20000 in
theorem ev_X1_fewestLeft_l6 (l1 : Nat) (l2 : Int32) (o_l1 : kd (l1) = 3) (K : Int32 → St → Prop) (Q : Int32 → Prop) (σ0 : St) (hK : ∀ k3 s, K k3 s → s = σ0 → eX1_fewestLeft 44 [un, un, un, .int (k3), un] [] s (qI fun x s => s = σ0 ∧ Q x)) : ∀ (n : Nat) (l3 : Int32) (l4 : Int32) (σ : St), σ = σ0 → P_X1_fewestLeft_l6 l1 l2 K Q n l3 l4 σ → eX1_fewestLeft 6 [.ref (23), .ref (l1), .int (l2), .int (l3), .int (l4)] [] σ (qI fun x s => s = σ0 ∧ Q x) := by
  intro n
  induction n with
  | zero => intro l3 l4 σ hs hP; exact hP.elim
  | succ n ih =>
    intro l3 l4 σ hs hP
    subst hs
    rw [P_X1_fewestLeft_l6] at hP
    refine E_iload dX1_fewestLeft_6 rfl ?_
    refine E_aload_n dX1_fewestLeft_8 rfl ?_
    refine E_getI (j := 3) dX1_fewestLeft_9 o_l1 (by decide) rfl fd_RX1_21 ?_
    refine E_icmp_gt 44 dX1_fewestLeft_12 (by decide) (fun hc => ?_) (fun hc => ?_)
    · replace hP := hP.1 hc
      refine E_mask [false, false, false, true, false] rfl ?_
      exact hK (l3) _ hP rfl
    · replace hP := hP.2 hc
      refine E_aload_n dX1_fewestLeft_15 rfl ?_
      refine E_getR (j := 0) dX1_fewestLeft_16 (show kd 23 = 1 by decide) (by decide) rfl fd_RX1_11 (by decide) ?_
      refine E_iload dX1_fewestLeft_19 rfl ?_
      obtain ⟨hb, hP⟩ := hP
      refine E_lald dX1_fewestLeft_21 (ar_1_1 (show kd 23 = 1 by decide)).1 (ar_1_1 (show kd 23 = 1 by decide)).2 hb ?_
      refine E_lconst (v := 0) dX1_fewestLeft_22 (by decide) ?_
      refine E_lcmp dX1_fewestLeft_23 ?_
      refine E_if_le 38 dX1_fewestLeft_24 (by decide) (fun hc => ?_) (fun hc => ?_)
      · replace hP := hP.1 hc
        refine E_iinc (ls' := [.ref (23), .ref (l1), .int (l2), .int (l3), .int (l4 + 1)]) dX1_fewestLeft_38 rfl rfl (by decide) rfl ?_
        refine E_goto 6 dX1_fewestLeft_41 (by decide) ?_
        exact ih (l3) (l4 + 1) _ rfl hP
      · replace hP := hP.2 hc
        refine E_iload_n dX1_fewestLeft_27 rfl ?_
        refine E_iload dX1_fewestLeft_28 rfl ?_
        refine E_iload_n dX1_fewestLeft_30 rfl ?_
        refine E_callS (As := [.int (l4), .int (l2)]) (rest := [.int (l3)]) dX1_fewestLeft_31 cl_RX1_70 tw_47 ⟨rfl, rfl, Nat.le_of_ble_eq_true rfl, Nat.le_of_ble_eq_true rfl⟩ rfl rfl (Nat.le_of_ble_eq_true rfl) (mt_X3_leftAt _ _ _ _  hP) ?_
        intro r0 s0 hq0; obtain ⟨r31, h0, hs0, hP⟩ := hq0; subst h0; rw [hs0]
        show eX1_fewestLeft 34 [.ref (23), .ref (l1), .int (l2), .int (l3), .int (l4)] [.int (r31), .int (l3)] σ _
        refine E_min dX1_fewestLeft_34 tw_116 tw_19 tw_20 tw_21 ⟨Nat.le_of_ble_eq_true rfl, Nat.le_of_ble_eq_true rfl⟩ ?_
        refine E_istore_n (ls' := [.ref (23), .ref (l1), .int (l2), .int (mnI l3 r31), .int (l4)]) dX1_fewestLeft_37 (by decide) rfl ?_
        refine E_iinc (ls' := [.ref (23), .ref (l1), .int (l2), .int (mnI l3 r31), .int (l4 + 1)]) dX1_fewestLeft_38 rfl rfl (by decide) rfl ?_
        refine E_goto 6 dX1_fewestLeft_41 (by decide) ?_
        exact ih (mnI l3 r31) (l4 + 1) _ rfl hP
set_option maxRecDepth 20000 in
theorem mt_X1_fewestLeft (p0 : Nat) (p1 : Int32) (σ : St) (Q : Int32 → Prop) (o_p0 : kd p0 = 3) (hP : P_X1_fewestLeft p0 p1 σ Q) : Mt yX1_fewestLeft cX1_fewestLeft 5 (some .int) rmX1_fewestLeft [.ref (23), .ref (p0), .int (p1)] σ (qI fun x s => s = σ ∧ Q x) := by
  refine Mt.of (k := 2) (ls := [.ref (23), .ref (p0), .int (p1), un, un]) (by decide +kernel) rfl (Nat.le_of_ble_eq_true rfl) ?_
  show eX1_fewestLeft 0 [.ref (23), .ref (p0), .int (p1), un, un] [] σ _
  unfold P_X1_fewestLeft at hP
  refine E_bipush (v := 7) dX1_fewestLeft_0 (by decide) ?_
  refine E_istore_n (ls' := [.ref (23), .ref (p0), .int (p1), .int (7), un]) dX1_fewestLeft_2 (by decide) rfl ?_
  refine E_iconst (v := 0) dX1_fewestLeft_3 (by decide) ?_
  refine E_istore (ls' := [.ref (23), .ref (p0), .int (p1), .int (7), .int (0)]) dX1_fewestLeft_4 (by decide) rfl ?_
  obtain ⟨m6, hP⟩ := hP
  refine ev_X1_fewestLeft_l6 (p0) (p1) o_p0 _ Q σ ?_ m6 _ _ _ rfl hP
  intro k3 t44 hP hs
  rw [hs]
  refine E_iload_n dX1_fewestLeft_44 rfl ?_
  exact E_iret dX1_fewestLeft_45 rfl ⟨_, rfl, rfl, hP⟩
theorem dJ7_fill_53178_0 : decode cJ7_fill_53178 0 = .ok (.iconst 0, 1) := by decide +kernel
theorem dJ7_fill_53178_1 : decode cJ7_fill_53178 1 = .ok (.istore_n 2, 1) := by decide +kernel
theorem dJ7_fill_53178_2 : decode cJ7_fill_53178 2 = .ok (.aload_n 0, 1) := by decide +kernel
theorem dJ7_fill_53178_3 : decode cJ7_fill_53178 3 = .ok (.arraylength, 1) := by decide +kernel
theorem dJ7_fill_53178_4 : decode cJ7_fill_53178 4 = .ok (.istore_n 3, 1) := by decide +kernel
theorem dJ7_fill_53178_5 : decode cJ7_fill_53178 5 = .ok (.iload_n 2, 1) := by decide +kernel
theorem dJ7_fill_53178_6 : decode cJ7_fill_53178 6 = .ok (.iload_n 3, 1) := by decide +kernel
theorem dJ7_fill_53178_7 : decode cJ7_fill_53178 7 = .ok (.if_icmp .ge 13, 3) := by decide +kernel
theorem dJ7_fill_53178_10 : decode cJ7_fill_53178 10 = .ok (.aload_n 0, 1) := by decide +kernel
theorem dJ7_fill_53178_11 : decode cJ7_fill_53178 11 = .ok (.iload_n 2, 1) := by decide +kernel
theorem dJ7_fill_53178_12 : decode cJ7_fill_53178 12 = .ok (.iload_n 1, 1) := by decide +kernel
theorem dJ7_fill_53178_13 : decode cJ7_fill_53178 13 = .ok (.iastore, 1) := by decide +kernel
theorem dJ7_fill_53178_14 : decode cJ7_fill_53178 14 = .ok (.iinc 2 1, 3) := by decide +kernel
theorem dJ7_fill_53178_17 : decode cJ7_fill_53178 17 = .ok (.goto (-12), 3) := by decide +kernel
theorem dJ7_fill_53178_20 : decode cJ7_fill_53178 20 = .ok (.return_, 1) := by decide +kernel
def rmJ7_fill_53178 : Room := { frames := 0, cells := 0, slots := 0, locals := 0 }
abbrev eJ7_fill_53178 := Ev cJ7_fill_53178 4 none RJ7 rmJ7_fill_53178
set_option maxRecDepth 20000 in
theorem ev_J7_fill_53178_l5 (l0 : Nat) (l1 : Int32) (l3 : Int32) (o_l0 : kd (l0) = 8) (K : St → Prop) (Q : St → Prop) (hK : ∀  s, K  s → eJ7_fill_53178 20 [un, un, un, un] [] s (qV Q)) : ∀ (n : Nat) (l2 : Int32) (σ : St), P_J7_fill_53178_l5 l0 l1 l3 K Q n l2 σ → eJ7_fill_53178 5 [.ref (l0), .int (l1), .int (l2), .int (l3)] [] σ (qV Q) := by
  intro n
  induction n with
  | zero => intro l2 σ hP; exact hP.elim
  | succ n ih =>
    intro l2 σ hP
    rw [P_J7_fill_53178_l5] at hP
    refine E_iload_n dJ7_fill_53178_5 rfl ?_
    refine E_iload_n dJ7_fill_53178_6 rfl ?_
    refine E_icmp_ge 20 dJ7_fill_53178_7 (by decide) (fun hc => ?_) (fun hc => ?_)
    · replace hP := hP.1 hc
      refine E_mask [false, false, false, false] rfl ?_
      exact hK  _ hP
    · replace hP := hP.2 hc
      refine E_aload_n dJ7_fill_53178_10 rfl ?_
      refine E_iload_n dJ7_fill_53178_11 rfl ?_
      refine E_iload_n dJ7_fill_53178_12 rfl ?_
      obtain ⟨hb, hP⟩ := hP
      refine E_iast dJ7_fill_53178_13 o_l0 rfl hb ?_
      refine E_iinc (ls' := [.ref (l0), .int (l1), .int (l2 + 1), .int (l3)]) dJ7_fill_53178_14 rfl rfl (by decide) rfl ?_
      refine E_goto 5 dJ7_fill_53178_17 (by decide) ?_
      exact ih (l2 + 1) _ hP
set_option maxRecDepth 20000 in
theorem mt_J7_fill_53178 (p0 : Nat) (p1 : Int32) (σ : St) (Q : St → Prop) (o_p0 : kd p0 = 8) (hP : P_J7_fill_53178 p0 p1 σ Q) : Mt yJ7_fill_53178 cJ7_fill_53178 4 none rmJ7_fill_53178 [.ref (p0), .int (p1)] σ (qV Q) := by
  refine Mt.of (k := 2) (ls := [.ref (p0), .int (p1), un, un]) (by decide +kernel) rfl (Nat.le_of_ble_eq_true rfl) ?_
  show eJ7_fill_53178 0 [.ref (p0), .int (p1), un, un] [] σ _
  unfold P_J7_fill_53178 at hP
  refine E_iconst (v := 0) dJ7_fill_53178_0 (by decide) ?_
  refine E_istore_n (ls' := [.ref (p0), .int (p1), .int (0), un]) dJ7_fill_53178_1 (by decide) rfl ?_
  refine E_aload_n dJ7_fill_53178_2 rfl ?_
  refine E_alenI (v := Int32.ofNat (ln p0)) dJ7_fill_53178_3 o_p0 rfl rfl ?_
  refine E_istore_n (ls' := [.ref (p0), .int (p1), .int (0), .int (Int32.ofNat (ln p0))]) dJ7_fill_53178_4 (by decide) rfl ?_
  obtain ⟨m5, hP⟩ := hP
  refine ev_J7_fill_53178_l5 (p0) (p1) (Int32.ofNat (ln p0)) o_p0 _ Q ?_ m5 _ _ hP
  intro  t20 hP
  exact E_vret dJ7_fill_53178_20 rfl ⟨rfl, hP⟩
