theorem dX7_frees_0 : decode cX7_frees 0 = .ok (.aload_n 0, 1) := by decide +kernel
theorem dX7_frees_1 : decode cX7_frees 1 = .ok (.invokevirtual 164, 3) := by decide +kernel
theorem dX7_frees_4 : decode cX7_frees 4 = .ok (.istore_n 1, 1) := by decide +kernel
theorem dX7_frees_5 : decode cX7_frees 5 = .ok (.iconst (-1), 1) := by decide +kernel
theorem dX7_frees_6 : decode cX7_frees 6 = .ok (.istore_n 2, 1) := by decide +kernel
theorem dX7_frees_7 : decode cX7_frees 7 = .ok (.aload_n 0, 1) := by decide +kernel
theorem dX7_frees_8 : decode cX7_frees 8 = .ok (.getfield 7, 3) := by decide +kernel
theorem dX7_frees_11 : decode cX7_frees 11 = .ok (.bipush 92, 2) := by decide +kernel
theorem dX7_frees_13 : decode cX7_frees 13 = .ok (.iaload, 1) := by decide +kernel
theorem dX7_frees_14 : decode cX7_frees 14 = .ok (.istore_n 3, 1) := by decide +kernel
theorem dX7_frees_15 : decode cX7_frees 15 = .ok (.iconst 0, 1) := by decide +kernel
theorem dX7_frees_16 : decode cX7_frees 16 = .ok (.istore 4, 2) := by decide +kernel
theorem dX7_frees_18 : decode cX7_frees 18 = .ok (.iload 4, 2) := by decide +kernel
theorem dX7_frees_20 : decode cX7_frees 20 = .ok (.iconst 3, 1) := by decide +kernel
theorem dX7_frees_21 : decode cX7_frees 21 = .ok (.if_icmp .ge 56, 3) := by decide +kernel
theorem dX7_frees_24 : decode cX7_frees 24 = .ok (.aload_n 0, 1) := by decide +kernel
theorem dX7_frees_25 : decode cX7_frees 25 = .ok (.getfield 7, 3) := by decide +kernel
theorem dX7_frees_28 : decode cX7_frees 28 = .ok (.bipush 92, 2) := by decide +kernel
theorem dX7_frees_30 : decode cX7_frees 30 = .ok (.iload_n 3, 1) := by decide +kernel
theorem dX7_frees_31 : decode cX7_frees 31 = .ok (.iconst 1, 1) := by decide +kernel
theorem dX7_frees_32 : decode cX7_frees 32 = .ok (.iload 4, 2) := by decide +kernel
theorem dX7_frees_34 : decode cX7_frees 34 = .ok (.ishl, 1) := by decide +kernel
theorem dX7_frees_35 : decode cX7_frees 35 = .ok (.iconst (-1), 1) := by decide +kernel
theorem dX7_frees_36 : decode cX7_frees 36 = .ok (.ixor, 1) := by decide +kernel
theorem dX7_frees_37 : decode cX7_frees 37 = .ok (.iand, 1) := by decide +kernel
theorem dX7_frees_38 : decode cX7_frees 38 = .ok (.iastore, 1) := by decide +kernel
theorem dX7_frees_39 : decode cX7_frees 39 = .ok (.aload_n 0, 1) := by decide +kernel
theorem dX7_frees_40 : decode cX7_frees 40 = .ok (.invokevirtual 161, 3) := by decide +kernel
theorem dX7_frees_43 : decode cX7_frees 43 = .ok (.istore 5, 2) := by decide +kernel
theorem dX7_frees_45 : decode cX7_frees 45 = .ok (.iload 5, 2) := by decide +kernel
theorem dX7_frees_47 : decode cX7_frees 47 = .ok (.iload_n 1, 1) := by decide +kernel
theorem dX7_frees_48 : decode cX7_frees 48 = .ok (.if_icmp .le 8, 3) := by decide +kernel
theorem dX7_frees_51 : decode cX7_frees 51 = .ok (.iload 4, 2) := by decide +kernel
theorem dX7_frees_53 : decode cX7_frees 53 = .ok (.goto 4, 3) := by decide +kernel
theorem dX7_frees_56 : decode cX7_frees 56 = .ok (.iload_n 2, 1) := by decide +kernel
theorem dX7_frees_57 : decode cX7_frees 57 = .ok (.istore_n 2, 1) := by decide +kernel
theorem dX7_frees_58 : decode cX7_frees 58 = .ok (.iload 5, 2) := by decide +kernel
theorem dX7_frees_60 : decode cX7_frees 60 = .ok (.iload_n 1, 1) := by decide +kernel
theorem dX7_frees_61 : decode cX7_frees 61 = .ok (.if_icmp .le 8, 3) := by decide +kernel
theorem dX7_frees_64 : decode cX7_frees 64 = .ok (.iload 5, 2) := by decide +kernel
theorem dX7_frees_66 : decode cX7_frees 66 = .ok (.goto 4, 3) := by decide +kernel
theorem dX7_frees_69 : decode cX7_frees 69 = .ok (.iload_n 1, 1) := by decide +kernel
theorem dX7_frees_70 : decode cX7_frees 70 = .ok (.istore_n 1, 1) := by decide +kernel
theorem dX7_frees_71 : decode cX7_frees 71 = .ok (.iinc 4 1, 3) := by decide +kernel
theorem dX7_frees_74 : decode cX7_frees 74 = .ok (.goto (-56), 3) := by decide +kernel
theorem dX7_frees_77 : decode cX7_frees 77 = .ok (.aload_n 0, 1) := by decide +kernel
theorem dX7_frees_78 : decode cX7_frees 78 = .ok (.getfield 7, 3) := by decide +kernel
theorem dX7_frees_81 : decode cX7_frees 81 = .ok (.bipush 92, 2) := by decide +kernel
theorem dX7_frees_83 : decode cX7_frees 83 = .ok (.iload_n 3, 1) := by decide +kernel
theorem dX7_frees_84 : decode cX7_frees 84 = .ok (.iastore, 1) := by decide +kernel
theorem dX7_frees_85 : decode cX7_frees 85 = .ok (.iload_n 2, 1) := by decide +kernel
theorem dX7_frees_86 : decode cX7_frees 86 = .ok (.ifCond .ge 12, 3) := by decide +kernel
theorem dX7_frees_89 : decode cX7_frees 89 = .ok (.aload_n 0, 1) := by decide +kernel
theorem dX7_frees_90 : decode cX7_frees 90 = .ok (.ldc 170, 2) := by decide +kernel
theorem dX7_frees_92 : decode cX7_frees 92 = .ok (.invokevirtual 105, 3) := by decide +kernel
theorem dX7_frees_95 : decode cX7_frees 95 = .ok (.goto 4, 3) := by decide +kernel
theorem dX7_frees_98 : decode cX7_frees 98 = .ok (.iload_n 2, 1) := by decide +kernel
theorem dX7_frees_99 : decode cX7_frees 99 = .ok (.ireturn, 1) := by decide +kernel
def rmX7_frees : Room := { frames := 7, cells := 0, slots := 0, locals := 158 }
abbrev eX7_frees := Ev cX7_frees 6 (some .int) RX7 rmX7_frees
set_option maxRecDepth 20000 in
theorem ev_X7_frees_l18 (l3 : Int32)  (K : Int32 → St → Prop) (Q : Int32 → St → Prop) (hK : ∀ k2 s, K k2 s → eX7_frees 77 [.ref (49), un, .int (k2), .int (l3), un, un] [] s (qI Q)) : ∀ (n : Nat) (l1 : Int32) (l2 : Int32) (l4 : Int32) (σ : St), P_X7_frees_l18 l3 K Q n l1 l2 l4 σ → eX7_frees 18 [.ref (49), .int (l1), .int (l2), .int (l3), .int (l4), un] [] σ (qI Q) := by
  intro n
  induction n with
  | zero => intro l1 l2 l4 σ hP; exact hP.elim
  | succ n ih =>
    intro l1 l2 l4 σ hP
    rw [P_X7_frees_l18] at hP
    refine E_iload dX7_frees_18 rfl ?_
    refine E_iconst (v := 3) dX7_frees_20 (by decide) ?_
    refine E_icmp_ge 77 dX7_frees_21 (by decide) (fun hc => ?_) (fun hc => ?_)
    · replace hP := hP.1 hc
      refine E_mask [true, false, true, true, false, false] rfl ?_
      exact hK (l2) _ hP
    · replace hP := hP.2 hc
      refine E_aload_n dX7_frees_24 rfl ?_
      refine E_getR (j := 0) dX7_frees_25 (show kd 49 = 7 by decide) (by decide) rfl fd_RX7_7 (by decide) ?_
      refine E_bipush (v := 92) dX7_frees_28 (by decide) ?_
      refine E_iload_n dX7_frees_30 rfl ?_
      refine E_iconst (v := 1) dX7_frees_31 (by decide) ?_
      refine E_iload dX7_frees_32 rfl ?_
      refine E_ishl dX7_frees_34 ?_
      refine E_iconst (v := (-1)) dX7_frees_35 (by decide) ?_
      refine E_ixor dX7_frees_36 ?_
      refine E_iand dX7_frees_37 ?_
      refine E_iast dX7_frees_38 (ar_7_1 (show kd 49 = 7 by decide)).1 (ar_7_1 (show kd 49 = 7 by decide)).2 (vp_c (by decide)) ?_
      refine E_aload_n dX7_frees_39 rfl ?_
      refine E_callV (As := []) (rest := []) dX7_frees_40 cl_RX7_161 tw_578 (show kd 49 = 7 by decide) (by decide) rfl tw_579 ⟨rfl, rfl, Nat.le_of_ble_eq_true rfl, Nat.le_of_ble_eq_true rfl⟩ rfl rfl (Nat.le_of_ble_eq_true rfl) (mt_X7_howManyNow  _ _  hP) ?_
      rintro _ t40 ⟨r40, rfl, hP⟩
      show eX7_frees 43 [.ref (49), .int (l1), .int (l2), .int (l3), .int (l4), un] [.int (r40)] t40 _
      refine E_istore (ls' := [.ref (49), .int (l1), .int (l2), .int (l3), .int (l4), .int (r40)]) dX7_frees_43 (by decide) rfl ?_
      refine E_iload dX7_frees_45 rfl ?_
      refine E_iload_n dX7_frees_47 rfl ?_
      refine E_icmp_le 56 dX7_frees_48 (by decide) (fun hc => ?_) (fun hc => ?_)
      · replace hP := hP.1 hc
        refine E_iload_n dX7_frees_56 rfl ?_
        refine E_istore_n (ls' := [.ref (49), .int (l1), .int (l2), .int (l3), .int (l4), .int (r40)]) dX7_frees_57 (by decide) rfl ?_
        refine E_iload dX7_frees_58 rfl ?_
        refine E_iload_n dX7_frees_60 rfl ?_
        refine E_icmp_le 69 dX7_frees_61 (by decide) (fun hc => ?_) (fun hc => ?_)
        · replace hP := hP.1 hc
          refine E_iload_n dX7_frees_69 rfl ?_
          refine E_istore_n (ls' := [.ref (49), .int (l1), .int (l2), .int (l3), .int (l4), .int (r40)]) dX7_frees_70 (by decide) rfl ?_
          refine E_iinc (ls' := [.ref (49), .int (l1), .int (l2), .int (l3), .int (l4 + 1), .int (r40)]) dX7_frees_71 rfl rfl (by decide) rfl ?_
          refine E_goto 18 dX7_frees_74 (by decide) ?_
          refine E_mask [true, true, true, true, true, false] rfl ?_
          exact ih (l1) (l2) (l4 + 1) _ hP
        · replace hP := hP.2 hc
          refine E_iload dX7_frees_64 rfl ?_
          refine E_goto 70 dX7_frees_66 (by decide) ?_
          refine E_istore_n (ls' := [.ref (49), .int (r40), .int (l2), .int (l3), .int (l4), .int (r40)]) dX7_frees_70 (by decide) rfl ?_
          refine E_iinc (ls' := [.ref (49), .int (r40), .int (l2), .int (l3), .int (l4 + 1), .int (r40)]) dX7_frees_71 rfl rfl (by decide) rfl ?_
          refine E_goto 18 dX7_frees_74 (by decide) ?_
          refine E_mask [true, true, true, true, true, false] rfl ?_
          exact ih (r40) (l2) (l4 + 1) _ hP
      · replace hP := hP.2 hc
        refine E_iload dX7_frees_51 rfl ?_
        refine E_goto 57 dX7_frees_53 (by decide) ?_
        refine E_istore_n (ls' := [.ref (49), .int (l1), .int (l4), .int (l3), .int (l4), .int (r40)]) dX7_frees_57 (by decide) rfl ?_
        refine E_iload dX7_frees_58 rfl ?_
        refine E_iload_n dX7_frees_60 rfl ?_
        refine E_icmp_le 69 dX7_frees_61 (by decide) (fun hc => ?_) (fun hc => ?_)
        · replace hP := hP.1 hc
          refine E_iload_n dX7_frees_69 rfl ?_
          refine E_istore_n (ls' := [.ref (49), .int (l1), .int (l4), .int (l3), .int (l4), .int (r40)]) dX7_frees_70 (by decide) rfl ?_
          refine E_iinc (ls' := [.ref (49), .int (l1), .int (l4), .int (l3), .int (l4 + 1), .int (r40)]) dX7_frees_71 rfl rfl (by decide) rfl ?_
          refine E_goto 18 dX7_frees_74 (by decide) ?_
          refine E_mask [true, true, true, true, true, false] rfl ?_
          exact ih (l1) (l4) (l4 + 1) _ hP
        · replace hP := hP.2 hc
          refine E_iload dX7_frees_64 rfl ?_
          refine E_goto 70 dX7_frees_66 (by decide) ?_
          refine E_istore_n (ls' := [.ref (49), .int (r40), .int (l4), .int (l3), .int (l4), .int (r40)]) dX7_frees_70 (by decide) rfl ?_
          refine E_iinc (ls' := [.ref (49), .int (r40), .int (l4), .int (l3), .int (l4 + 1), .int (r40)]) dX7_frees_71 rfl rfl (by decide) rfl ?_
          refine E_goto 18 dX7_frees_74 (by decide) ?_
          refine E_mask [true, true, true, true, true, false] rfl ?_
          exact ih (r40) (l4) (l4 + 1) _ hP
set_option maxRecDepth 20000 in
theorem mt_X7_frees  (σ : St) (Q : Int32 → St → Prop)  (hP : P_X7_frees  σ Q) : Mt yX7_frees cX7_frees 6 (some .int) rmX7_frees [.ref (49)] σ (qI Q) := by
  refine Mt.of (k := 5) (ls := [.ref (49), un, un, un, un, un]) (by decide +kernel) rfl (Nat.le_of_ble_eq_true rfl) ?_
  show eX7_frees 0 [.ref (49), un, un, un, un, un] [] σ _
  unfold P_X7_frees at hP
  refine E_aload_n dX7_frees_0 rfl ?_
  refine E_callV (As := []) (rest := []) dX7_frees_1 cl_RX7_164 tw_582 (show kd 49 = 7 by decide) (by decide) rfl tw_583 ⟨rfl, rfl, Nat.le_of_ble_eq_true rfl, Nat.le_of_ble_eq_true rfl⟩ rfl rfl (Nat.le_of_ble_eq_true rfl) (mt_X7_howMany  _ _  hP) ?_
  rintro _ t1 ⟨r1, rfl, hP⟩
  show eX7_frees 4 [.ref (49), un, un, un, un, un] [.int (r1)] t1 _
  refine E_istore_n (ls' := [.ref (49), .int (r1), un, un, un, un]) dX7_frees_4 (by decide) rfl ?_
  refine E_iconst (v := (-1)) dX7_frees_5 (by decide) ?_
  refine E_istore_n (ls' := [.ref (49), .int (r1), .int ((-1)), un, un, un]) dX7_frees_6 (by decide) rfl ?_
  refine E_aload_n dX7_frees_7 rfl ?_
  refine E_getR (j := 0) dX7_frees_8 (show kd 49 = 7 by decide) (by decide) rfl fd_RX7_7 (by decide) ?_
  refine E_bipush (v := 92) dX7_frees_11 (by decide) ?_
  refine E_iald dX7_frees_13 (ar_7_1 (show kd 49 = 7 by decide)).1 (ar_7_1 (show kd 49 = 7 by decide)).2 (vp_c (by decide)) ?_
  refine E_istore_n (ls' := [.ref (49), .int (r1), .int ((-1)), .int (gI t1 50 92), un, un]) dX7_frees_14 (by decide) rfl ?_
  refine E_iconst (v := 0) dX7_frees_15 (by decide) ?_
  refine E_istore (ls' := [.ref (49), .int (r1), .int ((-1)), .int (gI t1 50 92), .int (0), un]) dX7_frees_16 (by decide) rfl ?_
  obtain ⟨m18, hP⟩ := hP
  refine ev_X7_frees_l18 (gI t1 50 92)  _ Q ?_ m18 _ _ _ _ hP
  intro k2 t77 hP
  refine E_aload_n dX7_frees_77 rfl ?_
  refine E_getR (j := 0) dX7_frees_78 (show kd 49 = 7 by decide) (by decide) rfl fd_RX7_7 (by decide) ?_
  refine E_bipush (v := 92) dX7_frees_81 (by decide) ?_
  refine E_iload_n dX7_frees_83 rfl ?_
  refine E_iast dX7_frees_84 (ar_7_1 (show kd 49 = 7 by decide)).1 (ar_7_1 (show kd 49 = 7 by decide)).2 (vp_c (by decide)) ?_
  refine E_iload_n dX7_frees_85 rfl ?_
  refine E_if_ge 98 dX7_frees_86 (by decide) (fun hc => ?_) (fun hc => ?_)
  · replace hP := hP.1 hc
    refine E_iload_n dX7_frees_98 rfl ?_
    exact E_iret dX7_frees_99 rfl ⟨_, rfl, hP⟩
  · replace hP := hP.2 hc
    refine E_aload_n dX7_frees_89 rfl ?_
    refine E_ldc (v := (-1000000004)) dX7_frees_90 tw_585 ?_
    refine E_callV (As := [.int ((-1000000004))]) (rest := []) dX7_frees_92 cl_RX7_105 tw_507 (show kd 49 = 7 by decide) (by decide) rfl tw_508 ⟨rfl, rfl, Nat.le_of_ble_eq_true rfl, Nat.le_of_ble_eq_true rfl⟩ rfl rfl (Nat.le_of_ble_eq_true rfl) (mt_X7_finds _ _ _  hP) ?_
    rintro _ t92 ⟨r92, rfl, hP⟩
    show eX7_frees 95 [.ref (49), un, .int (k2), .int (gI t1 50 92), un, un] [.int (r92)] t92 _
    refine E_goto 99 dX7_frees_95 (by decide) ?_
    exact E_iret dX7_frees_99 rfl ⟨_, rfl, hP⟩
theorem dX7_kind_0 : decode cX7_kind 0 = .ok (.iload_n 1, 1) := by decide +kernel
theorem dX7_kind_1 : decode cX7_kind 1 = .ok (.invokestatic 62, 3) := by decide +kernel
theorem dX7_kind_4 : decode cX7_kind 4 = .ok (.ifCond .ne 10, 3) := by decide +kernel
theorem dX7_kind_7 : decode cX7_kind 7 = .ok (.aload_n 0, 1) := by decide +kernel
theorem dX7_kind_8 : decode cX7_kind 8 = .ok (.ldc 57, 2) := by decide +kernel
theorem dX7_kind_10 : decode cX7_kind 10 = .ok (.invokevirtual 105, 3) := by decide +kernel
theorem dX7_kind_13 : decode cX7_kind 13 = .ok (.ireturn, 1) := by decide +kernel
theorem dX7_kind_14 : decode cX7_kind 14 = .ok (.aload_n 0, 1) := by decide +kernel
theorem dX7_kind_15 : decode cX7_kind 15 = .ok (.iload_n 1, 1) := by decide +kernel
theorem dX7_kind_16 : decode cX7_kind 16 = .ok (.invokevirtual 66, 3) := by decide +kernel
theorem dX7_kind_19 : decode cX7_kind 19 = .ok (.ifCond .ne 10, 3) := by decide +kernel
theorem dX7_kind_22 : decode cX7_kind 22 = .ok (.aload_n 0, 1) := by decide +kernel
theorem dX7_kind_23 : decode cX7_kind 23 = .ok (.ldc 128, 2) := by decide +kernel
theorem dX7_kind_25 : decode cX7_kind 25 = .ok (.invokevirtual 105, 3) := by decide +kernel
theorem dX7_kind_28 : decode cX7_kind 28 = .ok (.ireturn, 1) := by decide +kernel
theorem dX7_kind_29 : decode cX7_kind 29 = .ok (.aload_n 0, 1) := by decide +kernel
theorem dX7_kind_30 : decode cX7_kind 30 = .ok (.iload_n 1, 1) := by decide +kernel
theorem dX7_kind_31 : decode cX7_kind 31 = .ok (.iconst 0, 1) := by decide +kernel
theorem dX7_kind_32 : decode cX7_kind 32 = .ok (.iconst 0, 1) := by decide +kernel
theorem dX7_kind_33 : decode cX7_kind 33 = .ok (.invokevirtual 74, 3) := by decide +kernel
theorem dX7_kind_36 : decode cX7_kind 36 = .ok (.istore_n 2, 1) := by decide +kernel
theorem dX7_kind_37 : decode cX7_kind 37 = .ok (.iconst 0, 1) := by decide +kernel
theorem dX7_kind_38 : decode cX7_kind 38 = .ok (.istore_n 3, 1) := by decide +kernel
theorem dX7_kind_39 : decode cX7_kind 39 = .ok (.iconst (-1), 1) := by decide +kernel
theorem dX7_kind_40 : decode cX7_kind 40 = .ok (.istore 4, 2) := by decide +kernel
theorem dX7_kind_42 : decode cX7_kind 42 = .ok (.iconst 0, 1) := by decide +kernel
theorem dX7_kind_43 : decode cX7_kind 43 = .ok (.istore 5, 2) := by decide +kernel
theorem dX7_kind_45 : decode cX7_kind 45 = .ok (.iload 5, 2) := by decide +kernel
theorem dX7_kind_47 : decode cX7_kind 47 = .ok (.iconst 5, 1) := by decide +kernel
theorem dX7_kind_48 : decode cX7_kind 48 = .ok (.if_icmp .gt 58, 3) := by decide +kernel
theorem dX7_kind_51 : decode cX7_kind 51 = .ok (.aload_n 0, 1) := by decide +kernel
theorem dX7_kind_52 : decode cX7_kind 52 = .ok (.getfield 7, 3) := by decide +kernel
theorem dX7_kind_55 : decode cX7_kind 55 = .ok (.iload_n 1, 1) := by decide +kernel
theorem dX7_kind_56 : decode cX7_kind 56 = .ok (.iconst 0, 1) := by decide +kernel
theorem dX7_kind_57 : decode cX7_kind 57 = .ok (.iconst 0, 1) := by decide +kernel
theorem dX7_kind_58 : decode cX7_kind 58 = .ok (.invokestatic 70, 3) := by decide +kernel
theorem dX7_kind_61 : decode cX7_kind 61 = .ok (.iload 5, 2) := by decide +kernel
theorem dX7_kind_63 : decode cX7_kind 63 = .ok (.iastore, 1) := by decide +kernel
theorem dX7_kind_64 : decode cX7_kind 64 = .ok (.aload_n 0, 1) := by decide +kernel
theorem dX7_kind_65 : decode cX7_kind 65 = .ok (.invokevirtual 164, 3) := by decide +kernel
theorem dX7_kind_68 : decode cX7_kind 68 = .ok (.istore 6, 2) := by decide +kernel
theorem dX7_kind_70 : decode cX7_kind 70 = .ok (.iload 6, 2) := by decide +kernel
theorem dX7_kind_72 : decode cX7_kind 72 = .ok (.iload 4, 2) := by decide +kernel
theorem dX7_kind_74 : decode cX7_kind 74 = .ok (.if_icmp .le 8, 3) := by decide +kernel
theorem dX7_kind_77 : decode cX7_kind 77 = .ok (.iload 5, 2) := by decide +kernel
theorem dX7_kind_79 : decode cX7_kind 79 = .ok (.goto 4, 3) := by decide +kernel
theorem dX7_kind_82 : decode cX7_kind 82 = .ok (.iload_n 3, 1) := by decide +kernel
theorem dX7_kind_83 : decode cX7_kind 83 = .ok (.istore_n 3, 1) := by decide +kernel
theorem dX7_kind_84 : decode cX7_kind 84 = .ok (.iload 6, 2) := by decide +kernel
theorem dX7_kind_86 : decode cX7_kind 86 = .ok (.iload 4, 2) := by decide +kernel
theorem dX7_kind_88 : decode cX7_kind 88 = .ok (.if_icmp .le 8, 3) := by decide +kernel
theorem dX7_kind_91 : decode cX7_kind 91 = .ok (.iload 6, 2) := by decide +kernel
theorem dX7_kind_93 : decode cX7_kind 93 = .ok (.goto 5, 3) := by decide +kernel
theorem dX7_kind_96 : decode cX7_kind 96 = .ok (.iload 4, 2) := by decide +kernel
theorem dX7_kind_98 : decode cX7_kind 98 = .ok (.istore 4, 2) := by decide +kernel
theorem dX7_kind_100 : decode cX7_kind 100 = .ok (.iinc 5 1, 3) := by decide +kernel
theorem dX7_kind_103 : decode cX7_kind 103 = .ok (.goto (-58), 3) := by decide +kernel
theorem dX7_kind_106 : decode cX7_kind 106 = .ok (.aload_n 0, 1) := by decide +kernel
theorem dX7_kind_107 : decode cX7_kind 107 = .ok (.getfield 7, 3) := by decide +kernel
theorem dX7_kind_110 : decode cX7_kind 110 = .ok (.iload_n 1, 1) := by decide +kernel
theorem dX7_kind_111 : decode cX7_kind 111 = .ok (.iconst 0, 1) := by decide +kernel
theorem dX7_kind_112 : decode cX7_kind 112 = .ok (.iconst 0, 1) := by decide +kernel
theorem dX7_kind_113 : decode cX7_kind 113 = .ok (.invokestatic 70, 3) := by decide +kernel
theorem dX7_kind_116 : decode cX7_kind 116 = .ok (.iload_n 2, 1) := by decide +kernel
theorem dX7_kind_117 : decode cX7_kind 117 = .ok (.iastore, 1) := by decide +kernel
theorem dX7_kind_118 : decode cX7_kind 118 = .ok (.iload_n 3, 1) := by decide +kernel
theorem dX7_kind_119 : decode cX7_kind 119 = .ok (.ireturn, 1) := by decide +kernel
def rmX7_kind : Room := { frames := 7, cells := 0, slots := 0, locals := 158 }
abbrev eX7_kind := Ev cX7_kind 7 (some .int) RX7 rmX7_kind
set_option maxRecDepth 20000 in
theorem ev_X7_kind_l45 (l1 : Int32) (l2 : Int32)  (K : Int32 → St → Prop) (Q : Int32 → St → Prop) (hK : ∀ k3 s, K k3 s → eX7_kind 106 [.ref (49), .int (l1), .int (l2), .int (k3), un, un, un] [] s (qI Q)) : ∀ (n : Nat) (l3 : Int32) (l4 : Int32) (l5 : Int32) (σ : St), P_X7_kind_l45 l1 l2 K Q n l3 l4 l5 σ → eX7_kind 45 [.ref (49), .int (l1), .int (l2), .int (l3), .int (l4), .int (l5), un] [] σ (qI Q) := by
  intro n
  induction n with
  | zero => intro l3 l4 l5 σ hP; exact hP.elim
  | succ n ih =>
    intro l3 l4 l5 σ hP
    rw [P_X7_kind_l45] at hP
    refine E_iload dX7_kind_45 rfl ?_
    refine E_iconst (v := 5) dX7_kind_47 (by decide) ?_
    refine E_icmp_gt 106 dX7_kind_48 (by decide) (fun hc => ?_) (fun hc => ?_)
    · replace hP := hP.1 hc
      refine E_mask [true, true, true, true, false, false, false] rfl ?_
      exact hK (l3) _ hP
    · replace hP := hP.2 hc
      refine E_aload_n dX7_kind_51 rfl ?_
      refine E_getR (j := 0) dX7_kind_52 (show kd 49 = 7 by decide) (by decide) rfl fd_RX7_7 (by decide) ?_
      refine E_iload_n dX7_kind_55 rfl ?_
      refine E_iconst (v := 0) dX7_kind_56 (by decide) ?_
      refine E_iconst (v := 0) dX7_kind_57 (by decide) ?_
      refine E_callS (As := [.int (l1), .int (0), .int (0)]) (rest := [.ref (50)]) dX7_kind_58 cl_RX7_70 tw_467 ⟨rfl, rfl, Nat.le_of_ble_eq_true rfl, Nat.le_of_ble_eq_true rfl⟩ rfl rfl (Nat.le_of_ble_eq_true rfl) (mt_X7_at _ _ _ _ _  hP) ?_
      intro r0 s0 hq0; obtain ⟨r58, h0, hs0, hP⟩ := hq0; subst h0; rw [hs0]
      show eX7_kind 61 [.ref (49), .int (l1), .int (l2), .int (l3), .int (l4), .int (l5), un] [.int (r58), .ref (50)] σ _
      refine E_iload dX7_kind_61 rfl ?_
      obtain ⟨hb, hP⟩ := hP
      refine E_iast dX7_kind_63 (ar_7_1 (show kd 49 = 7 by decide)).1 (ar_7_1 (show kd 49 = 7 by decide)).2 hb ?_
      refine E_aload_n dX7_kind_64 rfl ?_
      refine E_callV (As := []) (rest := []) dX7_kind_65 cl_RX7_164 tw_582 (show kd 49 = 7 by decide) (by decide) rfl tw_583 ⟨rfl, rfl, Nat.le_of_ble_eq_true rfl, Nat.le_of_ble_eq_true rfl⟩ rfl rfl (Nat.le_of_ble_eq_true rfl) (mt_X7_howMany  _ _  hP) ?_
      rintro _ t65 ⟨r65, rfl, hP⟩
      show eX7_kind 68 [.ref (49), .int (l1), .int (l2), .int (l3), .int (l4), .int (l5), un] [.int (r65)] t65 _
      refine E_istore (ls' := [.ref (49), .int (l1), .int (l2), .int (l3), .int (l4), .int (l5), .int (r65)]) dX7_kind_68 (by decide) rfl ?_
      refine E_iload dX7_kind_70 rfl ?_
      refine E_iload dX7_kind_72 rfl ?_
      refine E_icmp_le 82 dX7_kind_74 (by decide) (fun hc => ?_) (fun hc => ?_)
      · replace hP := hP.1 hc
        refine E_iload_n dX7_kind_82 rfl ?_
        refine E_istore_n (ls' := [.ref (49), .int (l1), .int (l2), .int (l3), .int (l4), .int (l5), .int (r65)]) dX7_kind_83 (by decide) rfl ?_
        refine E_iload dX7_kind_84 rfl ?_
        refine E_iload dX7_kind_86 rfl ?_
        refine E_icmp_le 96 dX7_kind_88 (by decide) (fun hc => ?_) (fun hc => ?_)
        · replace hP := hP.1 hc
          refine E_iload dX7_kind_96 rfl ?_
          refine E_istore (ls' := [.ref (49), .int (l1), .int (l2), .int (l3), .int (l4), .int (l5), .int (r65)]) dX7_kind_98 (by decide) rfl ?_
          refine E_iinc (ls' := [.ref (49), .int (l1), .int (l2), .int (l3), .int (l4), .int (l5 + 1), .int (r65)]) dX7_kind_100 rfl rfl (by decide) rfl ?_
          refine E_goto 45 dX7_kind_103 (by decide) ?_
          refine E_mask [true, true, true, true, true, true, false] rfl ?_
          exact ih (l3) (l4) (l5 + 1) _ hP
        · replace hP := hP.2 hc
          refine E_iload dX7_kind_91 rfl ?_
          refine E_goto 98 dX7_kind_93 (by decide) ?_
          refine E_istore (ls' := [.ref (49), .int (l1), .int (l2), .int (l3), .int (r65), .int (l5), .int (r65)]) dX7_kind_98 (by decide) rfl ?_
          refine E_iinc (ls' := [.ref (49), .int (l1), .int (l2), .int (l3), .int (r65), .int (l5 + 1), .int (r65)]) dX7_kind_100 rfl rfl (by decide) rfl ?_
          refine E_goto 45 dX7_kind_103 (by decide) ?_
          refine E_mask [true, true, true, true, true, true, false] rfl ?_
          exact ih (l3) (r65) (l5 + 1) _ hP
      · replace hP := hP.2 hc
        refine E_iload dX7_kind_77 rfl ?_
        refine E_goto 83 dX7_kind_79 (by decide) ?_
        refine E_istore_n (ls' := [.ref (49), .int (l1), .int (l2), .int (l5), .int (l4), .int (l5), .int (r65)]) dX7_kind_83 (by decide) rfl ?_
        refine E_iload dX7_kind_84 rfl ?_
        refine E_iload dX7_kind_86 rfl ?_
        refine E_icmp_le 96 dX7_kind_88 (by decide) (fun hc => ?_) (fun hc => ?_)
        · replace hP := hP.1 hc
          refine E_iload dX7_kind_96 rfl ?_
          refine E_istore (ls' := [.ref (49), .int (l1), .int (l2), .int (l5), .int (l4), .int (l5), .int (r65)]) dX7_kind_98 (by decide) rfl ?_
          refine E_iinc (ls' := [.ref (49), .int (l1), .int (l2), .int (l5), .int (l4), .int (l5 + 1), .int (r65)]) dX7_kind_100 rfl rfl (by decide) rfl ?_
          refine E_goto 45 dX7_kind_103 (by decide) ?_
          refine E_mask [true, true, true, true, true, true, false] rfl ?_
          exact ih (l5) (l4) (l5 + 1) _ hP
        · replace hP := hP.2 hc
          refine E_iload dX7_kind_91 rfl ?_
          refine E_goto 98 dX7_kind_93 (by decide) ?_
          refine E_istore (ls' := [.ref (49), .int (l1), .int (l2), .int (l5), .int (r65), .int (l5), .int (r65)]) dX7_kind_98 (by decide) rfl ?_
          refine E_iinc (ls' := [.ref (49), .int (l1), .int (l2), .int (l5), .int (r65), .int (l5 + 1), .int (r65)]) dX7_kind_100 rfl rfl (by decide) rfl ?_
          refine E_goto 45 dX7_kind_103 (by decide) ?_
          refine E_mask [true, true, true, true, true, true, false] rfl ?_
          exact ih (l5) (r65) (l5 + 1) _ hP
set_option maxRecDepth 20000 in
theorem mt_X7_kind (p0 : Int32) (σ : St) (Q : Int32 → St → Prop)  (hP : P_X7_kind p0 σ Q) : Mt yX7_kind cX7_kind 7 (some .int) rmX7_kind [.ref (49), .int (p0)] σ (qI Q) := by
  refine Mt.of (k := 5) (ls := [.ref (49), .int (p0), un, un, un, un, un]) (by decide +kernel) rfl (Nat.le_of_ble_eq_true rfl) ?_
  show eX7_kind 0 [.ref (49), .int (p0), un, un, un, un, un] [] σ _
  unfold P_X7_kind at hP
  refine E_iload_n dX7_kind_0 rfl ?_
  refine E_callS (As := [.int (p0)]) (rest := []) dX7_kind_1 cl_RX7_62 tw_464 ⟨rfl, rfl, Nat.le_of_ble_eq_true rfl, Nat.le_of_ble_eq_true rfl⟩ rfl rfl (Nat.le_of_ble_eq_true rfl) (mt_X7_isWall _ _ _  hP) ?_
  intro r0 s0 hq0; obtain ⟨r1, h0, hs0, hP⟩ := hq0; subst h0; rw [hs0]
  show eX7_kind 4 [.ref (49), .int (p0), un, un, un, un, un] [.int (bI r1)] σ _
  refine E_ifz_ne 14 dX7_kind_4 (by decide) (fun hc => ?_) (fun hc => ?_)
  · replace hP := hP.1 hc
    refine E_aload_n dX7_kind_14 rfl ?_
    refine E_iload_n dX7_kind_15 rfl ?_
    refine E_callV (As := [.int (p0)]) (rest := []) dX7_kind_16 cl_RX7_66 tw_460 (show kd 49 = 7 by decide) (by decide) rfl tw_461 ⟨rfl, rfl, Nat.le_of_ble_eq_true rfl, Nat.le_of_ble_eq_true rfl⟩ rfl rfl (Nat.le_of_ble_eq_true rfl) (mt_X7_many _ _ _  hP) ?_
    intro r0 s0 hq0; obtain ⟨r16, h0, hs0, hP⟩ := hq0; subst h0; rw [hs0]
    show eX7_kind 19 [.ref (49), .int (p0), un, un, un, un, un] [.int (r16)] σ _
    refine E_if_ne 29 dX7_kind_19 (by decide) (fun hc => ?_) (fun hc => ?_)
    · replace hP := hP.1 hc
      refine E_aload_n dX7_kind_29 rfl ?_
      refine E_iload_n dX7_kind_30 rfl ?_
      refine E_iconst (v := 0) dX7_kind_31 (by decide) ?_
      refine E_iconst (v := 0) dX7_kind_32 (by decide) ?_
      refine E_callV (As := [.int (p0), .int (0), .int (0)]) (rest := []) dX7_kind_33 cl_RX7_74 tw_470 (show kd 49 = 7 by decide) (by decide) rfl tw_471 ⟨rfl, rfl, Nat.le_of_ble_eq_true rfl, Nat.le_of_ble_eq_true rfl⟩ rfl rfl (Nat.le_of_ble_eq_true rfl) (mt_X7_its _ _ _ _ _  hP) ?_
      intro r0 s0 hq0; obtain ⟨r33, h0, hs0, hP⟩ := hq0; subst h0; rw [hs0]
      show eX7_kind 36 [.ref (49), .int (p0), un, un, un, un, un] [.int (r33)] σ _
      refine E_istore_n (ls' := [.ref (49), .int (p0), .int (r33), un, un, un, un]) dX7_kind_36 (by decide) rfl ?_
      refine E_iconst (v := 0) dX7_kind_37 (by decide) ?_
      refine E_istore_n (ls' := [.ref (49), .int (p0), .int (r33), .int (0), un, un, un]) dX7_kind_38 (by decide) rfl ?_
      refine E_iconst (v := (-1)) dX7_kind_39 (by decide) ?_
      refine E_istore (ls' := [.ref (49), .int (p0), .int (r33), .int (0), .int ((-1)), un, un]) dX7_kind_40 (by decide) rfl ?_
      refine E_iconst (v := 0) dX7_kind_42 (by decide) ?_
      refine E_istore (ls' := [.ref (49), .int (p0), .int (r33), .int (0), .int ((-1)), .int (0), un]) dX7_kind_43 (by decide) rfl ?_
      obtain ⟨m45, hP⟩ := hP
      refine ev_X7_kind_l45 (p0) (r33)  _ Q ?_ m45 _ _ _ _ hP
      intro k3 t106 hP
      refine E_aload_n dX7_kind_106 rfl ?_
      refine E_getR (j := 0) dX7_kind_107 (show kd 49 = 7 by decide) (by decide) rfl fd_RX7_7 (by decide) ?_
      refine E_iload_n dX7_kind_110 rfl ?_
      refine E_iconst (v := 0) dX7_kind_111 (by decide) ?_
      refine E_iconst (v := 0) dX7_kind_112 (by decide) ?_
      refine E_callS (As := [.int (p0), .int (0), .int (0)]) (rest := [.ref (50)]) dX7_kind_113 cl_RX7_70 tw_467 ⟨rfl, rfl, Nat.le_of_ble_eq_true rfl, Nat.le_of_ble_eq_true rfl⟩ rfl rfl (Nat.le_of_ble_eq_true rfl) (mt_X7_at _ _ _ _ _  hP) ?_
      intro r0 s0 hq0; obtain ⟨r113, h0, hs0, hP⟩ := hq0; subst h0; rw [hs0]
      show eX7_kind 116 [.ref (49), .int (p0), .int (r33), .int (k3), un, un, un] [.int (r113), .ref (50)] t106 _
      refine E_iload_n dX7_kind_116 rfl ?_
      obtain ⟨hb, hP⟩ := hP
      refine E_iast dX7_kind_117 (ar_7_1 (show kd 49 = 7 by decide)).1 (ar_7_1 (show kd 49 = 7 by decide)).2 hb ?_
      refine E_iload_n dX7_kind_118 rfl ?_
      exact E_iret dX7_kind_119 rfl ⟨_, rfl, hP⟩
    · replace hP := hP.2 hc
      refine E_aload_n dX7_kind_22 rfl ?_
      refine E_ldc (v := (-1000000005)) dX7_kind_23 tw_537 ?_
      refine E_callV (As := [.int ((-1000000005))]) (rest := []) dX7_kind_25 cl_RX7_105 tw_507 (show kd 49 = 7 by decide) (by decide) rfl tw_508 ⟨rfl, rfl, Nat.le_of_ble_eq_true rfl, Nat.le_of_ble_eq_true rfl⟩ rfl rfl (Nat.le_of_ble_eq_true rfl) (mt_X7_finds _ _ _  hP) ?_
      rintro _ t25 ⟨r25, rfl, hP⟩
      show eX7_kind 28 [.ref (49), .int (p0), un, un, un, un, un] [.int (r25)] t25 _
      exact E_iret dX7_kind_28 rfl ⟨_, rfl, hP⟩
  · replace hP := hP.2 hc
    refine E_aload_n dX7_kind_7 rfl ?_
    refine E_ldc (v := (-1000000001)) dX7_kind_8 tw_452 ?_
    refine E_callV (As := [.int ((-1000000001))]) (rest := []) dX7_kind_10 cl_RX7_105 tw_507 (show kd 49 = 7 by decide) (by decide) rfl tw_508 ⟨rfl, rfl, Nat.le_of_ble_eq_true rfl, Nat.le_of_ble_eq_true rfl⟩ rfl rfl (Nat.le_of_ble_eq_true rfl) (mt_X7_finds _ _ _  hP) ?_
    rintro _ t10 ⟨r10, rfl, hP⟩
    show eX7_kind 13 [.ref (49), .int (p0), un, un, un, un, un] [.int (r10)] t10 _
    exact E_iret dX7_kind_13 rfl ⟨_, rfl, hP⟩
theorem dX7_till_0 : decode cX7_till 0 = .ok (.aload_n 0, 1) := by decide +kernel
theorem dX7_till_1 : decode cX7_till 1 = .ok (.getfield 7, 3) := by decide +kernel
theorem dX7_till_4 : decode cX7_till 4 = .ok (.bipush 94, 2) := by decide +kernel
theorem dX7_till_6 : decode cX7_till 6 = .ok (.iaload, 1) := by decide +kernel
theorem dX7_till_7 : decode cX7_till 7 = .ok (.istore_n 1, 1) := by decide +kernel
theorem dX7_till_8 : decode cX7_till 8 = .ok (.iconst (-1), 1) := by decide +kernel
theorem dX7_till_9 : decode cX7_till 9 = .ok (.istore_n 2, 1) := by decide +kernel
theorem dX7_till_10 : decode cX7_till 10 = .ok (.aload_n 0, 1) := by decide +kernel
theorem dX7_till_11 : decode cX7_till 11 = .ok (.invokevirtual 152, 3) := by decide +kernel
theorem dX7_till_14 : decode cX7_till 14 = .ok (.iconst 0, 1) := by decide +kernel
theorem dX7_till_15 : decode cX7_till 15 = .ok (.istore_n 3, 1) := by decide +kernel
theorem dX7_till_16 : decode cX7_till 16 = .ok (.iload_n 3, 1) := by decide +kernel
theorem dX7_till_17 : decode cX7_till 17 = .ok (.bipush 60, 2) := by decide +kernel
theorem dX7_till_19 : decode cX7_till 19 = .ok (.if_icmp .gt 42, 3) := by decide +kernel
theorem dX7_till_22 : decode cX7_till 22 = .ok (.aload_n 0, 1) := by decide +kernel
theorem dX7_till_23 : decode cX7_till 23 = .ok (.getfield 7, 3) := by decide +kernel
theorem dX7_till_26 : decode cX7_till 26 = .ok (.bipush 94, 2) := by decide +kernel
theorem dX7_till_28 : decode cX7_till 28 = .ok (.iload_n 1, 1) := by decide +kernel
theorem dX7_till_29 : decode cX7_till 29 = .ok (.iload_n 3, 1) := by decide +kernel
theorem dX7_till_30 : decode cX7_till 30 = .ok (.iadd, 1) := by decide +kernel
theorem dX7_till_31 : decode cX7_till 31 = .ok (.iastore, 1) := by decide +kernel
theorem dX7_till_32 : decode cX7_till 32 = .ok (.aload_n 0, 1) := by decide +kernel
theorem dX7_till_33 : decode cX7_till 33 = .ok (.invokevirtual 155, 3) := by decide +kernel
theorem dX7_till_36 : decode cX7_till 36 = .ok (.aload_n 0, 1) := by decide +kernel
theorem dX7_till_37 : decode cX7_till 37 = .ok (.getfield 22, 3) := by decide +kernel
theorem dX7_till_40 : decode cX7_till 40 = .ok (.iconst 0, 1) := by decide +kernel
theorem dX7_till_41 : decode cX7_till 41 = .ok (.laload, 1) := by decide +kernel
theorem dX7_till_42 : decode cX7_till 42 = .ok (.lconst 0, 1) := by decide +kernel
theorem dX7_till_43 : decode cX7_till 43 = .ok (.lcmp, 1) := by decide +kernel
theorem dX7_till_44 : decode cX7_till 44 = .ok (.ifCond .le 9, 3) := by decide +kernel
theorem dX7_till_47 : decode cX7_till 47 = .ok (.iload_n 1, 1) := by decide +kernel
theorem dX7_till_48 : decode cX7_till 48 = .ok (.iload_n 3, 1) := by decide +kernel
theorem dX7_till_49 : decode cX7_till 49 = .ok (.iadd, 1) := by decide +kernel
theorem dX7_till_50 : decode cX7_till 50 = .ok (.goto 4, 3) := by decide +kernel
theorem dX7_till_53 : decode cX7_till 53 = .ok (.iload_n 2, 1) := by decide +kernel
theorem dX7_till_54 : decode cX7_till 54 = .ok (.istore_n 2, 1) := by decide +kernel
theorem dX7_till_55 : decode cX7_till 55 = .ok (.iinc 3 1, 3) := by decide +kernel
theorem dX7_till_58 : decode cX7_till 58 = .ok (.goto (-42), 3) := by decide +kernel
theorem dX7_till_61 : decode cX7_till 61 = .ok (.aload_n 0, 1) := by decide +kernel
theorem dX7_till_62 : decode cX7_till 62 = .ok (.getfield 7, 3) := by decide +kernel
theorem dX7_till_65 : decode cX7_till 65 = .ok (.bipush 94, 2) := by decide +kernel
theorem dX7_till_67 : decode cX7_till 67 = .ok (.iload_n 1, 1) := by decide +kernel
theorem dX7_till_68 : decode cX7_till 68 = .ok (.iastore, 1) := by decide +kernel
theorem dX7_till_69 : decode cX7_till 69 = .ok (.iload_n 2, 1) := by decide +kernel
theorem dX7_till_70 : decode cX7_till 70 = .ok (.ifCond .ge 12, 3) := by decide +kernel
theorem dX7_till_73 : decode cX7_till 73 = .ok (.aload_n 0, 1) := by decide +kernel
theorem dX7_till_74 : decode cX7_till 74 = .ok (.ldc 170, 2) := by decide +kernel
theorem dX7_till_76 : decode cX7_till 76 = .ok (.invokevirtual 105, 3) := by decide +kernel
theorem dX7_till_79 : decode cX7_till 79 = .ok (.goto 4, 3) := by decide +kernel
theorem dX7_till_82 : decode cX7_till 82 = .ok (.iload_n 2, 1) := by decide +kernel
theorem dX7_till_83 : decode cX7_till 83 = .ok (.ireturn, 1) := by decide +kernel
def rmX7_till : Room := { frames := 5, cells := 0, slots := 0, locals := 116 }
abbrev eX7_till := Ev cX7_till 4 (some .int) RX7 rmX7_till
set_option maxRecDepth 20000 in
theorem ev_X7_till_l16 (l1 : Int32)  (K : Int32 → St → Prop) (Q : Int32 → St → Prop) (hK : ∀ k2 s, K k2 s → eX7_till 61 [.ref (49), .int (l1), .int (k2), un] [] s (qI Q)) : ∀ (n : Nat) (l2 : Int32) (l3 : Int32) (σ : St), P_X7_till_l16 l1 K Q n l2 l3 σ → eX7_till 16 [.ref (49), .int (l1), .int (l2), .int (l3)] [] σ (qI Q) := by
  intro n
  induction n with
  | zero => intro l2 l3 σ hP; exact hP.elim
  | succ n ih =>
    intro l2 l3 σ hP
    rw [P_X7_till_l16] at hP
    refine E_iload_n dX7_till_16 rfl ?_
    refine E_bipush (v := 60) dX7_till_17 (by decide) ?_
    refine E_icmp_gt 61 dX7_till_19 (by decide) (fun hc => ?_) (fun hc => ?_)
    · replace hP := hP.1 hc
      refine E_mask [true, true, true, false] rfl ?_
      exact hK (l2) _ hP
    · replace hP := hP.2 hc
      refine E_aload_n dX7_till_22 rfl ?_
      refine E_getR (j := 0) dX7_till_23 (show kd 49 = 7 by decide) (by decide) rfl fd_RX7_7 (by decide) ?_
      refine E_bipush (v := 94) dX7_till_26 (by decide) ?_
      refine E_iload_n dX7_till_28 rfl ?_
      refine E_iload_n dX7_till_29 rfl ?_
      refine E_iadd dX7_till_30 ?_
      refine E_iast dX7_till_31 (ar_7_1 (show kd 49 = 7 by decide)).1 (ar_7_1 (show kd 49 = 7 by decide)).2 (vp_c (by decide)) ?_
      refine E_aload_n dX7_till_32 rfl ?_
      refine E_callV (As := []) (rest := []) dX7_till_33 cl_RX7_155 tw_566 (show kd 49 = 7 by decide) (by decide) rfl tw_567 ⟨rfl, rfl, Nat.le_of_ble_eq_true rfl, Nat.le_of_ble_eq_true rfl⟩ rfl rfl (Nat.le_of_ble_eq_true rfl) (mt_X7_countRows  _ _  hP) ?_
      rintro _ t33 ⟨rfl, hP⟩
      show eX7_till 36 [.ref (49), .int (l1), .int (l2), .int (l3)] [] t33 _
      refine E_aload_n dX7_till_36 rfl ?_
      refine E_getR (j := 4) dX7_till_37 (show kd 49 = 7 by decide) (by decide) rfl fd_RX7_22 (by decide) ?_
      refine E_iconst (v := 0) dX7_till_40 (by decide) ?_
      refine E_lald dX7_till_41 (ar_7_5 (show kd 49 = 7 by decide)).1 (ar_7_5 (show kd 49 = 7 by decide)).2 (vp_c (by decide)) ?_
      refine E_lconst (v := 0) dX7_till_42 (by decide) ?_
      refine E_lcmp dX7_till_43 ?_
      refine E_if_le 53 dX7_till_44 (by decide) (fun hc => ?_) (fun hc => ?_)
      · replace hP := hP.1 hc
        refine E_iload_n dX7_till_53 rfl ?_
        refine E_istore_n (ls' := [.ref (49), .int (l1), .int (l2), .int (l3)]) dX7_till_54 (by decide) rfl ?_
        refine E_iinc (ls' := [.ref (49), .int (l1), .int (l2), .int (l3 + 1)]) dX7_till_55 rfl rfl (by decide) rfl ?_
        refine E_goto 16 dX7_till_58 (by decide) ?_
        exact ih (l2) (l3 + 1) _ hP
      · replace hP := hP.2 hc
        refine E_iload_n dX7_till_47 rfl ?_
        refine E_iload_n dX7_till_48 rfl ?_
        refine E_iadd dX7_till_49 ?_
        refine E_goto 54 dX7_till_50 (by decide) ?_
        refine E_istore_n (ls' := [.ref (49), .int (l1), .int (l1 + l3), .int (l3)]) dX7_till_54 (by decide) rfl ?_
        refine E_iinc (ls' := [.ref (49), .int (l1), .int (l1 + l3), .int (l3 + 1)]) dX7_till_55 rfl rfl (by decide) rfl ?_
        refine E_goto 16 dX7_till_58 (by decide) ?_
        exact ih (l1 + l3) (l3 + 1) _ hP
set_option maxRecDepth 20000 in
theorem mt_X7_till  (σ : St) (Q : Int32 → St → Prop)  (hP : P_X7_till  σ Q) : Mt yX7_till cX7_till 4 (some .int) rmX7_till [.ref (49)] σ (qI Q) := by
  refine Mt.of (k := 3) (ls := [.ref (49), un, un, un]) (by decide +kernel) rfl (Nat.le_of_ble_eq_true rfl) ?_
  show eX7_till 0 [.ref (49), un, un, un] [] σ _
  unfold P_X7_till at hP
  refine E_aload_n dX7_till_0 rfl ?_
  refine E_getR (j := 0) dX7_till_1 (show kd 49 = 7 by decide) (by decide) rfl fd_RX7_7 (by decide) ?_
  refine E_bipush (v := 94) dX7_till_4 (by decide) ?_
  refine E_iald dX7_till_6 (ar_7_1 (show kd 49 = 7 by decide)).1 (ar_7_1 (show kd 49 = 7 by decide)).2 (vp_c (by decide)) ?_
  refine E_istore_n (ls' := [.ref (49), .int (gI σ 50 94), un, un]) dX7_till_7 (by decide) rfl ?_
  refine E_iconst (v := (-1)) dX7_till_8 (by decide) ?_
  refine E_istore_n (ls' := [.ref (49), .int (gI σ 50 94), .int ((-1)), un]) dX7_till_9 (by decide) rfl ?_
  refine E_aload_n dX7_till_10 rfl ?_
  refine E_callV (As := []) (rest := []) dX7_till_11 cl_RX7_152 tw_570 (show kd 49 = 7 by decide) (by decide) rfl tw_571 ⟨rfl, rfl, Nat.le_of_ble_eq_true rfl, Nat.le_of_ble_eq_true rfl⟩ rfl rfl (Nat.le_of_ble_eq_true rfl) (mt_X7_findGoes  _ _  hP) ?_
  rintro _ t11 ⟨rfl, hP⟩
  show eX7_till 14 [.ref (49), .int (gI σ 50 94), .int ((-1)), un] [] t11 _
  refine E_iconst (v := 0) dX7_till_14 (by decide) ?_
  refine E_istore_n (ls' := [.ref (49), .int (gI σ 50 94), .int ((-1)), .int (0)]) dX7_till_15 (by decide) rfl ?_
  obtain ⟨m16, hP⟩ := hP
  refine ev_X7_till_l16 (gI σ 50 94)  _ Q ?_ m16 _ _ _ hP
  intro k2 t61 hP
  refine E_aload_n dX7_till_61 rfl ?_
  refine E_getR (j := 0) dX7_till_62 (show kd 49 = 7 by decide) (by decide) rfl fd_RX7_7 (by decide) ?_
  refine E_bipush (v := 94) dX7_till_65 (by decide) ?_
  refine E_iload_n dX7_till_67 rfl ?_
  refine E_iast dX7_till_68 (ar_7_1 (show kd 49 = 7 by decide)).1 (ar_7_1 (show kd 49 = 7 by decide)).2 (vp_c (by decide)) ?_
  refine E_iload_n dX7_till_69 rfl ?_
  refine E_if_ge 82 dX7_till_70 (by decide) (fun hc => ?_) (fun hc => ?_)
  · replace hP := hP.1 hc
    refine E_iload_n dX7_till_82 rfl ?_
    exact E_iret dX7_till_83 rfl ⟨_, rfl, hP⟩
  · replace hP := hP.2 hc
    refine E_aload_n dX7_till_73 rfl ?_
    refine E_ldc (v := (-1000000004)) dX7_till_74 tw_585 ?_
    refine E_callV (As := [.int ((-1000000004))]) (rest := []) dX7_till_76 cl_RX7_105 tw_507 (show kd 49 = 7 by decide) (by decide) rfl tw_508 ⟨rfl, rfl, Nat.le_of_ble_eq_true rfl, Nat.le_of_ble_eq_true rfl⟩ rfl rfl (Nat.le_of_ble_eq_true rfl) (mt_X7_finds _ _ _  hP) ?_
    rintro _ t76 ⟨r76, rfl, hP⟩
    show eX7_till 79 [.ref (49), .int (gI σ 50 94), .int (k2), un] [.int (r76)] t76 _
    refine E_goto 83 dX7_till_79 (by decide) ?_
    exact E_iret dX7_till_83 rfl ⟨_, rfl, hP⟩
theorem dX7_feed_0 : decode cX7_feed 0 = .ok (.iload_n 2, 1) := by decide +kernel
theorem dX7_feed_1 : decode cX7_feed 1 = .ok (.iconst 1, 1) := by decide +kernel
theorem dX7_feed_2 : decode cX7_feed 2 = .ok (.iconst 4, 1) := by decide +kernel
theorem dX7_feed_3 : decode cX7_feed 3 = .ok (.invokestatic 58, 3) := by decide +kernel
theorem dX7_feed_6 : decode cX7_feed 6 = .ok (.ifCond .ne 10, 3) := by decide +kernel
theorem dX7_feed_9 : decode cX7_feed 9 = .ok (.aload_n 0, 1) := by decide +kernel
theorem dX7_feed_10 : decode cX7_feed 10 = .ok (.ldc 57, 2) := by decide +kernel
theorem dX7_feed_12 : decode cX7_feed 12 = .ok (.invokevirtual 105, 3) := by decide +kernel
theorem dX7_feed_15 : decode cX7_feed 15 = .ok (.ireturn, 1) := by decide +kernel
theorem dX7_feed_16 : decode cX7_feed 16 = .ok (.aload_n 0, 1) := by decide +kernel
theorem dX7_feed_17 : decode cX7_feed 17 = .ok (.getfield 189, 3) := by decide +kernel
theorem dX7_feed_20 : decode cX7_feed 20 = .ok (.iload_n 2, 1) := by decide +kernel
theorem dX7_feed_21 : decode cX7_feed 21 = .ok (.iadd, 1) := by decide +kernel
theorem dX7_feed_22 : decode cX7_feed 22 = .ok (.bipush 120, 2) := by decide +kernel
theorem dX7_feed_24 : decode cX7_feed 24 = .ok (.if_icmp .le 10, 3) := by decide +kernel
theorem dX7_feed_27 : decode cX7_feed 27 = .ok (.aload_n 0, 1) := by decide +kernel
theorem dX7_feed_28 : decode cX7_feed 28 = .ok (.ldc 108, 2) := by decide +kernel
theorem dX7_feed_30 : decode cX7_feed 30 = .ok (.invokevirtual 105, 3) := by decide +kernel
theorem dX7_feed_33 : decode cX7_feed 33 = .ok (.ireturn, 1) := by decide +kernel
theorem dX7_feed_34 : decode cX7_feed 34 = .ok (.iload_n 2, 1) := by decide +kernel
theorem dX7_feed_35 : decode cX7_feed 35 = .ok (.iconst 1, 1) := by decide +kernel
theorem dX7_feed_36 : decode cX7_feed 36 = .ok (.isub, 1) := by decide +kernel
theorem dX7_feed_37 : decode cX7_feed 37 = .ok (.istore_n 3, 1) := by decide +kernel
theorem dX7_feed_38 : decode cX7_feed 38 = .ok (.iload_n 3, 1) := by decide +kernel
theorem dX7_feed_39 : decode cX7_feed 39 = .ok (.ifCond .lt 38, 3) := by decide +kernel
theorem dX7_feed_42 : decode cX7_feed 42 = .ok (.aload_n 0, 1) := by decide +kernel
theorem dX7_feed_43 : decode cX7_feed 43 = .ok (.getfield 36, 3) := by decide +kernel
theorem dX7_feed_46 : decode cX7_feed 46 = .ok (.aload_n 0, 1) := by decide +kernel
theorem dX7_feed_47 : decode cX7_feed 47 = .ok (.getfield 189, 3) := by decide +kernel
theorem dX7_feed_50 : decode cX7_feed 50 = .ok (.iload_n 1, 1) := by decide +kernel
theorem dX7_feed_51 : decode cX7_feed 51 = .ok (.bipush 8, 2) := by decide +kernel
theorem dX7_feed_53 : decode cX7_feed 53 = .ok (.iload_n 3, 1) := by decide +kernel
theorem dX7_feed_54 : decode cX7_feed 54 = .ok (.imul, 1) := by decide +kernel
theorem dX7_feed_55 : decode cX7_feed 55 = .ok (.ishr, 1) := by decide +kernel
theorem dX7_feed_56 : decode cX7_feed 56 = .ok (.sipush 255, 3) := by decide +kernel
theorem dX7_feed_59 : decode cX7_feed 59 = .ok (.iand, 1) := by decide +kernel
theorem dX7_feed_60 : decode cX7_feed 60 = .ok (.iastore, 1) := by decide +kernel
theorem dX7_feed_61 : decode cX7_feed 61 = .ok (.aload_n 0, 1) := by decide +kernel
theorem dX7_feed_62 : decode cX7_feed 62 = .ok (.dup, 1) := by decide +kernel
theorem dX7_feed_63 : decode cX7_feed 63 = .ok (.getfield 189, 3) := by decide +kernel
theorem dX7_feed_66 : decode cX7_feed 66 = .ok (.iconst 1, 1) := by decide +kernel
theorem dX7_feed_67 : decode cX7_feed 67 = .ok (.iadd, 1) := by decide +kernel
theorem dX7_feed_68 : decode cX7_feed 68 = .ok (.putfield 189, 3) := by decide +kernel
theorem dX7_feed_71 : decode cX7_feed 71 = .ok (.iinc 3 (-1), 3) := by decide +kernel
theorem dX7_feed_74 : decode cX7_feed 74 = .ok (.goto (-36), 3) := by decide +kernel
theorem dX7_feed_77 : decode cX7_feed 77 = .ok (.aload_n 0, 1) := by decide +kernel
theorem dX7_feed_78 : decode cX7_feed 78 = .ok (.getfield 189, 3) := by decide +kernel
theorem dX7_feed_81 : decode cX7_feed 81 = .ok (.ireturn, 1) := by decide +kernel
def rmX7_feed : Room := { frames := 1, cells := 0, slots := 0, locals := 22 }
abbrev eX7_feed := Ev cX7_feed 4 (some .int) RX7 rmX7_feed
set_option maxRecDepth 20000 in
theorem ev_X7_feed_l38 (l1 : Int32)  (K : St → Prop) (Q : Int32 → St → Prop) (hK : ∀  s, K  s → eX7_feed 77 [.ref (49), un, un, un] [] s (qI Q)) : ∀ (n : Nat) (l3 : Int32) (σ : St), P_X7_feed_l38 l1 K Q n l3 σ → eX7_feed 38 [.ref (49), .int (l1), un, .int (l3)] [] σ (qI Q) := by
  intro n
  induction n with
  | zero => intro l3 σ hP; exact hP.elim
  | succ n ih =>
    intro l3 σ hP
    rw [P_X7_feed_l38] at hP
    refine E_iload_n dX7_feed_38 rfl ?_
    refine E_if_lt 77 dX7_feed_39 (by decide) (fun hc => ?_) (fun hc => ?_)
    · replace hP := hP.1 hc
      refine E_mask [true, false, false, false] rfl ?_
      exact hK  _ hP
    · replace hP := hP.2 hc
      refine E_aload_n dX7_feed_42 rfl ?_
      refine E_getR (j := 8) dX7_feed_43 (show kd 49 = 7 by decide) (by decide) rfl fd_RX7_36 (by decide) ?_
      refine E_aload_n dX7_feed_46 rfl ?_
      refine E_getI (j := 9) dX7_feed_47 (show kd 49 = 7 by decide) (by decide) rfl fd_RX7_189 ?_
      refine E_iload_n dX7_feed_50 rfl ?_
      refine E_bipush (v := 8) dX7_feed_51 (by decide) ?_
      refine E_iload_n dX7_feed_53 rfl ?_
      refine E_imul dX7_feed_54 ?_
      refine E_ishr dX7_feed_55 ?_
      refine E_sipush (v := 255) dX7_feed_56 (by decide) ?_
      refine E_iand dX7_feed_59 ?_
      obtain ⟨hb, hP⟩ := hP
      refine E_iast dX7_feed_60 (ar_7_9 (show kd 49 = 7 by decide)).1 (ar_7_9 (show kd 49 = 7 by decide)).2 hb ?_
      refine E_aload_n dX7_feed_61 rfl ?_
      refine E_dup dX7_feed_62 rfl ?_
      refine E_getI (j := 9) dX7_feed_63 (show kd 49 = 7 by decide) (by decide) rfl fd_RX7_189 ?_
      refine E_iconst (v := 1) dX7_feed_66 (by decide) ?_
      refine E_iadd dX7_feed_67 ?_
      refine E_putI (j := 9) dX7_feed_68 (show kd 49 = 7 by decide) (by decide) rfl fd_RX7_189 fp_7_9 ?_
      refine E_iinc (ls' := [.ref (49), .int (l1), un, .int (l3 + (-1))]) dX7_feed_71 rfl rfl (by decide) rfl ?_
      refine E_goto 38 dX7_feed_74 (by decide) ?_
      exact ih (l3 + (-1)) _ hP
set_option maxRecDepth 20000 in
theorem mt_X7_feed (p0 : Int32) (p1 : Int32) (σ : St) (Q : Int32 → St → Prop)  (hP : P_X7_feed p0 p1 σ Q) : Mt yX7_feed cX7_feed 4 (some .int) rmX7_feed [.ref (49), .int (p0), .int (p1)] σ (qI Q) := by
  refine Mt.of (k := 1) (ls := [.ref (49), .int (p0), .int (p1), un]) (by decide +kernel) rfl (Nat.le_of_ble_eq_true rfl) ?_
  show eX7_feed 0 [.ref (49), .int (p0), .int (p1), un] [] σ _
  unfold P_X7_feed at hP
  refine E_iload_n dX7_feed_0 rfl ?_
  refine E_iconst (v := 1) dX7_feed_1 (by decide) ?_
  refine E_iconst (v := 4) dX7_feed_2 (by decide) ?_
  refine E_callS (As := [.int (p1), .int (1), .int (4)]) (rest := []) dX7_feed_3 cl_RX7_58 tw_456 ⟨rfl, rfl, Nat.le_of_ble_eq_true rfl, Nat.le_of_ble_eq_true rfl⟩ rfl rfl (Nat.le_of_ble_eq_true rfl) (mt_X7_in _ _ _ _ _  hP) ?_
  intro r0 s0 hq0; obtain ⟨r3, h0, hs0, hP⟩ := hq0; subst h0; rw [hs0]
  show eX7_feed 6 [.ref (49), .int (p0), .int (p1), un] [.int (bI r3)] σ _
  refine E_ifz_ne 16 dX7_feed_6 (by decide) (fun hc => ?_) (fun hc => ?_)
  · replace hP := hP.1 hc
    refine E_aload_n dX7_feed_16 rfl ?_
    refine E_getI (j := 9) dX7_feed_17 (show kd 49 = 7 by decide) (by decide) rfl fd_RX7_189 ?_
    refine E_iload_n dX7_feed_20 rfl ?_
    refine E_iadd dX7_feed_21 ?_
    refine E_bipush (v := 120) dX7_feed_22 (by decide) ?_
    refine E_icmp_le 34 dX7_feed_24 (by decide) (fun hc => ?_) (fun hc => ?_)
    · replace hP := hP.1 hc
      refine E_iload_n dX7_feed_34 rfl ?_
      refine E_iconst (v := 1) dX7_feed_35 (by decide) ?_
      refine E_isub dX7_feed_36 ?_
      refine E_istore_n (ls' := [.ref (49), .int (p0), .int (p1), .int (p1 - 1)]) dX7_feed_37 (by decide) rfl ?_
      refine E_mask [true, true, false, true] rfl ?_
      obtain ⟨m38, hP⟩ := hP
      refine ev_X7_feed_l38 (p0)  _ Q ?_ m38 _ _ hP
      intro  t77 hP
      refine E_aload_n dX7_feed_77 rfl ?_
      refine E_getI (j := 9) dX7_feed_78 (show kd 49 = 7 by decide) (by decide) rfl fd_RX7_189 ?_
      exact E_iret dX7_feed_81 rfl ⟨_, rfl, hP⟩
    · replace hP := hP.2 hc
      refine E_aload_n dX7_feed_27 rfl ?_
      refine E_ldc (v := (-1000000002)) dX7_feed_28 tw_513 ?_
      refine E_callV (As := [.int ((-1000000002))]) (rest := []) dX7_feed_30 cl_RX7_105 tw_507 (show kd 49 = 7 by decide) (by decide) rfl tw_508 ⟨rfl, rfl, Nat.le_of_ble_eq_true rfl, Nat.le_of_ble_eq_true rfl⟩ rfl rfl (Nat.le_of_ble_eq_true rfl) (mt_X7_finds _ _ _  hP) ?_
      rintro _ t30 ⟨r30, rfl, hP⟩
      show eX7_feed 33 [.ref (49), .int (p0), .int (p1), un] [.int (r30)] t30 _
      exact E_iret dX7_feed_33 rfl ⟨_, rfl, hP⟩
  · replace hP := hP.2 hc
    refine E_aload_n dX7_feed_9 rfl ?_
    refine E_ldc (v := (-1000000001)) dX7_feed_10 tw_452 ?_
    refine E_callV (As := [.int ((-1000000001))]) (rest := []) dX7_feed_12 cl_RX7_105 tw_507 (show kd 49 = 7 by decide) (by decide) rfl tw_508 ⟨rfl, rfl, Nat.le_of_ble_eq_true rfl, Nat.le_of_ble_eq_true rfl⟩ rfl rfl (Nat.le_of_ble_eq_true rfl) (mt_X7_finds _ _ _  hP) ?_
    rintro _ t12 ⟨r12, rfl, hP⟩
    show eX7_feed 15 [.ref (49), .int (p0), .int (p1), un] [.int (r12)] t12 _
    exact E_iret dX7_feed_15 rfl ⟨_, rfl, hP⟩
theorem dX7_wipe_0 : decode cX7_wipe 0 = .ok (.aload_n 0, 1) := by decide +kernel
theorem dX7_wipe_1 : decode cX7_wipe 1 = .ok (.getfield 189, 3) := by decide +kernel
theorem dX7_wipe_4 : decode cX7_wipe 4 = .ok (.istore_n 1, 1) := by decide +kernel
theorem dX7_wipe_5 : decode cX7_wipe 5 = .ok (.aload_n 0, 1) := by decide +kernel
theorem dX7_wipe_6 : decode cX7_wipe 6 = .ok (.iconst 0, 1) := by decide +kernel
theorem dX7_wipe_7 : decode cX7_wipe 7 = .ok (.putfield 189, 3) := by decide +kernel
theorem dX7_wipe_10 : decode cX7_wipe 10 = .ok (.iload_n 1, 1) := by decide +kernel
theorem dX7_wipe_11 : decode cX7_wipe 11 = .ok (.ireturn, 1) := by decide +kernel
def rmX7_wipe : Room := { frames := 0, cells := 0, slots := 0, locals := 0 }
abbrev eX7_wipe := Ev cX7_wipe 2 (some .int) RX7 rmX7_wipe
set_option maxRecDepth 20000 in
theorem mt_X7_wipe  (σ : St) (Q : Int32 → St → Prop)  (hP : P_X7_wipe  σ Q) : Mt yX7_wipe cX7_wipe 2 (some .int) rmX7_wipe [.ref (49)] σ (qI Q) := by
  refine Mt.of (k := 1) (ls := [.ref (49), un]) (by decide +kernel) rfl (Nat.le_of_ble_eq_true rfl) ?_
  show eX7_wipe 0 [.ref (49), un] [] σ _
  unfold P_X7_wipe at hP
  refine E_aload_n dX7_wipe_0 rfl ?_
  refine E_getI (j := 9) dX7_wipe_1 (show kd 49 = 7 by decide) (by decide) rfl fd_RX7_189 ?_
  refine E_istore_n (ls' := [.ref (49), .int (gI σ 49 9)]) dX7_wipe_4 (by decide) rfl ?_
  refine E_aload_n dX7_wipe_5 rfl ?_
  refine E_iconst (v := 0) dX7_wipe_6 (by decide) ?_
  refine E_putI (j := 9) dX7_wipe_7 (show kd 49 = 7 by decide) (by decide) rfl fd_RX7_189 fp_7_9 ?_
  refine E_iload_n dX7_wipe_10 rfl ?_
  exact E_iret dX7_wipe_11 rfl ⟨_, rfl, hP⟩
theorem dX7_byteAt_0 : decode cX7_byteAt 0 = .ok (.iload_n 1, 1) := by decide +kernel
theorem dX7_byteAt_1 : decode cX7_byteAt 1 = .ok (.aload_n 0, 1) := by decide +kernel
theorem dX7_byteAt_2 : decode cX7_byteAt 2 = .ok (.getfield 189, 3) := by decide +kernel
theorem dX7_byteAt_5 : decode cX7_byteAt 5 = .ok (.if_icmp .ge 12, 3) := by decide +kernel
theorem dX7_byteAt_8 : decode cX7_byteAt 8 = .ok (.aload_n 0, 1) := by decide +kernel
theorem dX7_byteAt_9 : decode cX7_byteAt 9 = .ok (.getfield 36, 3) := by decide +kernel
theorem dX7_byteAt_12 : decode cX7_byteAt 12 = .ok (.iload_n 1, 1) := by decide +kernel
theorem dX7_byteAt_13 : decode cX7_byteAt 13 = .ok (.iaload, 1) := by decide +kernel
theorem dX7_byteAt_14 : decode cX7_byteAt 14 = .ok (.goto 4, 3) := by decide +kernel
theorem dX7_byteAt_17 : decode cX7_byteAt 17 = .ok (.iconst (-1), 1) := by decide +kernel
theorem dX7_byteAt_18 : decode cX7_byteAt 18 = .ok (.ireturn, 1) := by decide +kernel
def rmX7_byteAt : Room := { frames := 0, cells := 0, slots := 0, locals := 0 }
abbrev eX7_byteAt := Ev cX7_byteAt 2 (some .int) RX7 rmX7_byteAt
set_option maxRecDepth 20000 in
theorem mt_X7_byteAt (p0 : Int32) (σ : St) (Q : Int32 → Prop)  (hP : P_X7_byteAt p0 σ Q) : Mt yX7_byteAt cX7_byteAt 2 (some .int) rmX7_byteAt [.ref (49), .int (p0)] σ (qI fun x s => s = σ ∧ Q x) := by
  refine Mt.of (k := 0) (ls := [.ref (49), .int (p0)]) (by decide +kernel) rfl (Nat.le_of_ble_eq_true rfl) ?_
  show eX7_byteAt 0 [.ref (49), .int (p0)] [] σ _
  unfold P_X7_byteAt at hP
  refine E_iload_n dX7_byteAt_0 rfl ?_
  refine E_aload_n dX7_byteAt_1 rfl ?_
  refine E_getI (j := 9) dX7_byteAt_2 (show kd 49 = 7 by decide) (by decide) rfl fd_RX7_189 ?_
  refine E_icmp_ge 17 dX7_byteAt_5 (by decide) (fun hc => ?_) (fun hc => ?_)
  · replace hP := hP.1 hc
    refine E_iconst (v := (-1)) dX7_byteAt_17 (by decide) ?_
    exact E_iret dX7_byteAt_18 rfl ⟨_, rfl, rfl, hP⟩
  · replace hP := hP.2 hc
    refine E_aload_n dX7_byteAt_8 rfl ?_
    refine E_getR (j := 8) dX7_byteAt_9 (show kd 49 = 7 by decide) (by decide) rfl fd_RX7_36 (by decide) ?_
    refine E_iload_n dX7_byteAt_12 rfl ?_
    obtain ⟨hb, hP⟩ := hP
    refine E_iald dX7_byteAt_13 (ar_7_9 (show kd 49 = 7 by decide)).1 (ar_7_9 (show kd 49 = 7 by decide)).2 hb ?_
    refine E_goto 18 dX7_byteAt_14 (by decide) ?_
    exact E_iret dX7_byteAt_18 rfl ⟨_, rfl, rfl, hP⟩
theorem dX7_isLetter_0 : decode cX7_isLetter 0 = .ok (.iload_n 0, 1) := by decide +kernel
theorem dX7_isLetter_1 : decode cX7_isLetter 1 = .ok (.bipush 97, 2) := by decide +kernel
theorem dX7_isLetter_3 : decode cX7_isLetter 3 = .ok (.bipush 122, 2) := by decide +kernel
theorem dX7_isLetter_5 : decode cX7_isLetter 5 = .ok (.invokestatic 58, 3) := by decide +kernel
theorem dX7_isLetter_8 : decode cX7_isLetter 8 = .ok (.ireturn, 1) := by decide +kernel
def rmX7_isLetter : Room := { frames := 1, cells := 0, slots := 0, locals := 22 }
abbrev eX7_isLetter := Ev cX7_isLetter 1 (some .boolean) RX7 rmX7_isLetter
set_option maxRecDepth 20000 in
theorem mt_X7_isLetter (p0 : Int32) (σ : St) (Q : Bool → Prop)  (hP : P_X7_isLetter p0 σ Q) : Mt yX7_isLetter cX7_isLetter 1 (some .boolean) rmX7_isLetter [.int (p0)] σ (qB fun x s => s = σ ∧ Q x) := by
  refine Mt.of (k := 0) (ls := [.int (p0)]) (by decide +kernel) rfl (Nat.le_of_ble_eq_true rfl) ?_
  show eX7_isLetter 0 [.int (p0)] [] σ _
  unfold P_X7_isLetter at hP
  refine E_iload_n dX7_isLetter_0 rfl ?_
  refine E_bipush (v := 97) dX7_isLetter_1 (by decide) ?_
  refine E_bipush (v := 122) dX7_isLetter_3 (by decide) ?_
  refine E_callS (As := [.int (p0), .int (97), .int (122)]) (rest := []) dX7_isLetter_5 cl_RX7_58 tw_456 ⟨rfl, rfl, Nat.le_of_ble_eq_true rfl, Nat.le_of_ble_eq_true rfl⟩ rfl rfl (Nat.le_of_ble_eq_true rfl) (mt_X7_in _ _ _ _ _  hP) ?_
  intro r0 s0 hq0; obtain ⟨r5, h0, hs0, hP⟩ := hq0; subst h0; rw [hs0]
  show eX7_isLetter 8 [.int (p0)] [.int (bI r5)] σ _
  exact E_nret dX7_isLetter_8 rfl (nar_b r5) ⟨r5, rfl, rfl, hP⟩
theorem dX7_isDigit_0 : decode cX7_isDigit 0 = .ok (.iload_n 0, 1) := by decide +kernel
theorem dX7_isDigit_1 : decode cX7_isDigit 1 = .ok (.bipush 48, 2) := by decide +kernel
theorem dX7_isDigit_3 : decode cX7_isDigit 3 = .ok (.bipush 57, 2) := by decide +kernel
theorem dX7_isDigit_5 : decode cX7_isDigit 5 = .ok (.invokestatic 58, 3) := by decide +kernel
theorem dX7_isDigit_8 : decode cX7_isDigit 8 = .ok (.ireturn, 1) := by decide +kernel
def rmX7_isDigit : Room := { frames := 1, cells := 0, slots := 0, locals := 22 }
abbrev eX7_isDigit := Ev cX7_isDigit 1 (some .boolean) RX7 rmX7_isDigit
set_option maxRecDepth 20000 in
theorem mt_X7_isDigit (p0 : Int32) (σ : St) (Q : Bool → Prop)  (hP : P_X7_isDigit p0 σ Q) : Mt yX7_isDigit cX7_isDigit 1 (some .boolean) rmX7_isDigit [.int (p0)] σ (qB fun x s => s = σ ∧ Q x) := by
  refine Mt.of (k := 0) (ls := [.int (p0)]) (by decide +kernel) rfl (Nat.le_of_ble_eq_true rfl) ?_
  show eX7_isDigit 0 [.int (p0)] [] σ _
  unfold P_X7_isDigit at hP
  refine E_iload_n dX7_isDigit_0 rfl ?_
  refine E_bipush (v := 48) dX7_isDigit_1 (by decide) ?_
  refine E_bipush (v := 57) dX7_isDigit_3 (by decide) ?_
  refine E_callS (As := [.int (p0), .int (48), .int (57)]) (rest := []) dX7_isDigit_5 cl_RX7_58 tw_456 ⟨rfl, rfl, Nat.le_of_ble_eq_true rfl, Nat.le_of_ble_eq_true rfl⟩ rfl rfl (Nat.le_of_ble_eq_true rfl) (mt_X7_in _ _ _ _ _  hP) ?_
  intro r0 s0 hq0; obtain ⟨r5, h0, hs0, hP⟩ := hq0; subst h0; rw [hs0]
  show eX7_isDigit 8 [.int (p0)] [.int (bI r5)] σ _
  exact E_nret dX7_isDigit_8 rfl (nar_b r5) ⟨r5, rfl, rfl, hP⟩
theorem dX7_advance_0 : decode cX7_advance 0 = .ok (.aload_n 0, 1) := by decide +kernel
theorem dX7_advance_1 : decode cX7_advance 1 = .ok (.aload_n 0, 1) := by decide +kernel
theorem dX7_advance_2 : decode cX7_advance 2 = .ok (.getfield 193, 3) := by decide +kernel
theorem dX7_advance_5 : decode cX7_advance 5 = .ok (.putfield 196, 3) := by decide +kernel
theorem dX7_advance_8 : decode cX7_advance 8 = .ok (.aload_n 0, 1) := by decide +kernel
theorem dX7_advance_9 : decode cX7_advance 9 = .ok (.aload_n 0, 1) := by decide +kernel
theorem dX7_advance_10 : decode cX7_advance 10 = .ok (.getfield 196, 3) := by decide +kernel
theorem dX7_advance_13 : decode cX7_advance 13 = .ok (.invokevirtual 199, 3) := by decide +kernel
theorem dX7_advance_16 : decode cX7_advance 16 = .ok (.bipush 32, 2) := by decide +kernel
theorem dX7_advance_18 : decode cX7_advance 18 = .ok (.if_icmp .ne 16, 3) := by decide +kernel
theorem dX7_advance_21 : decode cX7_advance 21 = .ok (.aload_n 0, 1) := by decide +kernel
theorem dX7_advance_22 : decode cX7_advance 22 = .ok (.dup, 1) := by decide +kernel
theorem dX7_advance_23 : decode cX7_advance 23 = .ok (.getfield 196, 3) := by decide +kernel
theorem dX7_advance_26 : decode cX7_advance 26 = .ok (.iconst 1, 1) := by decide +kernel
theorem dX7_advance_27 : decode cX7_advance 27 = .ok (.iadd, 1) := by decide +kernel
theorem dX7_advance_28 : decode cX7_advance 28 = .ok (.putfield 196, 3) := by decide +kernel
theorem dX7_advance_31 : decode cX7_advance 31 = .ok (.goto (-23), 3) := by decide +kernel
theorem dX7_advance_34 : decode cX7_advance 34 = .ok (.aload_n 0, 1) := by decide +kernel
theorem dX7_advance_35 : decode cX7_advance 35 = .ok (.aload_n 0, 1) := by decide +kernel
theorem dX7_advance_36 : decode cX7_advance 36 = .ok (.getfield 196, 3) := by decide +kernel
theorem dX7_advance_39 : decode cX7_advance 39 = .ok (.putfield 193, 3) := by decide +kernel
theorem dX7_advance_42 : decode cX7_advance 42 = .ok (.aload_n 0, 1) := by decide +kernel
theorem dX7_advance_43 : decode cX7_advance 43 = .ok (.aload_n 0, 1) := by decide +kernel
theorem dX7_advance_44 : decode cX7_advance 44 = .ok (.getfield 196, 3) := by decide +kernel
theorem dX7_advance_47 : decode cX7_advance 47 = .ok (.invokevirtual 199, 3) := by decide +kernel
theorem dX7_advance_50 : decode cX7_advance 50 = .ok (.istore_n 1, 1) := by decide +kernel
theorem dX7_advance_51 : decode cX7_advance 51 = .ok (.aload_n 0, 1) := by decide +kernel
theorem dX7_advance_52 : decode cX7_advance 52 = .ok (.iload_n 1, 1) := by decide +kernel
theorem dX7_advance_53 : decode cX7_advance 53 = .ok (.ifCond .ge 7, 3) := by decide +kernel
theorem dX7_advance_56 : decode cX7_advance 56 = .ok (.iconst 0, 1) := by decide +kernel
theorem dX7_advance_57 : decode cX7_advance 57 = .ok (.goto 26, 3) := by decide +kernel
theorem dX7_advance_60 : decode cX7_advance 60 = .ok (.iload_n 1, 1) := by decide +kernel
theorem dX7_advance_61 : decode cX7_advance 61 = .ok (.invokestatic 202, 3) := by decide +kernel
theorem dX7_advance_64 : decode cX7_advance 64 = .ok (.ifCond .eq 7, 3) := by decide +kernel
theorem dX7_advance_67 : decode cX7_advance 67 = .ok (.iconst 1, 1) := by decide +kernel
theorem dX7_advance_68 : decode cX7_advance 68 = .ok (.goto 15, 3) := by decide +kernel
theorem dX7_advance_71 : decode cX7_advance 71 = .ok (.iload_n 1, 1) := by decide +kernel
theorem dX7_advance_72 : decode cX7_advance 72 = .ok (.invokestatic 205, 3) := by decide +kernel
theorem dX7_advance_75 : decode cX7_advance 75 = .ok (.ifCond .eq 7, 3) := by decide +kernel
theorem dX7_advance_78 : decode cX7_advance 78 = .ok (.iconst 2, 1) := by decide +kernel
theorem dX7_advance_79 : decode cX7_advance 79 = .ok (.goto 4, 3) := by decide +kernel
theorem dX7_advance_82 : decode cX7_advance 82 = .ok (.iconst 3, 1) := by decide +kernel
theorem dX7_advance_83 : decode cX7_advance 83 = .ok (.putfield 208, 3) := by decide +kernel
theorem dX7_advance_86 : decode cX7_advance 86 = .ok (.aload_n 0, 1) := by decide +kernel
theorem dX7_advance_87 : decode cX7_advance 87 = .ok (.lconst 0, 1) := by decide +kernel
theorem dX7_advance_88 : decode cX7_advance 88 = .ok (.putfield 211, 3) := by decide +kernel
theorem dX7_advance_91 : decode cX7_advance 91 = .ok (.aload_n 0, 1) := by decide +kernel
theorem dX7_advance_92 : decode cX7_advance 92 = .ok (.aload_n 0, 1) := by decide +kernel
theorem dX7_advance_93 : decode cX7_advance 93 = .ok (.getfield 208, 3) := by decide +kernel
theorem dX7_advance_96 : decode cX7_advance 96 = .ok (.iconst 2, 1) := by decide +kernel
theorem dX7_advance_97 : decode cX7_advance 97 = .ok (.if_icmp .ne 7, 3) := by decide +kernel
theorem dX7_advance_100 : decode cX7_advance 100 = .ok (.iconst 0, 1) := by decide +kernel
theorem dX7_advance_101 : decode cX7_advance 101 = .ok (.goto 4, 3) := by decide +kernel
theorem dX7_advance_104 : decode cX7_advance 104 = .ok (.iload_n 1, 1) := by decide +kernel
theorem dX7_advance_105 : decode cX7_advance 105 = .ok (.putfield 215, 3) := by decide +kernel
theorem dX7_advance_108 : decode cX7_advance 108 = .ok (.aload_n 0, 1) := by decide +kernel
theorem dX7_advance_109 : decode cX7_advance 109 = .ok (.getfield 208, 3) := by decide +kernel
theorem dX7_advance_112 : decode cX7_advance 112 = .ok (.iconst 3, 1) := by decide +kernel
theorem dX7_advance_113 : decode cX7_advance 113 = .ok (.if_icmp .ne 13, 3) := by decide +kernel
theorem dX7_advance_116 : decode cX7_advance 116 = .ok (.aload_n 0, 1) := by decide +kernel
theorem dX7_advance_117 : decode cX7_advance 117 = .ok (.dup, 1) := by decide +kernel
theorem dX7_advance_118 : decode cX7_advance 118 = .ok (.getfield 193, 3) := by decide +kernel
theorem dX7_advance_121 : decode cX7_advance 121 = .ok (.iconst 1, 1) := by decide +kernel
theorem dX7_advance_122 : decode cX7_advance 122 = .ok (.iadd, 1) := by decide +kernel
theorem dX7_advance_123 : decode cX7_advance 123 = .ok (.putfield 193, 3) := by decide +kernel
theorem dX7_advance_126 : decode cX7_advance 126 = .ok (.aload_n 0, 1) := by decide +kernel
theorem dX7_advance_127 : decode cX7_advance 127 = .ok (.getfield 208, 3) := by decide +kernel
theorem dX7_advance_130 : decode cX7_advance 130 = .ok (.iconst 1, 1) := by decide +kernel
theorem dX7_advance_131 : decode cX7_advance 131 = .ok (.if_icmp .ne 76, 3) := by decide +kernel
theorem dX7_advance_134 : decode cX7_advance 134 = .ok (.aload_n 0, 1) := by decide +kernel
theorem dX7_advance_135 : decode cX7_advance 135 = .ok (.aload_n 0, 1) := by decide +kernel
theorem dX7_advance_136 : decode cX7_advance 136 = .ok (.getfield 193, 3) := by decide +kernel
theorem dX7_advance_139 : decode cX7_advance 139 = .ok (.invokevirtual 199, 3) := by decide +kernel
theorem dX7_advance_142 : decode cX7_advance 142 = .ok (.invokestatic 202, 3) := by decide +kernel
theorem dX7_advance_145 : decode cX7_advance 145 = .ok (.ifCond .eq 62, 3) := by decide +kernel
theorem dX7_advance_148 : decode cX7_advance 148 = .ok (.aload_n 0, 1) := by decide +kernel
theorem dX7_advance_149 : decode cX7_advance 149 = .ok (.aload_n 0, 1) := by decide +kernel
theorem dX7_advance_150 : decode cX7_advance 150 = .ok (.getfield 193, 3) := by decide +kernel
theorem dX7_advance_153 : decode cX7_advance 153 = .ok (.aload_n 0, 1) := by decide +kernel
theorem dX7_advance_154 : decode cX7_advance 154 = .ok (.getfield 196, 3) := by decide +kernel
theorem dX7_advance_157 : decode cX7_advance 157 = .ok (.isub, 1) := by decide +kernel
theorem dX7_advance_158 : decode cX7_advance 158 = .ok (.bipush 12, 2) := by decide +kernel
theorem dX7_advance_160 : decode cX7_advance 160 = .ok (.if_icmp .ge 28, 3) := by decide +kernel
theorem dX7_advance_163 : decode cX7_advance 163 = .ok (.ldc2_w 218, 3) := by decide +kernel
theorem dX7_advance_166 : decode cX7_advance 166 = .ok (.aload_n 0, 1) := by decide +kernel
theorem dX7_advance_167 : decode cX7_advance 167 = .ok (.getfield 211, 3) := by decide +kernel
theorem dX7_advance_170 : decode cX7_advance 170 = .ok (.lmul, 1) := by decide +kernel
theorem dX7_advance_171 : decode cX7_advance 171 = .ok (.aload_n 0, 1) := by decide +kernel
theorem dX7_advance_172 : decode cX7_advance 172 = .ok (.aload_n 0, 1) := by decide +kernel
theorem dX7_advance_173 : decode cX7_advance 173 = .ok (.getfield 193, 3) := by decide +kernel
theorem dX7_advance_176 : decode cX7_advance 176 = .ok (.invokevirtual 199, 3) := by decide +kernel
theorem dX7_advance_179 : decode cX7_advance 179 = .ok (.i2l, 1) := by decide +kernel
theorem dX7_advance_180 : decode cX7_advance 180 = .ok (.ladd, 1) := by decide +kernel
theorem dX7_advance_181 : decode cX7_advance 181 = .ok (.ldc2_w 220, 3) := by decide +kernel
theorem dX7_advance_184 : decode cX7_advance 184 = .ok (.lsub, 1) := by decide +kernel
theorem dX7_advance_185 : decode cX7_advance 185 = .ok (.goto 6, 3) := by decide +kernel
theorem dX7_advance_188 : decode cX7_advance 188 = .ok (.ldc2_w 222, 3) := by decide +kernel
theorem dX7_advance_191 : decode cX7_advance 191 = .ok (.putfield 211, 3) := by decide +kernel
theorem dX7_advance_194 : decode cX7_advance 194 = .ok (.aload_n 0, 1) := by decide +kernel
theorem dX7_advance_195 : decode cX7_advance 195 = .ok (.dup, 1) := by decide +kernel
theorem dX7_advance_196 : decode cX7_advance 196 = .ok (.getfield 193, 3) := by decide +kernel
theorem dX7_advance_199 : decode cX7_advance 199 = .ok (.iconst 1, 1) := by decide +kernel
theorem dX7_advance_200 : decode cX7_advance 200 = .ok (.iadd, 1) := by decide +kernel
theorem dX7_advance_201 : decode cX7_advance 201 = .ok (.putfield 193, 3) := by decide +kernel
theorem dX7_advance_204 : decode cX7_advance 204 = .ok (.goto (-78), 3) := by decide +kernel
theorem dX7_advance_207 : decode cX7_advance 207 = .ok (.aload_n 0, 1) := by decide +kernel
theorem dX7_advance_208 : decode cX7_advance 208 = .ok (.getfield 208, 3) := by decide +kernel
theorem dX7_advance_211 : decode cX7_advance 211 = .ok (.iconst 2, 1) := by decide +kernel
theorem dX7_advance_212 : decode cX7_advance 212 = .ok (.if_icmp .ne 68, 3) := by decide +kernel
theorem dX7_advance_215 : decode cX7_advance 215 = .ok (.aload_n 0, 1) := by decide +kernel
theorem dX7_advance_216 : decode cX7_advance 216 = .ok (.aload_n 0, 1) := by decide +kernel
theorem dX7_advance_217 : decode cX7_advance 217 = .ok (.getfield 193, 3) := by decide +kernel
theorem dX7_advance_220 : decode cX7_advance 220 = .ok (.invokevirtual 199, 3) := by decide +kernel
theorem dX7_advance_223 : decode cX7_advance 223 = .ok (.invokestatic 205, 3) := by decide +kernel
theorem dX7_advance_226 : decode cX7_advance 226 = .ok (.ifCond .eq 54, 3) := by decide +kernel
theorem dX7_advance_229 : decode cX7_advance 229 = .ok (.aload_n 0, 1) := by decide +kernel
theorem dX7_advance_230 : decode cX7_advance 230 = .ok (.aload_n 0, 1) := by decide +kernel
theorem dX7_advance_231 : decode cX7_advance 231 = .ok (.getfield 215, 3) := by decide +kernel
theorem dX7_advance_234 : decode cX7_advance 234 = .ok (.bipush 99, 2) := by decide +kernel
theorem dX7_advance_236 : decode cX7_advance 236 = .ok (.if_icmp .le 9, 3) := by decide +kernel
theorem dX7_advance_239 : decode cX7_advance 239 = .ok (.sipush 1000, 3) := by decide +kernel
theorem dX7_advance_242 : decode cX7_advance 242 = .ok (.goto 22, 3) := by decide +kernel
theorem dX7_advance_245 : decode cX7_advance 245 = .ok (.bipush 10, 2) := by decide +kernel
theorem dX7_advance_247 : decode cX7_advance 247 = .ok (.aload_n 0, 1) := by decide +kernel
theorem dX7_advance_248 : decode cX7_advance 248 = .ok (.getfield 215, 3) := by decide +kernel
theorem dX7_advance_251 : decode cX7_advance 251 = .ok (.imul, 1) := by decide +kernel
theorem dX7_advance_252 : decode cX7_advance 252 = .ok (.aload_n 0, 1) := by decide +kernel
theorem dX7_advance_253 : decode cX7_advance 253 = .ok (.aload_n 0, 1) := by decide +kernel
theorem dX7_advance_254 : decode cX7_advance 254 = .ok (.getfield 193, 3) := by decide +kernel
theorem dX7_advance_257 : decode cX7_advance 257 = .ok (.invokevirtual 199, 3) := by decide +kernel
theorem dX7_advance_260 : decode cX7_advance 260 = .ok (.iadd, 1) := by decide +kernel
theorem dX7_advance_261 : decode cX7_advance 261 = .ok (.bipush 48, 2) := by decide +kernel
theorem dX7_advance_263 : decode cX7_advance 263 = .ok (.isub, 1) := by decide +kernel
theorem dX7_advance_264 : decode cX7_advance 264 = .ok (.putfield 215, 3) := by decide +kernel
theorem dX7_advance_267 : decode cX7_advance 267 = .ok (.aload_n 0, 1) := by decide +kernel
theorem dX7_advance_268 : decode cX7_advance 268 = .ok (.dup, 1) := by decide +kernel
theorem dX7_advance_269 : decode cX7_advance 269 = .ok (.getfield 193, 3) := by decide +kernel
theorem dX7_advance_272 : decode cX7_advance 272 = .ok (.iconst 1, 1) := by decide +kernel
theorem dX7_advance_273 : decode cX7_advance 273 = .ok (.iadd, 1) := by decide +kernel
theorem dX7_advance_274 : decode cX7_advance 274 = .ok (.putfield 193, 3) := by decide +kernel
theorem dX7_advance_277 : decode cX7_advance 277 = .ok (.goto (-70), 3) := by decide +kernel
theorem dX7_advance_280 : decode cX7_advance 280 = .ok (.return_, 1) := by decide +kernel
def rmX7_advance : Room := { frames := 2, cells := 0, slots := 0, locals := 42 }
abbrev eX7_advance := Ev cX7_advance 2 none RX7 rmX7_advance
set_option maxRecDepth 20000 in
theorem ev_X7_advance_l8   (K : St → Prop) (Q : St → Prop) (hK : ∀  s, K  s → eX7_advance 34 [.ref (49), un] [] s (qV Q)) : ∀ (n : Nat)  (σ : St), P_X7_advance_l8  K Q n  σ → eX7_advance 8 [.ref (49), un] [] σ (qV Q) := by
  intro n
  induction n with
  | zero => intro  σ hP; exact hP.elim
  | succ n ih =>
    intro  σ hP
    rw [P_X7_advance_l8] at hP
    refine E_aload_n dX7_advance_8 rfl ?_
    refine E_aload_n dX7_advance_9 rfl ?_
    refine E_getI (j := 11) dX7_advance_10 (show kd 49 = 7 by decide) (by decide) rfl fd_RX7_196 ?_
    refine E_callV (As := [.int (gI σ 49 11)]) (rest := []) dX7_advance_13 cl_RX7_199 tw_621 (show kd 49 = 7 by decide) (by decide) rfl tw_622 ⟨rfl, rfl, Nat.le_of_ble_eq_true rfl, Nat.le_of_ble_eq_true rfl⟩ rfl rfl (Nat.le_of_ble_eq_true rfl) (mt_X7_byteAt _ _ _  hP) ?_
    intro r0 s0 hq0; obtain ⟨r13, h0, hs0, hP⟩ := hq0; subst h0; rw [hs0]
    show eX7_advance 16 [.ref (49), un] [.int (r13)] σ _
    refine E_bipush (v := 32) dX7_advance_16 (by decide) ?_
    refine E_icmp_ne 34 dX7_advance_18 (by decide) (fun hc => ?_) (fun hc => ?_)
    · replace hP := hP.1 hc
      exact hK  _ hP
    · replace hP := hP.2 hc
      refine E_aload_n dX7_advance_21 rfl ?_
      refine E_dup dX7_advance_22 rfl ?_
      refine E_getI (j := 11) dX7_advance_23 (show kd 49 = 7 by decide) (by decide) rfl fd_RX7_196 ?_
      refine E_iconst (v := 1) dX7_advance_26 (by decide) ?_
      refine E_iadd dX7_advance_27 ?_
      refine E_putI (j := 11) dX7_advance_28 (show kd 49 = 7 by decide) (by decide) rfl fd_RX7_196 fp_7_11 ?_
      refine E_goto 8 dX7_advance_31 (by decide) ?_
      exact ih  _ hP
set_option maxRecDepth 20000 in
theorem ev_X7_advance_l126   (K : St → Prop) (Q : St → Prop) (hK : ∀  s, K  s → eX7_advance 207 [.ref (49), un] [] s (qV Q)) : ∀ (n : Nat)  (σ : St), P_X7_advance_l126  K Q n  σ → eX7_advance 126 [.ref (49), un] [] σ (qV Q) := by
  intro n
  induction n with
  | zero => intro  σ hP; exact hP.elim
  | succ n ih =>
    intro  σ hP
    rw [P_X7_advance_l126] at hP
    refine E_aload_n dX7_advance_126 rfl ?_
    refine E_getI (j := 10) dX7_advance_127 (show kd 49 = 7 by decide) (by decide) rfl fd_RX7_208 ?_
    refine E_iconst (v := 1) dX7_advance_130 (by decide) ?_
    refine E_icmp_ne 207 dX7_advance_131 (by decide) (fun hc => ?_) (fun hc => ?_)
    · replace hP := hP.1 hc
      exact hK  _ hP
    · replace hP := hP.2 hc
      refine E_aload_n dX7_advance_134 rfl ?_
      refine E_aload_n dX7_advance_135 rfl ?_
      refine E_getI (j := 12) dX7_advance_136 (show kd 49 = 7 by decide) (by decide) rfl fd_RX7_193 ?_
      refine E_callV (As := [.int (gI σ 49 12)]) (rest := []) dX7_advance_139 cl_RX7_199 tw_621 (show kd 49 = 7 by decide) (by decide) rfl tw_622 ⟨rfl, rfl, Nat.le_of_ble_eq_true rfl, Nat.le_of_ble_eq_true rfl⟩ rfl rfl (Nat.le_of_ble_eq_true rfl) (mt_X7_byteAt _ _ _  hP) ?_
      intro r0 s0 hq0; obtain ⟨r139, h0, hs0, hP⟩ := hq0; subst h0; rw [hs0]
      show eX7_advance 142 [.ref (49), un] [.int (r139)] σ _
      refine E_callS (As := [.int (r139)]) (rest := []) dX7_advance_142 cl_RX7_202 tw_631 ⟨rfl, rfl, Nat.le_of_ble_eq_true rfl, Nat.le_of_ble_eq_true rfl⟩ rfl rfl (Nat.le_of_ble_eq_true rfl) (mt_X7_isLetter _ _ _  hP) ?_
      intro r0 s0 hq0; obtain ⟨r142, h0, hs0, hP⟩ := hq0; subst h0; rw [hs0]
      show eX7_advance 145 [.ref (49), un] [.int (bI r142)] σ _
      refine E_ifz_eq 207 dX7_advance_145 (by decide) (fun hc => ?_) (fun hc => ?_)
      · replace hP := hP.1 hc
        exact hK  _ hP
      · replace hP := hP.2 hc
        refine E_aload_n dX7_advance_148 rfl ?_
        refine E_aload_n dX7_advance_149 rfl ?_
        refine E_getI (j := 12) dX7_advance_150 (show kd 49 = 7 by decide) (by decide) rfl fd_RX7_193 ?_
        refine E_aload_n dX7_advance_153 rfl ?_
        refine E_getI (j := 11) dX7_advance_154 (show kd 49 = 7 by decide) (by decide) rfl fd_RX7_196 ?_
        refine E_isub dX7_advance_157 ?_
        refine E_bipush (v := 12) dX7_advance_158 (by decide) ?_
        refine E_icmp_ge 188 dX7_advance_160 (by decide) (fun hc => ?_) (fun hc => ?_)
        · replace hP := hP.1 hc
          refine E_ldc2 (v := (-1)) dX7_advance_188 tw_626 ?_
          refine E_putL (j := 13) dX7_advance_191 (show kd 49 = 7 by decide) (by decide) rfl fd_RX7_211 fp_7_13 ?_
          refine E_aload_n dX7_advance_194 rfl ?_
          refine E_dup dX7_advance_195 rfl ?_
          refine E_getI (j := 12) dX7_advance_196 (show kd 49 = 7 by decide) (by decide) rfl fd_RX7_193 ?_
          refine E_iconst (v := 1) dX7_advance_199 (by decide) ?_
          refine E_iadd dX7_advance_200 ?_
          refine E_putI (j := 12) dX7_advance_201 (show kd 49 = 7 by decide) (by decide) rfl fd_RX7_193 fp_7_12 ?_
          refine E_goto 126 dX7_advance_204 (by decide) ?_
          exact ih  _ hP
        · replace hP := hP.2 hc
          refine E_ldc2 (v := 27) dX7_advance_163 tw_627 ?_
          refine E_aload_n dX7_advance_166 rfl ?_
          refine E_getL (j := 13) dX7_advance_167 (show kd 49 = 7 by decide) (by decide) rfl fd_RX7_211 ?_
          refine E_lmul dX7_advance_170 ?_
          refine E_aload_n dX7_advance_171 rfl ?_
          refine E_aload_n dX7_advance_172 rfl ?_
          refine E_getI (j := 12) dX7_advance_173 (show kd 49 = 7 by decide) (by decide) rfl fd_RX7_193 ?_
          refine E_callV (As := [.int (gI σ 49 12)]) (rest := [.long (27 * (gL σ 49 13)), .ref (49)]) dX7_advance_176 cl_RX7_199 tw_621 (show kd 49 = 7 by decide) (by decide) rfl tw_622 ⟨rfl, rfl, Nat.le_of_ble_eq_true rfl, Nat.le_of_ble_eq_true rfl⟩ rfl rfl (Nat.le_of_ble_eq_true rfl) (mt_X7_byteAt _ _ _  hP) ?_
          intro r0 s0 hq0; obtain ⟨r176, h0, hs0, hP⟩ := hq0; subst h0; rw [hs0]
          show eX7_advance 179 [.ref (49), un] [.int (r176), .long (27 * (gL σ 49 13)), .ref (49)] σ _
          refine E_i2l dX7_advance_179 ?_
          refine E_ladd dX7_advance_180 ?_
          refine E_ldc2 (v := 96) dX7_advance_181 tw_628 ?_
          refine E_lsub dX7_advance_184 ?_
          refine E_goto 191 dX7_advance_185 (by decide) ?_
          refine E_putL (j := 13) dX7_advance_191 (show kd 49 = 7 by decide) (by decide) rfl fd_RX7_211 fp_7_13 ?_
          refine E_aload_n dX7_advance_194 rfl ?_
          refine E_dup dX7_advance_195 rfl ?_
          refine E_getI (j := 12) dX7_advance_196 (show kd 49 = 7 by decide) (by decide) rfl fd_RX7_193 ?_
          refine E_iconst (v := 1) dX7_advance_199 (by decide) ?_
          refine E_iadd dX7_advance_200 ?_
          refine E_putI (j := 12) dX7_advance_201 (show kd 49 = 7 by decide) (by decide) rfl fd_RX7_193 fp_7_12 ?_
          refine E_goto 126 dX7_advance_204 (by decide) ?_
          exact ih  _ hP
set_option maxRecDepth 20000 in
theorem ev_X7_advance_l207   (K : St → Prop) (Q : St → Prop) (hK : ∀  s, K  s → eX7_advance 280 [un, un] [] s (qV Q)) : ∀ (n : Nat)  (σ : St), P_X7_advance_l207  K Q n  σ → eX7_advance 207 [.ref (49), un] [] σ (qV Q) := by
  intro n
  induction n with
  | zero => intro  σ hP; exact hP.elim
  | succ n ih =>
    intro  σ hP
    rw [P_X7_advance_l207] at hP
    refine E_aload_n dX7_advance_207 rfl ?_
    refine E_getI (j := 10) dX7_advance_208 (show kd 49 = 7 by decide) (by decide) rfl fd_RX7_208 ?_
    refine E_iconst (v := 2) dX7_advance_211 (by decide) ?_
    refine E_icmp_ne 280 dX7_advance_212 (by decide) (fun hc => ?_) (fun hc => ?_)
    · replace hP := hP.1 hc
      refine E_mask [false, false] rfl ?_
      exact hK  _ hP
    · replace hP := hP.2 hc
      refine E_aload_n dX7_advance_215 rfl ?_
      refine E_aload_n dX7_advance_216 rfl ?_
      refine E_getI (j := 12) dX7_advance_217 (show kd 49 = 7 by decide) (by decide) rfl fd_RX7_193 ?_
      refine E_callV (As := [.int (gI σ 49 12)]) (rest := []) dX7_advance_220 cl_RX7_199 tw_621 (show kd 49 = 7 by decide) (by decide) rfl tw_622 ⟨rfl, rfl, Nat.le_of_ble_eq_true rfl, Nat.le_of_ble_eq_true rfl⟩ rfl rfl (Nat.le_of_ble_eq_true rfl) (mt_X7_byteAt _ _ _  hP) ?_
      intro r0 s0 hq0; obtain ⟨r220, h0, hs0, hP⟩ := hq0; subst h0; rw [hs0]
      show eX7_advance 223 [.ref (49), un] [.int (r220)] σ _
      refine E_callS (As := [.int (r220)]) (rest := []) dX7_advance_223 cl_RX7_205 tw_634 ⟨rfl, rfl, Nat.le_of_ble_eq_true rfl, Nat.le_of_ble_eq_true rfl⟩ rfl rfl (Nat.le_of_ble_eq_true rfl) (mt_X7_isDigit _ _ _  hP) ?_
      intro r0 s0 hq0; obtain ⟨r223, h0, hs0, hP⟩ := hq0; subst h0; rw [hs0]
      show eX7_advance 226 [.ref (49), un] [.int (bI r223)] σ _
      refine E_ifz_eq 280 dX7_advance_226 (by decide) (fun hc => ?_) (fun hc => ?_)
      · replace hP := hP.1 hc
        refine E_mask [false, false] rfl ?_
        exact hK  _ hP
      · replace hP := hP.2 hc
        refine E_aload_n dX7_advance_229 rfl ?_
        refine E_aload_n dX7_advance_230 rfl ?_
        refine E_getI (j := 14) dX7_advance_231 (show kd 49 = 7 by decide) (by decide) rfl fd_RX7_215 ?_
        refine E_bipush (v := 99) dX7_advance_234 (by decide) ?_
        refine E_icmp_le 245 dX7_advance_236 (by decide) (fun hc => ?_) (fun hc => ?_)
        · replace hP := hP.1 hc
          refine E_bipush (v := 10) dX7_advance_245 (by decide) ?_
          refine E_aload_n dX7_advance_247 rfl ?_
          refine E_getI (j := 14) dX7_advance_248 (show kd 49 = 7 by decide) (by decide) rfl fd_RX7_215 ?_
          refine E_imul dX7_advance_251 ?_
          refine E_aload_n dX7_advance_252 rfl ?_
          refine E_aload_n dX7_advance_253 rfl ?_
          refine E_getI (j := 12) dX7_advance_254 (show kd 49 = 7 by decide) (by decide) rfl fd_RX7_193 ?_
          refine E_callV (As := [.int (gI σ 49 12)]) (rest := [.int (10 * (gI σ 49 14)), .ref (49)]) dX7_advance_257 cl_RX7_199 tw_621 (show kd 49 = 7 by decide) (by decide) rfl tw_622 ⟨rfl, rfl, Nat.le_of_ble_eq_true rfl, Nat.le_of_ble_eq_true rfl⟩ rfl rfl (Nat.le_of_ble_eq_true rfl) (mt_X7_byteAt _ _ _  hP) ?_
          intro r0 s0 hq0; obtain ⟨r257, h0, hs0, hP⟩ := hq0; subst h0; rw [hs0]
          show eX7_advance 260 [.ref (49), un] [.int (r257), .int (10 * (gI σ 49 14)), .ref (49)] σ _
          refine E_iadd dX7_advance_260 ?_
          refine E_bipush (v := 48) dX7_advance_261 (by decide) ?_
          refine E_isub dX7_advance_263 ?_
          refine E_putI (j := 14) dX7_advance_264 (show kd 49 = 7 by decide) (by decide) rfl fd_RX7_215 fp_7_14 ?_
          refine E_aload_n dX7_advance_267 rfl ?_
          refine E_dup dX7_advance_268 rfl ?_
          refine E_getI (j := 12) dX7_advance_269 (show kd 49 = 7 by decide) (by decide) rfl fd_RX7_193 ?_
          refine E_iconst (v := 1) dX7_advance_272 (by decide) ?_
          refine E_iadd dX7_advance_273 ?_
          refine E_putI (j := 12) dX7_advance_274 (show kd 49 = 7 by decide) (by decide) rfl fd_RX7_193 fp_7_12 ?_
          refine E_goto 207 dX7_advance_277 (by decide) ?_
          exact ih  _ hP
        · replace hP := hP.2 hc
          refine E_sipush (v := 1000) dX7_advance_239 (by decide) ?_
          refine E_goto 264 dX7_advance_242 (by decide) ?_
          refine E_putI (j := 14) dX7_advance_264 (show kd 49 = 7 by decide) (by decide) rfl fd_RX7_215 fp_7_14 ?_
          refine E_aload_n dX7_advance_267 rfl ?_
          refine E_dup dX7_advance_268 rfl ?_
          refine E_getI (j := 12) dX7_advance_269 (show kd 49 = 7 by decide) (by decide) rfl fd_RX7_193 ?_
          refine E_iconst (v := 1) dX7_advance_272 (by decide) ?_
          refine E_iadd dX7_advance_273 ?_
          refine E_putI (j := 12) dX7_advance_274 (show kd 49 = 7 by decide) (by decide) rfl fd_RX7_193 fp_7_12 ?_
          refine E_goto 207 dX7_advance_277 (by decide) ?_
          exact ih  _ hP
set_option maxRecDepth 20000 in
theorem mt_X7_advance  (σ : St) (Q : St → Prop)  (hP : P_X7_advance  σ Q) : Mt yX7_advance cX7_advance 2 none rmX7_advance [.ref (49)] σ (qV Q) := by
  refine Mt.of (k := 1) (ls := [.ref (49), un]) (by decide +kernel) rfl (Nat.le_of_ble_eq_true rfl) ?_
  show eX7_advance 0 [.ref (49), un] [] σ _
  unfold P_X7_advance at hP
  refine E_aload_n dX7_advance_0 rfl ?_
  refine E_aload_n dX7_advance_1 rfl ?_
  refine E_getI (j := 12) dX7_advance_2 (show kd 49 = 7 by decide) (by decide) rfl fd_RX7_193 ?_
  refine E_putI (j := 11) dX7_advance_5 (show kd 49 = 7 by decide) (by decide) rfl fd_RX7_196 fp_7_11 ?_
  obtain ⟨m8, hP⟩ := hP
  refine ev_X7_advance_l8   _ Q ?_ m8  _ hP
  intro  t34 hP
  refine E_aload_n dX7_advance_34 rfl ?_
  refine E_aload_n dX7_advance_35 rfl ?_
  refine E_getI (j := 11) dX7_advance_36 (show kd 49 = 7 by decide) (by decide) rfl fd_RX7_196 ?_
  refine E_putI (j := 12) dX7_advance_39 (show kd 49 = 7 by decide) (by decide) rfl fd_RX7_193 fp_7_12 ?_
  refine E_nm (fun s39 hs39 => ?_)
  replace hP := hP s39 hs39
  refine E_aload_n dX7_advance_42 rfl ?_
  refine E_aload_n dX7_advance_43 rfl ?_
  refine E_getI (j := 11) dX7_advance_44 (show kd 49 = 7 by decide) (by decide) rfl fd_RX7_196 ?_
  refine E_callV (As := [.int (gI s39 49 11)]) (rest := []) dX7_advance_47 cl_RX7_199 tw_621 (show kd 49 = 7 by decide) (by decide) rfl tw_622 ⟨rfl, rfl, Nat.le_of_ble_eq_true rfl, Nat.le_of_ble_eq_true rfl⟩ rfl rfl (Nat.le_of_ble_eq_true rfl) (mt_X7_byteAt _ _ _  hP) ?_
  intro r0 s0 hq0; obtain ⟨r47, h0, hs0, hP⟩ := hq0; subst h0; rw [hs0]
  show eX7_advance 50 [.ref (49), un] [.int (r47)] s39 _
  refine E_istore_n (ls' := [.ref (49), .int (r47)]) dX7_advance_50 (by decide) rfl ?_
  refine E_aload_n dX7_advance_51 rfl ?_
  refine E_iload_n dX7_advance_52 rfl ?_
  refine E_if_ge 60 dX7_advance_53 (by decide) (fun hc => ?_) (fun hc => ?_)
  · replace hP := hP.1 hc
    refine E_iload_n dX7_advance_60 rfl ?_
    refine E_callS (As := [.int (r47)]) (rest := [.ref (49)]) dX7_advance_61 cl_RX7_202 tw_631 ⟨rfl, rfl, Nat.le_of_ble_eq_true rfl, Nat.le_of_ble_eq_true rfl⟩ rfl rfl (Nat.le_of_ble_eq_true rfl) (mt_X7_isLetter _ _ _  hP) ?_
    intro r0 s0 hq0; obtain ⟨r61, h0, hs0, hP⟩ := hq0; subst h0; rw [hs0]
    show eX7_advance 64 [.ref (49), .int (r47)] [.int (bI r61), .ref (49)] s39 _
    refine E_ifz_eq 71 dX7_advance_64 (by decide) (fun hc => ?_) (fun hc => ?_)
    · replace hP := hP.1 hc
      refine E_iload_n dX7_advance_71 rfl ?_
      refine E_callS (As := [.int (r47)]) (rest := [.ref (49)]) dX7_advance_72 cl_RX7_205 tw_634 ⟨rfl, rfl, Nat.le_of_ble_eq_true rfl, Nat.le_of_ble_eq_true rfl⟩ rfl rfl (Nat.le_of_ble_eq_true rfl) (mt_X7_isDigit _ _ _  hP) ?_
      intro r0 s0 hq0; obtain ⟨r72, h0, hs0, hP⟩ := hq0; subst h0; rw [hs0]
      show eX7_advance 75 [.ref (49), .int (r47)] [.int (bI r72), .ref (49)] s39 _
      refine E_ifz_eq 82 dX7_advance_75 (by decide) (fun hc => ?_) (fun hc => ?_)
      · replace hP := hP.1 hc
        refine E_iconst (v := 3) dX7_advance_82 (by decide) ?_
        refine E_putI (j := 10) dX7_advance_83 (show kd 49 = 7 by decide) (by decide) rfl fd_RX7_208 fp_7_10 ?_
        refine E_aload_n dX7_advance_86 rfl ?_
        refine E_lconst (v := 0) dX7_advance_87 (by decide) ?_
        refine E_putL (j := 13) dX7_advance_88 (show kd 49 = 7 by decide) (by decide) rfl fd_RX7_211 fp_7_13 ?_
        refine E_nm (fun s88 hs88 => ?_)
        replace hP := hP s88 hs88
        refine E_aload_n dX7_advance_91 rfl ?_
        refine E_aload_n dX7_advance_92 rfl ?_
        refine E_getI (j := 10) dX7_advance_93 (show kd 49 = 7 by decide) (by decide) rfl fd_RX7_208 ?_
        refine E_iconst (v := 2) dX7_advance_96 (by decide) ?_
        refine E_icmp_ne 104 dX7_advance_97 (by decide) (fun hc => ?_) (fun hc => ?_)
        · replace hP := hP.1 hc
          refine E_iload_n dX7_advance_104 rfl ?_
          refine E_putI (j := 14) dX7_advance_105 (show kd 49 = 7 by decide) (by decide) rfl fd_RX7_215 fp_7_14 ?_
          refine E_nm (fun s105 hs105 => ?_)
          replace hP := hP s105 hs105
          refine E_aload_n dX7_advance_108 rfl ?_
          refine E_getI (j := 10) dX7_advance_109 (show kd 49 = 7 by decide) (by decide) rfl fd_RX7_208 ?_
          refine E_iconst (v := 3) dX7_advance_112 (by decide) ?_
          refine E_icmp_ne 126 dX7_advance_113 (by decide) (fun hc => ?_) (fun hc => ?_)
          · replace hP := hP.1 hc
            refine E_mask [true, false] rfl ?_
            obtain ⟨m126, hP⟩ := hP
            refine ev_X7_advance_l126   _ Q ?_ m126  _ hP
            intro  t207 hP
            obtain ⟨m207, hP⟩ := hP
            refine ev_X7_advance_l207   _ Q ?_ m207  _ hP
            intro  t280 hP
            exact E_vret dX7_advance_280 rfl ⟨rfl, hP⟩
          · replace hP := hP.2 hc
            refine E_aload_n dX7_advance_116 rfl ?_
            refine E_dup dX7_advance_117 rfl ?_
            refine E_getI (j := 12) dX7_advance_118 (show kd 49 = 7 by decide) (by decide) rfl fd_RX7_193 ?_
            refine E_iconst (v := 1) dX7_advance_121 (by decide) ?_
            refine E_iadd dX7_advance_122 ?_
            refine E_putI (j := 12) dX7_advance_123 (show kd 49 = 7 by decide) (by decide) rfl fd_RX7_193 fp_7_12 ?_
            refine E_mask [true, false] rfl ?_
            obtain ⟨m126, hP⟩ := hP
            refine ev_X7_advance_l126   _ Q ?_ m126  _ hP
            intro  t207 hP
            obtain ⟨m207, hP⟩ := hP
            refine ev_X7_advance_l207   _ Q ?_ m207  _ hP
            intro  t280 hP
            exact E_vret dX7_advance_280 rfl ⟨rfl, hP⟩
        · replace hP := hP.2 hc
          refine E_iconst (v := 0) dX7_advance_100 (by decide) ?_
          refine E_goto 105 dX7_advance_101 (by decide) ?_
          refine E_putI (j := 14) dX7_advance_105 (show kd 49 = 7 by decide) (by decide) rfl fd_RX7_215 fp_7_14 ?_
          refine E_nm (fun s105 hs105 => ?_)
          replace hP := hP s105 hs105
          refine E_aload_n dX7_advance_108 rfl ?_
          refine E_getI (j := 10) dX7_advance_109 (show kd 49 = 7 by decide) (by decide) rfl fd_RX7_208 ?_
          refine E_iconst (v := 3) dX7_advance_112 (by decide) ?_
          refine E_icmp_ne 126 dX7_advance_113 (by decide) (fun hc => ?_) (fun hc => ?_)
          · replace hP := hP.1 hc
            refine E_mask [true, false] rfl ?_
            obtain ⟨m126, hP⟩ := hP
            refine ev_X7_advance_l126   _ Q ?_ m126  _ hP
            intro  t207 hP
            obtain ⟨m207, hP⟩ := hP
            refine ev_X7_advance_l207   _ Q ?_ m207  _ hP
            intro  t280 hP
            exact E_vret dX7_advance_280 rfl ⟨rfl, hP⟩
          · replace hP := hP.2 hc
            refine E_aload_n dX7_advance_116 rfl ?_
            refine E_dup dX7_advance_117 rfl ?_
            refine E_getI (j := 12) dX7_advance_118 (show kd 49 = 7 by decide) (by decide) rfl fd_RX7_193 ?_
            refine E_iconst (v := 1) dX7_advance_121 (by decide) ?_
            refine E_iadd dX7_advance_122 ?_
            refine E_putI (j := 12) dX7_advance_123 (show kd 49 = 7 by decide) (by decide) rfl fd_RX7_193 fp_7_12 ?_
            refine E_mask [true, false] rfl ?_
            obtain ⟨m126, hP⟩ := hP
            refine ev_X7_advance_l126   _ Q ?_ m126  _ hP
            intro  t207 hP
            obtain ⟨m207, hP⟩ := hP
            refine ev_X7_advance_l207   _ Q ?_ m207  _ hP
            intro  t280 hP
            exact E_vret dX7_advance_280 rfl ⟨rfl, hP⟩
      · replace hP := hP.2 hc
        refine E_iconst (v := 2) dX7_advance_78 (by decide) ?_
        refine E_goto 83 dX7_advance_79 (by decide) ?_
        refine E_putI (j := 10) dX7_advance_83 (show kd 49 = 7 by decide) (by decide) rfl fd_RX7_208 fp_7_10 ?_
        refine E_aload_n dX7_advance_86 rfl ?_
        refine E_lconst (v := 0) dX7_advance_87 (by decide) ?_
        refine E_putL (j := 13) dX7_advance_88 (show kd 49 = 7 by decide) (by decide) rfl fd_RX7_211 fp_7_13 ?_
        refine E_nm (fun s88 hs88 => ?_)
        replace hP := hP s88 hs88
        refine E_aload_n dX7_advance_91 rfl ?_
        refine E_aload_n dX7_advance_92 rfl ?_
        refine E_getI (j := 10) dX7_advance_93 (show kd 49 = 7 by decide) (by decide) rfl fd_RX7_208 ?_
        refine E_iconst (v := 2) dX7_advance_96 (by decide) ?_
        refine E_icmp_ne 104 dX7_advance_97 (by decide) (fun hc => ?_) (fun hc => ?_)
        · replace hP := hP.1 hc
          refine E_iload_n dX7_advance_104 rfl ?_
          refine E_putI (j := 14) dX7_advance_105 (show kd 49 = 7 by decide) (by decide) rfl fd_RX7_215 fp_7_14 ?_
          refine E_nm (fun s105 hs105 => ?_)
          replace hP := hP s105 hs105
          refine E_aload_n dX7_advance_108 rfl ?_
          refine E_getI (j := 10) dX7_advance_109 (show kd 49 = 7 by decide) (by decide) rfl fd_RX7_208 ?_
          refine E_iconst (v := 3) dX7_advance_112 (by decide) ?_
          refine E_icmp_ne 126 dX7_advance_113 (by decide) (fun hc => ?_) (fun hc => ?_)
          · replace hP := hP.1 hc
            refine E_mask [true, false] rfl ?_
            obtain ⟨m126, hP⟩ := hP
            refine ev_X7_advance_l126   _ Q ?_ m126  _ hP
            intro  t207 hP
            obtain ⟨m207, hP⟩ := hP
            refine ev_X7_advance_l207   _ Q ?_ m207  _ hP
            intro  t280 hP
            exact E_vret dX7_advance_280 rfl ⟨rfl, hP⟩
          · replace hP := hP.2 hc
            refine E_aload_n dX7_advance_116 rfl ?_
            refine E_dup dX7_advance_117 rfl ?_
            refine E_getI (j := 12) dX7_advance_118 (show kd 49 = 7 by decide) (by decide) rfl fd_RX7_193 ?_
            refine E_iconst (v := 1) dX7_advance_121 (by decide) ?_
            refine E_iadd dX7_advance_122 ?_
            refine E_putI (j := 12) dX7_advance_123 (show kd 49 = 7 by decide) (by decide) rfl fd_RX7_193 fp_7_12 ?_
            refine E_mask [true, false] rfl ?_
            obtain ⟨m126, hP⟩ := hP
            refine ev_X7_advance_l126   _ Q ?_ m126  _ hP
            intro  t207 hP
            obtain ⟨m207, hP⟩ := hP
            refine ev_X7_advance_l207   _ Q ?_ m207  _ hP
            intro  t280 hP
            exact E_vret dX7_advance_280 rfl ⟨rfl, hP⟩
        · replace hP := hP.2 hc
          refine E_iconst (v := 0) dX7_advance_100 (by decide) ?_
          refine E_goto 105 dX7_advance_101 (by decide) ?_
          refine E_putI (j := 14) dX7_advance_105 (show kd 49 = 7 by decide) (by decide) rfl fd_RX7_215 fp_7_14 ?_
          refine E_nm (fun s105 hs105 => ?_)
          replace hP := hP s105 hs105
          refine E_aload_n dX7_advance_108 rfl ?_
          refine E_getI (j := 10) dX7_advance_109 (show kd 49 = 7 by decide) (by decide) rfl fd_RX7_208 ?_
          refine E_iconst (v := 3) dX7_advance_112 (by decide) ?_
          refine E_icmp_ne 126 dX7_advance_113 (by decide) (fun hc => ?_) (fun hc => ?_)
          · replace hP := hP.1 hc
            refine E_mask [true, false] rfl ?_
            obtain ⟨m126, hP⟩ := hP
            refine ev_X7_advance_l126   _ Q ?_ m126  _ hP
            intro  t207 hP
            obtain ⟨m207, hP⟩ := hP
            refine ev_X7_advance_l207   _ Q ?_ m207  _ hP
            intro  t280 hP
            exact E_vret dX7_advance_280 rfl ⟨rfl, hP⟩
          · replace hP := hP.2 hc
            refine E_aload_n dX7_advance_116 rfl ?_
            refine E_dup dX7_advance_117 rfl ?_
            refine E_getI (j := 12) dX7_advance_118 (show kd 49 = 7 by decide) (by decide) rfl fd_RX7_193 ?_
            refine E_iconst (v := 1) dX7_advance_121 (by decide) ?_
            refine E_iadd dX7_advance_122 ?_
            refine E_putI (j := 12) dX7_advance_123 (show kd 49 = 7 by decide) (by decide) rfl fd_RX7_193 fp_7_12 ?_
            refine E_mask [true, false] rfl ?_
            obtain ⟨m126, hP⟩ := hP
            refine ev_X7_advance_l126   _ Q ?_ m126  _ hP
            intro  t207 hP
            obtain ⟨m207, hP⟩ := hP
            refine ev_X7_advance_l207   _ Q ?_ m207  _ hP
            intro  t280 hP
            exact E_vret dX7_advance_280 rfl ⟨rfl, hP⟩
    · replace hP := hP.2 hc
      refine E_iconst (v := 1) dX7_advance_67 (by decide) ?_
      refine E_goto 83 dX7_advance_68 (by decide) ?_
      refine E_putI (j := 10) dX7_advance_83 (show kd 49 = 7 by decide) (by decide) rfl fd_RX7_208 fp_7_10 ?_
      refine E_aload_n dX7_advance_86 rfl ?_
      refine E_lconst (v := 0) dX7_advance_87 (by decide) ?_
      refine E_putL (j := 13) dX7_advance_88 (show kd 49 = 7 by decide) (by decide) rfl fd_RX7_211 fp_7_13 ?_
      refine E_nm (fun s88 hs88 => ?_)
      replace hP := hP s88 hs88
      refine E_aload_n dX7_advance_91 rfl ?_
      refine E_aload_n dX7_advance_92 rfl ?_
      refine E_getI (j := 10) dX7_advance_93 (show kd 49 = 7 by decide) (by decide) rfl fd_RX7_208 ?_
      refine E_iconst (v := 2) dX7_advance_96 (by decide) ?_
      refine E_icmp_ne 104 dX7_advance_97 (by decide) (fun hc => ?_) (fun hc => ?_)
      · replace hP := hP.1 hc
        refine E_iload_n dX7_advance_104 rfl ?_
        refine E_putI (j := 14) dX7_advance_105 (show kd 49 = 7 by decide) (by decide) rfl fd_RX7_215 fp_7_14 ?_
        refine E_nm (fun s105 hs105 => ?_)
        replace hP := hP s105 hs105
        refine E_aload_n dX7_advance_108 rfl ?_
        refine E_getI (j := 10) dX7_advance_109 (show kd 49 = 7 by decide) (by decide) rfl fd_RX7_208 ?_
        refine E_iconst (v := 3) dX7_advance_112 (by decide) ?_
        refine E_icmp_ne 126 dX7_advance_113 (by decide) (fun hc => ?_) (fun hc => ?_)
        · replace hP := hP.1 hc
          refine E_mask [true, false] rfl ?_
          obtain ⟨m126, hP⟩ := hP
          refine ev_X7_advance_l126   _ Q ?_ m126  _ hP
          intro  t207 hP
          obtain ⟨m207, hP⟩ := hP
          refine ev_X7_advance_l207   _ Q ?_ m207  _ hP
          intro  t280 hP
          exact E_vret dX7_advance_280 rfl ⟨rfl, hP⟩
        · replace hP := hP.2 hc
          refine E_aload_n dX7_advance_116 rfl ?_
          refine E_dup dX7_advance_117 rfl ?_
          refine E_getI (j := 12) dX7_advance_118 (show kd 49 = 7 by decide) (by decide) rfl fd_RX7_193 ?_
          refine E_iconst (v := 1) dX7_advance_121 (by decide) ?_
          refine E_iadd dX7_advance_122 ?_
          refine E_putI (j := 12) dX7_advance_123 (show kd 49 = 7 by decide) (by decide) rfl fd_RX7_193 fp_7_12 ?_
          refine E_mask [true, false] rfl ?_
          obtain ⟨m126, hP⟩ := hP
          refine ev_X7_advance_l126   _ Q ?_ m126  _ hP
          intro  t207 hP
          obtain ⟨m207, hP⟩ := hP
          refine ev_X7_advance_l207   _ Q ?_ m207  _ hP
          intro  t280 hP
          exact E_vret dX7_advance_280 rfl ⟨rfl, hP⟩
      · replace hP := hP.2 hc
        refine E_iconst (v := 0) dX7_advance_100 (by decide) ?_
        refine E_goto 105 dX7_advance_101 (by decide) ?_
        refine E_putI (j := 14) dX7_advance_105 (show kd 49 = 7 by decide) (by decide) rfl fd_RX7_215 fp_7_14 ?_
        refine E_nm (fun s105 hs105 => ?_)
        replace hP := hP s105 hs105
        refine E_aload_n dX7_advance_108 rfl ?_
        refine E_getI (j := 10) dX7_advance_109 (show kd 49 = 7 by decide) (by decide) rfl fd_RX7_208 ?_
        refine E_iconst (v := 3) dX7_advance_112 (by decide) ?_
        refine E_icmp_ne 126 dX7_advance_113 (by decide) (fun hc => ?_) (fun hc => ?_)
        · replace hP := hP.1 hc
          refine E_mask [true, false] rfl ?_
          obtain ⟨m126, hP⟩ := hP
          refine ev_X7_advance_l126   _ Q ?_ m126  _ hP
          intro  t207 hP
          obtain ⟨m207, hP⟩ := hP
          refine ev_X7_advance_l207   _ Q ?_ m207  _ hP
          intro  t280 hP
          exact E_vret dX7_advance_280 rfl ⟨rfl, hP⟩
        · replace hP := hP.2 hc
          refine E_aload_n dX7_advance_116 rfl ?_
          refine E_dup dX7_advance_117 rfl ?_
          refine E_getI (j := 12) dX7_advance_118 (show kd 49 = 7 by decide) (by decide) rfl fd_RX7_193 ?_
          refine E_iconst (v := 1) dX7_advance_121 (by decide) ?_
          refine E_iadd dX7_advance_122 ?_
          refine E_putI (j := 12) dX7_advance_123 (show kd 49 = 7 by decide) (by decide) rfl fd_RX7_193 fp_7_12 ?_
          refine E_mask [true, false] rfl ?_
          obtain ⟨m126, hP⟩ := hP
          refine ev_X7_advance_l126   _ Q ?_ m126  _ hP
          intro  t207 hP
          obtain ⟨m207, hP⟩ := hP
          refine ev_X7_advance_l207   _ Q ?_ m207  _ hP
          intro  t280 hP
          exact E_vret dX7_advance_280 rfl ⟨rfl, hP⟩
  · replace hP := hP.2 hc
    refine E_iconst (v := 0) dX7_advance_56 (by decide) ?_
    refine E_goto 83 dX7_advance_57 (by decide) ?_
    refine E_putI (j := 10) dX7_advance_83 (show kd 49 = 7 by decide) (by decide) rfl fd_RX7_208 fp_7_10 ?_
    refine E_aload_n dX7_advance_86 rfl ?_
    refine E_lconst (v := 0) dX7_advance_87 (by decide) ?_
    refine E_putL (j := 13) dX7_advance_88 (show kd 49 = 7 by decide) (by decide) rfl fd_RX7_211 fp_7_13 ?_
    refine E_nm (fun s88 hs88 => ?_)
    replace hP := hP s88 hs88
    refine E_aload_n dX7_advance_91 rfl ?_
    refine E_aload_n dX7_advance_92 rfl ?_
    refine E_getI (j := 10) dX7_advance_93 (show kd 49 = 7 by decide) (by decide) rfl fd_RX7_208 ?_
    refine E_iconst (v := 2) dX7_advance_96 (by decide) ?_
    refine E_icmp_ne 104 dX7_advance_97 (by decide) (fun hc => ?_) (fun hc => ?_)
    · replace hP := hP.1 hc
      refine E_iload_n dX7_advance_104 rfl ?_
      refine E_putI (j := 14) dX7_advance_105 (show kd 49 = 7 by decide) (by decide) rfl fd_RX7_215 fp_7_14 ?_
      refine E_nm (fun s105 hs105 => ?_)
      replace hP := hP s105 hs105
      refine E_aload_n dX7_advance_108 rfl ?_
      refine E_getI (j := 10) dX7_advance_109 (show kd 49 = 7 by decide) (by decide) rfl fd_RX7_208 ?_
      refine E_iconst (v := 3) dX7_advance_112 (by decide) ?_
      refine E_icmp_ne 126 dX7_advance_113 (by decide) (fun hc => ?_) (fun hc => ?_)
      · replace hP := hP.1 hc
        refine E_mask [true, false] rfl ?_
        obtain ⟨m126, hP⟩ := hP
        refine ev_X7_advance_l126   _ Q ?_ m126  _ hP
        intro  t207 hP
        obtain ⟨m207, hP⟩ := hP
        refine ev_X7_advance_l207   _ Q ?_ m207  _ hP
        intro  t280 hP
        exact E_vret dX7_advance_280 rfl ⟨rfl, hP⟩
      · replace hP := hP.2 hc
        refine E_aload_n dX7_advance_116 rfl ?_
        refine E_dup dX7_advance_117 rfl ?_
        refine E_getI (j := 12) dX7_advance_118 (show kd 49 = 7 by decide) (by decide) rfl fd_RX7_193 ?_
        refine E_iconst (v := 1) dX7_advance_121 (by decide) ?_
        refine E_iadd dX7_advance_122 ?_
        refine E_putI (j := 12) dX7_advance_123 (show kd 49 = 7 by decide) (by decide) rfl fd_RX7_193 fp_7_12 ?_
        refine E_mask [true, false] rfl ?_
        obtain ⟨m126, hP⟩ := hP
        refine ev_X7_advance_l126   _ Q ?_ m126  _ hP
        intro  t207 hP
        obtain ⟨m207, hP⟩ := hP
        refine ev_X7_advance_l207   _ Q ?_ m207  _ hP
        intro  t280 hP
        exact E_vret dX7_advance_280 rfl ⟨rfl, hP⟩
    · replace hP := hP.2 hc
      refine E_iconst (v := 0) dX7_advance_100 (by decide) ?_
      refine E_goto 105 dX7_advance_101 (by decide) ?_
      refine E_putI (j := 14) dX7_advance_105 (show kd 49 = 7 by decide) (by decide) rfl fd_RX7_215 fp_7_14 ?_
      refine E_nm (fun s105 hs105 => ?_)
      replace hP := hP s105 hs105
      refine E_aload_n dX7_advance_108 rfl ?_
      refine E_getI (j := 10) dX7_advance_109 (show kd 49 = 7 by decide) (by decide) rfl fd_RX7_208 ?_
      refine E_iconst (v := 3) dX7_advance_112 (by decide) ?_
      refine E_icmp_ne 126 dX7_advance_113 (by decide) (fun hc => ?_) (fun hc => ?_)
      · replace hP := hP.1 hc
        refine E_mask [true, false] rfl ?_
        obtain ⟨m126, hP⟩ := hP
        refine ev_X7_advance_l126   _ Q ?_ m126  _ hP
        intro  t207 hP
        obtain ⟨m207, hP⟩ := hP
        refine ev_X7_advance_l207   _ Q ?_ m207  _ hP
        intro  t280 hP
        exact E_vret dX7_advance_280 rfl ⟨rfl, hP⟩
      · replace hP := hP.2 hc
        refine E_aload_n dX7_advance_116 rfl ?_
        refine E_dup dX7_advance_117 rfl ?_
        refine E_getI (j := 12) dX7_advance_118 (show kd 49 = 7 by decide) (by decide) rfl fd_RX7_193 ?_
        refine E_iconst (v := 1) dX7_advance_121 (by decide) ?_
        refine E_iadd dX7_advance_122 ?_
        refine E_putI (j := 12) dX7_advance_123 (show kd 49 = 7 by decide) (by decide) rfl fd_RX7_193 fp_7_12 ?_
        refine E_mask [true, false] rfl ?_
        obtain ⟨m126, hP⟩ := hP
        refine ev_X7_advance_l126   _ Q ?_ m126  _ hP
        intro  t207 hP
        obtain ⟨m207, hP⟩ := hP
        refine ev_X7_advance_l207   _ Q ?_ m207  _ hP
        intro  t280 hP
        exact E_vret dX7_advance_280 rfl ⟨rfl, hP⟩
theorem dX7_isWord_0 : decode cX7_isWord 0 = .ok (.aload_n 0, 1) := by decide +kernel
theorem dX7_isWord_1 : decode cX7_isWord 1 = .ok (.getfield 208, 3) := by decide +kernel
theorem dX7_isWord_4 : decode cX7_isWord 4 = .ok (.iconst 1, 1) := by decide +kernel
theorem dX7_isWord_5 : decode cX7_isWord 5 = .ok (.if_icmp .ne 16, 3) := by decide +kernel
theorem dX7_isWord_8 : decode cX7_isWord 8 = .ok (.aload_n 0, 1) := by decide +kernel
theorem dX7_isWord_9 : decode cX7_isWord 9 = .ok (.getfield 211, 3) := by decide +kernel
theorem dX7_isWord_12 : decode cX7_isWord 12 = .ok (.lload_n 1, 1) := by decide +kernel
theorem dX7_isWord_13 : decode cX7_isWord 13 = .ok (.lcmp, 1) := by decide +kernel
theorem dX7_isWord_14 : decode cX7_isWord 14 = .ok (.ifCond .ne 7, 3) := by decide +kernel
theorem dX7_isWord_17 : decode cX7_isWord 17 = .ok (.iconst 1, 1) := by decide +kernel
theorem dX7_isWord_18 : decode cX7_isWord 18 = .ok (.goto 4, 3) := by decide +kernel
theorem dX7_isWord_21 : decode cX7_isWord 21 = .ok (.iconst 0, 1) := by decide +kernel
theorem dX7_isWord_22 : decode cX7_isWord 22 = .ok (.ireturn, 1) := by decide +kernel
def rmX7_isWord : Room := { frames := 0, cells := 0, slots := 0, locals := 0 }
abbrev eX7_isWord := Ev cX7_isWord 3 (some .boolean) RX7 rmX7_isWord
set_option maxRecDepth 20000 in
theorem mt_X7_isWord (p0 : Int64) (σ : St) (Q : Bool → Prop)  (hP : P_X7_isWord p0 σ Q) : Mt yX7_isWord cX7_isWord 3 (some .boolean) rmX7_isWord [.ref (49), .long (p0)] σ (qB fun x s => s = σ ∧ Q x) := by
  refine Mt.of (k := 0) (ls := [.ref (49), .long (p0), un]) (by decide +kernel) rfl (Nat.le_of_ble_eq_true rfl) ?_
  show eX7_isWord 0 [.ref (49), .long (p0), un] [] σ _
  unfold P_X7_isWord at hP
  refine E_aload_n dX7_isWord_0 rfl ?_
  refine E_getI (j := 10) dX7_isWord_1 (show kd 49 = 7 by decide) (by decide) rfl fd_RX7_208 ?_
  refine E_iconst (v := 1) dX7_isWord_4 (by decide) ?_
  refine E_icmp_ne 21 dX7_isWord_5 (by decide) (fun hc => ?_) (fun hc => ?_)
  · replace hP := hP.1 hc
    refine E_iconst (v := 0) dX7_isWord_21 (by decide) ?_
    exact E_nret dX7_isWord_22 rfl (nar_b false) ⟨false, rfl, rfl, hP⟩
  · replace hP := hP.2 hc
    refine E_aload_n dX7_isWord_8 rfl ?_
    refine E_getL (j := 13) dX7_isWord_9 (show kd 49 = 7 by decide) (by decide) rfl fd_RX7_211 ?_
    refine E_lload_n dX7_isWord_12 rfl ?_
    refine E_lcmp dX7_isWord_13 ?_
    refine E_if_ne 21 dX7_isWord_14 (by decide) (fun hc => ?_) (fun hc => ?_)
    · replace hP := hP.1 hc
      refine E_iconst (v := 0) dX7_isWord_21 (by decide) ?_
      exact E_nret dX7_isWord_22 rfl (nar_b false) ⟨false, rfl, rfl, hP⟩
    · replace hP := hP.2 hc
      refine E_iconst (v := 1) dX7_isWord_17 (by decide) ?_
      refine E_goto 22 dX7_isWord_18 (by decide) ?_
      exact E_nret dX7_isWord_22 rfl (nar_b true) ⟨true, rfl, rfl, hP⟩
theorem dX7_kindHere_0 : decode cX7_kindHere 0 = .ok (.aload_n 0, 1) := by decide +kernel
theorem dX7_kindHere_1 : decode cX7_kindHere 1 = .ok (.ldc2_w 224, 3) := by decide +kernel
theorem dX7_kindHere_4 : decode cX7_kindHere 4 = .ok (.invokevirtual 226, 3) := by decide +kernel
theorem dX7_kindHere_7 : decode cX7_kindHere 7 = .ok (.ifCond .eq 7, 3) := by decide +kernel
theorem dX7_kindHere_10 : decode cX7_kindHere 10 = .ok (.iconst 0, 1) := by decide +kernel
theorem dX7_kindHere_11 : decode cX7_kindHere 11 = .ok (.goto 74, 3) := by decide +kernel
theorem dX7_kindHere_14 : decode cX7_kindHere 14 = .ok (.aload_n 0, 1) := by decide +kernel
theorem dX7_kindHere_15 : decode cX7_kindHere 15 = .ok (.ldc2_w 230, 3) := by decide +kernel
theorem dX7_kindHere_18 : decode cX7_kindHere 18 = .ok (.invokevirtual 226, 3) := by decide +kernel
theorem dX7_kindHere_21 : decode cX7_kindHere 21 = .ok (.ifCond .eq 7, 3) := by decide +kernel
theorem dX7_kindHere_24 : decode cX7_kindHere 24 = .ok (.iconst 1, 1) := by decide +kernel
theorem dX7_kindHere_25 : decode cX7_kindHere 25 = .ok (.goto 60, 3) := by decide +kernel
theorem dX7_kindHere_28 : decode cX7_kindHere 28 = .ok (.aload_n 0, 1) := by decide +kernel
theorem dX7_kindHere_29 : decode cX7_kindHere 29 = .ok (.ldc2_w 232, 3) := by decide +kernel
theorem dX7_kindHere_32 : decode cX7_kindHere 32 = .ok (.invokevirtual 226, 3) := by decide +kernel
theorem dX7_kindHere_35 : decode cX7_kindHere 35 = .ok (.ifCond .eq 7, 3) := by decide +kernel
theorem dX7_kindHere_38 : decode cX7_kindHere 38 = .ok (.iconst 2, 1) := by decide +kernel
theorem dX7_kindHere_39 : decode cX7_kindHere 39 = .ok (.goto 46, 3) := by decide +kernel
theorem dX7_kindHere_42 : decode cX7_kindHere 42 = .ok (.aload_n 0, 1) := by decide +kernel
theorem dX7_kindHere_43 : decode cX7_kindHere 43 = .ok (.ldc2_w 234, 3) := by decide +kernel
theorem dX7_kindHere_46 : decode cX7_kindHere 46 = .ok (.invokevirtual 226, 3) := by decide +kernel
theorem dX7_kindHere_49 : decode cX7_kindHere 49 = .ok (.ifCond .eq 7, 3) := by decide +kernel
theorem dX7_kindHere_52 : decode cX7_kindHere 52 = .ok (.iconst 3, 1) := by decide +kernel
theorem dX7_kindHere_53 : decode cX7_kindHere 53 = .ok (.goto 32, 3) := by decide +kernel
theorem dX7_kindHere_56 : decode cX7_kindHere 56 = .ok (.aload_n 0, 1) := by decide +kernel
theorem dX7_kindHere_57 : decode cX7_kindHere 57 = .ok (.ldc2_w 236, 3) := by decide +kernel
theorem dX7_kindHere_60 : decode cX7_kindHere 60 = .ok (.invokevirtual 226, 3) := by decide +kernel
theorem dX7_kindHere_63 : decode cX7_kindHere 63 = .ok (.ifCond .eq 7, 3) := by decide +kernel
theorem dX7_kindHere_66 : decode cX7_kindHere 66 = .ok (.iconst 4, 1) := by decide +kernel
theorem dX7_kindHere_67 : decode cX7_kindHere 67 = .ok (.goto 18, 3) := by decide +kernel
theorem dX7_kindHere_70 : decode cX7_kindHere 70 = .ok (.aload_n 0, 1) := by decide +kernel
theorem dX7_kindHere_71 : decode cX7_kindHere 71 = .ok (.ldc2_w 238, 3) := by decide +kernel
theorem dX7_kindHere_74 : decode cX7_kindHere 74 = .ok (.invokevirtual 226, 3) := by decide +kernel
theorem dX7_kindHere_77 : decode cX7_kindHere 77 = .ok (.ifCond .eq 7, 3) := by decide +kernel
theorem dX7_kindHere_80 : decode cX7_kindHere 80 = .ok (.iconst 5, 1) := by decide +kernel
theorem dX7_kindHere_81 : decode cX7_kindHere 81 = .ok (.goto 4, 3) := by decide +kernel
theorem dX7_kindHere_84 : decode cX7_kindHere 84 = .ok (.iconst (-1), 1) := by decide +kernel
theorem dX7_kindHere_85 : decode cX7_kindHere 85 = .ok (.ireturn, 1) := by decide +kernel
def rmX7_kindHere : Room := { frames := 1, cells := 0, slots := 0, locals := 22 }
abbrev eX7_kindHere := Ev cX7_kindHere 1 (some .int) RX7 rmX7_kindHere
set_option maxRecDepth 20000 in
theorem mt_X7_kindHere  (σ : St) (Q : Int32 → Prop)  (hP : P_X7_kindHere  σ Q) : Mt yX7_kindHere cX7_kindHere 1 (some .int) rmX7_kindHere [.ref (49)] σ (qI fun x s => s = σ ∧ Q x) := by
  refine Mt.of (k := 0) (ls := [.ref (49)]) (by decide +kernel) rfl (Nat.le_of_ble_eq_true rfl) ?_
  show eX7_kindHere 0 [.ref (49)] [] σ _
  unfold P_X7_kindHere at hP
  refine E_aload_n dX7_kindHere_0 rfl ?_
  refine E_ldc2 (v := 10502357) dX7_kindHere_1 tw_635 ?_
  refine E_callV (As := [.long (10502357)]) (rest := []) dX7_kindHere_4 cl_RX7_226 tw_643 (show kd 49 = 7 by decide) (by decide) rfl tw_644 ⟨rfl, rfl, Nat.le_of_ble_eq_true rfl, Nat.le_of_ble_eq_true rfl⟩ rfl rfl (Nat.le_of_ble_eq_true rfl) (mt_X7_isWord _ _ _  hP) ?_
  intro r0 s0 hq0; obtain ⟨r4, h0, hs0, hP⟩ := hq0; subst h0; rw [hs0]
  show eX7_kindHere 7 [.ref (49)] [.int (bI r4)] σ _
  refine E_ifz_eq 14 dX7_kindHere_7 (by decide) (fun hc => ?_) (fun hc => ?_)
  · replace hP := hP.1 hc
    refine E_aload_n dX7_kindHere_14 rfl ?_
    refine E_ldc2 (v := 8179) dX7_kindHere_15 tw_636 ?_
    refine E_callV (As := [.long (8179)]) (rest := []) dX7_kindHere_18 cl_RX7_226 tw_643 (show kd 49 = 7 by decide) (by decide) rfl tw_644 ⟨rfl, rfl, Nat.le_of_ble_eq_true rfl, Nat.le_of_ble_eq_true rfl⟩ rfl rfl (Nat.le_of_ble_eq_true rfl) (mt_X7_isWord _ _ _  hP) ?_
    intro r0 s0 hq0; obtain ⟨r18, h0, hs0, hP⟩ := hq0; subst h0; rw [hs0]
    show eX7_kindHere 21 [.ref (49)] [.int (bI r18)] σ _
    refine E_ifz_eq 28 dX7_kindHere_21 (by decide) (fun hc => ?_) (fun hc => ?_)
    · replace hP := hP.1 hc
      refine E_aload_n dX7_kindHere_28 rfl ?_
      refine E_ldc2 (v := 266660330) dX7_kindHere_29 tw_637 ?_
      refine E_callV (As := [.long (266660330)]) (rest := []) dX7_kindHere_32 cl_RX7_226 tw_643 (show kd 49 = 7 by decide) (by decide) rfl tw_644 ⟨rfl, rfl, Nat.le_of_ble_eq_true rfl, Nat.le_of_ble_eq_true rfl⟩ rfl rfl (Nat.le_of_ble_eq_true rfl) (mt_X7_isWord _ _ _  hP) ?_
      intro r0 s0 hq0; obtain ⟨r32, h0, hs0, hP⟩ := hq0; subst h0; rw [hs0]
      show eX7_kindHere 35 [.ref (49)] [.int (bI r32)] σ _
      refine E_ifz_eq 42 dX7_kindHere_35 (by decide) (fun hc => ?_) (fun hc => ?_)
      · replace hP := hP.1 hc
        refine E_aload_n dX7_kindHere_42 rfl ?_
        refine E_ldc2 (v := 7873077725) dX7_kindHere_43 tw_638 ?_
        refine E_callV (As := [.long (7873077725)]) (rest := []) dX7_kindHere_46 cl_RX7_226 tw_643 (show kd 49 = 7 by decide) (by decide) rfl tw_644 ⟨rfl, rfl, Nat.le_of_ble_eq_true rfl, Nat.le_of_ble_eq_true rfl⟩ rfl rfl (Nat.le_of_ble_eq_true rfl) (mt_X7_isWord _ _ _  hP) ?_
        intro r0 s0 hq0; obtain ⟨r46, h0, hs0, hP⟩ := hq0; subst h0; rw [hs0]
        show eX7_kindHere 49 [.ref (49)] [.int (bI r46)] σ _
        refine E_ifz_eq 56 dX7_kindHere_49 (by decide) (fun hc => ?_) (fun hc => ?_)
        · replace hP := hP.1 hc
          refine E_aload_n dX7_kindHere_56 rfl ?_
          refine E_ldc2 (v := 43948633) dX7_kindHere_57 tw_639 ?_
          refine E_callV (As := [.long (43948633)]) (rest := []) dX7_kindHere_60 cl_RX7_226 tw_643 (show kd 49 = 7 by decide) (by decide) rfl tw_644 ⟨rfl, rfl, Nat.le_of_ble_eq_true rfl, Nat.le_of_ble_eq_true rfl⟩ rfl rfl (Nat.le_of_ble_eq_true rfl) (mt_X7_isWord _ _ _  hP) ?_
          intro r0 s0 hq0; obtain ⟨r60, h0, hs0, hP⟩ := hq0; subst h0; rw [hs0]
          show eX7_kindHere 63 [.ref (49)] [.int (bI r60)] σ _
          refine E_ifz_eq 70 dX7_kindHere_63 (by decide) (fun hc => ?_) (fun hc => ?_)
          · replace hP := hP.1 hc
            refine E_aload_n dX7_kindHere_70 rfl ?_
            refine E_ldc2 (v := 3217595) dX7_kindHere_71 tw_640 ?_
            refine E_callV (As := [.long (3217595)]) (rest := []) dX7_kindHere_74 cl_RX7_226 tw_643 (show kd 49 = 7 by decide) (by decide) rfl tw_644 ⟨rfl, rfl, Nat.le_of_ble_eq_true rfl, Nat.le_of_ble_eq_true rfl⟩ rfl rfl (Nat.le_of_ble_eq_true rfl) (mt_X7_isWord _ _ _  hP) ?_
            intro r0 s0 hq0; obtain ⟨r74, h0, hs0, hP⟩ := hq0; subst h0; rw [hs0]
            show eX7_kindHere 77 [.ref (49)] [.int (bI r74)] σ _
            refine E_ifz_eq 84 dX7_kindHere_77 (by decide) (fun hc => ?_) (fun hc => ?_)
            · replace hP := hP.1 hc
              refine E_iconst (v := (-1)) dX7_kindHere_84 (by decide) ?_
              exact E_iret dX7_kindHere_85 rfl ⟨_, rfl, rfl, hP⟩
            · replace hP := hP.2 hc
              refine E_iconst (v := 5) dX7_kindHere_80 (by decide) ?_
              refine E_goto 85 dX7_kindHere_81 (by decide) ?_
              exact E_iret dX7_kindHere_85 rfl ⟨_, rfl, rfl, hP⟩
          · replace hP := hP.2 hc
            refine E_iconst (v := 4) dX7_kindHere_66 (by decide) ?_
            refine E_goto 85 dX7_kindHere_67 (by decide) ?_
            exact E_iret dX7_kindHere_85 rfl ⟨_, rfl, rfl, hP⟩
        · replace hP := hP.2 hc
          refine E_iconst (v := 3) dX7_kindHere_52 (by decide) ?_
          refine E_goto 85 dX7_kindHere_53 (by decide) ?_
          exact E_iret dX7_kindHere_85 rfl ⟨_, rfl, rfl, hP⟩
      · replace hP := hP.2 hc
        refine E_iconst (v := 2) dX7_kindHere_38 (by decide) ?_
        refine E_goto 85 dX7_kindHere_39 (by decide) ?_
        exact E_iret dX7_kindHere_85 rfl ⟨_, rfl, rfl, hP⟩
    · replace hP := hP.2 hc
      refine E_iconst (v := 1) dX7_kindHere_24 (by decide) ?_
      refine E_goto 85 dX7_kindHere_25 (by decide) ?_
      exact E_iret dX7_kindHere_85 rfl ⟨_, rfl, rfl, hP⟩
  · replace hP := hP.2 hc
    refine E_iconst (v := 0) dX7_kindHere_10 (by decide) ?_
    refine E_goto 85 dX7_kindHere_11 (by decide) ?_
    exact E_iret dX7_kindHere_85 rfl ⟨_, rfl, rfl, hP⟩
