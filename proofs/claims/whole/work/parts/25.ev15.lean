theorem dX7_sheet_0 : decode cX7_sheet 0 = .ok (.iload_n 1, 1) := by decide +kernel
theorem dX7_sheet_1 : decode cX7_sheet 1 = .ok (.invokestatic 295, 3) := by decide +kernel
theorem dX7_sheet_4 : decode cX7_sheet 4 = .ok (.ifCond .eq 25, 3) := by decide +kernel
theorem dX7_sheet_7 : decode cX7_sheet 7 = .ok (.iload_n 2, 1) := by decide +kernel
theorem dX7_sheet_8 : decode cX7_sheet 8 = .ok (.ifCond .eq 28, 3) := by decide +kernel
theorem dX7_sheet_11 : decode cX7_sheet 11 = .ok (.iload_n 2, 1) := by decide +kernel
theorem dX7_sheet_12 : decode cX7_sheet 12 = .ok (.bipush 8, 2) := by decide +kernel
theorem dX7_sheet_14 : decode cX7_sheet 14 = .ok (.if_icmp .eq 22, 3) := by decide +kernel
theorem dX7_sheet_17 : decode cX7_sheet 17 = .ok (.iload_n 2, 1) := by decide +kernel
theorem dX7_sheet_18 : decode cX7_sheet 18 = .ok (.bipush 16, 2) := by decide +kernel
theorem dX7_sheet_20 : decode cX7_sheet 20 = .ok (.if_icmp .eq 16, 3) := by decide +kernel
theorem dX7_sheet_23 : decode cX7_sheet 23 = .ok (.iload_n 2, 1) := by decide +kernel
theorem dX7_sheet_24 : decode cX7_sheet 24 = .ok (.bipush 64, 2) := by decide +kernel
theorem dX7_sheet_26 : decode cX7_sheet 26 = .ok (.if_icmp .eq 10, 3) := by decide +kernel
theorem dX7_sheet_29 : decode cX7_sheet 29 = .ok (.aload_n 0, 1) := by decide +kernel
theorem dX7_sheet_30 : decode cX7_sheet 30 = .ok (.ldc 57, 2) := by decide +kernel
theorem dX7_sheet_32 : decode cX7_sheet 32 = .ok (.invokevirtual 105, 3) := by decide +kernel
theorem dX7_sheet_35 : decode cX7_sheet 35 = .ok (.ireturn, 1) := by decide +kernel
theorem dX7_sheet_36 : decode cX7_sheet 36 = .ok (.iload_n 3, 1) := by decide +kernel
theorem dX7_sheet_37 : decode cX7_sheet 37 = .ok (.ifCond .ge 11, 3) := by decide +kernel
theorem dX7_sheet_40 : decode cX7_sheet 40 = .ok (.aload_n 0, 1) := by decide +kernel
theorem dX7_sheet_41 : decode cX7_sheet 41 = .ok (.ldc_w 298, 3) := by decide +kernel
theorem dX7_sheet_44 : decode cX7_sheet 44 = .ok (.invokevirtual 105, 3) := by decide +kernel
theorem dX7_sheet_47 : decode cX7_sheet 47 = .ok (.ireturn, 1) := by decide +kernel
theorem dX7_sheet_48 : decode cX7_sheet 48 = .ok (.iload_n 3, 1) := by decide +kernel
theorem dX7_sheet_49 : decode cX7_sheet 49 = .ok (.bipush 40, 2) := by decide +kernel
theorem dX7_sheet_51 : decode cX7_sheet 51 = .ok (.if_icmp .le 10, 3) := by decide +kernel
theorem dX7_sheet_54 : decode cX7_sheet 54 = .ok (.aload_n 0, 1) := by decide +kernel
theorem dX7_sheet_55 : decode cX7_sheet 55 = .ok (.ldc 57, 2) := by decide +kernel
theorem dX7_sheet_57 : decode cX7_sheet 57 = .ok (.invokevirtual 105, 3) := by decide +kernel
theorem dX7_sheet_60 : decode cX7_sheet 60 = .ok (.ireturn, 1) := by decide +kernel
theorem dX7_sheet_61 : decode cX7_sheet 61 = .ok (.aload_n 0, 1) := by decide +kernel
theorem dX7_sheet_62 : decode cX7_sheet 62 = .ok (.getfield 39, 3) := by decide +kernel
theorem dX7_sheet_65 : decode cX7_sheet 65 = .ok (.iload_n 1, 1) := by decide +kernel
theorem dX7_sheet_66 : decode cX7_sheet 66 = .ok (.iload_n 2, 1) := by decide +kernel
theorem dX7_sheet_67 : decode cX7_sheet 67 = .ok (.iastore, 1) := by decide +kernel
theorem dX7_sheet_68 : decode cX7_sheet 68 = .ok (.aload_n 0, 1) := by decide +kernel
theorem dX7_sheet_69 : decode cX7_sheet 69 = .ok (.getfield 42, 3) := by decide +kernel
theorem dX7_sheet_72 : decode cX7_sheet 72 = .ok (.iload_n 1, 1) := by decide +kernel
theorem dX7_sheet_73 : decode cX7_sheet 73 = .ok (.iload_n 2, 1) := by decide +kernel
theorem dX7_sheet_74 : decode cX7_sheet 74 = .ok (.ifCond .ne 7, 3) := by decide +kernel
theorem dX7_sheet_77 : decode cX7_sheet 77 = .ok (.iconst 0, 1) := by decide +kernel
theorem dX7_sheet_78 : decode cX7_sheet 78 = .ok (.goto 4, 3) := by decide +kernel
theorem dX7_sheet_81 : decode cX7_sheet 81 = .ok (.iload_n 3, 1) := by decide +kernel
theorem dX7_sheet_82 : decode cX7_sheet 82 = .ok (.iastore, 1) := by decide +kernel
theorem dX7_sheet_83 : decode cX7_sheet 83 = .ok (.iconst 0, 1) := by decide +kernel
theorem dX7_sheet_84 : decode cX7_sheet 84 = .ok (.istore 4, 2) := by decide +kernel
theorem dX7_sheet_86 : decode cX7_sheet 86 = .ok (.iload 4, 2) := by decide +kernel
theorem dX7_sheet_88 : decode cX7_sheet 88 = .ok (.bipush 40, 2) := by decide +kernel
theorem dX7_sheet_90 : decode cX7_sheet 90 = .ok (.if_icmp .ge 22, 3) := by decide +kernel
theorem dX7_sheet_93 : decode cX7_sheet 93 = .ok (.aload_n 0, 1) := by decide +kernel
theorem dX7_sheet_94 : decode cX7_sheet 94 = .ok (.getfield 45, 3) := by decide +kernel
theorem dX7_sheet_97 : decode cX7_sheet 97 = .ok (.bipush 40, 2) := by decide +kernel
theorem dX7_sheet_99 : decode cX7_sheet 99 = .ok (.iload_n 1, 1) := by decide +kernel
theorem dX7_sheet_100 : decode cX7_sheet 100 = .ok (.imul, 1) := by decide +kernel
theorem dX7_sheet_101 : decode cX7_sheet 101 = .ok (.iload 4, 2) := by decide +kernel
theorem dX7_sheet_103 : decode cX7_sheet 103 = .ok (.iadd, 1) := by decide +kernel
theorem dX7_sheet_104 : decode cX7_sheet 104 = .ok (.lconst 0, 1) := by decide +kernel
theorem dX7_sheet_105 : decode cX7_sheet 105 = .ok (.lastore, 1) := by decide +kernel
theorem dX7_sheet_106 : decode cX7_sheet 106 = .ok (.iinc 4 1, 3) := by decide +kernel
theorem dX7_sheet_109 : decode cX7_sheet 109 = .ok (.goto (-23), 3) := by decide +kernel
theorem dX7_sheet_112 : decode cX7_sheet 112 = .ok (.aload_n 0, 1) := by decide +kernel
theorem dX7_sheet_113 : decode cX7_sheet 113 = .ok (.getfield 42, 3) := by decide +kernel
theorem dX7_sheet_116 : decode cX7_sheet 116 = .ok (.iload_n 1, 1) := by decide +kernel
theorem dX7_sheet_117 : decode cX7_sheet 117 = .ok (.iaload, 1) := by decide +kernel
theorem dX7_sheet_118 : decode cX7_sheet 118 = .ok (.ireturn, 1) := by decide +kernel
def rmX7_sheet : Room := { frames := 2, cells := 0, slots := 0, locals := 42 }
abbrev eX7_sheet := Ev cX7_sheet 5 (some .int) RX7 rmX7_sheet
set_option maxRecDepth 20000 in
theorem ev_X7_sheet_l86 (l1 : Int32)  (K : St → Prop) (Q : Int32 → St → Prop) (hK : ∀  s, K  s → eX7_sheet 112 [.ref (49), .int (l1), un, un, un] [] s (qI Q)) : ∀ (n : Nat) (l4 : Int32) (σ : St), P_X7_sheet_l86 l1 K Q n l4 σ → eX7_sheet 86 [.ref (49), .int (l1), un, un, .int (l4)] [] σ (qI Q) := by
  intro n
  induction n with
  | zero => intro l4 σ hP; exact hP.elim
  | succ n ih =>
    intro l4 σ hP
    rw [P_X7_sheet_l86] at hP
    refine E_iload dX7_sheet_86 rfl ?_
    refine E_bipush (v := 40) dX7_sheet_88 (by decide) ?_
    refine E_icmp_ge 112 dX7_sheet_90 (by decide) (fun hc => ?_) (fun hc => ?_)
    · replace hP := hP.1 hc
      refine E_mask [true, true, false, false, false] rfl ?_
      exact hK  _ hP
    · replace hP := hP.2 hc
      refine E_aload_n dX7_sheet_93 rfl ?_
      refine E_getR (j := 18) dX7_sheet_94 (show kd 49 = 7 by decide) (by decide) rfl fd_RX7_45 (by decide) ?_
      refine E_bipush (v := 40) dX7_sheet_97 (by decide) ?_
      refine E_iload_n dX7_sheet_99 rfl ?_
      refine E_imul dX7_sheet_100 ?_
      refine E_iload dX7_sheet_101 rfl ?_
      refine E_iadd dX7_sheet_103 ?_
      refine E_lconst (v := 0) dX7_sheet_104 (by decide) ?_
      obtain ⟨hb, hP⟩ := hP
      refine E_last dX7_sheet_105 (ar_7_12 (show kd 49 = 7 by decide)).1 (ar_7_12 (show kd 49 = 7 by decide)).2 hb ?_
      refine E_iinc (ls' := [.ref (49), .int (l1), un, un, .int (l4 + 1)]) dX7_sheet_106 rfl rfl (by decide) rfl ?_
      refine E_goto 86 dX7_sheet_109 (by decide) ?_
      exact ih (l4 + 1) _ hP
set_option maxRecDepth 20000 in
theorem mt_X7_sheet (p0 : Int32) (p1 : Int32) (p2 : Int32) (σ : St) (Q : Int32 → St → Prop)  (hP : P_X7_sheet p0 p1 p2 σ Q) : Mt yX7_sheet cX7_sheet 5 (some .int) rmX7_sheet [.ref (49), .int (p0), .int (p1), .int (p2)] σ (qI Q) := by
  refine Mt.of (k := 1) (ls := [.ref (49), .int (p0), .int (p1), .int (p2), un]) (by decide +kernel) rfl (Nat.le_of_ble_eq_true rfl) ?_
  show eX7_sheet 0 [.ref (49), .int (p0), .int (p1), .int (p2), un] [] σ _
  unfold P_X7_sheet at hP
  refine E_iload_n dX7_sheet_0 rfl ?_
  refine E_callS (As := [.int (p0)]) (rest := []) dX7_sheet_1 cl_RX7_295 tw_705 ⟨rfl, rfl, Nat.le_of_ble_eq_true rfl, Nat.le_of_ble_eq_true rfl⟩ rfl rfl (Nat.le_of_ble_eq_true rfl) (mt_X7_isSheet _ _ _  hP) ?_
  intro r0 s0 hq0; obtain ⟨r1, h0, hs0, hP⟩ := hq0; subst h0; rw [hs0]
  show eX7_sheet 4 [.ref (49), .int (p0), .int (p1), .int (p2), un] [.int (bI r1)] σ _
  refine E_ifz_eq 29 dX7_sheet_4 (by decide) (fun hc => ?_) (fun hc => ?_)
  · replace hP := hP.1 hc
    refine E_aload_n dX7_sheet_29 rfl ?_
    refine E_ldc (v := (-1000000001)) dX7_sheet_30 tw_452 ?_
    refine E_callV (As := [.int ((-1000000001))]) (rest := []) dX7_sheet_32 cl_RX7_105 tw_507 (show kd 49 = 7 by decide) (by decide) rfl tw_508 ⟨rfl, rfl, Nat.le_of_ble_eq_true rfl, Nat.le_of_ble_eq_true rfl⟩ rfl rfl (Nat.le_of_ble_eq_true rfl) (mt_X7_finds _ _ _  hP) ?_
    rintro _ t32 ⟨r32, rfl, hP⟩
    show eX7_sheet 35 [.ref (49), .int (p0), .int (p1), .int (p2), un] [.int (r32)] t32 _
    exact E_iret dX7_sheet_35 rfl ⟨_, rfl, hP⟩
  · replace hP := hP.2 hc
    refine E_iload_n dX7_sheet_7 rfl ?_
    refine E_if_eq 36 dX7_sheet_8 (by decide) (fun hc => ?_) (fun hc => ?_)
    · replace hP := hP.1 hc
      refine E_iload_n dX7_sheet_36 rfl ?_
      refine E_if_ge 48 dX7_sheet_37 (by decide) (fun hc => ?_) (fun hc => ?_)
      · replace hP := hP.1 hc
        refine E_iload_n dX7_sheet_48 rfl ?_
        refine E_bipush (v := 40) dX7_sheet_49 (by decide) ?_
        refine E_icmp_le 61 dX7_sheet_51 (by decide) (fun hc => ?_) (fun hc => ?_)
        · replace hP := hP.1 hc
          refine E_aload_n dX7_sheet_61 rfl ?_
          refine E_getR (j := 16) dX7_sheet_62 (show kd 49 = 7 by decide) (by decide) rfl fd_RX7_39 (by decide) ?_
          refine E_iload_n dX7_sheet_65 rfl ?_
          refine E_iload_n dX7_sheet_66 rfl ?_
          obtain ⟨hb, hP⟩ := hP
          refine E_iast dX7_sheet_67 (ar_7_10 (show kd 49 = 7 by decide)).1 (ar_7_10 (show kd 49 = 7 by decide)).2 hb ?_
          refine E_aload_n dX7_sheet_68 rfl ?_
          refine E_getR (j := 17) dX7_sheet_69 (show kd 49 = 7 by decide) (by decide) rfl fd_RX7_42 (by decide) ?_
          refine E_iload_n dX7_sheet_72 rfl ?_
          refine E_iload_n dX7_sheet_73 rfl ?_
          refine E_if_ne 81 dX7_sheet_74 (by decide) (fun hc => ?_) (fun hc => ?_)
          · replace hP := hP.1 hc
            refine E_iload_n dX7_sheet_81 rfl ?_
            obtain ⟨hb, hP⟩ := hP
            refine E_iast dX7_sheet_82 (ar_7_11 (show kd 49 = 7 by decide)).1 (ar_7_11 (show kd 49 = 7 by decide)).2 hb ?_
            refine E_iconst (v := 0) dX7_sheet_83 (by decide) ?_
            refine E_istore (ls' := [.ref (49), .int (p0), .int (p1), .int (p2), .int (0)]) dX7_sheet_84 (by decide) rfl ?_
            refine E_mask [true, true, false, false, true] rfl ?_
            obtain ⟨m86, hP⟩ := hP
            refine ev_X7_sheet_l86 (p0)  _ Q ?_ m86 _ _ hP
            intro  t112 hP
            refine E_aload_n dX7_sheet_112 rfl ?_
            refine E_getR (j := 17) dX7_sheet_113 (show kd 49 = 7 by decide) (by decide) rfl fd_RX7_42 (by decide) ?_
            refine E_iload_n dX7_sheet_116 rfl ?_
            obtain ⟨hb, hP⟩ := hP
            refine E_iald dX7_sheet_117 (ar_7_11 (show kd 49 = 7 by decide)).1 (ar_7_11 (show kd 49 = 7 by decide)).2 hb ?_
            exact E_iret dX7_sheet_118 rfl ⟨_, rfl, hP⟩
          · replace hP := hP.2 hc
            refine E_iconst (v := 0) dX7_sheet_77 (by decide) ?_
            refine E_goto 82 dX7_sheet_78 (by decide) ?_
            obtain ⟨hb, hP⟩ := hP
            refine E_iast dX7_sheet_82 (ar_7_11 (show kd 49 = 7 by decide)).1 (ar_7_11 (show kd 49 = 7 by decide)).2 hb ?_
            refine E_iconst (v := 0) dX7_sheet_83 (by decide) ?_
            refine E_istore (ls' := [.ref (49), .int (p0), .int (p1), .int (p2), .int (0)]) dX7_sheet_84 (by decide) rfl ?_
            refine E_mask [true, true, false, false, true] rfl ?_
            obtain ⟨m86, hP⟩ := hP
            refine ev_X7_sheet_l86 (p0)  _ Q ?_ m86 _ _ hP
            intro  t112 hP
            refine E_aload_n dX7_sheet_112 rfl ?_
            refine E_getR (j := 17) dX7_sheet_113 (show kd 49 = 7 by decide) (by decide) rfl fd_RX7_42 (by decide) ?_
            refine E_iload_n dX7_sheet_116 rfl ?_
            obtain ⟨hb, hP⟩ := hP
            refine E_iald dX7_sheet_117 (ar_7_11 (show kd 49 = 7 by decide)).1 (ar_7_11 (show kd 49 = 7 by decide)).2 hb ?_
            exact E_iret dX7_sheet_118 rfl ⟨_, rfl, hP⟩
        · replace hP := hP.2 hc
          refine E_aload_n dX7_sheet_54 rfl ?_
          refine E_ldc (v := (-1000000001)) dX7_sheet_55 tw_452 ?_
          refine E_callV (As := [.int ((-1000000001))]) (rest := []) dX7_sheet_57 cl_RX7_105 tw_507 (show kd 49 = 7 by decide) (by decide) rfl tw_508 ⟨rfl, rfl, Nat.le_of_ble_eq_true rfl, Nat.le_of_ble_eq_true rfl⟩ rfl rfl (Nat.le_of_ble_eq_true rfl) (mt_X7_finds _ _ _  hP) ?_
          rintro _ t57 ⟨r57, rfl, hP⟩
          show eX7_sheet 60 [.ref (49), .int (p0), .int (p1), .int (p2), un] [.int (r57)] t57 _
          exact E_iret dX7_sheet_60 rfl ⟨_, rfl, hP⟩
      · replace hP := hP.2 hc
        refine E_aload_n dX7_sheet_40 rfl ?_
        refine E_ldcw (v := (-1000000007)) dX7_sheet_41 tw_702 ?_
        refine E_callV (As := [.int ((-1000000007))]) (rest := []) dX7_sheet_44 cl_RX7_105 tw_507 (show kd 49 = 7 by decide) (by decide) rfl tw_508 ⟨rfl, rfl, Nat.le_of_ble_eq_true rfl, Nat.le_of_ble_eq_true rfl⟩ rfl rfl (Nat.le_of_ble_eq_true rfl) (mt_X7_finds _ _ _  hP) ?_
        rintro _ t44 ⟨r44, rfl, hP⟩
        show eX7_sheet 47 [.ref (49), .int (p0), .int (p1), .int (p2), un] [.int (r44)] t44 _
        exact E_iret dX7_sheet_47 rfl ⟨_, rfl, hP⟩
    · replace hP := hP.2 hc
      refine E_iload_n dX7_sheet_11 rfl ?_
      refine E_bipush (v := 8) dX7_sheet_12 (by decide) ?_
      refine E_icmp_eq 36 dX7_sheet_14 (by decide) (fun hc => ?_) (fun hc => ?_)
      · replace hP := hP.1 hc
        refine E_iload_n dX7_sheet_36 rfl ?_
        refine E_if_ge 48 dX7_sheet_37 (by decide) (fun hc => ?_) (fun hc => ?_)
        · replace hP := hP.1 hc
          refine E_iload_n dX7_sheet_48 rfl ?_
          refine E_bipush (v := 40) dX7_sheet_49 (by decide) ?_
          refine E_icmp_le 61 dX7_sheet_51 (by decide) (fun hc => ?_) (fun hc => ?_)
          · replace hP := hP.1 hc
            refine E_aload_n dX7_sheet_61 rfl ?_
            refine E_getR (j := 16) dX7_sheet_62 (show kd 49 = 7 by decide) (by decide) rfl fd_RX7_39 (by decide) ?_
            refine E_iload_n dX7_sheet_65 rfl ?_
            refine E_iload_n dX7_sheet_66 rfl ?_
            obtain ⟨hb, hP⟩ := hP
            refine E_iast dX7_sheet_67 (ar_7_10 (show kd 49 = 7 by decide)).1 (ar_7_10 (show kd 49 = 7 by decide)).2 hb ?_
            refine E_aload_n dX7_sheet_68 rfl ?_
            refine E_getR (j := 17) dX7_sheet_69 (show kd 49 = 7 by decide) (by decide) rfl fd_RX7_42 (by decide) ?_
            refine E_iload_n dX7_sheet_72 rfl ?_
            refine E_iload_n dX7_sheet_73 rfl ?_
            refine E_if_ne 81 dX7_sheet_74 (by decide) (fun hc => ?_) (fun hc => ?_)
            · replace hP := hP.1 hc
              refine E_iload_n dX7_sheet_81 rfl ?_
              obtain ⟨hb, hP⟩ := hP
              refine E_iast dX7_sheet_82 (ar_7_11 (show kd 49 = 7 by decide)).1 (ar_7_11 (show kd 49 = 7 by decide)).2 hb ?_
              refine E_iconst (v := 0) dX7_sheet_83 (by decide) ?_
              refine E_istore (ls' := [.ref (49), .int (p0), .int (p1), .int (p2), .int (0)]) dX7_sheet_84 (by decide) rfl ?_
              refine E_mask [true, true, false, false, true] rfl ?_
              obtain ⟨m86, hP⟩ := hP
              refine ev_X7_sheet_l86 (p0)  _ Q ?_ m86 _ _ hP
              intro  t112 hP
              refine E_aload_n dX7_sheet_112 rfl ?_
              refine E_getR (j := 17) dX7_sheet_113 (show kd 49 = 7 by decide) (by decide) rfl fd_RX7_42 (by decide) ?_
              refine E_iload_n dX7_sheet_116 rfl ?_
              obtain ⟨hb, hP⟩ := hP
              refine E_iald dX7_sheet_117 (ar_7_11 (show kd 49 = 7 by decide)).1 (ar_7_11 (show kd 49 = 7 by decide)).2 hb ?_
              exact E_iret dX7_sheet_118 rfl ⟨_, rfl, hP⟩
            · replace hP := hP.2 hc
              refine E_iconst (v := 0) dX7_sheet_77 (by decide) ?_
              refine E_goto 82 dX7_sheet_78 (by decide) ?_
              obtain ⟨hb, hP⟩ := hP
              refine E_iast dX7_sheet_82 (ar_7_11 (show kd 49 = 7 by decide)).1 (ar_7_11 (show kd 49 = 7 by decide)).2 hb ?_
              refine E_iconst (v := 0) dX7_sheet_83 (by decide) ?_
              refine E_istore (ls' := [.ref (49), .int (p0), .int (p1), .int (p2), .int (0)]) dX7_sheet_84 (by decide) rfl ?_
              refine E_mask [true, true, false, false, true] rfl ?_
              obtain ⟨m86, hP⟩ := hP
              refine ev_X7_sheet_l86 (p0)  _ Q ?_ m86 _ _ hP
              intro  t112 hP
              refine E_aload_n dX7_sheet_112 rfl ?_
              refine E_getR (j := 17) dX7_sheet_113 (show kd 49 = 7 by decide) (by decide) rfl fd_RX7_42 (by decide) ?_
              refine E_iload_n dX7_sheet_116 rfl ?_
              obtain ⟨hb, hP⟩ := hP
              refine E_iald dX7_sheet_117 (ar_7_11 (show kd 49 = 7 by decide)).1 (ar_7_11 (show kd 49 = 7 by decide)).2 hb ?_
              exact E_iret dX7_sheet_118 rfl ⟨_, rfl, hP⟩
          · replace hP := hP.2 hc
            refine E_aload_n dX7_sheet_54 rfl ?_
            refine E_ldc (v := (-1000000001)) dX7_sheet_55 tw_452 ?_
            refine E_callV (As := [.int ((-1000000001))]) (rest := []) dX7_sheet_57 cl_RX7_105 tw_507 (show kd 49 = 7 by decide) (by decide) rfl tw_508 ⟨rfl, rfl, Nat.le_of_ble_eq_true rfl, Nat.le_of_ble_eq_true rfl⟩ rfl rfl (Nat.le_of_ble_eq_true rfl) (mt_X7_finds _ _ _  hP) ?_
            rintro _ t57 ⟨r57, rfl, hP⟩
            show eX7_sheet 60 [.ref (49), .int (p0), .int (p1), .int (p2), un] [.int (r57)] t57 _
            exact E_iret dX7_sheet_60 rfl ⟨_, rfl, hP⟩
        · replace hP := hP.2 hc
          refine E_aload_n dX7_sheet_40 rfl ?_
          refine E_ldcw (v := (-1000000007)) dX7_sheet_41 tw_702 ?_
          refine E_callV (As := [.int ((-1000000007))]) (rest := []) dX7_sheet_44 cl_RX7_105 tw_507 (show kd 49 = 7 by decide) (by decide) rfl tw_508 ⟨rfl, rfl, Nat.le_of_ble_eq_true rfl, Nat.le_of_ble_eq_true rfl⟩ rfl rfl (Nat.le_of_ble_eq_true rfl) (mt_X7_finds _ _ _  hP) ?_
          rintro _ t44 ⟨r44, rfl, hP⟩
          show eX7_sheet 47 [.ref (49), .int (p0), .int (p1), .int (p2), un] [.int (r44)] t44 _
          exact E_iret dX7_sheet_47 rfl ⟨_, rfl, hP⟩
      · replace hP := hP.2 hc
        refine E_iload_n dX7_sheet_17 rfl ?_
        refine E_bipush (v := 16) dX7_sheet_18 (by decide) ?_
        refine E_icmp_eq 36 dX7_sheet_20 (by decide) (fun hc => ?_) (fun hc => ?_)
        · replace hP := hP.1 hc
          refine E_iload_n dX7_sheet_36 rfl ?_
          refine E_if_ge 48 dX7_sheet_37 (by decide) (fun hc => ?_) (fun hc => ?_)
          · replace hP := hP.1 hc
            refine E_iload_n dX7_sheet_48 rfl ?_
            refine E_bipush (v := 40) dX7_sheet_49 (by decide) ?_
            refine E_icmp_le 61 dX7_sheet_51 (by decide) (fun hc => ?_) (fun hc => ?_)
            · replace hP := hP.1 hc
              refine E_aload_n dX7_sheet_61 rfl ?_
              refine E_getR (j := 16) dX7_sheet_62 (show kd 49 = 7 by decide) (by decide) rfl fd_RX7_39 (by decide) ?_
              refine E_iload_n dX7_sheet_65 rfl ?_
              refine E_iload_n dX7_sheet_66 rfl ?_
              obtain ⟨hb, hP⟩ := hP
              refine E_iast dX7_sheet_67 (ar_7_10 (show kd 49 = 7 by decide)).1 (ar_7_10 (show kd 49 = 7 by decide)).2 hb ?_
              refine E_aload_n dX7_sheet_68 rfl ?_
              refine E_getR (j := 17) dX7_sheet_69 (show kd 49 = 7 by decide) (by decide) rfl fd_RX7_42 (by decide) ?_
              refine E_iload_n dX7_sheet_72 rfl ?_
              refine E_iload_n dX7_sheet_73 rfl ?_
              refine E_if_ne 81 dX7_sheet_74 (by decide) (fun hc => ?_) (fun hc => ?_)
              · replace hP := hP.1 hc
                refine E_iload_n dX7_sheet_81 rfl ?_
                obtain ⟨hb, hP⟩ := hP
                refine E_iast dX7_sheet_82 (ar_7_11 (show kd 49 = 7 by decide)).1 (ar_7_11 (show kd 49 = 7 by decide)).2 hb ?_
                refine E_iconst (v := 0) dX7_sheet_83 (by decide) ?_
                refine E_istore (ls' := [.ref (49), .int (p0), .int (p1), .int (p2), .int (0)]) dX7_sheet_84 (by decide) rfl ?_
                refine E_mask [true, true, false, false, true] rfl ?_
                obtain ⟨m86, hP⟩ := hP
                refine ev_X7_sheet_l86 (p0)  _ Q ?_ m86 _ _ hP
                intro  t112 hP
                refine E_aload_n dX7_sheet_112 rfl ?_
                refine E_getR (j := 17) dX7_sheet_113 (show kd 49 = 7 by decide) (by decide) rfl fd_RX7_42 (by decide) ?_
                refine E_iload_n dX7_sheet_116 rfl ?_
                obtain ⟨hb, hP⟩ := hP
                refine E_iald dX7_sheet_117 (ar_7_11 (show kd 49 = 7 by decide)).1 (ar_7_11 (show kd 49 = 7 by decide)).2 hb ?_
                exact E_iret dX7_sheet_118 rfl ⟨_, rfl, hP⟩
              · replace hP := hP.2 hc
                refine E_iconst (v := 0) dX7_sheet_77 (by decide) ?_
                refine E_goto 82 dX7_sheet_78 (by decide) ?_
                obtain ⟨hb, hP⟩ := hP
                refine E_iast dX7_sheet_82 (ar_7_11 (show kd 49 = 7 by decide)).1 (ar_7_11 (show kd 49 = 7 by decide)).2 hb ?_
                refine E_iconst (v := 0) dX7_sheet_83 (by decide) ?_
                refine E_istore (ls' := [.ref (49), .int (p0), .int (p1), .int (p2), .int (0)]) dX7_sheet_84 (by decide) rfl ?_
                refine E_mask [true, true, false, false, true] rfl ?_
                obtain ⟨m86, hP⟩ := hP
                refine ev_X7_sheet_l86 (p0)  _ Q ?_ m86 _ _ hP
                intro  t112 hP
                refine E_aload_n dX7_sheet_112 rfl ?_
                refine E_getR (j := 17) dX7_sheet_113 (show kd 49 = 7 by decide) (by decide) rfl fd_RX7_42 (by decide) ?_
                refine E_iload_n dX7_sheet_116 rfl ?_
                obtain ⟨hb, hP⟩ := hP
                refine E_iald dX7_sheet_117 (ar_7_11 (show kd 49 = 7 by decide)).1 (ar_7_11 (show kd 49 = 7 by decide)).2 hb ?_
                exact E_iret dX7_sheet_118 rfl ⟨_, rfl, hP⟩
            · replace hP := hP.2 hc
              refine E_aload_n dX7_sheet_54 rfl ?_
              refine E_ldc (v := (-1000000001)) dX7_sheet_55 tw_452 ?_
              refine E_callV (As := [.int ((-1000000001))]) (rest := []) dX7_sheet_57 cl_RX7_105 tw_507 (show kd 49 = 7 by decide) (by decide) rfl tw_508 ⟨rfl, rfl, Nat.le_of_ble_eq_true rfl, Nat.le_of_ble_eq_true rfl⟩ rfl rfl (Nat.le_of_ble_eq_true rfl) (mt_X7_finds _ _ _  hP) ?_
              rintro _ t57 ⟨r57, rfl, hP⟩
              show eX7_sheet 60 [.ref (49), .int (p0), .int (p1), .int (p2), un] [.int (r57)] t57 _
              exact E_iret dX7_sheet_60 rfl ⟨_, rfl, hP⟩
          · replace hP := hP.2 hc
            refine E_aload_n dX7_sheet_40 rfl ?_
            refine E_ldcw (v := (-1000000007)) dX7_sheet_41 tw_702 ?_
            refine E_callV (As := [.int ((-1000000007))]) (rest := []) dX7_sheet_44 cl_RX7_105 tw_507 (show kd 49 = 7 by decide) (by decide) rfl tw_508 ⟨rfl, rfl, Nat.le_of_ble_eq_true rfl, Nat.le_of_ble_eq_true rfl⟩ rfl rfl (Nat.le_of_ble_eq_true rfl) (mt_X7_finds _ _ _  hP) ?_
            rintro _ t44 ⟨r44, rfl, hP⟩
            show eX7_sheet 47 [.ref (49), .int (p0), .int (p1), .int (p2), un] [.int (r44)] t44 _
            exact E_iret dX7_sheet_47 rfl ⟨_, rfl, hP⟩
        · replace hP := hP.2 hc
          refine E_iload_n dX7_sheet_23 rfl ?_
          refine E_bipush (v := 64) dX7_sheet_24 (by decide) ?_
          refine E_icmp_eq 36 dX7_sheet_26 (by decide) (fun hc => ?_) (fun hc => ?_)
          · replace hP := hP.1 hc
            refine E_iload_n dX7_sheet_36 rfl ?_
            refine E_if_ge 48 dX7_sheet_37 (by decide) (fun hc => ?_) (fun hc => ?_)
            · replace hP := hP.1 hc
              refine E_iload_n dX7_sheet_48 rfl ?_
              refine E_bipush (v := 40) dX7_sheet_49 (by decide) ?_
              refine E_icmp_le 61 dX7_sheet_51 (by decide) (fun hc => ?_) (fun hc => ?_)
              · replace hP := hP.1 hc
                refine E_aload_n dX7_sheet_61 rfl ?_
                refine E_getR (j := 16) dX7_sheet_62 (show kd 49 = 7 by decide) (by decide) rfl fd_RX7_39 (by decide) ?_
                refine E_iload_n dX7_sheet_65 rfl ?_
                refine E_iload_n dX7_sheet_66 rfl ?_
                obtain ⟨hb, hP⟩ := hP
                refine E_iast dX7_sheet_67 (ar_7_10 (show kd 49 = 7 by decide)).1 (ar_7_10 (show kd 49 = 7 by decide)).2 hb ?_
                refine E_aload_n dX7_sheet_68 rfl ?_
                refine E_getR (j := 17) dX7_sheet_69 (show kd 49 = 7 by decide) (by decide) rfl fd_RX7_42 (by decide) ?_
                refine E_iload_n dX7_sheet_72 rfl ?_
                refine E_iload_n dX7_sheet_73 rfl ?_
                refine E_if_ne 81 dX7_sheet_74 (by decide) (fun hc => ?_) (fun hc => ?_)
                · replace hP := hP.1 hc
                  refine E_iload_n dX7_sheet_81 rfl ?_
                  obtain ⟨hb, hP⟩ := hP
                  refine E_iast dX7_sheet_82 (ar_7_11 (show kd 49 = 7 by decide)).1 (ar_7_11 (show kd 49 = 7 by decide)).2 hb ?_
                  refine E_iconst (v := 0) dX7_sheet_83 (by decide) ?_
                  refine E_istore (ls' := [.ref (49), .int (p0), .int (p1), .int (p2), .int (0)]) dX7_sheet_84 (by decide) rfl ?_
                  refine E_mask [true, true, false, false, true] rfl ?_
                  obtain ⟨m86, hP⟩ := hP
                  refine ev_X7_sheet_l86 (p0)  _ Q ?_ m86 _ _ hP
                  intro  t112 hP
                  refine E_aload_n dX7_sheet_112 rfl ?_
                  refine E_getR (j := 17) dX7_sheet_113 (show kd 49 = 7 by decide) (by decide) rfl fd_RX7_42 (by decide) ?_
                  refine E_iload_n dX7_sheet_116 rfl ?_
                  obtain ⟨hb, hP⟩ := hP
                  refine E_iald dX7_sheet_117 (ar_7_11 (show kd 49 = 7 by decide)).1 (ar_7_11 (show kd 49 = 7 by decide)).2 hb ?_
                  exact E_iret dX7_sheet_118 rfl ⟨_, rfl, hP⟩
                · replace hP := hP.2 hc
                  refine E_iconst (v := 0) dX7_sheet_77 (by decide) ?_
                  refine E_goto 82 dX7_sheet_78 (by decide) ?_
                  obtain ⟨hb, hP⟩ := hP
                  refine E_iast dX7_sheet_82 (ar_7_11 (show kd 49 = 7 by decide)).1 (ar_7_11 (show kd 49 = 7 by decide)).2 hb ?_
                  refine E_iconst (v := 0) dX7_sheet_83 (by decide) ?_
                  refine E_istore (ls' := [.ref (49), .int (p0), .int (p1), .int (p2), .int (0)]) dX7_sheet_84 (by decide) rfl ?_
                  refine E_mask [true, true, false, false, true] rfl ?_
                  obtain ⟨m86, hP⟩ := hP
                  refine ev_X7_sheet_l86 (p0)  _ Q ?_ m86 _ _ hP
                  intro  t112 hP
                  refine E_aload_n dX7_sheet_112 rfl ?_
                  refine E_getR (j := 17) dX7_sheet_113 (show kd 49 = 7 by decide) (by decide) rfl fd_RX7_42 (by decide) ?_
                  refine E_iload_n dX7_sheet_116 rfl ?_
                  obtain ⟨hb, hP⟩ := hP
                  refine E_iald dX7_sheet_117 (ar_7_11 (show kd 49 = 7 by decide)).1 (ar_7_11 (show kd 49 = 7 by decide)).2 hb ?_
                  exact E_iret dX7_sheet_118 rfl ⟨_, rfl, hP⟩
              · replace hP := hP.2 hc
                refine E_aload_n dX7_sheet_54 rfl ?_
                refine E_ldc (v := (-1000000001)) dX7_sheet_55 tw_452 ?_
                refine E_callV (As := [.int ((-1000000001))]) (rest := []) dX7_sheet_57 cl_RX7_105 tw_507 (show kd 49 = 7 by decide) (by decide) rfl tw_508 ⟨rfl, rfl, Nat.le_of_ble_eq_true rfl, Nat.le_of_ble_eq_true rfl⟩ rfl rfl (Nat.le_of_ble_eq_true rfl) (mt_X7_finds _ _ _  hP) ?_
                rintro _ t57 ⟨r57, rfl, hP⟩
                show eX7_sheet 60 [.ref (49), .int (p0), .int (p1), .int (p2), un] [.int (r57)] t57 _
                exact E_iret dX7_sheet_60 rfl ⟨_, rfl, hP⟩
            · replace hP := hP.2 hc
              refine E_aload_n dX7_sheet_40 rfl ?_
              refine E_ldcw (v := (-1000000007)) dX7_sheet_41 tw_702 ?_
              refine E_callV (As := [.int ((-1000000007))]) (rest := []) dX7_sheet_44 cl_RX7_105 tw_507 (show kd 49 = 7 by decide) (by decide) rfl tw_508 ⟨rfl, rfl, Nat.le_of_ble_eq_true rfl, Nat.le_of_ble_eq_true rfl⟩ rfl rfl (Nat.le_of_ble_eq_true rfl) (mt_X7_finds _ _ _  hP) ?_
              rintro _ t44 ⟨r44, rfl, hP⟩
              show eX7_sheet 47 [.ref (49), .int (p0), .int (p1), .int (p2), un] [.int (r44)] t44 _
              exact E_iret dX7_sheet_47 rfl ⟨_, rfl, hP⟩
          · replace hP := hP.2 hc
            refine E_aload_n dX7_sheet_29 rfl ?_
            refine E_ldc (v := (-1000000001)) dX7_sheet_30 tw_452 ?_
            refine E_callV (As := [.int ((-1000000001))]) (rest := []) dX7_sheet_32 cl_RX7_105 tw_507 (show kd 49 = 7 by decide) (by decide) rfl tw_508 ⟨rfl, rfl, Nat.le_of_ble_eq_true rfl, Nat.le_of_ble_eq_true rfl⟩ rfl rfl (Nat.le_of_ble_eq_true rfl) (mt_X7_finds _ _ _  hP) ?_
            rintro _ t32 ⟨r32, rfl, hP⟩
            show eX7_sheet 35 [.ref (49), .int (p0), .int (p1), .int (p2), un] [.int (r32)] t32 _
            exact E_iret dX7_sheet_35 rfl ⟨_, rfl, hP⟩
theorem dX7_write_0 : decode cX7_write 0 = .ok (.iload_n 1, 1) := by decide +kernel
theorem dX7_write_1 : decode cX7_write 1 = .ok (.invokestatic 295, 3) := by decide +kernel
theorem dX7_write_4 : decode cX7_write 4 = .ok (.ifCond .ne 11, 3) := by decide +kernel
theorem dX7_write_7 : decode cX7_write 7 = .ok (.aload_n 0, 1) := by decide +kernel
theorem dX7_write_8 : decode cX7_write 8 = .ok (.ldc 57, 2) := by decide +kernel
theorem dX7_write_10 : decode cX7_write 10 = .ok (.invokevirtual 105, 3) := by decide +kernel
theorem dX7_write_13 : decode cX7_write 13 = .ok (.i2l, 1) := by decide +kernel
theorem dX7_write_14 : decode cX7_write 14 = .ok (.lreturn, 1) := by decide +kernel
theorem dX7_write_15 : decode cX7_write 15 = .ok (.aload_n 0, 1) := by decide +kernel
theorem dX7_write_16 : decode cX7_write 16 = .ok (.getfield 39, 3) := by decide +kernel
theorem dX7_write_19 : decode cX7_write 19 = .ok (.iload_n 1, 1) := by decide +kernel
theorem dX7_write_20 : decode cX7_write 20 = .ok (.iaload, 1) := by decide +kernel
theorem dX7_write_21 : decode cX7_write 21 = .ok (.ifCond .ne 12, 3) := by decide +kernel
theorem dX7_write_24 : decode cX7_write 24 = .ok (.aload_n 0, 1) := by decide +kernel
theorem dX7_write_25 : decode cX7_write 25 = .ok (.ldc_w 299, 3) := by decide +kernel
theorem dX7_write_28 : decode cX7_write 28 = .ok (.invokevirtual 105, 3) := by decide +kernel
theorem dX7_write_31 : decode cX7_write 31 = .ok (.i2l, 1) := by decide +kernel
theorem dX7_write_32 : decode cX7_write 32 = .ok (.lreturn, 1) := by decide +kernel
theorem dX7_write_33 : decode cX7_write 33 = .ok (.iload_n 2, 1) := by decide +kernel
theorem dX7_write_34 : decode cX7_write 34 = .ok (.iconst 0, 1) := by decide +kernel
theorem dX7_write_35 : decode cX7_write 35 = .ok (.aload_n 0, 1) := by decide +kernel
theorem dX7_write_36 : decode cX7_write 36 = .ok (.getfield 42, 3) := by decide +kernel
theorem dX7_write_39 : decode cX7_write 39 = .ok (.iload_n 1, 1) := by decide +kernel
theorem dX7_write_40 : decode cX7_write 40 = .ok (.iaload, 1) := by decide +kernel
theorem dX7_write_41 : decode cX7_write 41 = .ok (.iconst 1, 1) := by decide +kernel
theorem dX7_write_42 : decode cX7_write 42 = .ok (.isub, 1) := by decide +kernel
theorem dX7_write_43 : decode cX7_write 43 = .ok (.invokestatic 58, 3) := by decide +kernel
theorem dX7_write_46 : decode cX7_write 46 = .ok (.ifCond .ne 11, 3) := by decide +kernel
theorem dX7_write_49 : decode cX7_write 49 = .ok (.aload_n 0, 1) := by decide +kernel
theorem dX7_write_50 : decode cX7_write 50 = .ok (.ldc 57, 2) := by decide +kernel
theorem dX7_write_52 : decode cX7_write 52 = .ok (.invokevirtual 105, 3) := by decide +kernel
theorem dX7_write_55 : decode cX7_write 55 = .ok (.i2l, 1) := by decide +kernel
theorem dX7_write_56 : decode cX7_write 56 = .ok (.lreturn, 1) := by decide +kernel
theorem dX7_write_57 : decode cX7_write 57 = .ok (.aload_n 0, 1) := by decide +kernel
theorem dX7_write_58 : decode cX7_write 58 = .ok (.getfield 45, 3) := by decide +kernel
theorem dX7_write_61 : decode cX7_write 61 = .ok (.bipush 40, 2) := by decide +kernel
theorem dX7_write_63 : decode cX7_write 63 = .ok (.iload_n 1, 1) := by decide +kernel
theorem dX7_write_64 : decode cX7_write 64 = .ok (.imul, 1) := by decide +kernel
theorem dX7_write_65 : decode cX7_write 65 = .ok (.iload_n 2, 1) := by decide +kernel
theorem dX7_write_66 : decode cX7_write 66 = .ok (.iadd, 1) := by decide +kernel
theorem dX7_write_67 : decode cX7_write 67 = .ok (.laload, 1) := by decide +kernel
theorem dX7_write_68 : decode cX7_write 68 = .ok (.lstore 5, 2) := by decide +kernel
theorem dX7_write_70 : decode cX7_write 70 = .ok (.aload_n 0, 1) := by decide +kernel
theorem dX7_write_71 : decode cX7_write 71 = .ok (.getfield 45, 3) := by decide +kernel
theorem dX7_write_74 : decode cX7_write 74 = .ok (.bipush 40, 2) := by decide +kernel
theorem dX7_write_76 : decode cX7_write 76 = .ok (.iload_n 1, 1) := by decide +kernel
theorem dX7_write_77 : decode cX7_write 77 = .ok (.imul, 1) := by decide +kernel
theorem dX7_write_78 : decode cX7_write 78 = .ok (.iload_n 2, 1) := by decide +kernel
theorem dX7_write_79 : decode cX7_write 79 = .ok (.iadd, 1) := by decide +kernel
theorem dX7_write_80 : decode cX7_write 80 = .ok (.aload_n 0, 1) := by decide +kernel
theorem dX7_write_81 : decode cX7_write 81 = .ok (.getfield 39, 3) := by decide +kernel
theorem dX7_write_84 : decode cX7_write 84 = .ok (.iload_n 1, 1) := by decide +kernel
theorem dX7_write_85 : decode cX7_write 85 = .ok (.iaload, 1) := by decide +kernel
theorem dX7_write_86 : decode cX7_write 86 = .ok (.lload_n 3, 1) := by decide +kernel
theorem dX7_write_87 : decode cX7_write 87 = .ok (.invokestatic 300, 3) := by decide +kernel
theorem dX7_write_90 : decode cX7_write 90 = .ok (.lastore, 1) := by decide +kernel
theorem dX7_write_91 : decode cX7_write 91 = .ok (.lload 5, 2) := by decide +kernel
theorem dX7_write_93 : decode cX7_write 93 = .ok (.lreturn, 1) := by decide +kernel
def rmX7_write : Room := { frames := 2, cells := 0, slots := 0, locals := 42 }
abbrev eX7_write := Ev cX7_write 7 (some .long) RX7 rmX7_write
set_option maxRecDepth 20000 in
theorem mt_X7_write (p0 : Int32) (p1 : Int32) (p2 : Int64) (σ : St) (Q : Int64 → St → Prop)  (hP : P_X7_write p0 p1 p2 σ Q) : Mt yX7_write cX7_write 7 (some .long) rmX7_write [.ref (49), .int (p0), .int (p1), .long (p2)] σ (qL Q) := by
  refine Mt.of (k := 2) (ls := [.ref (49), .int (p0), .int (p1), .long (p2), un, un, un]) (by decide +kernel) rfl (Nat.le_of_ble_eq_true rfl) ?_
  show eX7_write 0 [.ref (49), .int (p0), .int (p1), .long (p2), un, un, un] [] σ _
  unfold P_X7_write at hP
  refine E_iload_n dX7_write_0 rfl ?_
  refine E_callS (As := [.int (p0)]) (rest := []) dX7_write_1 cl_RX7_295 tw_705 ⟨rfl, rfl, Nat.le_of_ble_eq_true rfl, Nat.le_of_ble_eq_true rfl⟩ rfl rfl (Nat.le_of_ble_eq_true rfl) (mt_X7_isSheet _ _ _  hP) ?_
  intro r0 s0 hq0; obtain ⟨r1, h0, hs0, hP⟩ := hq0; subst h0; rw [hs0]
  show eX7_write 4 [.ref (49), .int (p0), .int (p1), .long (p2), un, un, un] [.int (bI r1)] σ _
  refine E_ifz_ne 15 dX7_write_4 (by decide) (fun hc => ?_) (fun hc => ?_)
  · replace hP := hP.1 hc
    refine E_aload_n dX7_write_15 rfl ?_
    refine E_getR (j := 16) dX7_write_16 (show kd 49 = 7 by decide) (by decide) rfl fd_RX7_39 (by decide) ?_
    refine E_iload_n dX7_write_19 rfl ?_
    obtain ⟨hb, hP⟩ := hP
    refine E_iald dX7_write_20 (ar_7_10 (show kd 49 = 7 by decide)).1 (ar_7_10 (show kd 49 = 7 by decide)).2 hb ?_
    refine E_if_ne 33 dX7_write_21 (by decide) (fun hc => ?_) (fun hc => ?_)
    · replace hP := hP.1 hc
      refine E_iload_n dX7_write_33 rfl ?_
      refine E_iconst (v := 0) dX7_write_34 (by decide) ?_
      refine E_aload_n dX7_write_35 rfl ?_
      refine E_getR (j := 17) dX7_write_36 (show kd 49 = 7 by decide) (by decide) rfl fd_RX7_42 (by decide) ?_
      refine E_iload_n dX7_write_39 rfl ?_
      obtain ⟨hb, hP⟩ := hP
      refine E_iald dX7_write_40 (ar_7_11 (show kd 49 = 7 by decide)).1 (ar_7_11 (show kd 49 = 7 by decide)).2 hb ?_
      refine E_iconst (v := 1) dX7_write_41 (by decide) ?_
      refine E_isub dX7_write_42 ?_
      refine E_callS (As := [.int (p1), .int (0), .int ((gI σ 60 p0.toNatClampNeg) - 1)]) (rest := []) dX7_write_43 cl_RX7_58 tw_456 ⟨rfl, rfl, Nat.le_of_ble_eq_true rfl, Nat.le_of_ble_eq_true rfl⟩ rfl rfl (Nat.le_of_ble_eq_true rfl) (mt_X7_in _ _ _ _ _  hP) ?_
      intro r0 s0 hq0; obtain ⟨r43, h0, hs0, hP⟩ := hq0; subst h0; rw [hs0]
      show eX7_write 46 [.ref (49), .int (p0), .int (p1), .long (p2), un, un, un] [.int (bI r43)] σ _
      refine E_ifz_ne 57 dX7_write_46 (by decide) (fun hc => ?_) (fun hc => ?_)
      · replace hP := hP.1 hc
        refine E_aload_n dX7_write_57 rfl ?_
        refine E_getR (j := 18) dX7_write_58 (show kd 49 = 7 by decide) (by decide) rfl fd_RX7_45 (by decide) ?_
        refine E_bipush (v := 40) dX7_write_61 (by decide) ?_
        refine E_iload_n dX7_write_63 rfl ?_
        refine E_imul dX7_write_64 ?_
        refine E_iload_n dX7_write_65 rfl ?_
        refine E_iadd dX7_write_66 ?_
        obtain ⟨hb, hP⟩ := hP
        refine E_lald dX7_write_67 (ar_7_12 (show kd 49 = 7 by decide)).1 (ar_7_12 (show kd 49 = 7 by decide)).2 hb ?_
        refine E_lstore (ls' := [.ref (49), .int (p0), .int (p1), .long (p2), un, .long (gL σ 61 ((40 * p0) + p1).toNatClampNeg), un]) dX7_write_68 (by decide) rfl ?_
        refine E_aload_n dX7_write_70 rfl ?_
        refine E_getR (j := 18) dX7_write_71 (show kd 49 = 7 by decide) (by decide) rfl fd_RX7_45 (by decide) ?_
        refine E_bipush (v := 40) dX7_write_74 (by decide) ?_
        refine E_iload_n dX7_write_76 rfl ?_
        refine E_imul dX7_write_77 ?_
        refine E_iload_n dX7_write_78 rfl ?_
        refine E_iadd dX7_write_79 ?_
        refine E_aload_n dX7_write_80 rfl ?_
        refine E_getR (j := 16) dX7_write_81 (show kd 49 = 7 by decide) (by decide) rfl fd_RX7_39 (by decide) ?_
        refine E_iload_n dX7_write_84 rfl ?_
        obtain ⟨hb, hP⟩ := hP
        refine E_iald dX7_write_85 (ar_7_10 (show kd 49 = 7 by decide)).1 (ar_7_10 (show kd 49 = 7 by decide)).2 hb ?_
        refine E_lload_n dX7_write_86 rfl ?_
        refine E_callS (As := [.int (gI σ 59 p0.toNatClampNeg), .long (p2)]) (rest := [.int ((40 * p0) + p1), .ref (61)]) dX7_write_87 cl_RX7_300 tw_708 ⟨rfl, rfl, Nat.le_of_ble_eq_true rfl, Nat.le_of_ble_eq_true rfl⟩ rfl rfl (Nat.le_of_ble_eq_true rfl) (mt_X7_narrow _ _ _ _  hP) ?_
        intro r0 s0 hq0; obtain ⟨r87, h0, hs0, hP⟩ := hq0; subst h0; rw [hs0]
        show eX7_write 90 [.ref (49), .int (p0), .int (p1), .long (p2), un, .long (gL σ 61 ((40 * p0) + p1).toNatClampNeg), un] [.long (r87), .int ((40 * p0) + p1), .ref (61)] σ _
        obtain ⟨hb, hP⟩ := hP
        refine E_last dX7_write_90 (ar_7_12 (show kd 49 = 7 by decide)).1 (ar_7_12 (show kd 49 = 7 by decide)).2 hb ?_
        refine E_lload dX7_write_91 rfl ?_
        exact E_lret dX7_write_93 rfl ⟨_, rfl, hP⟩
      · replace hP := hP.2 hc
        refine E_aload_n dX7_write_49 rfl ?_
        refine E_ldc (v := (-1000000001)) dX7_write_50 tw_452 ?_
        refine E_callV (As := [.int ((-1000000001))]) (rest := []) dX7_write_52 cl_RX7_105 tw_507 (show kd 49 = 7 by decide) (by decide) rfl tw_508 ⟨rfl, rfl, Nat.le_of_ble_eq_true rfl, Nat.le_of_ble_eq_true rfl⟩ rfl rfl (Nat.le_of_ble_eq_true rfl) (mt_X7_finds _ _ _  hP) ?_
        rintro _ t52 ⟨r52, rfl, hP⟩
        show eX7_write 55 [.ref (49), .int (p0), .int (p1), .long (p2), un, un, un] [.int (r52)] t52 _
        refine E_i2l dX7_write_55 ?_
        exact E_lret dX7_write_56 rfl ⟨_, rfl, hP⟩
    · replace hP := hP.2 hc
      refine E_aload_n dX7_write_24 rfl ?_
      refine E_ldcw (v := (-1000000006)) dX7_write_25 tw_709 ?_
      refine E_callV (As := [.int ((-1000000006))]) (rest := []) dX7_write_28 cl_RX7_105 tw_507 (show kd 49 = 7 by decide) (by decide) rfl tw_508 ⟨rfl, rfl, Nat.le_of_ble_eq_true rfl, Nat.le_of_ble_eq_true rfl⟩ rfl rfl (Nat.le_of_ble_eq_true rfl) (mt_X7_finds _ _ _  hP) ?_
      rintro _ t28 ⟨r28, rfl, hP⟩
      show eX7_write 31 [.ref (49), .int (p0), .int (p1), .long (p2), un, un, un] [.int (r28)] t28 _
      refine E_i2l dX7_write_31 ?_
      exact E_lret dX7_write_32 rfl ⟨_, rfl, hP⟩
  · replace hP := hP.2 hc
    refine E_aload_n dX7_write_7 rfl ?_
    refine E_ldc (v := (-1000000001)) dX7_write_8 tw_452 ?_
    refine E_callV (As := [.int ((-1000000001))]) (rest := []) dX7_write_10 cl_RX7_105 tw_507 (show kd 49 = 7 by decide) (by decide) rfl tw_508 ⟨rfl, rfl, Nat.le_of_ble_eq_true rfl, Nat.le_of_ble_eq_true rfl⟩ rfl rfl (Nat.le_of_ble_eq_true rfl) (mt_X7_finds _ _ _  hP) ?_
    rintro _ t10 ⟨r10, rfl, hP⟩
    show eX7_write 13 [.ref (49), .int (p0), .int (p1), .long (p2), un, un, un] [.int (r10)] t10 _
    refine E_i2l dX7_write_13 ?_
    exact E_lret dX7_write_14 rfl ⟨_, rfl, hP⟩
theorem dX7_isPart_0 : decode cX7_isPart 0 = .ok (.iload_n 2, 1) := by decide +kernel
theorem dX7_isPart_1 : decode cX7_isPart 1 = .ok (.ifCond .lt 33, 3) := by decide +kernel
theorem dX7_isPart_4 : decode cX7_isPart 4 = .ok (.iload_n 3, 1) := by decide +kernel
theorem dX7_isPart_5 : decode cX7_isPart 5 = .ok (.ifCond .lt 29, 3) := by decide +kernel
theorem dX7_isPart_8 : decode cX7_isPart 8 = .ok (.iload_n 3, 1) := by decide +kernel
theorem dX7_isPart_9 : decode cX7_isPart 9 = .ok (.aload_n 0, 1) := by decide +kernel
theorem dX7_isPart_10 : decode cX7_isPart 10 = .ok (.getfield 42, 3) := by decide +kernel
theorem dX7_isPart_13 : decode cX7_isPart 13 = .ok (.iload_n 1, 1) := by decide +kernel
theorem dX7_isPart_14 : decode cX7_isPart 14 = .ok (.iaload, 1) := by decide +kernel
theorem dX7_isPart_15 : decode cX7_isPart 15 = .ok (.if_icmp .gt 19, 3) := by decide +kernel
theorem dX7_isPart_18 : decode cX7_isPart 18 = .ok (.iload_n 2, 1) := by decide +kernel
theorem dX7_isPart_19 : decode cX7_isPart 19 = .ok (.aload_n 0, 1) := by decide +kernel
theorem dX7_isPart_20 : decode cX7_isPart 20 = .ok (.getfield 42, 3) := by decide +kernel
theorem dX7_isPart_23 : decode cX7_isPart 23 = .ok (.iload_n 1, 1) := by decide +kernel
theorem dX7_isPart_24 : decode cX7_isPart 24 = .ok (.iaload, 1) := by decide +kernel
theorem dX7_isPart_25 : decode cX7_isPart 25 = .ok (.iload_n 3, 1) := by decide +kernel
theorem dX7_isPart_26 : decode cX7_isPart 26 = .ok (.isub, 1) := by decide +kernel
theorem dX7_isPart_27 : decode cX7_isPart 27 = .ok (.if_icmp .gt 7, 3) := by decide +kernel
theorem dX7_isPart_30 : decode cX7_isPart 30 = .ok (.iconst 1, 1) := by decide +kernel
theorem dX7_isPart_31 : decode cX7_isPart 31 = .ok (.goto 4, 3) := by decide +kernel
theorem dX7_isPart_34 : decode cX7_isPart 34 = .ok (.iconst 0, 1) := by decide +kernel
theorem dX7_isPart_35 : decode cX7_isPart 35 = .ok (.ireturn, 1) := by decide +kernel
def rmX7_isPart : Room := { frames := 0, cells := 0, slots := 0, locals := 0 }
abbrev eX7_isPart := Ev cX7_isPart 4 (some .boolean) RX7 rmX7_isPart
set_option maxRecDepth 20000 in
theorem mt_X7_isPart (p0 : Int32) (p1 : Int32) (p2 : Int32) (σ : St) (Q : Bool → Prop)  (hP : P_X7_isPart p0 p1 p2 σ Q) : Mt yX7_isPart cX7_isPart 4 (some .boolean) rmX7_isPart [.ref (49), .int (p0), .int (p1), .int (p2)] σ (qB fun x s => s = σ ∧ Q x) := by
  refine Mt.of (k := 0) (ls := [.ref (49), .int (p0), .int (p1), .int (p2)]) (by decide +kernel) rfl (Nat.le_of_ble_eq_true rfl) ?_
  show eX7_isPart 0 [.ref (49), .int (p0), .int (p1), .int (p2)] [] σ _
  unfold P_X7_isPart at hP
  refine E_iload_n dX7_isPart_0 rfl ?_
  refine E_if_lt 34 dX7_isPart_1 (by decide) (fun hc => ?_) (fun hc => ?_)
  · replace hP := hP.1 hc
    refine E_iconst (v := 0) dX7_isPart_34 (by decide) ?_
    exact E_nret dX7_isPart_35 rfl (nar_b false) ⟨false, rfl, rfl, hP⟩
  · replace hP := hP.2 hc
    refine E_iload_n dX7_isPart_4 rfl ?_
    refine E_if_lt 34 dX7_isPart_5 (by decide) (fun hc => ?_) (fun hc => ?_)
    · replace hP := hP.1 hc
      refine E_iconst (v := 0) dX7_isPart_34 (by decide) ?_
      exact E_nret dX7_isPart_35 rfl (nar_b false) ⟨false, rfl, rfl, hP⟩
    · replace hP := hP.2 hc
      refine E_iload_n dX7_isPart_8 rfl ?_
      refine E_aload_n dX7_isPart_9 rfl ?_
      refine E_getR (j := 17) dX7_isPart_10 (show kd 49 = 7 by decide) (by decide) rfl fd_RX7_42 (by decide) ?_
      refine E_iload_n dX7_isPart_13 rfl ?_
      obtain ⟨hb, hP⟩ := hP
      refine E_iald dX7_isPart_14 (ar_7_11 (show kd 49 = 7 by decide)).1 (ar_7_11 (show kd 49 = 7 by decide)).2 hb ?_
      refine E_icmp_gt 34 dX7_isPart_15 (by decide) (fun hc => ?_) (fun hc => ?_)
      · replace hP := hP.1 hc
        refine E_iconst (v := 0) dX7_isPart_34 (by decide) ?_
        exact E_nret dX7_isPart_35 rfl (nar_b false) ⟨false, rfl, rfl, hP⟩
      · replace hP := hP.2 hc
        refine E_iload_n dX7_isPart_18 rfl ?_
        refine E_aload_n dX7_isPart_19 rfl ?_
        refine E_getR (j := 17) dX7_isPart_20 (show kd 49 = 7 by decide) (by decide) rfl fd_RX7_42 (by decide) ?_
        refine E_iload_n dX7_isPart_23 rfl ?_
        obtain ⟨hb, hP⟩ := hP
        refine E_iald dX7_isPart_24 (ar_7_11 (show kd 49 = 7 by decide)).1 (ar_7_11 (show kd 49 = 7 by decide)).2 hb ?_
        refine E_iload_n dX7_isPart_25 rfl ?_
        refine E_isub dX7_isPart_26 ?_
        refine E_icmp_gt 34 dX7_isPart_27 (by decide) (fun hc => ?_) (fun hc => ?_)
        · replace hP := hP.1 hc
          refine E_iconst (v := 0) dX7_isPart_34 (by decide) ?_
          exact E_nret dX7_isPart_35 rfl (nar_b false) ⟨false, rfl, rfl, hP⟩
        · replace hP := hP.2 hc
          refine E_iconst (v := 1) dX7_isPart_30 (by decide) ?_
          refine E_goto 35 dX7_isPart_31 (by decide) ?_
          exact E_nret dX7_isPart_35 rfl (nar_b true) ⟨true, rfl, rfl, hP⟩
theorem dX7_copy_0 : decode cX7_copy 0 = .ok (.iload_n 1, 1) := by decide +kernel
theorem dX7_copy_1 : decode cX7_copy 1 = .ok (.invokestatic 295, 3) := by decide +kernel
theorem dX7_copy_4 : decode cX7_copy 4 = .ok (.ifCond .eq 10, 3) := by decide +kernel
theorem dX7_copy_7 : decode cX7_copy 7 = .ok (.iload_n 3, 1) := by decide +kernel
theorem dX7_copy_8 : decode cX7_copy 8 = .ok (.invokestatic 295, 3) := by decide +kernel
theorem dX7_copy_11 : decode cX7_copy 11 = .ok (.ifCond .ne 10, 3) := by decide +kernel
theorem dX7_copy_14 : decode cX7_copy 14 = .ok (.aload_n 0, 1) := by decide +kernel
theorem dX7_copy_15 : decode cX7_copy 15 = .ok (.ldc 57, 2) := by decide +kernel
theorem dX7_copy_17 : decode cX7_copy 17 = .ok (.invokevirtual 105, 3) := by decide +kernel
theorem dX7_copy_20 : decode cX7_copy 20 = .ok (.ireturn, 1) := by decide +kernel
theorem dX7_copy_21 : decode cX7_copy 21 = .ok (.aload_n 0, 1) := by decide +kernel
theorem dX7_copy_22 : decode cX7_copy 22 = .ok (.getfield 39, 3) := by decide +kernel
theorem dX7_copy_25 : decode cX7_copy 25 = .ok (.iload_n 1, 1) := by decide +kernel
theorem dX7_copy_26 : decode cX7_copy 26 = .ok (.iaload, 1) := by decide +kernel
theorem dX7_copy_27 : decode cX7_copy 27 = .ok (.ifCond .eq 12, 3) := by decide +kernel
theorem dX7_copy_30 : decode cX7_copy 30 = .ok (.aload_n 0, 1) := by decide +kernel
theorem dX7_copy_31 : decode cX7_copy 31 = .ok (.getfield 39, 3) := by decide +kernel
theorem dX7_copy_34 : decode cX7_copy 34 = .ok (.iload_n 3, 1) := by decide +kernel
theorem dX7_copy_35 : decode cX7_copy 35 = .ok (.iaload, 1) := by decide +kernel
theorem dX7_copy_36 : decode cX7_copy 36 = .ok (.ifCond .ne 11, 3) := by decide +kernel
theorem dX7_copy_39 : decode cX7_copy 39 = .ok (.aload_n 0, 1) := by decide +kernel
theorem dX7_copy_40 : decode cX7_copy 40 = .ok (.ldc_w 299, 3) := by decide +kernel
theorem dX7_copy_43 : decode cX7_copy 43 = .ok (.invokevirtual 105, 3) := by decide +kernel
theorem dX7_copy_46 : decode cX7_copy 46 = .ok (.ireturn, 1) := by decide +kernel
theorem dX7_copy_47 : decode cX7_copy 47 = .ok (.aload_n 0, 1) := by decide +kernel
theorem dX7_copy_48 : decode cX7_copy 48 = .ok (.getfield 39, 3) := by decide +kernel
theorem dX7_copy_51 : decode cX7_copy 51 = .ok (.iload_n 1, 1) := by decide +kernel
theorem dX7_copy_52 : decode cX7_copy 52 = .ok (.iaload, 1) := by decide +kernel
theorem dX7_copy_53 : decode cX7_copy 53 = .ok (.aload_n 0, 1) := by decide +kernel
theorem dX7_copy_54 : decode cX7_copy 54 = .ok (.getfield 39, 3) := by decide +kernel
theorem dX7_copy_57 : decode cX7_copy 57 = .ok (.iload_n 3, 1) := by decide +kernel
theorem dX7_copy_58 : decode cX7_copy 58 = .ok (.iaload, 1) := by decide +kernel
theorem dX7_copy_59 : decode cX7_copy 59 = .ok (.if_icmp .eq 10, 3) := by decide +kernel
theorem dX7_copy_62 : decode cX7_copy 62 = .ok (.aload_n 0, 1) := by decide +kernel
theorem dX7_copy_63 : decode cX7_copy 63 = .ok (.ldc 127, 2) := by decide +kernel
theorem dX7_copy_65 : decode cX7_copy 65 = .ok (.invokevirtual 105, 3) := by decide +kernel
theorem dX7_copy_68 : decode cX7_copy 68 = .ok (.ireturn, 1) := by decide +kernel
theorem dX7_copy_69 : decode cX7_copy 69 = .ok (.aload_n 0, 1) := by decide +kernel
theorem dX7_copy_70 : decode cX7_copy 70 = .ok (.iload_n 1, 1) := by decide +kernel
theorem dX7_copy_71 : decode cX7_copy 71 = .ok (.iload_n 2, 1) := by decide +kernel
theorem dX7_copy_72 : decode cX7_copy 72 = .ok (.iload 5, 2) := by decide +kernel
theorem dX7_copy_74 : decode cX7_copy 74 = .ok (.invokevirtual 304, 3) := by decide +kernel
theorem dX7_copy_77 : decode cX7_copy 77 = .ok (.ifCond .eq 15, 3) := by decide +kernel
theorem dX7_copy_80 : decode cX7_copy 80 = .ok (.aload_n 0, 1) := by decide +kernel
theorem dX7_copy_81 : decode cX7_copy 81 = .ok (.iload_n 3, 1) := by decide +kernel
theorem dX7_copy_82 : decode cX7_copy 82 = .ok (.iload 4, 2) := by decide +kernel
theorem dX7_copy_84 : decode cX7_copy 84 = .ok (.iload 5, 2) := by decide +kernel
theorem dX7_copy_86 : decode cX7_copy 86 = .ok (.invokevirtual 304, 3) := by decide +kernel
theorem dX7_copy_89 : decode cX7_copy 89 = .ok (.ifCond .ne 10, 3) := by decide +kernel
theorem dX7_copy_92 : decode cX7_copy 92 = .ok (.aload_n 0, 1) := by decide +kernel
theorem dX7_copy_93 : decode cX7_copy 93 = .ok (.ldc 57, 2) := by decide +kernel
theorem dX7_copy_95 : decode cX7_copy 95 = .ok (.invokevirtual 105, 3) := by decide +kernel
theorem dX7_copy_98 : decode cX7_copy 98 = .ok (.ireturn, 1) := by decide +kernel
theorem dX7_copy_99 : decode cX7_copy 99 = .ok (.iconst 0, 1) := by decide +kernel
theorem dX7_copy_100 : decode cX7_copy 100 = .ok (.istore 6, 2) := by decide +kernel
theorem dX7_copy_102 : decode cX7_copy 102 = .ok (.iload 6, 2) := by decide +kernel
theorem dX7_copy_104 : decode cX7_copy 104 = .ok (.iload 5, 2) := by decide +kernel
theorem dX7_copy_106 : decode cX7_copy 106 = .ok (.if_icmp .ge 30, 3) := by decide +kernel
theorem dX7_copy_109 : decode cX7_copy 109 = .ok (.aload_n 0, 1) := by decide +kernel
theorem dX7_copy_110 : decode cX7_copy 110 = .ok (.getfield 48, 3) := by decide +kernel
theorem dX7_copy_113 : decode cX7_copy 113 = .ok (.iload 6, 2) := by decide +kernel
theorem dX7_copy_115 : decode cX7_copy 115 = .ok (.aload_n 0, 1) := by decide +kernel
theorem dX7_copy_116 : decode cX7_copy 116 = .ok (.getfield 45, 3) := by decide +kernel
theorem dX7_copy_119 : decode cX7_copy 119 = .ok (.bipush 40, 2) := by decide +kernel
theorem dX7_copy_121 : decode cX7_copy 121 = .ok (.iload_n 1, 1) := by decide +kernel
theorem dX7_copy_122 : decode cX7_copy 122 = .ok (.imul, 1) := by decide +kernel
theorem dX7_copy_123 : decode cX7_copy 123 = .ok (.iload_n 2, 1) := by decide +kernel
theorem dX7_copy_124 : decode cX7_copy 124 = .ok (.iadd, 1) := by decide +kernel
theorem dX7_copy_125 : decode cX7_copy 125 = .ok (.iload 6, 2) := by decide +kernel
theorem dX7_copy_127 : decode cX7_copy 127 = .ok (.iadd, 1) := by decide +kernel
theorem dX7_copy_128 : decode cX7_copy 128 = .ok (.laload, 1) := by decide +kernel
theorem dX7_copy_129 : decode cX7_copy 129 = .ok (.lastore, 1) := by decide +kernel
theorem dX7_copy_130 : decode cX7_copy 130 = .ok (.iinc 6 1, 3) := by decide +kernel
theorem dX7_copy_133 : decode cX7_copy 133 = .ok (.goto (-31), 3) := by decide +kernel
theorem dX7_copy_136 : decode cX7_copy 136 = .ok (.iconst 0, 1) := by decide +kernel
theorem dX7_copy_137 : decode cX7_copy 137 = .ok (.istore 6, 2) := by decide +kernel
theorem dX7_copy_139 : decode cX7_copy 139 = .ok (.iload 6, 2) := by decide +kernel
theorem dX7_copy_141 : decode cX7_copy 141 = .ok (.iload 5, 2) := by decide +kernel
theorem dX7_copy_143 : decode cX7_copy 143 = .ok (.if_icmp .ge 31, 3) := by decide +kernel
theorem dX7_copy_146 : decode cX7_copy 146 = .ok (.aload_n 0, 1) := by decide +kernel
theorem dX7_copy_147 : decode cX7_copy 147 = .ok (.getfield 45, 3) := by decide +kernel
theorem dX7_copy_150 : decode cX7_copy 150 = .ok (.bipush 40, 2) := by decide +kernel
theorem dX7_copy_152 : decode cX7_copy 152 = .ok (.iload_n 3, 1) := by decide +kernel
theorem dX7_copy_153 : decode cX7_copy 153 = .ok (.imul, 1) := by decide +kernel
theorem dX7_copy_154 : decode cX7_copy 154 = .ok (.iload 4, 2) := by decide +kernel
theorem dX7_copy_156 : decode cX7_copy 156 = .ok (.iadd, 1) := by decide +kernel
theorem dX7_copy_157 : decode cX7_copy 157 = .ok (.iload 6, 2) := by decide +kernel
theorem dX7_copy_159 : decode cX7_copy 159 = .ok (.iadd, 1) := by decide +kernel
theorem dX7_copy_160 : decode cX7_copy 160 = .ok (.aload_n 0, 1) := by decide +kernel
theorem dX7_copy_161 : decode cX7_copy 161 = .ok (.getfield 48, 3) := by decide +kernel
theorem dX7_copy_164 : decode cX7_copy 164 = .ok (.iload 6, 2) := by decide +kernel
theorem dX7_copy_166 : decode cX7_copy 166 = .ok (.laload, 1) := by decide +kernel
theorem dX7_copy_167 : decode cX7_copy 167 = .ok (.lastore, 1) := by decide +kernel
theorem dX7_copy_168 : decode cX7_copy 168 = .ok (.iinc 6 1, 3) := by decide +kernel
theorem dX7_copy_171 : decode cX7_copy 171 = .ok (.goto (-32), 3) := by decide +kernel
theorem dX7_copy_174 : decode cX7_copy 174 = .ok (.iload 5, 2) := by decide +kernel
theorem dX7_copy_176 : decode cX7_copy 176 = .ok (.ireturn, 1) := by decide +kernel
def rmX7_copy : Room := { frames := 2, cells := 0, slots := 0, locals := 42 }
abbrev eX7_copy := Ev cX7_copy 7 (some .int) RX7 rmX7_copy
set_option maxRecDepth 20000 in
theorem ev_X7_copy_l102 (l1 : Int32) (l2 : Int32) (l3 : Int32) (l4 : Int32) (l5 : Int32)  (K : St → Prop) (Q : Int32 → St → Prop) (hK : ∀  s, K  s → eX7_copy 136 [.ref (49), un, un, .int (l3), .int (l4), .int (l5), un] [] s (qI Q)) : ∀ (n : Nat) (l6 : Int32) (σ : St), P_X7_copy_l102 l1 l2 l3 l4 l5 K Q n l6 σ → eX7_copy 102 [.ref (49), .int (l1), .int (l2), .int (l3), .int (l4), .int (l5), .int (l6)] [] σ (qI Q) := by
  intro n
  induction n with
  | zero => intro l6 σ hP; exact hP.elim
  | succ n ih =>
    intro l6 σ hP
    rw [P_X7_copy_l102] at hP
    refine E_iload dX7_copy_102 rfl ?_
    refine E_iload dX7_copy_104 rfl ?_
    refine E_icmp_ge 136 dX7_copy_106 (by decide) (fun hc => ?_) (fun hc => ?_)
    · replace hP := hP.1 hc
      refine E_mask [true, false, false, true, true, true, false] rfl ?_
      exact hK  _ hP
    · replace hP := hP.2 hc
      refine E_aload_n dX7_copy_109 rfl ?_
      refine E_getR (j := 19) dX7_copy_110 (show kd 49 = 7 by decide) (by decide) rfl fd_RX7_48 (by decide) ?_
      refine E_iload dX7_copy_113 rfl ?_
      refine E_aload_n dX7_copy_115 rfl ?_
      refine E_getR (j := 18) dX7_copy_116 (show kd 49 = 7 by decide) (by decide) rfl fd_RX7_45 (by decide) ?_
      refine E_bipush (v := 40) dX7_copy_119 (by decide) ?_
      refine E_iload_n dX7_copy_121 rfl ?_
      refine E_imul dX7_copy_122 ?_
      refine E_iload_n dX7_copy_123 rfl ?_
      refine E_iadd dX7_copy_124 ?_
      refine E_iload dX7_copy_125 rfl ?_
      refine E_iadd dX7_copy_127 ?_
      obtain ⟨hb, hP⟩ := hP
      refine E_lald dX7_copy_128 (ar_7_12 (show kd 49 = 7 by decide)).1 (ar_7_12 (show kd 49 = 7 by decide)).2 hb ?_
      obtain ⟨hb, hP⟩ := hP
      refine E_last dX7_copy_129 (ar_7_13 (show kd 49 = 7 by decide)).1 (ar_7_13 (show kd 49 = 7 by decide)).2 hb ?_
      refine E_iinc (ls' := [.ref (49), .int (l1), .int (l2), .int (l3), .int (l4), .int (l5), .int (l6 + 1)]) dX7_copy_130 rfl rfl (by decide) rfl ?_
      refine E_goto 102 dX7_copy_133 (by decide) ?_
      exact ih (l6 + 1) _ hP
set_option maxRecDepth 20000 in
theorem ev_X7_copy_l139 (l3 : Int32) (l4 : Int32) (l5 : Int32)  (K : St → Prop) (Q : Int32 → St → Prop) (hK : ∀  s, K  s → eX7_copy 174 [un, un, un, un, un, .int (l5), un] [] s (qI Q)) : ∀ (n : Nat) (l6 : Int32) (σ : St), P_X7_copy_l139 l3 l4 l5 K Q n l6 σ → eX7_copy 139 [.ref (49), un, un, .int (l3), .int (l4), .int (l5), .int (l6)] [] σ (qI Q) := by
  intro n
  induction n with
  | zero => intro l6 σ hP; exact hP.elim
  | succ n ih =>
    intro l6 σ hP
    rw [P_X7_copy_l139] at hP
    refine E_iload dX7_copy_139 rfl ?_
    refine E_iload dX7_copy_141 rfl ?_
    refine E_icmp_ge 174 dX7_copy_143 (by decide) (fun hc => ?_) (fun hc => ?_)
    · replace hP := hP.1 hc
      refine E_mask [false, false, false, false, false, true, false] rfl ?_
      exact hK  _ hP
    · replace hP := hP.2 hc
      refine E_aload_n dX7_copy_146 rfl ?_
      refine E_getR (j := 18) dX7_copy_147 (show kd 49 = 7 by decide) (by decide) rfl fd_RX7_45 (by decide) ?_
      refine E_bipush (v := 40) dX7_copy_150 (by decide) ?_
      refine E_iload_n dX7_copy_152 rfl ?_
      refine E_imul dX7_copy_153 ?_
      refine E_iload dX7_copy_154 rfl ?_
      refine E_iadd dX7_copy_156 ?_
      refine E_iload dX7_copy_157 rfl ?_
      refine E_iadd dX7_copy_159 ?_
      refine E_aload_n dX7_copy_160 rfl ?_
      refine E_getR (j := 19) dX7_copy_161 (show kd 49 = 7 by decide) (by decide) rfl fd_RX7_48 (by decide) ?_
      refine E_iload dX7_copy_164 rfl ?_
      obtain ⟨hb, hP⟩ := hP
      refine E_lald dX7_copy_166 (ar_7_13 (show kd 49 = 7 by decide)).1 (ar_7_13 (show kd 49 = 7 by decide)).2 hb ?_
      obtain ⟨hb, hP⟩ := hP
      refine E_last dX7_copy_167 (ar_7_12 (show kd 49 = 7 by decide)).1 (ar_7_12 (show kd 49 = 7 by decide)).2 hb ?_
      refine E_iinc (ls' := [.ref (49), un, un, .int (l3), .int (l4), .int (l5), .int (l6 + 1)]) dX7_copy_168 rfl rfl (by decide) rfl ?_
      refine E_goto 139 dX7_copy_171 (by decide) ?_
      exact ih (l6 + 1) _ hP
set_option maxRecDepth 20000 in
theorem mt_X7_copy (p0 : Int32) (p1 : Int32) (p2 : Int32) (p3 : Int32) (p4 : Int32) (σ : St) (Q : Int32 → St → Prop)  (hP : P_X7_copy p0 p1 p2 p3 p4 σ Q) : Mt yX7_copy cX7_copy 7 (some .int) rmX7_copy [.ref (49), .int (p0), .int (p1), .int (p2), .int (p3), .int (p4)] σ (qI Q) := by
  refine Mt.of (k := 1) (ls := [.ref (49), .int (p0), .int (p1), .int (p2), .int (p3), .int (p4), un]) (by decide +kernel) rfl (Nat.le_of_ble_eq_true rfl) ?_
  show eX7_copy 0 [.ref (49), .int (p0), .int (p1), .int (p2), .int (p3), .int (p4), un] [] σ _
  unfold P_X7_copy at hP
  refine E_iload_n dX7_copy_0 rfl ?_
  refine E_callS (As := [.int (p0)]) (rest := []) dX7_copy_1 cl_RX7_295 tw_705 ⟨rfl, rfl, Nat.le_of_ble_eq_true rfl, Nat.le_of_ble_eq_true rfl⟩ rfl rfl (Nat.le_of_ble_eq_true rfl) (mt_X7_isSheet _ _ _  hP) ?_
  intro r0 s0 hq0; obtain ⟨r1, h0, hs0, hP⟩ := hq0; subst h0; rw [hs0]
  show eX7_copy 4 [.ref (49), .int (p0), .int (p1), .int (p2), .int (p3), .int (p4), un] [.int (bI r1)] σ _
  refine E_ifz_eq 14 dX7_copy_4 (by decide) (fun hc => ?_) (fun hc => ?_)
  · replace hP := hP.1 hc
    refine E_aload_n dX7_copy_14 rfl ?_
    refine E_ldc (v := (-1000000001)) dX7_copy_15 tw_452 ?_
    refine E_callV (As := [.int ((-1000000001))]) (rest := []) dX7_copy_17 cl_RX7_105 tw_507 (show kd 49 = 7 by decide) (by decide) rfl tw_508 ⟨rfl, rfl, Nat.le_of_ble_eq_true rfl, Nat.le_of_ble_eq_true rfl⟩ rfl rfl (Nat.le_of_ble_eq_true rfl) (mt_X7_finds _ _ _  hP) ?_
    rintro _ t17 ⟨r17, rfl, hP⟩
    show eX7_copy 20 [.ref (49), .int (p0), .int (p1), .int (p2), .int (p3), .int (p4), un] [.int (r17)] t17 _
    exact E_iret dX7_copy_20 rfl ⟨_, rfl, hP⟩
  · replace hP := hP.2 hc
    refine E_iload_n dX7_copy_7 rfl ?_
    refine E_callS (As := [.int (p2)]) (rest := []) dX7_copy_8 cl_RX7_295 tw_705 ⟨rfl, rfl, Nat.le_of_ble_eq_true rfl, Nat.le_of_ble_eq_true rfl⟩ rfl rfl (Nat.le_of_ble_eq_true rfl) (mt_X7_isSheet _ _ _  hP) ?_
    intro r0 s0 hq0; obtain ⟨r8, h0, hs0, hP⟩ := hq0; subst h0; rw [hs0]
    show eX7_copy 11 [.ref (49), .int (p0), .int (p1), .int (p2), .int (p3), .int (p4), un] [.int (bI r8)] σ _
    refine E_ifz_ne 21 dX7_copy_11 (by decide) (fun hc => ?_) (fun hc => ?_)
    · replace hP := hP.1 hc
      refine E_aload_n dX7_copy_21 rfl ?_
      refine E_getR (j := 16) dX7_copy_22 (show kd 49 = 7 by decide) (by decide) rfl fd_RX7_39 (by decide) ?_
      refine E_iload_n dX7_copy_25 rfl ?_
      obtain ⟨hb, hP⟩ := hP
      refine E_iald dX7_copy_26 (ar_7_10 (show kd 49 = 7 by decide)).1 (ar_7_10 (show kd 49 = 7 by decide)).2 hb ?_
      refine E_if_eq 39 dX7_copy_27 (by decide) (fun hc => ?_) (fun hc => ?_)
      · replace hP := hP.1 hc
        refine E_aload_n dX7_copy_39 rfl ?_
        refine E_ldcw (v := (-1000000006)) dX7_copy_40 tw_709 ?_
        refine E_callV (As := [.int ((-1000000006))]) (rest := []) dX7_copy_43 cl_RX7_105 tw_507 (show kd 49 = 7 by decide) (by decide) rfl tw_508 ⟨rfl, rfl, Nat.le_of_ble_eq_true rfl, Nat.le_of_ble_eq_true rfl⟩ rfl rfl (Nat.le_of_ble_eq_true rfl) (mt_X7_finds _ _ _  hP) ?_
        rintro _ t43 ⟨r43, rfl, hP⟩
        show eX7_copy 46 [.ref (49), .int (p0), .int (p1), .int (p2), .int (p3), .int (p4), un] [.int (r43)] t43 _
        exact E_iret dX7_copy_46 rfl ⟨_, rfl, hP⟩
      · replace hP := hP.2 hc
        refine E_aload_n dX7_copy_30 rfl ?_
        refine E_getR (j := 16) dX7_copy_31 (show kd 49 = 7 by decide) (by decide) rfl fd_RX7_39 (by decide) ?_
        refine E_iload_n dX7_copy_34 rfl ?_
        obtain ⟨hb, hP⟩ := hP
        refine E_iald dX7_copy_35 (ar_7_10 (show kd 49 = 7 by decide)).1 (ar_7_10 (show kd 49 = 7 by decide)).2 hb ?_
        refine E_if_ne 47 dX7_copy_36 (by decide) (fun hc => ?_) (fun hc => ?_)
        · replace hP := hP.1 hc
          refine E_aload_n dX7_copy_47 rfl ?_
          refine E_getR (j := 16) dX7_copy_48 (show kd 49 = 7 by decide) (by decide) rfl fd_RX7_39 (by decide) ?_
          refine E_iload_n dX7_copy_51 rfl ?_
          obtain ⟨hb, hP⟩ := hP
          refine E_iald dX7_copy_52 (ar_7_10 (show kd 49 = 7 by decide)).1 (ar_7_10 (show kd 49 = 7 by decide)).2 hb ?_
          refine E_aload_n dX7_copy_53 rfl ?_
          refine E_getR (j := 16) dX7_copy_54 (show kd 49 = 7 by decide) (by decide) rfl fd_RX7_39 (by decide) ?_
          refine E_iload_n dX7_copy_57 rfl ?_
          obtain ⟨hb, hP⟩ := hP
          refine E_iald dX7_copy_58 (ar_7_10 (show kd 49 = 7 by decide)).1 (ar_7_10 (show kd 49 = 7 by decide)).2 hb ?_
          refine E_icmp_eq 69 dX7_copy_59 (by decide) (fun hc => ?_) (fun hc => ?_)
          · replace hP := hP.1 hc
            refine E_aload_n dX7_copy_69 rfl ?_
            refine E_iload_n dX7_copy_70 rfl ?_
            refine E_iload_n dX7_copy_71 rfl ?_
            refine E_iload dX7_copy_72 rfl ?_
            refine E_callV (As := [.int (p0), .int (p1), .int (p4)]) (rest := []) dX7_copy_74 cl_RX7_304 tw_713 (show kd 49 = 7 by decide) (by decide) rfl tw_714 ⟨rfl, rfl, Nat.le_of_ble_eq_true rfl, Nat.le_of_ble_eq_true rfl⟩ rfl rfl (Nat.le_of_ble_eq_true rfl) (mt_X7_isPart _ _ _ _ _  hP) ?_
            intro r0 s0 hq0; obtain ⟨r74, h0, hs0, hP⟩ := hq0; subst h0; rw [hs0]
            show eX7_copy 77 [.ref (49), .int (p0), .int (p1), .int (p2), .int (p3), .int (p4), un] [.int (bI r74)] σ _
            refine E_ifz_eq 92 dX7_copy_77 (by decide) (fun hc => ?_) (fun hc => ?_)
            · replace hP := hP.1 hc
              refine E_aload_n dX7_copy_92 rfl ?_
              refine E_ldc (v := (-1000000001)) dX7_copy_93 tw_452 ?_
              refine E_callV (As := [.int ((-1000000001))]) (rest := []) dX7_copy_95 cl_RX7_105 tw_507 (show kd 49 = 7 by decide) (by decide) rfl tw_508 ⟨rfl, rfl, Nat.le_of_ble_eq_true rfl, Nat.le_of_ble_eq_true rfl⟩ rfl rfl (Nat.le_of_ble_eq_true rfl) (mt_X7_finds _ _ _  hP) ?_
              rintro _ t95 ⟨r95, rfl, hP⟩
              show eX7_copy 98 [.ref (49), .int (p0), .int (p1), .int (p2), .int (p3), .int (p4), un] [.int (r95)] t95 _
              exact E_iret dX7_copy_98 rfl ⟨_, rfl, hP⟩
            · replace hP := hP.2 hc
              refine E_aload_n dX7_copy_80 rfl ?_
              refine E_iload_n dX7_copy_81 rfl ?_
              refine E_iload dX7_copy_82 rfl ?_
              refine E_iload dX7_copy_84 rfl ?_
              refine E_callV (As := [.int (p2), .int (p3), .int (p4)]) (rest := []) dX7_copy_86 cl_RX7_304 tw_713 (show kd 49 = 7 by decide) (by decide) rfl tw_714 ⟨rfl, rfl, Nat.le_of_ble_eq_true rfl, Nat.le_of_ble_eq_true rfl⟩ rfl rfl (Nat.le_of_ble_eq_true rfl) (mt_X7_isPart _ _ _ _ _  hP) ?_
              intro r0 s0 hq0; obtain ⟨r86, h0, hs0, hP⟩ := hq0; subst h0; rw [hs0]
              show eX7_copy 89 [.ref (49), .int (p0), .int (p1), .int (p2), .int (p3), .int (p4), un] [.int (bI r86)] σ _
              refine E_ifz_ne 99 dX7_copy_89 (by decide) (fun hc => ?_) (fun hc => ?_)
              · replace hP := hP.1 hc
                refine E_iconst (v := 0) dX7_copy_99 (by decide) ?_
                refine E_istore (ls' := [.ref (49), .int (p0), .int (p1), .int (p2), .int (p3), .int (p4), .int (0)]) dX7_copy_100 (by decide) rfl ?_
                obtain ⟨m102, hP⟩ := hP
                refine ev_X7_copy_l102 (p0) (p1) (p2) (p3) (p4)  _ Q ?_ m102 _ _ hP
                intro  t136 hP
                refine E_iconst (v := 0) dX7_copy_136 (by decide) ?_
                refine E_istore (ls' := [.ref (49), un, un, .int (p2), .int (p3), .int (p4), .int (0)]) dX7_copy_137 (by decide) rfl ?_
                obtain ⟨m139, hP⟩ := hP
                refine ev_X7_copy_l139 (p2) (p3) (p4)  _ Q ?_ m139 _ _ hP
                intro  t174 hP
                refine E_iload dX7_copy_174 rfl ?_
                exact E_iret dX7_copy_176 rfl ⟨_, rfl, hP⟩
              · replace hP := hP.2 hc
                refine E_aload_n dX7_copy_92 rfl ?_
                refine E_ldc (v := (-1000000001)) dX7_copy_93 tw_452 ?_
                refine E_callV (As := [.int ((-1000000001))]) (rest := []) dX7_copy_95 cl_RX7_105 tw_507 (show kd 49 = 7 by decide) (by decide) rfl tw_508 ⟨rfl, rfl, Nat.le_of_ble_eq_true rfl, Nat.le_of_ble_eq_true rfl⟩ rfl rfl (Nat.le_of_ble_eq_true rfl) (mt_X7_finds _ _ _  hP) ?_
                rintro _ t95 ⟨r95, rfl, hP⟩
                show eX7_copy 98 [.ref (49), .int (p0), .int (p1), .int (p2), .int (p3), .int (p4), un] [.int (r95)] t95 _
                exact E_iret dX7_copy_98 rfl ⟨_, rfl, hP⟩
          · replace hP := hP.2 hc
            refine E_aload_n dX7_copy_62 rfl ?_
            refine E_ldc (v := (-1000000003)) dX7_copy_63 tw_529 ?_
            refine E_callV (As := [.int ((-1000000003))]) (rest := []) dX7_copy_65 cl_RX7_105 tw_507 (show kd 49 = 7 by decide) (by decide) rfl tw_508 ⟨rfl, rfl, Nat.le_of_ble_eq_true rfl, Nat.le_of_ble_eq_true rfl⟩ rfl rfl (Nat.le_of_ble_eq_true rfl) (mt_X7_finds _ _ _  hP) ?_
            rintro _ t65 ⟨r65, rfl, hP⟩
            show eX7_copy 68 [.ref (49), .int (p0), .int (p1), .int (p2), .int (p3), .int (p4), un] [.int (r65)] t65 _
            exact E_iret dX7_copy_68 rfl ⟨_, rfl, hP⟩
        · replace hP := hP.2 hc
          refine E_aload_n dX7_copy_39 rfl ?_
          refine E_ldcw (v := (-1000000006)) dX7_copy_40 tw_709 ?_
          refine E_callV (As := [.int ((-1000000006))]) (rest := []) dX7_copy_43 cl_RX7_105 tw_507 (show kd 49 = 7 by decide) (by decide) rfl tw_508 ⟨rfl, rfl, Nat.le_of_ble_eq_true rfl, Nat.le_of_ble_eq_true rfl⟩ rfl rfl (Nat.le_of_ble_eq_true rfl) (mt_X7_finds _ _ _  hP) ?_
          rintro _ t43 ⟨r43, rfl, hP⟩
          show eX7_copy 46 [.ref (49), .int (p0), .int (p1), .int (p2), .int (p3), .int (p4), un] [.int (r43)] t43 _
          exact E_iret dX7_copy_46 rfl ⟨_, rfl, hP⟩
    · replace hP := hP.2 hc
      refine E_aload_n dX7_copy_14 rfl ?_
      refine E_ldc (v := (-1000000001)) dX7_copy_15 tw_452 ?_
      refine E_callV (As := [.int ((-1000000001))]) (rest := []) dX7_copy_17 cl_RX7_105 tw_507 (show kd 49 = 7 by decide) (by decide) rfl tw_508 ⟨rfl, rfl, Nat.le_of_ble_eq_true rfl, Nat.le_of_ble_eq_true rfl⟩ rfl rfl (Nat.le_of_ble_eq_true rfl) (mt_X7_finds _ _ _  hP) ?_
      rintro _ t17 ⟨r17, rfl, hP⟩
      show eX7_copy 20 [.ref (49), .int (p0), .int (p1), .int (p2), .int (p3), .int (p4), un] [.int (r17)] t17 _
      exact E_iret dX7_copy_20 rfl ⟨_, rfl, hP⟩
theorem dX7_lays_0 : decode cX7_lays 0 = .ok (.iload_n 1, 1) := by decide +kernel
theorem dX7_lays_1 : decode cX7_lays 1 = .ok (.invokestatic 295, 3) := by decide +kernel
theorem dX7_lays_4 : decode cX7_lays 4 = .ok (.ifCond .ne 10, 3) := by decide +kernel
theorem dX7_lays_7 : decode cX7_lays 7 = .ok (.aload_n 0, 1) := by decide +kernel
theorem dX7_lays_8 : decode cX7_lays 8 = .ok (.ldc 57, 2) := by decide +kernel
theorem dX7_lays_10 : decode cX7_lays 10 = .ok (.invokevirtual 105, 3) := by decide +kernel
theorem dX7_lays_13 : decode cX7_lays 13 = .ok (.ireturn, 1) := by decide +kernel
theorem dX7_lays_14 : decode cX7_lays 14 = .ok (.aload_n 0, 1) := by decide +kernel
theorem dX7_lays_15 : decode cX7_lays 15 = .ok (.getfield 39, 3) := by decide +kernel
theorem dX7_lays_18 : decode cX7_lays 18 = .ok (.iload_n 1, 1) := by decide +kernel
theorem dX7_lays_19 : decode cX7_lays 19 = .ok (.iaload, 1) := by decide +kernel
theorem dX7_lays_20 : decode cX7_lays 20 = .ok (.ifCond .ne 11, 3) := by decide +kernel
theorem dX7_lays_23 : decode cX7_lays 23 = .ok (.aload_n 0, 1) := by decide +kernel
theorem dX7_lays_24 : decode cX7_lays 24 = .ok (.ldc_w 299, 3) := by decide +kernel
theorem dX7_lays_27 : decode cX7_lays 27 = .ok (.invokevirtual 105, 3) := by decide +kernel
theorem dX7_lays_30 : decode cX7_lays 30 = .ok (.ireturn, 1) := by decide +kernel
theorem dX7_lays_31 : decode cX7_lays 31 = .ok (.iconst 0, 1) := by decide +kernel
theorem dX7_lays_32 : decode cX7_lays 32 = .ok (.istore_n 2, 1) := by decide +kernel
theorem dX7_lays_33 : decode cX7_lays 33 = .ok (.iconst 1, 1) := by decide +kernel
theorem dX7_lays_34 : decode cX7_lays 34 = .ok (.istore_n 3, 1) := by decide +kernel
theorem dX7_lays_35 : decode cX7_lays 35 = .ok (.iload_n 3, 1) := by decide +kernel
theorem dX7_lays_36 : decode cX7_lays 36 = .ok (.ifCond .eq 75, 3) := by decide +kernel
theorem dX7_lays_39 : decode cX7_lays 39 = .ok (.iload_n 2, 1) := by decide +kernel
theorem dX7_lays_40 : decode cX7_lays 40 = .ok (.aload_n 0, 1) := by decide +kernel
theorem dX7_lays_41 : decode cX7_lays 41 = .ok (.getfield 42, 3) := by decide +kernel
theorem dX7_lays_44 : decode cX7_lays 44 = .ok (.iload_n 1, 1) := by decide +kernel
theorem dX7_lays_45 : decode cX7_lays 45 = .ok (.iaload, 1) := by decide +kernel
theorem dX7_lays_46 : decode cX7_lays 46 = .ok (.if_icmp .ge 65, 3) := by decide +kernel
theorem dX7_lays_49 : decode cX7_lays 49 = .ok (.aload_n 0, 1) := by decide +kernel
theorem dX7_lays_50 : decode cX7_lays 50 = .ok (.getfield 45, 3) := by decide +kernel
theorem dX7_lays_53 : decode cX7_lays 53 = .ok (.bipush 40, 2) := by decide +kernel
theorem dX7_lays_55 : decode cX7_lays 55 = .ok (.iload_n 1, 1) := by decide +kernel
theorem dX7_lays_56 : decode cX7_lays 56 = .ok (.imul, 1) := by decide +kernel
theorem dX7_lays_57 : decode cX7_lays 57 = .ok (.iload_n 2, 1) := by decide +kernel
theorem dX7_lays_58 : decode cX7_lays 58 = .ok (.iadd, 1) := by decide +kernel
theorem dX7_lays_59 : decode cX7_lays 59 = .ok (.laload, 1) := by decide +kernel
theorem dX7_lays_60 : decode cX7_lays 60 = .ok (.lstore 4, 2) := by decide +kernel
theorem dX7_lays_62 : decode cX7_lays 62 = .ok (.lload 4, 2) := by decide +kernel
theorem dX7_lays_64 : decode cX7_lays 64 = .ok (.lconst 0, 1) := by decide +kernel
theorem dX7_lays_65 : decode cX7_lays 65 = .ok (.lcmp, 1) := by decide +kernel
theorem dX7_lays_66 : decode cX7_lays 66 = .ok (.ifCond .lt 26, 3) := by decide +kernel
theorem dX7_lays_69 : decode cX7_lays 69 = .ok (.lload 4, 2) := by decide +kernel
theorem dX7_lays_71 : decode cX7_lays 71 = .ok (.ldc2_w 307, 3) := by decide +kernel
theorem dX7_lays_74 : decode cX7_lays 74 = .ok (.lcmp, 1) := by decide +kernel
theorem dX7_lays_75 : decode cX7_lays 75 = .ok (.ifCond .ge 17, 3) := by decide +kernel
theorem dX7_lays_78 : decode cX7_lays 78 = .ok (.aload_n 0, 1) := by decide +kernel
theorem dX7_lays_79 : decode cX7_lays 79 = .ok (.lload 4, 2) := by decide +kernel
theorem dX7_lays_81 : decode cX7_lays 81 = .ok (.l2i, 1) := by decide +kernel
theorem dX7_lays_82 : decode cX7_lays 82 = .ok (.invokevirtual 142, 3) := by decide +kernel
theorem dX7_lays_85 : decode cX7_lays 85 = .ok (.ifCond .eq 7, 3) := by decide +kernel
theorem dX7_lays_88 : decode cX7_lays 88 = .ok (.iconst 1, 1) := by decide +kernel
theorem dX7_lays_89 : decode cX7_lays 89 = .ok (.goto 4, 3) := by decide +kernel
theorem dX7_lays_92 : decode cX7_lays 92 = .ok (.iconst 0, 1) := by decide +kernel
theorem dX7_lays_93 : decode cX7_lays 93 = .ok (.istore_n 3, 1) := by decide +kernel
theorem dX7_lays_94 : decode cX7_lays 94 = .ok (.iload_n 3, 1) := by decide +kernel
theorem dX7_lays_95 : decode cX7_lays 95 = .ok (.ifCond .eq 13, 3) := by decide +kernel
theorem dX7_lays_98 : decode cX7_lays 98 = .ok (.aload_n 0, 1) := by decide +kernel
theorem dX7_lays_99 : decode cX7_lays 99 = .ok (.lload 4, 2) := by decide +kernel
theorem dX7_lays_101 : decode cX7_lays 101 = .ok (.l2i, 1) := by decide +kernel
theorem dX7_lays_102 : decode cX7_lays 102 = .ok (.invokevirtual 145, 3) := by decide +kernel
theorem dX7_lays_105 : decode cX7_lays 105 = .ok (.iinc 2 1, 3) := by decide +kernel
theorem dX7_lays_108 : decode cX7_lays 108 = .ok (.goto (-73), 3) := by decide +kernel
theorem dX7_lays_111 : decode cX7_lays 111 = .ok (.iload_n 2, 1) := by decide +kernel
theorem dX7_lays_112 : decode cX7_lays 112 = .ok (.ireturn, 1) := by decide +kernel
def rmX7_lays : Room := { frames := 6, cells := 0, slots := 0, locals := 133 }
abbrev eX7_lays := Ev cX7_lays 6 (some .int) RX7 rmX7_lays
set_option maxRecDepth 20000 in
theorem ev_X7_lays_l35 (l1 : Int32)  (K : Int32 → St → Prop) (Q : Int32 → St → Prop) (hK : ∀ k2 s, K k2 s → eX7_lays 111 [un, un, .int (k2), un, un, un] [] s (qI Q)) : ∀ (n : Nat) (l2 : Int32) (l3 : Int32) (σ : St), P_X7_lays_l35 l1 K Q n l2 l3 σ → eX7_lays 35 [.ref (49), .int (l1), .int (l2), .int (l3), un, un] [] σ (qI Q) := by
  intro n
  induction n with
  | zero => intro l2 l3 σ hP; exact hP.elim
  | succ n ih =>
    intro l2 l3 σ hP
    rw [P_X7_lays_l35] at hP
    refine E_iload_n dX7_lays_35 rfl ?_
    refine E_if_eq 111 dX7_lays_36 (by decide) (fun hc => ?_) (fun hc => ?_)
    · replace hP := hP.1 hc
      refine E_mask [false, false, true, false, false, false] rfl ?_
      exact hK (l2) _ hP
    · replace hP := hP.2 hc
      refine E_iload_n dX7_lays_39 rfl ?_
      refine E_aload_n dX7_lays_40 rfl ?_
      refine E_getR (j := 17) dX7_lays_41 (show kd 49 = 7 by decide) (by decide) rfl fd_RX7_42 (by decide) ?_
      refine E_iload_n dX7_lays_44 rfl ?_
      obtain ⟨hb, hP⟩ := hP
      refine E_iald dX7_lays_45 (ar_7_11 (show kd 49 = 7 by decide)).1 (ar_7_11 (show kd 49 = 7 by decide)).2 hb ?_
      refine E_icmp_ge 111 dX7_lays_46 (by decide) (fun hc => ?_) (fun hc => ?_)
      · replace hP := hP.1 hc
        refine E_mask [false, false, true, false, false, false] rfl ?_
        exact hK (l2) _ hP
      · replace hP := hP.2 hc
        refine E_aload_n dX7_lays_49 rfl ?_
        refine E_getR (j := 18) dX7_lays_50 (show kd 49 = 7 by decide) (by decide) rfl fd_RX7_45 (by decide) ?_
        refine E_bipush (v := 40) dX7_lays_53 (by decide) ?_
        refine E_iload_n dX7_lays_55 rfl ?_
        refine E_imul dX7_lays_56 ?_
        refine E_iload_n dX7_lays_57 rfl ?_
        refine E_iadd dX7_lays_58 ?_
        obtain ⟨hb, hP⟩ := hP
        refine E_lald dX7_lays_59 (ar_7_12 (show kd 49 = 7 by decide)).1 (ar_7_12 (show kd 49 = 7 by decide)).2 hb ?_
        refine E_lstore (ls' := [.ref (49), .int (l1), .int (l2), .int (l3), .long (gL σ 61 ((40 * l1) + l2).toNatClampNeg), un]) dX7_lays_60 (by decide) rfl ?_
        refine E_lload dX7_lays_62 rfl ?_
        refine E_lconst (v := 0) dX7_lays_64 (by decide) ?_
        refine E_lcmp dX7_lays_65 ?_
        refine E_if_lt 92 dX7_lays_66 (by decide) (fun hc => ?_) (fun hc => ?_)
        · replace hP := hP.1 hc
          refine E_iconst (v := 0) dX7_lays_92 (by decide) ?_
          refine E_istore_n (ls' := [.ref (49), .int (l1), .int (l2), .int (0), .long (gL σ 61 ((40 * l1) + l2).toNatClampNeg), un]) dX7_lays_93 (by decide) rfl ?_
          refine E_iload_n dX7_lays_94 rfl ?_
          refine E_if_eq 108 dX7_lays_95 (by decide) (fun _ => ?_) (fun hc => absurd hc (by decide))
          refine E_goto 35 dX7_lays_108 (by decide) ?_
          refine E_mask [true, true, true, true, false, false] rfl ?_
          exact ih (l2) (0) _ hP
        · replace hP := hP.2 hc
          refine E_lload dX7_lays_69 rfl ?_
          refine E_ldc2 (v := 4) dX7_lays_71 tw_715 ?_
          refine E_lcmp dX7_lays_74 ?_
          refine E_if_ge 92 dX7_lays_75 (by decide) (fun hc => ?_) (fun hc => ?_)
          · replace hP := hP.1 hc
            refine E_iconst (v := 0) dX7_lays_92 (by decide) ?_
            refine E_istore_n (ls' := [.ref (49), .int (l1), .int (l2), .int (0), .long (gL σ 61 ((40 * l1) + l2).toNatClampNeg), un]) dX7_lays_93 (by decide) rfl ?_
            refine E_iload_n dX7_lays_94 rfl ?_
            refine E_if_eq 108 dX7_lays_95 (by decide) (fun _ => ?_) (fun hc => absurd hc (by decide))
            refine E_goto 35 dX7_lays_108 (by decide) ?_
            refine E_mask [true, true, true, true, false, false] rfl ?_
            exact ih (l2) (0) _ hP
          · replace hP := hP.2 hc
            refine E_aload_n dX7_lays_78 rfl ?_
            refine E_lload dX7_lays_79 rfl ?_
            refine E_l2i dX7_lays_81 ?_
            refine E_callV (As := [.int ((gL σ 61 ((40 * l1) + l2).toNatClampNeg : Int64).toInt32)]) (rest := []) dX7_lays_82 cl_RX7_142 tw_556 (show kd 49 = 7 by decide) (by decide) rfl tw_557 ⟨rfl, rfl, Nat.le_of_ble_eq_true rfl, Nat.le_of_ble_eq_true rfl⟩ rfl rfl (Nat.le_of_ble_eq_true rfl) (mt_X7_canPullNow _ _ _  hP) ?_
            rintro _ t82 ⟨r82, rfl, hP⟩
            show eX7_lays 85 [.ref (49), .int (l1), .int (l2), .int (l3), .long (gL σ 61 ((40 * l1) + l2).toNatClampNeg), un] [.int (bI r82)] t82 _
            refine E_ifz_eq 92 dX7_lays_85 (by decide) (fun hc => ?_) (fun hc => ?_)
            · replace hP := hP.1 hc
              refine E_iconst (v := 0) dX7_lays_92 (by decide) ?_
              refine E_istore_n (ls' := [.ref (49), .int (l1), .int (l2), .int (0), .long (gL σ 61 ((40 * l1) + l2).toNatClampNeg), un]) dX7_lays_93 (by decide) rfl ?_
              refine E_iload_n dX7_lays_94 rfl ?_
              refine E_if_eq 108 dX7_lays_95 (by decide) (fun _ => ?_) (fun hc => absurd hc (by decide))
              refine E_goto 35 dX7_lays_108 (by decide) ?_
              refine E_mask [true, true, true, true, false, false] rfl ?_
              exact ih (l2) (0) _ hP
            · replace hP := hP.2 hc
              refine E_iconst (v := 1) dX7_lays_88 (by decide) ?_
              refine E_goto 93 dX7_lays_89 (by decide) ?_
              refine E_istore_n (ls' := [.ref (49), .int (l1), .int (l2), .int (1), .long (gL σ 61 ((40 * l1) + l2).toNatClampNeg), un]) dX7_lays_93 (by decide) rfl ?_
              refine E_iload_n dX7_lays_94 rfl ?_
              refine E_if_eq 108 dX7_lays_95 (by decide) (fun hc => absurd hc (by decide)) (fun _ => ?_)
              refine E_aload_n dX7_lays_98 rfl ?_
              refine E_lload dX7_lays_99 rfl ?_
              refine E_l2i dX7_lays_101 ?_
              refine E_callV (As := [.int ((gL σ 61 ((40 * l1) + l2).toNatClampNeg : Int64).toInt32)]) (rest := []) dX7_lays_102 cl_RX7_145 tw_552 (show kd 49 = 7 by decide) (by decide) rfl tw_553 ⟨rfl, rfl, Nat.le_of_ble_eq_true rfl, Nat.le_of_ble_eq_true rfl⟩ rfl rfl (Nat.le_of_ble_eq_true rfl) (mt_X7_takeOut _ _ _  hP) ?_
              rintro _ t102 ⟨rfl, hP⟩
              show eX7_lays 105 [.ref (49), .int (l1), .int (l2), .int (1), .long (gL σ 61 ((40 * l1) + l2).toNatClampNeg), un] [] t102 _
              refine E_iinc (ls' := [.ref (49), .int (l1), .int (l2 + 1), .int (1), .long (gL σ 61 ((40 * l1) + l2).toNatClampNeg), un]) dX7_lays_105 rfl rfl (by decide) rfl ?_
              refine E_goto 35 dX7_lays_108 (by decide) ?_
              refine E_mask [true, true, true, true, false, false] rfl ?_
              exact ih (l2 + 1) (1) _ hP
set_option maxRecDepth 20000 in
theorem mt_X7_lays (p0 : Int32) (σ : St) (Q : Int32 → St → Prop)  (hP : P_X7_lays p0 σ Q) : Mt yX7_lays cX7_lays 6 (some .int) rmX7_lays [.ref (49), .int (p0)] σ (qI Q) := by
  refine Mt.of (k := 4) (ls := [.ref (49), .int (p0), un, un, un, un]) (by decide +kernel) rfl (Nat.le_of_ble_eq_true rfl) ?_
  show eX7_lays 0 [.ref (49), .int (p0), un, un, un, un] [] σ _
  unfold P_X7_lays at hP
  refine E_iload_n dX7_lays_0 rfl ?_
  refine E_callS (As := [.int (p0)]) (rest := []) dX7_lays_1 cl_RX7_295 tw_705 ⟨rfl, rfl, Nat.le_of_ble_eq_true rfl, Nat.le_of_ble_eq_true rfl⟩ rfl rfl (Nat.le_of_ble_eq_true rfl) (mt_X7_isSheet _ _ _  hP) ?_
  intro r0 s0 hq0; obtain ⟨r1, h0, hs0, hP⟩ := hq0; subst h0; rw [hs0]
  show eX7_lays 4 [.ref (49), .int (p0), un, un, un, un] [.int (bI r1)] σ _
  refine E_ifz_ne 14 dX7_lays_4 (by decide) (fun hc => ?_) (fun hc => ?_)
  · replace hP := hP.1 hc
    refine E_aload_n dX7_lays_14 rfl ?_
    refine E_getR (j := 16) dX7_lays_15 (show kd 49 = 7 by decide) (by decide) rfl fd_RX7_39 (by decide) ?_
    refine E_iload_n dX7_lays_18 rfl ?_
    obtain ⟨hb, hP⟩ := hP
    refine E_iald dX7_lays_19 (ar_7_10 (show kd 49 = 7 by decide)).1 (ar_7_10 (show kd 49 = 7 by decide)).2 hb ?_
    refine E_if_ne 31 dX7_lays_20 (by decide) (fun hc => ?_) (fun hc => ?_)
    · replace hP := hP.1 hc
      refine E_iconst (v := 0) dX7_lays_31 (by decide) ?_
      refine E_istore_n (ls' := [.ref (49), .int (p0), .int (0), un, un, un]) dX7_lays_32 (by decide) rfl ?_
      refine E_iconst (v := 1) dX7_lays_33 (by decide) ?_
      refine E_istore_n (ls' := [.ref (49), .int (p0), .int (0), .int (1), un, un]) dX7_lays_34 (by decide) rfl ?_
      obtain ⟨m35, hP⟩ := hP
      refine ev_X7_lays_l35 (p0)  _ Q ?_ m35 _ _ _ hP
      intro k2 t111 hP
      refine E_iload_n dX7_lays_111 rfl ?_
      exact E_iret dX7_lays_112 rfl ⟨_, rfl, hP⟩
    · replace hP := hP.2 hc
      refine E_aload_n dX7_lays_23 rfl ?_
      refine E_ldcw (v := (-1000000006)) dX7_lays_24 tw_709 ?_
      refine E_callV (As := [.int ((-1000000006))]) (rest := []) dX7_lays_27 cl_RX7_105 tw_507 (show kd 49 = 7 by decide) (by decide) rfl tw_508 ⟨rfl, rfl, Nat.le_of_ble_eq_true rfl, Nat.le_of_ble_eq_true rfl⟩ rfl rfl (Nat.le_of_ble_eq_true rfl) (mt_X7_finds _ _ _  hP) ?_
      rintro _ t27 ⟨r27, rfl, hP⟩
      show eX7_lays 30 [.ref (49), .int (p0), un, un, un, un] [.int (r27)] t27 _
      exact E_iret dX7_lays_30 rfl ⟨_, rfl, hP⟩
  · replace hP := hP.2 hc
    refine E_aload_n dX7_lays_7 rfl ?_
    refine E_ldc (v := (-1000000001)) dX7_lays_8 tw_452 ?_
    refine E_callV (As := [.int ((-1000000001))]) (rest := []) dX7_lays_10 cl_RX7_105 tw_507 (show kd 49 = 7 by decide) (by decide) rfl tw_508 ⟨rfl, rfl, Nat.le_of_ble_eq_true rfl, Nat.le_of_ble_eq_true rfl⟩ rfl rfl (Nat.le_of_ble_eq_true rfl) (mt_X7_finds _ _ _  hP) ?_
    rintro _ t10 ⟨r10, rfl, hP⟩
    show eX7_lays 13 [.ref (49), .int (p0), un, un, un, un] [.int (r10)] t10 _
    exact E_iret dX7_lays_13 rfl ⟨_, rfl, hP⟩
theorem dX7_book_0 : decode cX7_book 0 = .ok (.iload_n 1, 1) := by decide +kernel
theorem dX7_book_1 : decode cX7_book 1 = .ok (.invokestatic 295, 3) := by decide +kernel
theorem dX7_book_4 : decode cX7_book 4 = .ok (.ifCond .ne 10, 3) := by decide +kernel
theorem dX7_book_7 : decode cX7_book 7 = .ok (.aload_n 0, 1) := by decide +kernel
theorem dX7_book_8 : decode cX7_book 8 = .ok (.ldc 57, 2) := by decide +kernel
theorem dX7_book_10 : decode cX7_book 10 = .ok (.invokevirtual 105, 3) := by decide +kernel
theorem dX7_book_13 : decode cX7_book 13 = .ok (.ireturn, 1) := by decide +kernel
theorem dX7_book_14 : decode cX7_book 14 = .ok (.aload_n 0, 1) := by decide +kernel
theorem dX7_book_15 : decode cX7_book 15 = .ok (.getfield 39, 3) := by decide +kernel
theorem dX7_book_18 : decode cX7_book 18 = .ok (.iload_n 1, 1) := by decide +kernel
theorem dX7_book_19 : decode cX7_book 19 = .ok (.iaload, 1) := by decide +kernel
theorem dX7_book_20 : decode cX7_book 20 = .ok (.ifCond .ne 11, 3) := by decide +kernel
theorem dX7_book_23 : decode cX7_book 23 = .ok (.aload_n 0, 1) := by decide +kernel
theorem dX7_book_24 : decode cX7_book 24 = .ok (.ldc_w 299, 3) := by decide +kernel
theorem dX7_book_27 : decode cX7_book 27 = .ok (.invokevirtual 105, 3) := by decide +kernel
theorem dX7_book_30 : decode cX7_book 30 = .ok (.ireturn, 1) := by decide +kernel
theorem dX7_book_31 : decode cX7_book 31 = .ok (.iconst 0, 1) := by decide +kernel
theorem dX7_book_32 : decode cX7_book 32 = .ok (.istore_n 2, 1) := by decide +kernel
theorem dX7_book_33 : decode cX7_book 33 = .ok (.aload_n 0, 1) := by decide +kernel
theorem dX7_book_34 : decode cX7_book 34 = .ok (.invokevirtual 158, 3) := by decide +kernel
theorem dX7_book_37 : decode cX7_book 37 = .ok (.iload_n 2, 1) := by decide +kernel
theorem dX7_book_38 : decode cX7_book 38 = .ok (.bipush 28, 2) := by decide +kernel
theorem dX7_book_40 : decode cX7_book 40 = .ok (.if_icmp .gt 49, 3) := by decide +kernel
theorem dX7_book_43 : decode cX7_book 43 = .ok (.iload_n 2, 1) := by decide +kernel
theorem dX7_book_44 : decode cX7_book 44 = .ok (.aload_n 0, 1) := by decide +kernel
theorem dX7_book_45 : decode cX7_book 45 = .ok (.getfield 42, 3) := by decide +kernel
theorem dX7_book_48 : decode cX7_book 48 = .ok (.iload_n 1, 1) := by decide +kernel
theorem dX7_book_49 : decode cX7_book 49 = .ok (.iaload, 1) := by decide +kernel
theorem dX7_book_50 : decode cX7_book 50 = .ok (.if_icmp .ge 39, 3) := by decide +kernel
theorem dX7_book_53 : decode cX7_book 53 = .ok (.aload_n 0, 1) := by decide +kernel
theorem dX7_book_54 : decode cX7_book 54 = .ok (.getfield 45, 3) := by decide +kernel
theorem dX7_book_57 : decode cX7_book 57 = .ok (.bipush 40, 2) := by decide +kernel
theorem dX7_book_59 : decode cX7_book 59 = .ok (.iload_n 1, 1) := by decide +kernel
theorem dX7_book_60 : decode cX7_book 60 = .ok (.imul, 1) := by decide +kernel
theorem dX7_book_61 : decode cX7_book 61 = .ok (.iload_n 2, 1) := by decide +kernel
theorem dX7_book_62 : decode cX7_book 62 = .ok (.iadd, 1) := by decide +kernel
theorem dX7_book_63 : decode cX7_book 63 = .ok (.aload_n 0, 1) := by decide +kernel
theorem dX7_book_64 : decode cX7_book 64 = .ok (.getfield 39, 3) := by decide +kernel
theorem dX7_book_67 : decode cX7_book 67 = .ok (.iload_n 1, 1) := by decide +kernel
theorem dX7_book_68 : decode cX7_book 68 = .ok (.iaload, 1) := by decide +kernel
theorem dX7_book_69 : decode cX7_book 69 = .ok (.aload_n 0, 1) := by decide +kernel
theorem dX7_book_70 : decode cX7_book 70 = .ok (.aload_n 0, 1) := by decide +kernel
theorem dX7_book_71 : decode cX7_book 71 = .ok (.iload_n 2, 1) := by decide +kernel
theorem dX7_book_72 : decode cX7_book 72 = .ok (.invokevirtual 180, 3) := by decide +kernel
theorem dX7_book_75 : decode cX7_book 75 = .ok (.invokevirtual 183, 3) := by decide +kernel
theorem dX7_book_78 : decode cX7_book 78 = .ok (.i2l, 1) := by decide +kernel
theorem dX7_book_79 : decode cX7_book 79 = .ok (.invokestatic 300, 3) := by decide +kernel
theorem dX7_book_82 : decode cX7_book 82 = .ok (.lastore, 1) := by decide +kernel
theorem dX7_book_83 : decode cX7_book 83 = .ok (.iinc 2 1, 3) := by decide +kernel
theorem dX7_book_86 : decode cX7_book 86 = .ok (.goto (-49), 3) := by decide +kernel
theorem dX7_book_89 : decode cX7_book 89 = .ok (.iload_n 2, 1) := by decide +kernel
theorem dX7_book_90 : decode cX7_book 90 = .ok (.ireturn, 1) := by decide +kernel
def rmX7_book : Room := { frames := 6, cells := 0, slots := 0, locals := 136 }
abbrev eX7_book := Ev cX7_book 3 (some .int) RX7 rmX7_book
set_option maxRecDepth 20000 in
theorem ev_X7_book_l37 (l1 : Int32)  (K : Int32 → St → Prop) (Q : Int32 → St → Prop) (hK : ∀ k2 s, K k2 s → eX7_book 89 [un, un, .int (k2)] [] s (qI Q)) : ∀ (n : Nat) (l2 : Int32) (σ : St), P_X7_book_l37 l1 K Q n l2 σ → eX7_book 37 [.ref (49), .int (l1), .int (l2)] [] σ (qI Q) := by
  intro n
  induction n with
  | zero => intro l2 σ hP; exact hP.elim
  | succ n ih =>
    intro l2 σ hP
    rw [P_X7_book_l37] at hP
    refine E_iload_n dX7_book_37 rfl ?_
    refine E_bipush (v := 28) dX7_book_38 (by decide) ?_
    refine E_icmp_gt 89 dX7_book_40 (by decide) (fun hc => ?_) (fun hc => ?_)
    · replace hP := hP.1 hc
      refine E_mask [false, false, true] rfl ?_
      exact hK (l2) _ hP
    · replace hP := hP.2 hc
      refine E_iload_n dX7_book_43 rfl ?_
      refine E_aload_n dX7_book_44 rfl ?_
      refine E_getR (j := 17) dX7_book_45 (show kd 49 = 7 by decide) (by decide) rfl fd_RX7_42 (by decide) ?_
      refine E_iload_n dX7_book_48 rfl ?_
      obtain ⟨hb, hP⟩ := hP
      refine E_iald dX7_book_49 (ar_7_11 (show kd 49 = 7 by decide)).1 (ar_7_11 (show kd 49 = 7 by decide)).2 hb ?_
      refine E_icmp_ge 89 dX7_book_50 (by decide) (fun hc => ?_) (fun hc => ?_)
      · replace hP := hP.1 hc
        refine E_mask [false, false, true] rfl ?_
        exact hK (l2) _ hP
      · replace hP := hP.2 hc
        refine E_aload_n dX7_book_53 rfl ?_
        refine E_getR (j := 18) dX7_book_54 (show kd 49 = 7 by decide) (by decide) rfl fd_RX7_45 (by decide) ?_
        refine E_bipush (v := 40) dX7_book_57 (by decide) ?_
        refine E_iload_n dX7_book_59 rfl ?_
        refine E_imul dX7_book_60 ?_
        refine E_iload_n dX7_book_61 rfl ?_
        refine E_iadd dX7_book_62 ?_
        refine E_aload_n dX7_book_63 rfl ?_
        refine E_getR (j := 16) dX7_book_64 (show kd 49 = 7 by decide) (by decide) rfl fd_RX7_39 (by decide) ?_
        refine E_iload_n dX7_book_67 rfl ?_
        obtain ⟨hb, hP⟩ := hP
        refine E_iald dX7_book_68 (ar_7_10 (show kd 49 = 7 by decide)).1 (ar_7_10 (show kd 49 = 7 by decide)).2 hb ?_
        refine E_aload_n dX7_book_69 rfl ?_
        refine E_aload_n dX7_book_70 rfl ?_
        refine E_iload_n dX7_book_71 rfl ?_
        refine E_callV (As := [.int (l2)]) (rest := [.ref (49), .int (gI σ 59 l1.toNatClampNeg), .int ((40 * l1) + l2), .ref (61)]) dX7_book_72 cl_RX7_180 tw_609 (show kd 49 = 7 by decide) (by decide) rfl tw_610 ⟨rfl, rfl, Nat.le_of_ble_eq_true rfl, Nat.le_of_ble_eq_true rfl⟩ rfl rfl (Nat.le_of_ble_eq_true rfl) (mt_X7_richestNow _ _ _  hP) ?_
        intro r0 s0 hq0; obtain ⟨r72, h0, hs0, hP⟩ := hq0; subst h0; rw [hs0]
        show eX7_book 75 [.ref (49), .int (l1), .int (l2)] [.int (r72), .ref (49), .int (gI σ 59 l1.toNatClampNeg), .int ((40 * l1) + l2), .ref (61)] σ _
        refine E_callV (As := [.int (r72)]) (rest := [.int (gI σ 59 l1.toNatClampNeg), .int ((40 * l1) + l2), .ref (61)]) dX7_book_75 cl_RX7_183 tw_605 (show kd 49 = 7 by decide) (by decide) rfl tw_606 ⟨rfl, rfl, Nat.le_of_ble_eq_true rfl, Nat.le_of_ble_eq_true rfl⟩ rfl rfl (Nat.le_of_ble_eq_true rfl) (mt_X7_paidIn _ _ _  hP) ?_
        intro r0 s0 hq0; obtain ⟨r75, h0, hs0, hP⟩ := hq0; subst h0; rw [hs0]
        show eX7_book 78 [.ref (49), .int (l1), .int (l2)] [.int (r75), .int (gI σ 59 l1.toNatClampNeg), .int ((40 * l1) + l2), .ref (61)] σ _
        refine E_i2l dX7_book_78 ?_
        refine E_callS (As := [.int (gI σ 59 l1.toNatClampNeg), .long ((r75 : Int32).toInt64)]) (rest := [.int ((40 * l1) + l2), .ref (61)]) dX7_book_79 cl_RX7_300 tw_708 ⟨rfl, rfl, Nat.le_of_ble_eq_true rfl, Nat.le_of_ble_eq_true rfl⟩ rfl rfl (Nat.le_of_ble_eq_true rfl) (mt_X7_narrow _ _ _ _  hP) ?_
        intro r0 s0 hq0; obtain ⟨r79, h0, hs0, hP⟩ := hq0; subst h0; rw [hs0]
        show eX7_book 82 [.ref (49), .int (l1), .int (l2)] [.long (r79), .int ((40 * l1) + l2), .ref (61)] σ _
        obtain ⟨hb, hP⟩ := hP
        refine E_last dX7_book_82 (ar_7_12 (show kd 49 = 7 by decide)).1 (ar_7_12 (show kd 49 = 7 by decide)).2 hb ?_
        refine E_iinc (ls' := [.ref (49), .int (l1), .int (l2 + 1)]) dX7_book_83 rfl rfl (by decide) rfl ?_
        refine E_goto 37 dX7_book_86 (by decide) ?_
        exact ih (l2 + 1) _ hP
set_option maxRecDepth 20000 in
theorem mt_X7_book (p0 : Int32) (σ : St) (Q : Int32 → St → Prop)  (hP : P_X7_book p0 σ Q) : Mt yX7_book cX7_book 3 (some .int) rmX7_book [.ref (49), .int (p0)] σ (qI Q) := by
  refine Mt.of (k := 1) (ls := [.ref (49), .int (p0), un]) (by decide +kernel) rfl (Nat.le_of_ble_eq_true rfl) ?_
  show eX7_book 0 [.ref (49), .int (p0), un] [] σ _
  unfold P_X7_book at hP
  refine E_iload_n dX7_book_0 rfl ?_
  refine E_callS (As := [.int (p0)]) (rest := []) dX7_book_1 cl_RX7_295 tw_705 ⟨rfl, rfl, Nat.le_of_ble_eq_true rfl, Nat.le_of_ble_eq_true rfl⟩ rfl rfl (Nat.le_of_ble_eq_true rfl) (mt_X7_isSheet _ _ _  hP) ?_
  intro r0 s0 hq0; obtain ⟨r1, h0, hs0, hP⟩ := hq0; subst h0; rw [hs0]
  show eX7_book 4 [.ref (49), .int (p0), un] [.int (bI r1)] σ _
  refine E_ifz_ne 14 dX7_book_4 (by decide) (fun hc => ?_) (fun hc => ?_)
  · replace hP := hP.1 hc
    refine E_aload_n dX7_book_14 rfl ?_
    refine E_getR (j := 16) dX7_book_15 (show kd 49 = 7 by decide) (by decide) rfl fd_RX7_39 (by decide) ?_
    refine E_iload_n dX7_book_18 rfl ?_
    obtain ⟨hb, hP⟩ := hP
    refine E_iald dX7_book_19 (ar_7_10 (show kd 49 = 7 by decide)).1 (ar_7_10 (show kd 49 = 7 by decide)).2 hb ?_
    refine E_if_ne 31 dX7_book_20 (by decide) (fun hc => ?_) (fun hc => ?_)
    · replace hP := hP.1 hc
      refine E_iconst (v := 0) dX7_book_31 (by decide) ?_
      refine E_istore_n (ls' := [.ref (49), .int (p0), .int (0)]) dX7_book_32 (by decide) rfl ?_
      refine E_aload_n dX7_book_33 rfl ?_
      refine E_callV (As := []) (rest := []) dX7_book_34 cl_RX7_158 tw_574 (show kd 49 = 7 by decide) (by decide) rfl tw_575 ⟨rfl, rfl, Nat.le_of_ble_eq_true rfl, Nat.le_of_ble_eq_true rfl⟩ rfl rfl (Nat.le_of_ble_eq_true rfl) (mt_X7_findRows  _ _  hP) ?_
      rintro _ t34 ⟨rfl, hP⟩
      show eX7_book 37 [.ref (49), .int (p0), .int (0)] [] t34 _
      obtain ⟨m37, hP⟩ := hP
      refine ev_X7_book_l37 (p0)  _ Q ?_ m37 _ _ hP
      intro k2 t89 hP
      refine E_iload_n dX7_book_89 rfl ?_
      exact E_iret dX7_book_90 rfl ⟨_, rfl, hP⟩
    · replace hP := hP.2 hc
      refine E_aload_n dX7_book_23 rfl ?_
      refine E_ldcw (v := (-1000000006)) dX7_book_24 tw_709 ?_
      refine E_callV (As := [.int ((-1000000006))]) (rest := []) dX7_book_27 cl_RX7_105 tw_507 (show kd 49 = 7 by decide) (by decide) rfl tw_508 ⟨rfl, rfl, Nat.le_of_ble_eq_true rfl, Nat.le_of_ble_eq_true rfl⟩ rfl rfl (Nat.le_of_ble_eq_true rfl) (mt_X7_finds _ _ _  hP) ?_
      rintro _ t27 ⟨r27, rfl, hP⟩
      show eX7_book 30 [.ref (49), .int (p0), un] [.int (r27)] t27 _
      exact E_iret dX7_book_30 rfl ⟨_, rfl, hP⟩
  · replace hP := hP.2 hc
    refine E_aload_n dX7_book_7 rfl ?_
    refine E_ldc (v := (-1000000001)) dX7_book_8 tw_452 ?_
    refine E_callV (As := [.int ((-1000000001))]) (rest := []) dX7_book_10 cl_RX7_105 tw_507 (show kd 49 = 7 by decide) (by decide) rfl tw_508 ⟨rfl, rfl, Nat.le_of_ble_eq_true rfl, Nat.le_of_ble_eq_true rfl⟩ rfl rfl (Nat.le_of_ble_eq_true rfl) (mt_X7_finds _ _ _  hP) ?_
    rintro _ t10 ⟨r10, rfl, hP⟩
    show eX7_book 13 [.ref (49), .int (p0), un] [.int (r10)] t10 _
    exact E_iret dX7_book_13 rfl ⟨_, rfl, hP⟩
