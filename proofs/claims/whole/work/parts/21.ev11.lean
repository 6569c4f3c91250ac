theorem dX7_countRows_0 : decode cX7_countRows 0 = .ok (.aload_n 0, 1) := by decide +kernel
theorem dX7_countRows_1 : decode cX7_countRows 1 = .ok (.invokevirtual 113, 3) := by decide +kernel
theorem dX7_countRows_4 : decode cX7_countRows 4 = .ok (.aload_n 0, 1) := by decide +kernel
theorem dX7_countRows_5 : decode cX7_countRows 5 = .ok (.invokevirtual 120, 3) := by decide +kernel
theorem dX7_countRows_8 : decode cX7_countRows 8 = .ok (.istore_n 1, 1) := by decide +kernel
theorem dX7_countRows_9 : decode cX7_countRows 9 = .ok (.iconst 0, 1) := by decide +kernel
theorem dX7_countRows_10 : decode cX7_countRows 10 = .ok (.istore_n 2, 1) := by decide +kernel
theorem dX7_countRows_11 : decode cX7_countRows 11 = .ok (.iload_n 2, 1) := by decide +kernel
theorem dX7_countRows_12 : decode cX7_countRows 12 = .ok (.iload_n 1, 1) := by decide +kernel
theorem dX7_countRows_13 : decode cX7_countRows 13 = .ok (.if_icmp .gt 16, 3) := by decide +kernel
theorem dX7_countRows_16 : decode cX7_countRows 16 = .ok (.aload_n 0, 1) := by decide +kernel
theorem dX7_countRows_17 : decode cX7_countRows 17 = .ok (.getfield 22, 3) := by decide +kernel
theorem dX7_countRows_20 : decode cX7_countRows 20 = .ok (.iload_n 2, 1) := by decide +kernel
theorem dX7_countRows_21 : decode cX7_countRows 21 = .ok (.lconst 0, 1) := by decide +kernel
theorem dX7_countRows_22 : decode cX7_countRows 22 = .ok (.lastore, 1) := by decide +kernel
theorem dX7_countRows_23 : decode cX7_countRows 23 = .ok (.iinc 2 1, 3) := by decide +kernel
theorem dX7_countRows_26 : decode cX7_countRows 26 = .ok (.goto (-15), 3) := by decide +kernel
theorem dX7_countRows_29 : decode cX7_countRows 29 = .ok (.aload_n 0, 1) := by decide +kernel
theorem dX7_countRows_30 : decode cX7_countRows 30 = .ok (.getfield 22, 3) := by decide +kernel
theorem dX7_countRows_33 : decode cX7_countRows 33 = .ok (.iload_n 1, 1) := by decide +kernel
theorem dX7_countRows_34 : decode cX7_countRows 34 = .ok (.lconst 1, 1) := by decide +kernel
theorem dX7_countRows_35 : decode cX7_countRows 35 = .ok (.lastore, 1) := by decide +kernel
theorem dX7_countRows_36 : decode cX7_countRows 36 = .ok (.iload_n 1, 1) := by decide +kernel
theorem dX7_countRows_37 : decode cX7_countRows 37 = .ok (.istore_n 2, 1) := by decide +kernel
theorem dX7_countRows_38 : decode cX7_countRows 38 = .ok (.iload_n 2, 1) := by decide +kernel
theorem dX7_countRows_39 : decode cX7_countRows 39 = .ok (.ifCond .lt 99, 3) := by decide +kernel
theorem dX7_countRows_42 : decode cX7_countRows 42 = .ok (.aload_n 0, 1) := by decide +kernel
theorem dX7_countRows_43 : decode cX7_countRows 43 = .ok (.getfield 22, 3) := by decide +kernel
theorem dX7_countRows_46 : decode cX7_countRows 46 = .ok (.iload_n 2, 1) := by decide +kernel
theorem dX7_countRows_47 : decode cX7_countRows 47 = .ok (.laload, 1) := by decide +kernel
theorem dX7_countRows_48 : decode cX7_countRows 48 = .ok (.lconst 0, 1) := by decide +kernel
theorem dX7_countRows_49 : decode cX7_countRows 49 = .ok (.lcmp, 1) := by decide +kernel
theorem dX7_countRows_50 : decode cX7_countRows 50 = .ok (.ifCond .le 23, 3) := by decide +kernel
theorem dX7_countRows_53 : decode cX7_countRows 53 = .ok (.iload_n 2, 1) := by decide +kernel
theorem dX7_countRows_54 : decode cX7_countRows 54 = .ok (.iload_n 1, 1) := by decide +kernel
theorem dX7_countRows_55 : decode cX7_countRows 55 = .ok (.if_icmp .eq 18, 3) := by decide +kernel
theorem dX7_countRows_58 : decode cX7_countRows 58 = .ok (.aload_n 0, 1) := by decide +kernel
theorem dX7_countRows_59 : decode cX7_countRows 59 = .ok (.iload_n 2, 1) := by decide +kernel
theorem dX7_countRows_60 : decode cX7_countRows 60 = .ok (.invokevirtual 99, 3) := by decide +kernel
theorem dX7_countRows_63 : decode cX7_countRows 63 = .ok (.ifCond .ne 10, 3) := by decide +kernel
theorem dX7_countRows_66 : decode cX7_countRows 66 = .ok (.aload_n 0, 1) := by decide +kernel
theorem dX7_countRows_67 : decode cX7_countRows 67 = .ok (.getfield 22, 3) := by decide +kernel
theorem dX7_countRows_70 : decode cX7_countRows 70 = .ok (.iload_n 2, 1) := by decide +kernel
theorem dX7_countRows_71 : decode cX7_countRows 71 = .ok (.lconst 0, 1) := by decide +kernel
theorem dX7_countRows_72 : decode cX7_countRows 72 = .ok (.lastore, 1) := by decide +kernel
theorem dX7_countRows_73 : decode cX7_countRows 73 = .ok (.iconst 0, 1) := by decide +kernel
theorem dX7_countRows_74 : decode cX7_countRows 74 = .ok (.istore_n 3, 1) := by decide +kernel
theorem dX7_countRows_75 : decode cX7_countRows 75 = .ok (.iload_n 3, 1) := by decide +kernel
theorem dX7_countRows_76 : decode cX7_countRows 76 = .ok (.iconst 4, 1) := by decide +kernel
theorem dX7_countRows_77 : decode cX7_countRows 77 = .ok (.if_icmp .ge 55, 3) := by decide +kernel
theorem dX7_countRows_80 : decode cX7_countRows 80 = .ok (.aload_n 0, 1) := by decide +kernel
theorem dX7_countRows_81 : decode cX7_countRows 81 = .ok (.getfield 22, 3) := by decide +kernel
theorem dX7_countRows_84 : decode cX7_countRows 84 = .ok (.iload_n 2, 1) := by decide +kernel
theorem dX7_countRows_85 : decode cX7_countRows 85 = .ok (.laload, 1) := by decide +kernel
theorem dX7_countRows_86 : decode cX7_countRows 86 = .ok (.lconst 0, 1) := by decide +kernel
theorem dX7_countRows_87 : decode cX7_countRows 87 = .ok (.lcmp, 1) := by decide +kernel
theorem dX7_countRows_88 : decode cX7_countRows 88 = .ok (.ifCond .le 44, 3) := by decide +kernel
theorem dX7_countRows_91 : decode cX7_countRows 91 = .ok (.aload_n 0, 1) := by decide +kernel
theorem dX7_countRows_92 : decode cX7_countRows 92 = .ok (.getfield 26, 3) := by decide +kernel
theorem dX7_countRows_95 : decode cX7_countRows 95 = .ok (.iload_n 2, 1) := by decide +kernel
theorem dX7_countRows_96 : decode cX7_countRows 96 = .ok (.iaload, 1) := by decide +kernel
theorem dX7_countRows_97 : decode cX7_countRows 97 = .ok (.iload_n 3, 1) := by decide +kernel
theorem dX7_countRows_98 : decode cX7_countRows 98 = .ok (.ishr, 1) := by decide +kernel
theorem dX7_countRows_99 : decode cX7_countRows 99 = .ok (.iconst 1, 1) := by decide +kernel
theorem dX7_countRows_100 : decode cX7_countRows 100 = .ok (.iand, 1) := by decide +kernel
theorem dX7_countRows_101 : decode cX7_countRows 101 = .ok (.iconst 1, 1) := by decide +kernel
theorem dX7_countRows_102 : decode cX7_countRows 102 = .ok (.if_icmp .ne 24, 3) := by decide +kernel
theorem dX7_countRows_105 : decode cX7_countRows 105 = .ok (.aload_n 0, 1) := by decide +kernel
theorem dX7_countRows_106 : decode cX7_countRows 106 = .ok (.getfield 22, 3) := by decide +kernel
theorem dX7_countRows_109 : decode cX7_countRows 109 = .ok (.iload_n 2, 1) := by decide +kernel
theorem dX7_countRows_110 : decode cX7_countRows 110 = .ok (.iconst 1, 1) := by decide +kernel
theorem dX7_countRows_111 : decode cX7_countRows 111 = .ok (.iconst 3, 1) := by decide +kernel
theorem dX7_countRows_112 : decode cX7_countRows 112 = .ok (.iload_n 3, 1) := by decide +kernel
theorem dX7_countRows_113 : decode cX7_countRows 113 = .ok (.imul, 1) := by decide +kernel
theorem dX7_countRows_114 : decode cX7_countRows 114 = .ok (.ishl, 1) := by decide +kernel
theorem dX7_countRows_115 : decode cX7_countRows 115 = .ok (.isub, 1) := by decide +kernel
theorem dX7_countRows_116 : decode cX7_countRows 116 = .ok (.dup2, 1) := by decide +kernel
theorem dX7_countRows_117 : decode cX7_countRows 117 = .ok (.laload, 1) := by decide +kernel
theorem dX7_countRows_118 : decode cX7_countRows 118 = .ok (.aload_n 0, 1) := by decide +kernel
theorem dX7_countRows_119 : decode cX7_countRows 119 = .ok (.getfield 22, 3) := by decide +kernel
theorem dX7_countRows_122 : decode cX7_countRows 122 = .ok (.iload_n 2, 1) := by decide +kernel
theorem dX7_countRows_123 : decode cX7_countRows 123 = .ok (.laload, 1) := by decide +kernel
theorem dX7_countRows_124 : decode cX7_countRows 124 = .ok (.ladd, 1) := by decide +kernel
theorem dX7_countRows_125 : decode cX7_countRows 125 = .ok (.lastore, 1) := by decide +kernel
theorem dX7_countRows_126 : decode cX7_countRows 126 = .ok (.iinc 3 1, 3) := by decide +kernel
theorem dX7_countRows_129 : decode cX7_countRows 129 = .ok (.goto (-54), 3) := by decide +kernel
theorem dX7_countRows_132 : decode cX7_countRows 132 = .ok (.iinc 2 (-1), 3) := by decide +kernel
theorem dX7_countRows_135 : decode cX7_countRows 135 = .ok (.goto (-97), 3) := by decide +kernel
theorem dX7_countRows_138 : decode cX7_countRows 138 = .ok (.return_, 1) := by decide +kernel
def rmX7_countRows : Room := { frames := 4, cells := 0, slots := 0, locals := 93 }
abbrev eX7_countRows := Ev cX7_countRows 4 none RX7 rmX7_countRows
set_option maxRecDepth 20000 in
theorem ev_X7_countRows_l11 (l1 : Int32)  (K : St → Prop) (Q : St → Prop) (hK : ∀  s, K  s → eX7_countRows 29 [.ref (49), .int (l1), un, un] [] s (qV Q)) : ∀ (n : Nat) (l2 : Int32) (σ : St), P_X7_countRows_l11 l1 K Q n l2 σ → eX7_countRows 11 [.ref (49), .int (l1), .int (l2), un] [] σ (qV Q) := by
  intro n
  induction n with
  | zero => intro l2 σ hP; exact hP.elim
  | succ n ih =>
    intro l2 σ hP
    rw [P_X7_countRows_l11] at hP
    refine E_iload_n dX7_countRows_11 rfl ?_
    refine E_iload_n dX7_countRows_12 rfl ?_
    refine E_icmp_gt 29 dX7_countRows_13 (by decide) (fun hc => ?_) (fun hc => ?_)
    · replace hP := hP.1 hc
      refine E_mask [true, true, false, false] rfl ?_
      exact hK  _ hP
    · replace hP := hP.2 hc
      refine E_aload_n dX7_countRows_16 rfl ?_
      refine E_getR (j := 4) dX7_countRows_17 (show kd 49 = 7 by decide) (by decide) rfl fd_RX7_22 (by decide) ?_
      refine E_iload_n dX7_countRows_20 rfl ?_
      refine E_lconst (v := 0) dX7_countRows_21 (by decide) ?_
      obtain ⟨hb, hP⟩ := hP
      refine E_last dX7_countRows_22 (ar_7_5 (show kd 49 = 7 by decide)).1 (ar_7_5 (show kd 49 = 7 by decide)).2 hb ?_
      refine E_iinc (ls' := [.ref (49), .int (l1), .int (l2 + 1), un]) dX7_countRows_23 rfl rfl (by decide) rfl ?_
      refine E_goto 11 dX7_countRows_26 (by decide) ?_
      exact ih (l2 + 1) _ hP
set_option maxRecDepth 20000 in
theorem ev_X7_countRows_l75 (l1 : Int32) (l2 : Int32)  (K : St → Prop) (Q : St → Prop) (hK : ∀  s, K  s → eX7_countRows 132 [.ref (49), .int (l1), .int (l2), un] [] s (qV Q)) : ∀ (n : Nat) (l3 : Int32) (σ : St), P_X7_countRows_l75 l1 l2 K Q n l3 σ → eX7_countRows 75 [.ref (49), .int (l1), .int (l2), .int (l3)] [] σ (qV Q) := by
  intro n
  induction n with
  | zero => intro l3 σ hP; exact hP.elim
  | succ n ih =>
    intro l3 σ hP
    rw [P_X7_countRows_l75] at hP
    refine E_iload_n dX7_countRows_75 rfl ?_
    refine E_iconst (v := 4) dX7_countRows_76 (by decide) ?_
    refine E_icmp_ge 132 dX7_countRows_77 (by decide) (fun hc => ?_) (fun hc => ?_)
    · replace hP := hP.1 hc
      refine E_mask [true, true, true, false] rfl ?_
      exact hK  _ hP
    · replace hP := hP.2 hc
      refine E_aload_n dX7_countRows_80 rfl ?_
      refine E_getR (j := 4) dX7_countRows_81 (show kd 49 = 7 by decide) (by decide) rfl fd_RX7_22 (by decide) ?_
      refine E_iload_n dX7_countRows_84 rfl ?_
      obtain ⟨hb, hP⟩ := hP
      refine E_lald dX7_countRows_85 (ar_7_5 (show kd 49 = 7 by decide)).1 (ar_7_5 (show kd 49 = 7 by decide)).2 hb ?_
      refine E_lconst (v := 0) dX7_countRows_86 (by decide) ?_
      refine E_lcmp dX7_countRows_87 ?_
      refine E_if_le 132 dX7_countRows_88 (by decide) (fun hc => ?_) (fun hc => ?_)
      · replace hP := hP.1 hc
        refine E_mask [true, true, true, false] rfl ?_
        exact hK  _ hP
      · replace hP := hP.2 hc
        refine E_aload_n dX7_countRows_91 rfl ?_
        refine E_getR (j := 5) dX7_countRows_92 (show kd 49 = 7 by decide) (by decide) rfl fd_RX7_26 (by decide) ?_
        refine E_iload_n dX7_countRows_95 rfl ?_
        obtain ⟨hb, hP⟩ := hP
        refine E_iald dX7_countRows_96 (ar_7_6 (show kd 49 = 7 by decide)).1 (ar_7_6 (show kd 49 = 7 by decide)).2 hb ?_
        refine E_iload_n dX7_countRows_97 rfl ?_
        refine E_ishr dX7_countRows_98 ?_
        refine E_iconst (v := 1) dX7_countRows_99 (by decide) ?_
        refine E_iand dX7_countRows_100 ?_
        refine E_iconst (v := 1) dX7_countRows_101 (by decide) ?_
        refine E_icmp_ne 126 dX7_countRows_102 (by decide) (fun hc => ?_) (fun hc => ?_)
        · replace hP := hP.1 hc
          refine E_iinc (ls' := [.ref (49), .int (l1), .int (l2), .int (l3 + 1)]) dX7_countRows_126 rfl rfl (by decide) rfl ?_
          refine E_goto 75 dX7_countRows_129 (by decide) ?_
          exact ih (l3 + 1) _ hP
        · replace hP := hP.2 hc
          refine E_aload_n dX7_countRows_105 rfl ?_
          refine E_getR (j := 4) dX7_countRows_106 (show kd 49 = 7 by decide) (by decide) rfl fd_RX7_22 (by decide) ?_
          refine E_iload_n dX7_countRows_109 rfl ?_
          refine E_iconst (v := 1) dX7_countRows_110 (by decide) ?_
          refine E_iconst (v := 3) dX7_countRows_111 (by decide) ?_
          refine E_iload_n dX7_countRows_112 rfl ?_
          refine E_imul dX7_countRows_113 ?_
          refine E_ishl dX7_countRows_114 ?_
          refine E_isub dX7_countRows_115 ?_
          refine E_dup2 dX7_countRows_116 rfl rfl ?_
          obtain ⟨hb, hP⟩ := hP
          refine E_lald dX7_countRows_117 (ar_7_5 (show kd 49 = 7 by decide)).1 (ar_7_5 (show kd 49 = 7 by decide)).2 hb ?_
          refine E_aload_n dX7_countRows_118 rfl ?_
          refine E_getR (j := 4) dX7_countRows_119 (show kd 49 = 7 by decide) (by decide) rfl fd_RX7_22 (by decide) ?_
          refine E_iload_n dX7_countRows_122 rfl ?_
          obtain ⟨hb, hP⟩ := hP
          refine E_lald dX7_countRows_123 (ar_7_5 (show kd 49 = 7 by decide)).1 (ar_7_5 (show kd 49 = 7 by decide)).2 hb ?_
          refine E_ladd dX7_countRows_124 ?_
          obtain ⟨hb, hP⟩ := hP
          refine E_last dX7_countRows_125 (ar_7_5 (show kd 49 = 7 by decide)).1 (ar_7_5 (show kd 49 = 7 by decide)).2 hb ?_
          refine E_iinc (ls' := [.ref (49), .int (l1), .int (l2), .int (l3 + 1)]) dX7_countRows_126 rfl rfl (by decide) rfl ?_
          refine E_goto 75 dX7_countRows_129 (by decide) ?_
          exact ih (l3 + 1) _ hP
set_option maxRecDepth 20000 in
theorem ev_X7_countRows_l38 (l1 : Int32)  (K : St → Prop) (Q : St → Prop) (hK : ∀  s, K  s → eX7_countRows 138 [un, un, un, un] [] s (qV Q)) : ∀ (n : Nat) (l2 : Int32) (σ : St), P_X7_countRows_l38 l1 K Q n l2 σ → eX7_countRows 38 [.ref (49), .int (l1), .int (l2), un] [] σ (qV Q) := by
  intro n
  induction n with
  | zero => intro l2 σ hP; exact hP.elim
  | succ n ih =>
    intro l2 σ hP
    rw [P_X7_countRows_l38] at hP
    refine E_iload_n dX7_countRows_38 rfl ?_
    refine E_if_lt 138 dX7_countRows_39 (by decide) (fun hc => ?_) (fun hc => ?_)
    · replace hP := hP.1 hc
      refine E_mask [false, false, false, false] rfl ?_
      exact hK  _ hP
    · replace hP := hP.2 hc
      refine E_aload_n dX7_countRows_42 rfl ?_
      refine E_getR (j := 4) dX7_countRows_43 (show kd 49 = 7 by decide) (by decide) rfl fd_RX7_22 (by decide) ?_
      refine E_iload_n dX7_countRows_46 rfl ?_
      obtain ⟨hb, hP⟩ := hP
      refine E_lald dX7_countRows_47 (ar_7_5 (show kd 49 = 7 by decide)).1 (ar_7_5 (show kd 49 = 7 by decide)).2 hb ?_
      refine E_lconst (v := 0) dX7_countRows_48 (by decide) ?_
      refine E_lcmp dX7_countRows_49 ?_
      refine E_if_le 73 dX7_countRows_50 (by decide) (fun hc => ?_) (fun hc => ?_)
      · replace hP := hP.1 hc
        refine E_iconst (v := 0) dX7_countRows_73 (by decide) ?_
        refine E_istore_n (ls' := [.ref (49), .int (l1), .int (l2), .int (0)]) dX7_countRows_74 (by decide) rfl ?_
        obtain ⟨m75, hP⟩ := hP
        refine ev_X7_countRows_l75 (l1) (l2)  _ Q ?_ m75 _ _ hP
        intro  t132 hP
        refine E_iinc (ls' := [.ref (49), .int (l1), .int (l2 + (-1)), un]) dX7_countRows_132 rfl rfl (by decide) rfl ?_
        refine E_goto 38 dX7_countRows_135 (by decide) ?_
        exact ih (l2 + (-1)) _ hP
      · replace hP := hP.2 hc
        refine E_iload_n dX7_countRows_53 rfl ?_
        refine E_iload_n dX7_countRows_54 rfl ?_
        refine E_icmp_eq 73 dX7_countRows_55 (by decide) (fun hc => ?_) (fun hc => ?_)
        · replace hP := hP.1 hc
          refine E_iconst (v := 0) dX7_countRows_73 (by decide) ?_
          refine E_istore_n (ls' := [.ref (49), .int (l1), .int (l2), .int (0)]) dX7_countRows_74 (by decide) rfl ?_
          obtain ⟨m75, hP⟩ := hP
          refine ev_X7_countRows_l75 (l1) (l2)  _ Q ?_ m75 _ _ hP
          intro  t132 hP
          refine E_iinc (ls' := [.ref (49), .int (l1), .int (l2 + (-1)), un]) dX7_countRows_132 rfl rfl (by decide) rfl ?_
          refine E_goto 38 dX7_countRows_135 (by decide) ?_
          exact ih (l2 + (-1)) _ hP
        · replace hP := hP.2 hc
          refine E_aload_n dX7_countRows_58 rfl ?_
          refine E_iload_n dX7_countRows_59 rfl ?_
          refine E_callV (As := [.int (l2)]) (rest := []) dX7_countRows_60 cl_RX7_99 tw_499 (show kd 49 = 7 by decide) (by decide) rfl tw_500 ⟨rfl, rfl, Nat.le_of_ble_eq_true rfl, Nat.le_of_ble_eq_true rfl⟩ rfl rfl (Nat.le_of_ble_eq_true rfl) (mt_X7_isSafe _ _ _  hP) ?_
          intro r0 s0 hq0; obtain ⟨r60, h0, hs0, hP⟩ := hq0; subst h0; rw [hs0]
          show eX7_countRows 63 [.ref (49), .int (l1), .int (l2), un] [.int (bI r60)] σ _
          refine E_ifz_ne 73 dX7_countRows_63 (by decide) (fun hc => ?_) (fun hc => ?_)
          · replace hP := hP.1 hc
            refine E_iconst (v := 0) dX7_countRows_73 (by decide) ?_
            refine E_istore_n (ls' := [.ref (49), .int (l1), .int (l2), .int (0)]) dX7_countRows_74 (by decide) rfl ?_
            obtain ⟨m75, hP⟩ := hP
            refine ev_X7_countRows_l75 (l1) (l2)  _ Q ?_ m75 _ _ hP
            intro  t132 hP
            refine E_iinc (ls' := [.ref (49), .int (l1), .int (l2 + (-1)), un]) dX7_countRows_132 rfl rfl (by decide) rfl ?_
            refine E_goto 38 dX7_countRows_135 (by decide) ?_
            exact ih (l2 + (-1)) _ hP
          · replace hP := hP.2 hc
            refine E_aload_n dX7_countRows_66 rfl ?_
            refine E_getR (j := 4) dX7_countRows_67 (show kd 49 = 7 by decide) (by decide) rfl fd_RX7_22 (by decide) ?_
            refine E_iload_n dX7_countRows_70 rfl ?_
            refine E_lconst (v := 0) dX7_countRows_71 (by decide) ?_
            obtain ⟨hb, hP⟩ := hP
            refine E_last dX7_countRows_72 (ar_7_5 (show kd 49 = 7 by decide)).1 (ar_7_5 (show kd 49 = 7 by decide)).2 hb ?_
            refine E_iconst (v := 0) dX7_countRows_73 (by decide) ?_
            refine E_istore_n (ls' := [.ref (49), .int (l1), .int (l2), .int (0)]) dX7_countRows_74 (by decide) rfl ?_
            obtain ⟨m75, hP⟩ := hP
            refine ev_X7_countRows_l75 (l1) (l2)  _ Q ?_ m75 _ _ hP
            intro  t132 hP
            refine E_iinc (ls' := [.ref (49), .int (l1), .int (l2 + (-1)), un]) dX7_countRows_132 rfl rfl (by decide) rfl ?_
            refine E_goto 38 dX7_countRows_135 (by decide) ?_
            exact ih (l2 + (-1)) _ hP
set_option maxRecDepth 20000 in
theorem mt_X7_countRows  (σ : St) (Q : St → Prop)  (hP : P_X7_countRows  σ Q) : Mt yX7_countRows cX7_countRows 4 none rmX7_countRows [.ref (49)] σ (qV Q) := by
  refine Mt.of (k := 3) (ls := [.ref (49), un, un, un]) (by decide +kernel) rfl (Nat.le_of_ble_eq_true rfl) ?_
  show eX7_countRows 0 [.ref (49), un, un, un] [] σ _
  unfold P_X7_countRows at hP
  refine E_aload_n dX7_countRows_0 rfl ?_
  refine E_callV (As := []) (rest := []) dX7_countRows_1 cl_RX7_113 tw_519 (show kd 49 = 7 by decide) (by decide) rfl tw_520 ⟨rfl, rfl, Nat.le_of_ble_eq_true rfl, Nat.le_of_ble_eq_true rfl⟩ rfl rfl (Nat.le_of_ble_eq_true rfl) (mt_X7_findTops  _ _  hP) ?_
  rintro _ t1 ⟨rfl, hP⟩
  show eX7_countRows 4 [.ref (49), un, un, un] [] t1 _
  refine E_aload_n dX7_countRows_4 rfl ?_
  refine E_callV (As := []) (rest := []) dX7_countRows_5 cl_RX7_120 tw_523 (show kd 49 = 7 by decide) (by decide) rfl tw_524 ⟨rfl, rfl, Nat.le_of_ble_eq_true rfl, Nat.le_of_ble_eq_true rfl⟩ rfl rfl (Nat.le_of_ble_eq_true rfl) (mt_X7_standNow  _ _  hP) ?_
  intro r0 s0 hq0; obtain ⟨r5, h0, hs0, hP⟩ := hq0; subst h0; rw [hs0]
  show eX7_countRows 8 [.ref (49), un, un, un] [.int (r5)] t1 _
  refine E_istore_n (ls' := [.ref (49), .int (r5), un, un]) dX7_countRows_8 (by decide) rfl ?_
  refine E_iconst (v := 0) dX7_countRows_9 (by decide) ?_
  refine E_istore_n (ls' := [.ref (49), .int (r5), .int (0), un]) dX7_countRows_10 (by decide) rfl ?_
  obtain ⟨m11, hP⟩ := hP
  refine ev_X7_countRows_l11 (r5)  _ Q ?_ m11 _ _ hP
  intro  t29 hP
  refine E_aload_n dX7_countRows_29 rfl ?_
  refine E_getR (j := 4) dX7_countRows_30 (show kd 49 = 7 by decide) (by decide) rfl fd_RX7_22 (by decide) ?_
  refine E_iload_n dX7_countRows_33 rfl ?_
  refine E_lconst (v := 1) dX7_countRows_34 (by decide) ?_
  obtain ⟨hb, hP⟩ := hP
  refine E_last dX7_countRows_35 (ar_7_5 (show kd 49 = 7 by decide)).1 (ar_7_5 (show kd 49 = 7 by decide)).2 hb ?_
  refine E_iload_n dX7_countRows_36 rfl ?_
  refine E_istore_n (ls' := [.ref (49), .int (r5), .int (r5), un]) dX7_countRows_37 (by decide) rfl ?_
  obtain ⟨m38, hP⟩ := hP
  refine ev_X7_countRows_l38 (r5)  _ Q ?_ m38 _ _ hP
  intro  t138 hP
  exact E_vret dX7_countRows_138 rfl ⟨rfl, hP⟩
theorem dX7_findRows_0 : decode cX7_findRows 0 = .ok (.aload_n 0, 1) := by decide +kernel
theorem dX7_findRows_1 : decode cX7_findRows 1 = .ok (.invokevirtual 152, 3) := by decide +kernel
theorem dX7_findRows_4 : decode cX7_findRows 4 = .ok (.aload_n 0, 1) := by decide +kernel
theorem dX7_findRows_5 : decode cX7_findRows 5 = .ok (.invokevirtual 155, 3) := by decide +kernel
theorem dX7_findRows_8 : decode cX7_findRows 8 = .ok (.return_, 1) := by decide +kernel
def rmX7_findRows : Room := { frames := 5, cells := 0, slots := 0, locals := 116 }
abbrev eX7_findRows := Ev cX7_findRows 1 none RX7 rmX7_findRows
set_option maxRecDepth 20000 in
theorem mt_X7_findRows  (σ : St) (Q : St → Prop)  (hP : P_X7_findRows  σ Q) : Mt yX7_findRows cX7_findRows 1 none rmX7_findRows [.ref (49)] σ (qV Q) := by
  refine Mt.of (k := 0) (ls := [.ref (49)]) (by decide +kernel) rfl (Nat.le_of_ble_eq_true rfl) ?_
  show eX7_findRows 0 [.ref (49)] [] σ _
  unfold P_X7_findRows at hP
  refine E_aload_n dX7_findRows_0 rfl ?_
  refine E_callV (As := []) (rest := []) dX7_findRows_1 cl_RX7_152 tw_570 (show kd 49 = 7 by decide) (by decide) rfl tw_571 ⟨rfl, rfl, Nat.le_of_ble_eq_true rfl, Nat.le_of_ble_eq_true rfl⟩ rfl rfl (Nat.le_of_ble_eq_true rfl) (mt_X7_findGoes  _ _  hP) ?_
  rintro _ t1 ⟨rfl, hP⟩
  show eX7_findRows 4 [.ref (49)] [] t1 _
  refine E_aload_n dX7_findRows_4 rfl ?_
  refine E_callV (As := []) (rest := []) dX7_findRows_5 cl_RX7_155 tw_566 (show kd 49 = 7 by decide) (by decide) rfl tw_567 ⟨rfl, rfl, Nat.le_of_ble_eq_true rfl, Nat.le_of_ble_eq_true rfl⟩ rfl rfl (Nat.le_of_ble_eq_true rfl) (mt_X7_countRows  _ _  hP) ?_
  rintro _ t5 ⟨rfl, hP⟩
  show eX7_findRows 8 [.ref (49)] [] t5 _
  exact E_vret dX7_findRows_8 rfl ⟨rfl, hP⟩
theorem dX7_can_0 : decode cX7_can 0 = .ok (.aload_n 0, 1) := by decide +kernel
theorem dX7_can_1 : decode cX7_can 1 = .ok (.iload_n 1, 1) := by decide +kernel
theorem dX7_can_2 : decode cX7_can 2 = .ok (.invokevirtual 149, 3) := by decide +kernel
theorem dX7_can_5 : decode cX7_can 5 = .ok (.ifCond .ne 10, 3) := by decide +kernel
theorem dX7_can_8 : decode cX7_can 8 = .ok (.aload_n 0, 1) := by decide +kernel
theorem dX7_can_9 : decode cX7_can 9 = .ok (.ldc 57, 2) := by decide +kernel
theorem dX7_can_11 : decode cX7_can 11 = .ok (.invokevirtual 105, 3) := by decide +kernel
theorem dX7_can_14 : decode cX7_can 14 = .ok (.ireturn, 1) := by decide +kernel
theorem dX7_can_15 : decode cX7_can 15 = .ok (.aload_n 0, 1) := by decide +kernel
theorem dX7_can_16 : decode cX7_can 16 = .ok (.invokevirtual 158, 3) := by decide +kernel
theorem dX7_can_19 : decode cX7_can 19 = .ok (.aload_n 0, 1) := by decide +kernel
theorem dX7_can_20 : decode cX7_can 20 = .ok (.getfield 22, 3) := by decide +kernel
theorem dX7_can_23 : decode cX7_can 23 = .ok (.iload_n 1, 1) := by decide +kernel
theorem dX7_can_24 : decode cX7_can 24 = .ok (.laload, 1) := by decide +kernel
theorem dX7_can_25 : decode cX7_can 25 = .ok (.lconst 0, 1) := by decide +kernel
theorem dX7_can_26 : decode cX7_can 26 = .ok (.lcmp, 1) := by decide +kernel
theorem dX7_can_27 : decode cX7_can 27 = .ok (.ifCond .le 7, 3) := by decide +kernel
theorem dX7_can_30 : decode cX7_can 30 = .ok (.iconst 1, 1) := by decide +kernel
theorem dX7_can_31 : decode cX7_can 31 = .ok (.goto 4, 3) := by decide +kernel
theorem dX7_can_34 : decode cX7_can 34 = .ok (.iconst 0, 1) := by decide +kernel
theorem dX7_can_35 : decode cX7_can 35 = .ok (.ireturn, 1) := by decide +kernel
def rmX7_can : Room := { frames := 6, cells := 0, slots := 0, locals := 136 }
abbrev eX7_can := Ev cX7_can 2 (some .int) RX7 rmX7_can
set_option maxRecDepth 20000 in
theorem mt_X7_can (p0 : Int32) (σ : St) (Q : Int32 → St → Prop)  (hP : P_X7_can p0 σ Q) : Mt yX7_can cX7_can 2 (some .int) rmX7_can [.ref (49), .int (p0)] σ (qI Q) := by
  refine Mt.of (k := 0) (ls := [.ref (49), .int (p0)]) (by decide +kernel) rfl (Nat.le_of_ble_eq_true rfl) ?_
  show eX7_can 0 [.ref (49), .int (p0)] [] σ _
  unfold P_X7_can at hP
  refine E_aload_n dX7_can_0 rfl ?_
  refine E_iload_n dX7_can_1 rfl ?_
  refine E_callV (As := [.int (p0)]) (rest := []) dX7_can_2 cl_RX7_149 tw_561 (show kd 49 = 7 by decide) (by decide) rfl tw_562 ⟨rfl, rfl, Nat.le_of_ble_eq_true rfl, Nat.le_of_ble_eq_true rfl⟩ rfl rfl (Nat.le_of_ble_eq_true rfl) (mt_X7_isStand _ _ _  hP) ?_
  intro r0 s0 hq0; obtain ⟨r2, h0, hs0, hP⟩ := hq0; subst h0; rw [hs0]
  show eX7_can 5 [.ref (49), .int (p0)] [.int (bI r2)] σ _
  refine E_ifz_ne 15 dX7_can_5 (by decide) (fun hc => ?_) (fun hc => ?_)
  · replace hP := hP.1 hc
    refine E_aload_n dX7_can_15 rfl ?_
    refine E_callV (As := []) (rest := []) dX7_can_16 cl_RX7_158 tw_574 (show kd 49 = 7 by decide) (by decide) rfl tw_575 ⟨rfl, rfl, Nat.le_of_ble_eq_true rfl, Nat.le_of_ble_eq_true rfl⟩ rfl rfl (Nat.le_of_ble_eq_true rfl) (mt_X7_findRows  _ _  hP) ?_
    rintro _ t16 ⟨rfl, hP⟩
    show eX7_can 19 [.ref (49), .int (p0)] [] t16 _
    refine E_aload_n dX7_can_19 rfl ?_
    refine E_getR (j := 4) dX7_can_20 (show kd 49 = 7 by decide) (by decide) rfl fd_RX7_22 (by decide) ?_
    refine E_iload_n dX7_can_23 rfl ?_
    obtain ⟨hb, hP⟩ := hP
    refine E_lald dX7_can_24 (ar_7_5 (show kd 49 = 7 by decide)).1 (ar_7_5 (show kd 49 = 7 by decide)).2 hb ?_
    refine E_lconst (v := 0) dX7_can_25 (by decide) ?_
    refine E_lcmp dX7_can_26 ?_
    refine E_if_le 34 dX7_can_27 (by decide) (fun hc => ?_) (fun hc => ?_)
    · replace hP := hP.1 hc
      refine E_iconst (v := 0) dX7_can_34 (by decide) ?_
      exact E_iret dX7_can_35 rfl ⟨_, rfl, hP⟩
    · replace hP := hP.2 hc
      refine E_iconst (v := 1) dX7_can_30 (by decide) ?_
      refine E_goto 35 dX7_can_31 (by decide) ?_
      exact E_iret dX7_can_35 rfl ⟨_, rfl, hP⟩
  · replace hP := hP.2 hc
    refine E_aload_n dX7_can_8 rfl ?_
    refine E_ldc (v := (-1000000001)) dX7_can_9 tw_452 ?_
    refine E_callV (As := [.int ((-1000000001))]) (rest := []) dX7_can_11 cl_RX7_105 tw_507 (show kd 49 = 7 by decide) (by decide) rfl tw_508 ⟨rfl, rfl, Nat.le_of_ble_eq_true rfl, Nat.le_of_ble_eq_true rfl⟩ rfl rfl (Nat.le_of_ble_eq_true rfl) (mt_X7_finds _ _ _  hP) ?_
    rintro _ t11 ⟨r11, rfl, hP⟩
    show eX7_can 14 [.ref (49), .int (p0)] [.int (r11)] t11 _
    exact E_iret dX7_can_14 rfl ⟨_, rfl, hP⟩
theorem dX7_howManyNow_0 : decode cX7_howManyNow 0 = .ok (.aload_n 0, 1) := by decide +kernel
theorem dX7_howManyNow_1 : decode cX7_howManyNow 1 = .ok (.invokevirtual 155, 3) := by decide +kernel
theorem dX7_howManyNow_4 : decode cX7_howManyNow 4 = .ok (.iconst 0, 1) := by decide +kernel
theorem dX7_howManyNow_5 : decode cX7_howManyNow 5 = .ok (.istore_n 1, 1) := by decide +kernel
theorem dX7_howManyNow_6 : decode cX7_howManyNow 6 = .ok (.iconst 0, 1) := by decide +kernel
theorem dX7_howManyNow_7 : decode cX7_howManyNow 7 = .ok (.istore_n 2, 1) := by decide +kernel
theorem dX7_howManyNow_8 : decode cX7_howManyNow 8 = .ok (.iload_n 2, 1) := by decide +kernel
theorem dX7_howManyNow_9 : decode cX7_howManyNow 9 = .ok (.aload_n 0, 1) := by decide +kernel
theorem dX7_howManyNow_10 : decode cX7_howManyNow 10 = .ok (.invokevirtual 120, 3) := by decide +kernel
theorem dX7_howManyNow_13 : decode cX7_howManyNow 13 = .ok (.if_icmp .gt 28, 3) := by decide +kernel
theorem dX7_howManyNow_16 : decode cX7_howManyNow 16 = .ok (.iload_n 1, 1) := by decide +kernel
theorem dX7_howManyNow_17 : decode cX7_howManyNow 17 = .ok (.aload_n 0, 1) := by decide +kernel
theorem dX7_howManyNow_18 : decode cX7_howManyNow 18 = .ok (.getfield 22, 3) := by decide +kernel
theorem dX7_howManyNow_21 : decode cX7_howManyNow 21 = .ok (.iload_n 2, 1) := by decide +kernel
theorem dX7_howManyNow_22 : decode cX7_howManyNow 22 = .ok (.laload, 1) := by decide +kernel
theorem dX7_howManyNow_23 : decode cX7_howManyNow 23 = .ok (.lconst 0, 1) := by decide +kernel
theorem dX7_howManyNow_24 : decode cX7_howManyNow 24 = .ok (.lcmp, 1) := by decide +kernel
theorem dX7_howManyNow_25 : decode cX7_howManyNow 25 = .ok (.ifCond .le 7, 3) := by decide +kernel
theorem dX7_howManyNow_28 : decode cX7_howManyNow 28 = .ok (.iconst 1, 1) := by decide +kernel
theorem dX7_howManyNow_29 : decode cX7_howManyNow 29 = .ok (.goto 4, 3) := by decide +kernel
theorem dX7_howManyNow_32 : decode cX7_howManyNow 32 = .ok (.iconst 0, 1) := by decide +kernel
theorem dX7_howManyNow_33 : decode cX7_howManyNow 33 = .ok (.iadd, 1) := by decide +kernel
theorem dX7_howManyNow_34 : decode cX7_howManyNow 34 = .ok (.istore_n 1, 1) := by decide +kernel
theorem dX7_howManyNow_35 : decode cX7_howManyNow 35 = .ok (.iinc 2 1, 3) := by decide +kernel
theorem dX7_howManyNow_38 : decode cX7_howManyNow 38 = .ok (.goto (-30), 3) := by decide +kernel
theorem dX7_howManyNow_41 : decode cX7_howManyNow 41 = .ok (.iload_n 1, 1) := by decide +kernel
theorem dX7_howManyNow_42 : decode cX7_howManyNow 42 = .ok (.ireturn, 1) := by decide +kernel
def rmX7_howManyNow : Room := { frames := 5, cells := 0, slots := 0, locals := 116 }
abbrev eX7_howManyNow := Ev cX7_howManyNow 3 (some .int) RX7 rmX7_howManyNow
set_option maxRecDepth 20000 in
theorem ev_X7_howManyNow_l8   (K : Int32 → St → Prop) (Q : Int32 → St → Prop) (hK : ∀ k1 s, K k1 s → eX7_howManyNow 41 [un, .int (k1), un] [] s (qI Q)) : ∀ (n : Nat) (l1 : Int32) (l2 : Int32) (σ : St), P_X7_howManyNow_l8  K Q n l1 l2 σ → eX7_howManyNow 8 [.ref (49), .int (l1), .int (l2)] [] σ (qI Q) := by
  intro n
  induction n with
  | zero => intro l1 l2 σ hP; exact hP.elim
  | succ n ih =>
    intro l1 l2 σ hP
    rw [P_X7_howManyNow_l8] at hP
    refine E_iload_n dX7_howManyNow_8 rfl ?_
    refine E_aload_n dX7_howManyNow_9 rfl ?_
    refine E_callV (As := []) (rest := [.int (l2)]) dX7_howManyNow_10 cl_RX7_120 tw_523 (show kd 49 = 7 by decide) (by decide) rfl tw_524 ⟨rfl, rfl, Nat.le_of_ble_eq_true rfl, Nat.le_of_ble_eq_true rfl⟩ rfl rfl (Nat.le_of_ble_eq_true rfl) (mt_X7_standNow  _ _  hP) ?_
    intro r0 s0 hq0; obtain ⟨r10, h0, hs0, hP⟩ := hq0; subst h0; rw [hs0]
    show eX7_howManyNow 13 [.ref (49), .int (l1), .int (l2)] [.int (r10), .int (l2)] σ _
    refine E_icmp_gt 41 dX7_howManyNow_13 (by decide) (fun hc => ?_) (fun hc => ?_)
    · replace hP := hP.1 hc
      refine E_mask [false, true, false] rfl ?_
      exact hK (l1) _ hP
    · replace hP := hP.2 hc
      refine E_iload_n dX7_howManyNow_16 rfl ?_
      refine E_aload_n dX7_howManyNow_17 rfl ?_
      refine E_getR (j := 4) dX7_howManyNow_18 (show kd 49 = 7 by decide) (by decide) rfl fd_RX7_22 (by decide) ?_
      refine E_iload_n dX7_howManyNow_21 rfl ?_
      obtain ⟨hb, hP⟩ := hP
      refine E_lald dX7_howManyNow_22 (ar_7_5 (show kd 49 = 7 by decide)).1 (ar_7_5 (show kd 49 = 7 by decide)).2 hb ?_
      refine E_lconst (v := 0) dX7_howManyNow_23 (by decide) ?_
      refine E_lcmp dX7_howManyNow_24 ?_
      refine E_if_le 32 dX7_howManyNow_25 (by decide) (fun hc => ?_) (fun hc => ?_)
      · replace hP := hP.1 hc
        refine E_iconst (v := 0) dX7_howManyNow_32 (by decide) ?_
        refine E_iadd dX7_howManyNow_33 ?_
        refine E_istore_n (ls' := [.ref (49), .int (l1 + 0), .int (l2)]) dX7_howManyNow_34 (by decide) rfl ?_
        refine E_iinc (ls' := [.ref (49), .int (l1 + 0), .int (l2 + 1)]) dX7_howManyNow_35 rfl rfl (by decide) rfl ?_
        refine E_goto 8 dX7_howManyNow_38 (by decide) ?_
        exact ih (l1 + 0) (l2 + 1) _ hP
      · replace hP := hP.2 hc
        refine E_iconst (v := 1) dX7_howManyNow_28 (by decide) ?_
        refine E_goto 33 dX7_howManyNow_29 (by decide) ?_
        refine E_iadd dX7_howManyNow_33 ?_
        refine E_istore_n (ls' := [.ref (49), .int (l1 + 1), .int (l2)]) dX7_howManyNow_34 (by decide) rfl ?_
        refine E_iinc (ls' := [.ref (49), .int (l1 + 1), .int (l2 + 1)]) dX7_howManyNow_35 rfl rfl (by decide) rfl ?_
        refine E_goto 8 dX7_howManyNow_38 (by decide) ?_
        exact ih (l1 + 1) (l2 + 1) _ hP
set_option maxRecDepth 20000 in
theorem mt_X7_howManyNow  (σ : St) (Q : Int32 → St → Prop)  (hP : P_X7_howManyNow  σ Q) : Mt yX7_howManyNow cX7_howManyNow 3 (some .int) rmX7_howManyNow [.ref (49)] σ (qI Q) := by
  refine Mt.of (k := 2) (ls := [.ref (49), un, un]) (by decide +kernel) rfl (Nat.le_of_ble_eq_true rfl) ?_
  show eX7_howManyNow 0 [.ref (49), un, un] [] σ _
  unfold P_X7_howManyNow at hP
  refine E_aload_n dX7_howManyNow_0 rfl ?_
  refine E_callV (As := []) (rest := []) dX7_howManyNow_1 cl_RX7_155 tw_566 (show kd 49 = 7 by decide) (by decide) rfl tw_567 ⟨rfl, rfl, Nat.le_of_ble_eq_true rfl, Nat.le_of_ble_eq_true rfl⟩ rfl rfl (Nat.le_of_ble_eq_true rfl) (mt_X7_countRows  _ _  hP) ?_
  rintro _ t1 ⟨rfl, hP⟩
  show eX7_howManyNow 4 [.ref (49), un, un] [] t1 _
  refine E_iconst (v := 0) dX7_howManyNow_4 (by decide) ?_
  refine E_istore_n (ls' := [.ref (49), .int (0), un]) dX7_howManyNow_5 (by decide) rfl ?_
  refine E_iconst (v := 0) dX7_howManyNow_6 (by decide) ?_
  refine E_istore_n (ls' := [.ref (49), .int (0), .int (0)]) dX7_howManyNow_7 (by decide) rfl ?_
  obtain ⟨m8, hP⟩ := hP
  refine ev_X7_howManyNow_l8   _ Q ?_ m8 _ _ _ hP
  intro k1 t41 hP
  refine E_iload_n dX7_howManyNow_41 rfl ?_
  exact E_iret dX7_howManyNow_42 rfl ⟨_, rfl, hP⟩
theorem dX7_howMany_0 : decode cX7_howMany 0 = .ok (.aload_n 0, 1) := by decide +kernel
theorem dX7_howMany_1 : decode cX7_howMany 1 = .ok (.invokevirtual 152, 3) := by decide +kernel
theorem dX7_howMany_4 : decode cX7_howMany 4 = .ok (.aload_n 0, 1) := by decide +kernel
theorem dX7_howMany_5 : decode cX7_howMany 5 = .ok (.invokevirtual 161, 3) := by decide +kernel
theorem dX7_howMany_8 : decode cX7_howMany 8 = .ok (.ireturn, 1) := by decide +kernel
def rmX7_howMany : Room := { frames := 6, cells := 0, slots := 0, locals := 138 }
abbrev eX7_howMany := Ev cX7_howMany 1 (some .int) RX7 rmX7_howMany
set_option maxRecDepth 20000 in
theorem mt_X7_howMany  (σ : St) (Q : Int32 → St → Prop)  (hP : P_X7_howMany  σ Q) : Mt yX7_howMany cX7_howMany 1 (some .int) rmX7_howMany [.ref (49)] σ (qI Q) := by
  refine Mt.of (k := 0) (ls := [.ref (49)]) (by decide +kernel) rfl (Nat.le_of_ble_eq_true rfl) ?_
  show eX7_howMany 0 [.ref (49)] [] σ _
  unfold P_X7_howMany at hP
  refine E_aload_n dX7_howMany_0 rfl ?_
  refine E_callV (As := []) (rest := []) dX7_howMany_1 cl_RX7_152 tw_570 (show kd 49 = 7 by decide) (by decide) rfl tw_571 ⟨rfl, rfl, Nat.le_of_ble_eq_true rfl, Nat.le_of_ble_eq_true rfl⟩ rfl rfl (Nat.le_of_ble_eq_true rfl) (mt_X7_findGoes  _ _  hP) ?_
  rintro _ t1 ⟨rfl, hP⟩
  show eX7_howMany 4 [.ref (49)] [] t1 _
  refine E_aload_n dX7_howMany_4 rfl ?_
  refine E_callV (As := []) (rest := []) dX7_howMany_5 cl_RX7_161 tw_578 (show kd 49 = 7 by decide) (by decide) rfl tw_579 ⟨rfl, rfl, Nat.le_of_ble_eq_true rfl, Nat.le_of_ble_eq_true rfl⟩ rfl rfl (Nat.le_of_ble_eq_true rfl) (mt_X7_howManyNow  _ _  hP) ?_
  rintro _ t5 ⟨r5, rfl, hP⟩
  show eX7_howMany 8 [.ref (49)] [.int (r5)] t5 _
  exact E_iret dX7_howMany_8 rfl ⟨_, rfl, hP⟩
theorem dX7_stands_0 : decode cX7_stands 0 = .ok (.aload_n 0, 1) := by decide +kernel
theorem dX7_stands_1 : decode cX7_stands 1 = .ok (.invokevirtual 164, 3) := by decide +kernel
theorem dX7_stands_4 : decode cX7_stands 4 = .ok (.ireturn, 1) := by decide +kernel
def rmX7_stands : Room := { frames := 7, cells := 0, slots := 0, locals := 158 }
abbrev eX7_stands := Ev cX7_stands 1 (some .int) RX7 rmX7_stands
set_option maxRecDepth 20000 in
theorem mt_X7_stands  (σ : St) (Q : Int32 → St → Prop)  (hP : P_X7_stands  σ Q) : Mt yX7_stands cX7_stands 1 (some .int) rmX7_stands [.ref (49)] σ (qI Q) := by
  refine Mt.of (k := 0) (ls := [.ref (49)]) (by decide +kernel) rfl (Nat.le_of_ble_eq_true rfl) ?_
  show eX7_stands 0 [.ref (49)] [] σ _
  unfold P_X7_stands at hP
  refine E_aload_n dX7_stands_0 rfl ?_
  refine E_callV (As := []) (rest := []) dX7_stands_1 cl_RX7_164 tw_582 (show kd 49 = 7 by decide) (by decide) rfl tw_583 ⟨rfl, rfl, Nat.le_of_ble_eq_true rfl, Nat.le_of_ble_eq_true rfl⟩ rfl rfl (Nat.le_of_ble_eq_true rfl) (mt_X7_howMany  _ _  hP) ?_
  rintro _ t1 ⟨r1, rfl, hP⟩
  show eX7_stands 4 [.ref (49)] [.int (r1)] t1 _
  exact E_iret dX7_stands_4 rfl ⟨_, rfl, hP⟩
theorem dX7_least_0 : decode cX7_least 0 = .ok (.aload_n 0, 1) := by decide +kernel
theorem dX7_least_1 : decode cX7_least 1 = .ok (.invokevirtual 158, 3) := by decide +kernel
theorem dX7_least_4 : decode cX7_least 4 = .ok (.aload_n 0, 1) := by decide +kernel
theorem dX7_least_5 : decode cX7_least 5 = .ok (.invokevirtual 120, 3) := by decide +kernel
theorem dX7_least_8 : decode cX7_least 8 = .ok (.istore_n 1, 1) := by decide +kernel
theorem dX7_least_9 : decode cX7_least 9 = .ok (.aload_n 0, 1) := by decide +kernel
theorem dX7_least_10 : decode cX7_least 10 = .ok (.invokevirtual 120, 3) := by decide +kernel
theorem dX7_least_13 : decode cX7_least 13 = .ok (.istore_n 2, 1) := by decide +kernel
theorem dX7_least_14 : decode cX7_least 14 = .ok (.iload_n 2, 1) := by decide +kernel
theorem dX7_least_15 : decode cX7_least 15 = .ok (.ifCond .lt 37, 3) := by decide +kernel
theorem dX7_least_18 : decode cX7_least 18 = .ok (.aload_n 0, 1) := by decide +kernel
theorem dX7_least_19 : decode cX7_least 19 = .ok (.getfield 22, 3) := by decide +kernel
theorem dX7_least_22 : decode cX7_least 22 = .ok (.iload_n 2, 1) := by decide +kernel
theorem dX7_least_23 : decode cX7_least 23 = .ok (.laload, 1) := by decide +kernel
theorem dX7_least_24 : decode cX7_least 24 = .ok (.lconst 0, 1) := by decide +kernel
theorem dX7_least_25 : decode cX7_least 25 = .ok (.lcmp, 1) := by decide +kernel
theorem dX7_least_26 : decode cX7_least 26 = .ok (.ifCond .le 18, 3) := by decide +kernel
theorem dX7_least_29 : decode cX7_least 29 = .ok (.iload_n 2, 1) := by decide +kernel
theorem dX7_least_30 : decode cX7_least 30 = .ok (.invokestatic 132, 3) := by decide +kernel
theorem dX7_least_33 : decode cX7_least 33 = .ok (.iload_n 1, 1) := by decide +kernel
theorem dX7_least_34 : decode cX7_least 34 = .ok (.invokestatic 132, 3) := by decide +kernel
theorem dX7_least_37 : decode cX7_least 37 = .ok (.if_icmp .gt 7, 3) := by decide +kernel
theorem dX7_least_40 : decode cX7_least 40 = .ok (.iload_n 2, 1) := by decide +kernel
theorem dX7_least_41 : decode cX7_least 41 = .ok (.goto 4, 3) := by decide +kernel
theorem dX7_least_44 : decode cX7_least 44 = .ok (.iload_n 1, 1) := by decide +kernel
theorem dX7_least_45 : decode cX7_least 45 = .ok (.istore_n 1, 1) := by decide +kernel
theorem dX7_least_46 : decode cX7_least 46 = .ok (.iinc 2 (-1), 3) := by decide +kernel
theorem dX7_least_49 : decode cX7_least 49 = .ok (.goto (-35), 3) := by decide +kernel
theorem dX7_least_52 : decode cX7_least 52 = .ok (.iload_n 1, 1) := by decide +kernel
theorem dX7_least_53 : decode cX7_least 53 = .ok (.ireturn, 1) := by decide +kernel
def rmX7_least : Room := { frames := 6, cells := 0, slots := 0, locals := 136 }
abbrev eX7_least := Ev cX7_least 3 (some .int) RX7 rmX7_least
set_option maxRecDepth 20000 in
theorem ev_X7_least_l14   (K : Int32 → St → Prop) (Q : Int32 → St → Prop) (hK : ∀ k1 s, K k1 s → eX7_least 52 [un, .int (k1), un] [] s (qI Q)) : ∀ (n : Nat) (l1 : Int32) (l2 : Int32) (σ : St), P_X7_least_l14  K Q n l1 l2 σ → eX7_least 14 [.ref (49), .int (l1), .int (l2)] [] σ (qI Q) := by
  intro n
  induction n with
  | zero => intro l1 l2 σ hP; exact hP.elim
  | succ n ih =>
    intro l1 l2 σ hP
    rw [P_X7_least_l14] at hP
    refine E_iload_n dX7_least_14 rfl ?_
    refine E_if_lt 52 dX7_least_15 (by decide) (fun hc => ?_) (fun hc => ?_)
    · replace hP := hP.1 hc
      refine E_mask [false, true, false] rfl ?_
      exact hK (l1) _ hP
    · replace hP := hP.2 hc
      refine E_aload_n dX7_least_18 rfl ?_
      refine E_getR (j := 4) dX7_least_19 (show kd 49 = 7 by decide) (by decide) rfl fd_RX7_22 (by decide) ?_
      refine E_iload_n dX7_least_22 rfl ?_
      obtain ⟨hb, hP⟩ := hP
      refine E_lald dX7_least_23 (ar_7_5 (show kd 49 = 7 by decide)).1 (ar_7_5 (show kd 49 = 7 by decide)).2 hb ?_
      refine E_lconst (v := 0) dX7_least_24 (by decide) ?_
      refine E_lcmp dX7_least_25 ?_
      refine E_if_le 44 dX7_least_26 (by decide) (fun hc => ?_) (fun hc => ?_)
      · replace hP := hP.1 hc
        refine E_iload_n dX7_least_44 rfl ?_
        refine E_istore_n (ls' := [.ref (49), .int (l1), .int (l2)]) dX7_least_45 (by decide) rfl ?_
        refine E_iinc (ls' := [.ref (49), .int (l1), .int (l2 + (-1))]) dX7_least_46 rfl rfl (by decide) rfl ?_
        refine E_goto 14 dX7_least_49 (by decide) ?_
        exact ih (l1) (l2 + (-1)) _ hP
      · replace hP := hP.2 hc
        refine E_iload_n dX7_least_29 rfl ?_
        refine E_callS (As := [.int (l2)]) (rest := []) dX7_least_30 cl_RX7_132 tw_540 ⟨rfl, rfl, Nat.le_of_ble_eq_true rfl, Nat.le_of_ble_eq_true rfl⟩ rfl rfl (Nat.le_of_ble_eq_true rfl) (mt_X7_stones _ _ _  hP) ?_
        intro r0 s0 hq0; obtain ⟨r30, h0, hs0, hP⟩ := hq0; subst h0; rw [hs0]
        show eX7_least 33 [.ref (49), .int (l1), .int (l2)] [.int (r30)] σ _
        refine E_iload_n dX7_least_33 rfl ?_
        refine E_callS (As := [.int (l1)]) (rest := [.int (r30)]) dX7_least_34 cl_RX7_132 tw_540 ⟨rfl, rfl, Nat.le_of_ble_eq_true rfl, Nat.le_of_ble_eq_true rfl⟩ rfl rfl (Nat.le_of_ble_eq_true rfl) (mt_X7_stones _ _ _  hP) ?_
        intro r0 s0 hq0; obtain ⟨r34, h0, hs0, hP⟩ := hq0; subst h0; rw [hs0]
        show eX7_least 37 [.ref (49), .int (l1), .int (l2)] [.int (r34), .int (r30)] σ _
        refine E_icmp_gt 44 dX7_least_37 (by decide) (fun hc => ?_) (fun hc => ?_)
        · replace hP := hP.1 hc
          refine E_iload_n dX7_least_44 rfl ?_
          refine E_istore_n (ls' := [.ref (49), .int (l1), .int (l2)]) dX7_least_45 (by decide) rfl ?_
          refine E_iinc (ls' := [.ref (49), .int (l1), .int (l2 + (-1))]) dX7_least_46 rfl rfl (by decide) rfl ?_
          refine E_goto 14 dX7_least_49 (by decide) ?_
          exact ih (l1) (l2 + (-1)) _ hP
        · replace hP := hP.2 hc
          refine E_iload_n dX7_least_40 rfl ?_
          refine E_goto 45 dX7_least_41 (by decide) ?_
          refine E_istore_n (ls' := [.ref (49), .int (l2), .int (l2)]) dX7_least_45 (by decide) rfl ?_
          refine E_iinc (ls' := [.ref (49), .int (l2), .int (l2 + (-1))]) dX7_least_46 rfl rfl (by decide) rfl ?_
          refine E_goto 14 dX7_least_49 (by decide) ?_
          exact ih (l2) (l2 + (-1)) _ hP
set_option maxRecDepth 20000 in
theorem mt_X7_least  (σ : St) (Q : Int32 → St → Prop)  (hP : P_X7_least  σ Q) : Mt yX7_least cX7_least 3 (some .int) rmX7_least [.ref (49)] σ (qI Q) := by
  refine Mt.of (k := 2) (ls := [.ref (49), un, un]) (by decide +kernel) rfl (Nat.le_of_ble_eq_true rfl) ?_
  show eX7_least 0 [.ref (49), un, un] [] σ _
  unfold P_X7_least at hP
  refine E_aload_n dX7_least_0 rfl ?_
  refine E_callV (As := []) (rest := []) dX7_least_1 cl_RX7_158 tw_574 (show kd 49 = 7 by decide) (by decide) rfl tw_575 ⟨rfl, rfl, Nat.le_of_ble_eq_true rfl, Nat.le_of_ble_eq_true rfl⟩ rfl rfl (Nat.le_of_ble_eq_true rfl) (mt_X7_findRows  _ _  hP) ?_
  rintro _ t1 ⟨rfl, hP⟩
  show eX7_least 4 [.ref (49), un, un] [] t1 _
  refine E_aload_n dX7_least_4 rfl ?_
  refine E_callV (As := []) (rest := []) dX7_least_5 cl_RX7_120 tw_523 (show kd 49 = 7 by decide) (by decide) rfl tw_524 ⟨rfl, rfl, Nat.le_of_ble_eq_true rfl, Nat.le_of_ble_eq_true rfl⟩ rfl rfl (Nat.le_of_ble_eq_true rfl) (mt_X7_standNow  _ _  hP) ?_
  intro r0 s0 hq0; obtain ⟨r5, h0, hs0, hP⟩ := hq0; subst h0; rw [hs0]
  show eX7_least 8 [.ref (49), un, un] [.int (r5)] t1 _
  refine E_istore_n (ls' := [.ref (49), .int (r5), un]) dX7_least_8 (by decide) rfl ?_
  refine E_aload_n dX7_least_9 rfl ?_
  refine E_callV (As := []) (rest := []) dX7_least_10 cl_RX7_120 tw_523 (show kd 49 = 7 by decide) (by decide) rfl tw_524 ⟨rfl, rfl, Nat.le_of_ble_eq_true rfl, Nat.le_of_ble_eq_true rfl⟩ rfl rfl (Nat.le_of_ble_eq_true rfl) (mt_X7_standNow  _ _  hP) ?_
  intro r0 s0 hq0; obtain ⟨r10, h0, hs0, hP⟩ := hq0; subst h0; rw [hs0]
  show eX7_least 13 [.ref (49), .int (r5), un] [.int (r10)] t1 _
  refine E_istore_n (ls' := [.ref (49), .int (r5), .int (r10)]) dX7_least_13 (by decide) rfl ?_
  obtain ⟨m14, hP⟩ := hP
  refine ev_X7_least_l14   _ Q ?_ m14 _ _ _ hP
  intro k1 t52 hP
  refine E_iload_n dX7_least_52 rfl ?_
  exact E_iret dX7_least_53 rfl ⟨_, rfl, hP⟩
theorem dX7_ways_0 : decode cX7_ways 0 = .ok (.aload_n 0, 1) := by decide +kernel
theorem dX7_ways_1 : decode cX7_ways 1 = .ok (.iload_n 1, 1) := by decide +kernel
theorem dX7_ways_2 : decode cX7_ways 2 = .ok (.invokevirtual 149, 3) := by decide +kernel
theorem dX7_ways_5 : decode cX7_ways 5 = .ok (.ifCond .ne 11, 3) := by decide +kernel
theorem dX7_ways_8 : decode cX7_ways 8 = .ok (.aload_n 0, 1) := by decide +kernel
theorem dX7_ways_9 : decode cX7_ways 9 = .ok (.ldc 57, 2) := by decide +kernel
theorem dX7_ways_11 : decode cX7_ways 11 = .ok (.invokevirtual 105, 3) := by decide +kernel
theorem dX7_ways_14 : decode cX7_ways 14 = .ok (.i2l, 1) := by decide +kernel
theorem dX7_ways_15 : decode cX7_ways 15 = .ok (.lreturn, 1) := by decide +kernel
theorem dX7_ways_16 : decode cX7_ways 16 = .ok (.aload_n 0, 1) := by decide +kernel
theorem dX7_ways_17 : decode cX7_ways 17 = .ok (.invokevirtual 158, 3) := by decide +kernel
theorem dX7_ways_20 : decode cX7_ways 20 = .ok (.aload_n 0, 1) := by decide +kernel
theorem dX7_ways_21 : decode cX7_ways 21 = .ok (.getfield 22, 3) := by decide +kernel
theorem dX7_ways_24 : decode cX7_ways 24 = .ok (.iload_n 1, 1) := by decide +kernel
theorem dX7_ways_25 : decode cX7_ways 25 = .ok (.laload, 1) := by decide +kernel
theorem dX7_ways_26 : decode cX7_ways 26 = .ok (.lreturn, 1) := by decide +kernel
def rmX7_ways : Room := { frames := 6, cells := 0, slots := 0, locals := 136 }
abbrev eX7_ways := Ev cX7_ways 2 (some .long) RX7 rmX7_ways
set_option maxRecDepth 20000 in
theorem mt_X7_ways (p0 : Int32) (σ : St) (Q : Int64 → St → Prop)  (hP : P_X7_ways p0 σ Q) : Mt yX7_ways cX7_ways 2 (some .long) rmX7_ways [.ref (49), .int (p0)] σ (qL Q) := by
  refine Mt.of (k := 0) (ls := [.ref (49), .int (p0)]) (by decide +kernel) rfl (Nat.le_of_ble_eq_true rfl) ?_
  show eX7_ways 0 [.ref (49), .int (p0)] [] σ _
  unfold P_X7_ways at hP
  refine E_aload_n dX7_ways_0 rfl ?_
  refine E_iload_n dX7_ways_1 rfl ?_
  refine E_callV (As := [.int (p0)]) (rest := []) dX7_ways_2 cl_RX7_149 tw_561 (show kd 49 = 7 by decide) (by decide) rfl tw_562 ⟨rfl, rfl, Nat.le_of_ble_eq_true rfl, Nat.le_of_ble_eq_true rfl⟩ rfl rfl (Nat.le_of_ble_eq_true rfl) (mt_X7_isStand _ _ _  hP) ?_
  intro r0 s0 hq0; obtain ⟨r2, h0, hs0, hP⟩ := hq0; subst h0; rw [hs0]
  show eX7_ways 5 [.ref (49), .int (p0)] [.int (bI r2)] σ _
  refine E_ifz_ne 16 dX7_ways_5 (by decide) (fun hc => ?_) (fun hc => ?_)
  · replace hP := hP.1 hc
    refine E_aload_n dX7_ways_16 rfl ?_
    refine E_callV (As := []) (rest := []) dX7_ways_17 cl_RX7_158 tw_574 (show kd 49 = 7 by decide) (by decide) rfl tw_575 ⟨rfl, rfl, Nat.le_of_ble_eq_true rfl, Nat.le_of_ble_eq_true rfl⟩ rfl rfl (Nat.le_of_ble_eq_true rfl) (mt_X7_findRows  _ _  hP) ?_
    rintro _ t17 ⟨rfl, hP⟩
    show eX7_ways 20 [.ref (49), .int (p0)] [] t17 _
    refine E_aload_n dX7_ways_20 rfl ?_
    refine E_getR (j := 4) dX7_ways_21 (show kd 49 = 7 by decide) (by decide) rfl fd_RX7_22 (by decide) ?_
    refine E_iload_n dX7_ways_24 rfl ?_
    obtain ⟨hb, hP⟩ := hP
    refine E_lald dX7_ways_25 (ar_7_5 (show kd 49 = 7 by decide)).1 (ar_7_5 (show kd 49 = 7 by decide)).2 hb ?_
    exact E_lret dX7_ways_26 rfl ⟨_, rfl, hP⟩
  · replace hP := hP.2 hc
    refine E_aload_n dX7_ways_8 rfl ?_
    refine E_ldc (v := (-1000000001)) dX7_ways_9 tw_452 ?_
    refine E_callV (As := [.int ((-1000000001))]) (rest := []) dX7_ways_11 cl_RX7_105 tw_507 (show kd 49 = 7 by decide) (by decide) rfl tw_508 ⟨rfl, rfl, Nat.le_of_ble_eq_true rfl, Nat.le_of_ble_eq_true rfl⟩ rfl rfl (Nat.le_of_ble_eq_true rfl) (mt_X7_finds _ _ _  hP) ?_
    rintro _ t11 ⟨r11, rfl, hP⟩
    show eX7_ways 14 [.ref (49), .int (p0)] [.int (r11)] t11 _
    refine E_i2l dX7_ways_14 ?_
    exact E_lret dX7_ways_15 rfl ⟨_, rfl, hP⟩
theorem dX7_findLeads_0 : decode cX7_findLeads 0 = .ok (.aload_n 0, 1) := by decide +kernel
theorem dX7_findLeads_1 : decode cX7_findLeads 1 = .ok (.invokevirtual 152, 3) := by decide +kernel
theorem dX7_findLeads_4 : decode cX7_findLeads 4 = .ok (.aload_n 0, 1) := by decide +kernel
theorem dX7_findLeads_5 : decode cX7_findLeads 5 = .ok (.invokevirtual 113, 3) := by decide +kernel
theorem dX7_findLeads_8 : decode cX7_findLeads 8 = .ok (.aload_n 0, 1) := by decide +kernel
theorem dX7_findLeads_9 : decode cX7_findLeads 9 = .ok (.invokevirtual 120, 3) := by decide +kernel
theorem dX7_findLeads_12 : decode cX7_findLeads 12 = .ok (.istore_n 2, 1) := by decide +kernel
theorem dX7_findLeads_13 : decode cX7_findLeads 13 = .ok (.iconst 0, 1) := by decide +kernel
theorem dX7_findLeads_14 : decode cX7_findLeads 14 = .ok (.istore_n 3, 1) := by decide +kernel
theorem dX7_findLeads_15 : decode cX7_findLeads 15 = .ok (.iload_n 3, 1) := by decide +kernel
theorem dX7_findLeads_16 : decode cX7_findLeads 16 = .ok (.iload_n 2, 1) := by decide +kernel
theorem dX7_findLeads_17 : decode cX7_findLeads 17 = .ok (.if_icmp .gt 129, 3) := by decide +kernel
theorem dX7_findLeads_20 : decode cX7_findLeads 20 = .ok (.aload_n 0, 1) := by decide +kernel
theorem dX7_findLeads_21 : decode cX7_findLeads 21 = .ok (.getfield 29, 3) := by decide +kernel
theorem dX7_findLeads_24 : decode cX7_findLeads 24 = .ok (.iload_n 3, 1) := by decide +kernel
theorem dX7_findLeads_25 : decode cX7_findLeads 25 = .ok (.iload_n 3, 1) := by decide +kernel
theorem dX7_findLeads_26 : decode cX7_findLeads 26 = .ok (.iload_n 1, 1) := by decide +kernel
theorem dX7_findLeads_27 : decode cX7_findLeads 27 = .ok (.if_icmp .ne 7, 3) := by decide +kernel
theorem dX7_findLeads_30 : decode cX7_findLeads 30 = .ok (.iconst 1, 1) := by decide +kernel
theorem dX7_findLeads_31 : decode cX7_findLeads 31 = .ok (.goto 4, 3) := by decide +kernel
theorem dX7_findLeads_34 : decode cX7_findLeads 34 = .ok (.iconst 0, 1) := by decide +kernel
theorem dX7_findLeads_35 : decode cX7_findLeads 35 = .ok (.bastore, 1) := by decide +kernel
theorem dX7_findLeads_36 : decode cX7_findLeads 36 = .ok (.iconst 0, 1) := by decide +kernel
theorem dX7_findLeads_37 : decode cX7_findLeads 37 = .ok (.istore 4, 2) := by decide +kernel
theorem dX7_findLeads_39 : decode cX7_findLeads 39 = .ok (.iload 4, 2) := by decide +kernel
theorem dX7_findLeads_41 : decode cX7_findLeads 41 = .ok (.iconst 4, 1) := by decide +kernel
theorem dX7_findLeads_42 : decode cX7_findLeads 42 = .ok (.if_icmp .ge 65, 3) := by decide +kernel
theorem dX7_findLeads_45 : decode cX7_findLeads 45 = .ok (.iload_n 3, 1) := by decide +kernel
theorem dX7_findLeads_46 : decode cX7_findLeads 46 = .ok (.iload_n 1, 1) := by decide +kernel
theorem dX7_findLeads_47 : decode cX7_findLeads 47 = .ok (.if_icmp .le 60, 3) := by decide +kernel
theorem dX7_findLeads_50 : decode cX7_findLeads 50 = .ok (.aload_n 0, 1) := by decide +kernel
theorem dX7_findLeads_51 : decode cX7_findLeads 51 = .ok (.getfield 29, 3) := by decide +kernel
theorem dX7_findLeads_54 : decode cX7_findLeads 54 = .ok (.iload_n 3, 1) := by decide +kernel
theorem dX7_findLeads_55 : decode cX7_findLeads 55 = .ok (.aload_n 0, 1) := by decide +kernel
theorem dX7_findLeads_56 : decode cX7_findLeads 56 = .ok (.getfield 29, 3) := by decide +kernel
theorem dX7_findLeads_59 : decode cX7_findLeads 59 = .ok (.iload_n 3, 1) := by decide +kernel
theorem dX7_findLeads_60 : decode cX7_findLeads 60 = .ok (.baload, 1) := by decide +kernel
theorem dX7_findLeads_61 : decode cX7_findLeads 61 = .ok (.ifCond .ne 34, 3) := by decide +kernel
theorem dX7_findLeads_64 : decode cX7_findLeads 64 = .ok (.aload_n 0, 1) := by decide +kernel
theorem dX7_findLeads_65 : decode cX7_findLeads 65 = .ok (.getfield 26, 3) := by decide +kernel
theorem dX7_findLeads_68 : decode cX7_findLeads 68 = .ok (.iload_n 3, 1) := by decide +kernel
theorem dX7_findLeads_69 : decode cX7_findLeads 69 = .ok (.iaload, 1) := by decide +kernel
theorem dX7_findLeads_70 : decode cX7_findLeads 70 = .ok (.iload 4, 2) := by decide +kernel
theorem dX7_findLeads_72 : decode cX7_findLeads 72 = .ok (.ishr, 1) := by decide +kernel
theorem dX7_findLeads_73 : decode cX7_findLeads 73 = .ok (.iconst 1, 1) := by decide +kernel
theorem dX7_findLeads_74 : decode cX7_findLeads 74 = .ok (.iand, 1) := by decide +kernel
theorem dX7_findLeads_75 : decode cX7_findLeads 75 = .ok (.iconst 1, 1) := by decide +kernel
theorem dX7_findLeads_76 : decode cX7_findLeads 76 = .ok (.if_icmp .ne 23, 3) := by decide +kernel
theorem dX7_findLeads_79 : decode cX7_findLeads 79 = .ok (.aload_n 0, 1) := by decide +kernel
theorem dX7_findLeads_80 : decode cX7_findLeads 80 = .ok (.getfield 29, 3) := by decide +kernel
theorem dX7_findLeads_83 : decode cX7_findLeads 83 = .ok (.iload_n 3, 1) := by decide +kernel
theorem dX7_findLeads_84 : decode cX7_findLeads 84 = .ok (.iconst 1, 1) := by decide +kernel
theorem dX7_findLeads_85 : decode cX7_findLeads 85 = .ok (.iconst 3, 1) := by decide +kernel
theorem dX7_findLeads_86 : decode cX7_findLeads 86 = .ok (.iload 4, 2) := by decide +kernel
theorem dX7_findLeads_88 : decode cX7_findLeads 88 = .ok (.imul, 1) := by decide +kernel
theorem dX7_findLeads_89 : decode cX7_findLeads 89 = .ok (.ishl, 1) := by decide +kernel
theorem dX7_findLeads_90 : decode cX7_findLeads 90 = .ok (.isub, 1) := by decide +kernel
theorem dX7_findLeads_91 : decode cX7_findLeads 91 = .ok (.baload, 1) := by decide +kernel
theorem dX7_findLeads_92 : decode cX7_findLeads 92 = .ok (.ifCond .eq 7, 3) := by decide +kernel
theorem dX7_findLeads_95 : decode cX7_findLeads 95 = .ok (.iconst 1, 1) := by decide +kernel
theorem dX7_findLeads_96 : decode cX7_findLeads 96 = .ok (.goto 4, 3) := by decide +kernel
theorem dX7_findLeads_99 : decode cX7_findLeads 99 = .ok (.iconst 0, 1) := by decide +kernel
theorem dX7_findLeads_100 : decode cX7_findLeads 100 = .ok (.bastore, 1) := by decide +kernel
theorem dX7_findLeads_101 : decode cX7_findLeads 101 = .ok (.iinc 4 1, 3) := by decide +kernel
theorem dX7_findLeads_104 : decode cX7_findLeads 104 = .ok (.goto (-65), 3) := by decide +kernel
theorem dX7_findLeads_107 : decode cX7_findLeads 107 = .ok (.aload_n 0, 1) := by decide +kernel
theorem dX7_findLeads_108 : decode cX7_findLeads 108 = .ok (.getfield 29, 3) := by decide +kernel
theorem dX7_findLeads_111 : decode cX7_findLeads 111 = .ok (.iload_n 3, 1) := by decide +kernel
theorem dX7_findLeads_112 : decode cX7_findLeads 112 = .ok (.aload_n 0, 1) := by decide +kernel
theorem dX7_findLeads_113 : decode cX7_findLeads 113 = .ok (.getfield 29, 3) := by decide +kernel
theorem dX7_findLeads_116 : decode cX7_findLeads 116 = .ok (.iload_n 3, 1) := by decide +kernel
theorem dX7_findLeads_117 : decode cX7_findLeads 117 = .ok (.baload, 1) := by decide +kernel
theorem dX7_findLeads_118 : decode cX7_findLeads 118 = .ok (.ifCond .eq 20, 3) := by decide +kernel
theorem dX7_findLeads_121 : decode cX7_findLeads 121 = .ok (.iload_n 3, 1) := by decide +kernel
theorem dX7_findLeads_122 : decode cX7_findLeads 122 = .ok (.iload_n 2, 1) := by decide +kernel
theorem dX7_findLeads_123 : decode cX7_findLeads 123 = .ok (.if_icmp .eq 11, 3) := by decide +kernel
theorem dX7_findLeads_126 : decode cX7_findLeads 126 = .ok (.aload_n 0, 1) := by decide +kernel
theorem dX7_findLeads_127 : decode cX7_findLeads 127 = .ok (.iload_n 3, 1) := by decide +kernel
theorem dX7_findLeads_128 : decode cX7_findLeads 128 = .ok (.invokevirtual 99, 3) := by decide +kernel
theorem dX7_findLeads_131 : decode cX7_findLeads 131 = .ok (.ifCond .eq 7, 3) := by decide +kernel
theorem dX7_findLeads_134 : decode cX7_findLeads 134 = .ok (.iconst 1, 1) := by decide +kernel
theorem dX7_findLeads_135 : decode cX7_findLeads 135 = .ok (.goto 4, 3) := by decide +kernel
theorem dX7_findLeads_138 : decode cX7_findLeads 138 = .ok (.iconst 0, 1) := by decide +kernel
theorem dX7_findLeads_139 : decode cX7_findLeads 139 = .ok (.bastore, 1) := by decide +kernel
theorem dX7_findLeads_140 : decode cX7_findLeads 140 = .ok (.iinc 3 1, 3) := by decide +kernel
theorem dX7_findLeads_143 : decode cX7_findLeads 143 = .ok (.goto (-128), 3) := by decide +kernel
theorem dX7_findLeads_146 : decode cX7_findLeads 146 = .ok (.return_, 1) := by decide +kernel
def rmX7_findLeads : Room := { frames := 4, cells := 0, slots := 0, locals := 95 }
abbrev eX7_findLeads := Ev cX7_findLeads 5 none RX7 rmX7_findLeads
set_option maxRecDepth 20000 in
theorem ev_X7_findLeads_l39 (l1 : Int32) (l2 : Int32) (l3 : Int32)  (K : St → Prop) (Q : St → Prop) (hK : ∀  s, K  s → eX7_findLeads 107 [.ref (49), .int (l1), .int (l2), .int (l3), un] [] s (qV Q)) : ∀ (n : Nat) (l4 : Int32) (σ : St), P_X7_findLeads_l39 l1 l2 l3 K Q n l4 σ → eX7_findLeads 39 [.ref (49), .int (l1), .int (l2), .int (l3), .int (l4)] [] σ (qV Q) := by
  intro n
  induction n with
  | zero => intro l4 σ hP; exact hP.elim
  | succ n ih =>
    intro l4 σ hP
    rw [P_X7_findLeads_l39] at hP
    refine E_iload dX7_findLeads_39 rfl ?_
    refine E_iconst (v := 4) dX7_findLeads_41 (by decide) ?_
    refine E_icmp_ge 107 dX7_findLeads_42 (by decide) (fun hc => ?_) (fun hc => ?_)
    · replace hP := hP.1 hc
      refine E_mask [true, true, true, true, false] rfl ?_
      exact hK  _ hP
    · replace hP := hP.2 hc
      refine E_iload_n dX7_findLeads_45 rfl ?_
      refine E_iload_n dX7_findLeads_46 rfl ?_
      refine E_icmp_le 107 dX7_findLeads_47 (by decide) (fun hc => ?_) (fun hc => ?_)
      · replace hP := hP.1 hc
        refine E_mask [true, true, true, true, false] rfl ?_
        exact hK  _ hP
      · replace hP := hP.2 hc
        refine E_aload_n dX7_findLeads_50 rfl ?_
        refine E_getR (j := 6) dX7_findLeads_51 (show kd 49 = 7 by decide) (by decide) rfl fd_RX7_29 (by decide) ?_
        refine E_iload_n dX7_findLeads_54 rfl ?_
        refine E_aload_n dX7_findLeads_55 rfl ?_
        refine E_getR (j := 6) dX7_findLeads_56 (show kd 49 = 7 by decide) (by decide) rfl fd_RX7_29 (by decide) ?_
        refine E_iload_n dX7_findLeads_59 rfl ?_
        obtain ⟨hb, hP⟩ := hP
        refine E_zald dX7_findLeads_60 (ar_7_7 (show kd 49 = 7 by decide)).1 (ar_7_7 (show kd 49 = 7 by decide)).2 hb ?_
        refine E_if_ne 95 dX7_findLeads_61 (by decide) (fun hc => ?_) (fun hc => ?_)
        · replace hP := hP.1 hc
          refine E_iconst (v := 1) dX7_findLeads_95 (by decide) ?_
          refine E_goto 100 dX7_findLeads_96 (by decide) ?_
          obtain ⟨hb, hP⟩ := hP
          refine E_zast dX7_findLeads_100 (ar_7_7 (show kd 49 = 7 by decide)).1 (ar_7_7 (show kd 49 = 7 by decide)).2 hb (Or.inr rfl) ?_
          refine E_iinc (ls' := [.ref (49), .int (l1), .int (l2), .int (l3), .int (l4 + 1)]) dX7_findLeads_101 rfl rfl (by decide) rfl ?_
          refine E_goto 39 dX7_findLeads_104 (by decide) ?_
          exact ih (l4 + 1) _ hP
        · replace hP := hP.2 hc
          refine E_aload_n dX7_findLeads_64 rfl ?_
          refine E_getR (j := 5) dX7_findLeads_65 (show kd 49 = 7 by decide) (by decide) rfl fd_RX7_26 (by decide) ?_
          refine E_iload_n dX7_findLeads_68 rfl ?_
          obtain ⟨hb, hP⟩ := hP
          refine E_iald dX7_findLeads_69 (ar_7_6 (show kd 49 = 7 by decide)).1 (ar_7_6 (show kd 49 = 7 by decide)).2 hb ?_
          refine E_iload dX7_findLeads_70 rfl ?_
          refine E_ishr dX7_findLeads_72 ?_
          refine E_iconst (v := 1) dX7_findLeads_73 (by decide) ?_
          refine E_iand dX7_findLeads_74 ?_
          refine E_iconst (v := 1) dX7_findLeads_75 (by decide) ?_
          refine E_icmp_ne 99 dX7_findLeads_76 (by decide) (fun hc => ?_) (fun hc => ?_)
          · replace hP := hP.1 hc
            refine E_iconst (v := 0) dX7_findLeads_99 (by decide) ?_
            obtain ⟨hb, hP⟩ := hP
            refine E_zast dX7_findLeads_100 (ar_7_7 (show kd 49 = 7 by decide)).1 (ar_7_7 (show kd 49 = 7 by decide)).2 hb (Or.inl rfl) ?_
            refine E_iinc (ls' := [.ref (49), .int (l1), .int (l2), .int (l3), .int (l4 + 1)]) dX7_findLeads_101 rfl rfl (by decide) rfl ?_
            refine E_goto 39 dX7_findLeads_104 (by decide) ?_
            exact ih (l4 + 1) _ hP
          · replace hP := hP.2 hc
            refine E_aload_n dX7_findLeads_79 rfl ?_
            refine E_getR (j := 6) dX7_findLeads_80 (show kd 49 = 7 by decide) (by decide) rfl fd_RX7_29 (by decide) ?_
            refine E_iload_n dX7_findLeads_83 rfl ?_
            refine E_iconst (v := 1) dX7_findLeads_84 (by decide) ?_
            refine E_iconst (v := 3) dX7_findLeads_85 (by decide) ?_
            refine E_iload dX7_findLeads_86 rfl ?_
            refine E_imul dX7_findLeads_88 ?_
            refine E_ishl dX7_findLeads_89 ?_
            refine E_isub dX7_findLeads_90 ?_
            obtain ⟨hb, hP⟩ := hP
            refine E_zald dX7_findLeads_91 (ar_7_7 (show kd 49 = 7 by decide)).1 (ar_7_7 (show kd 49 = 7 by decide)).2 hb ?_
            refine E_if_eq 99 dX7_findLeads_92 (by decide) (fun hc => ?_) (fun hc => ?_)
            · replace hP := hP.1 hc
              refine E_iconst (v := 0) dX7_findLeads_99 (by decide) ?_
              obtain ⟨hb, hP⟩ := hP
              refine E_zast dX7_findLeads_100 (ar_7_7 (show kd 49 = 7 by decide)).1 (ar_7_7 (show kd 49 = 7 by decide)).2 hb (Or.inl rfl) ?_
              refine E_iinc (ls' := [.ref (49), .int (l1), .int (l2), .int (l3), .int (l4 + 1)]) dX7_findLeads_101 rfl rfl (by decide) rfl ?_
              refine E_goto 39 dX7_findLeads_104 (by decide) ?_
              exact ih (l4 + 1) _ hP
            · replace hP := hP.2 hc
              refine E_iconst (v := 1) dX7_findLeads_95 (by decide) ?_
              refine E_goto 100 dX7_findLeads_96 (by decide) ?_
              obtain ⟨hb, hP⟩ := hP
              refine E_zast dX7_findLeads_100 (ar_7_7 (show kd 49 = 7 by decide)).1 (ar_7_7 (show kd 49 = 7 by decide)).2 hb (Or.inr rfl) ?_
              refine E_iinc (ls' := [.ref (49), .int (l1), .int (l2), .int (l3), .int (l4 + 1)]) dX7_findLeads_101 rfl rfl (by decide) rfl ?_
              refine E_goto 39 dX7_findLeads_104 (by decide) ?_
              exact ih (l4 + 1) _ hP
set_option maxRecDepth 20000 in
theorem ev_X7_findLeads_l15 (l1 : Int32) (l2 : Int32)  (K : St → Prop) (Q : St → Prop) (hK : ∀  s, K  s → eX7_findLeads 146 [un, un, un, un, un] [] s (qV Q)) : ∀ (n : Nat) (l3 : Int32) (σ : St), P_X7_findLeads_l15 l1 l2 K Q n l3 σ → eX7_findLeads 15 [.ref (49), .int (l1), .int (l2), .int (l3), un] [] σ (qV Q) := by
  intro n
  induction n with
  | zero => intro l3 σ hP; exact hP.elim
  | succ n ih =>
    intro l3 σ hP
    rw [P_X7_findLeads_l15] at hP
    refine E_iload_n dX7_findLeads_15 rfl ?_
    refine E_iload_n dX7_findLeads_16 rfl ?_
    refine E_icmp_gt 146 dX7_findLeads_17 (by decide) (fun hc => ?_) (fun hc => ?_)
    · replace hP := hP.1 hc
      refine E_mask [false, false, false, false, false] rfl ?_
      exact hK  _ hP
    · replace hP := hP.2 hc
      refine E_aload_n dX7_findLeads_20 rfl ?_
      refine E_getR (j := 6) dX7_findLeads_21 (show kd 49 = 7 by decide) (by decide) rfl fd_RX7_29 (by decide) ?_
      refine E_iload_n dX7_findLeads_24 rfl ?_
      refine E_iload_n dX7_findLeads_25 rfl ?_
      refine E_iload_n dX7_findLeads_26 rfl ?_
      refine E_icmp_ne 34 dX7_findLeads_27 (by decide) (fun hc => ?_) (fun hc => ?_)
      · replace hP := hP.1 hc
        refine E_iconst (v := 0) dX7_findLeads_34 (by decide) ?_
        obtain ⟨hb, hP⟩ := hP
        refine E_zast dX7_findLeads_35 (ar_7_7 (show kd 49 = 7 by decide)).1 (ar_7_7 (show kd 49 = 7 by decide)).2 hb (Or.inl rfl) ?_
        refine E_iconst (v := 0) dX7_findLeads_36 (by decide) ?_
        refine E_istore (ls' := [.ref (49), .int (l1), .int (l2), .int (l3), .int (0)]) dX7_findLeads_37 (by decide) rfl ?_
        obtain ⟨m39, hP⟩ := hP
        refine ev_X7_findLeads_l39 (l1) (l2) (l3)  _ Q ?_ m39 _ _ hP
        intro  t107 hP
        refine E_aload_n dX7_findLeads_107 rfl ?_
        refine E_getR (j := 6) dX7_findLeads_108 (show kd 49 = 7 by decide) (by decide) rfl fd_RX7_29 (by decide) ?_
        refine E_iload_n dX7_findLeads_111 rfl ?_
        refine E_aload_n dX7_findLeads_112 rfl ?_
        refine E_getR (j := 6) dX7_findLeads_113 (show kd 49 = 7 by decide) (by decide) rfl fd_RX7_29 (by decide) ?_
        refine E_iload_n dX7_findLeads_116 rfl ?_
        obtain ⟨hb, hP⟩ := hP
        refine E_zald dX7_findLeads_117 (ar_7_7 (show kd 49 = 7 by decide)).1 (ar_7_7 (show kd 49 = 7 by decide)).2 hb ?_
        refine E_if_eq 138 dX7_findLeads_118 (by decide) (fun hc => ?_) (fun hc => ?_)
        · replace hP := hP.1 hc
          refine E_iconst (v := 0) dX7_findLeads_138 (by decide) ?_
          obtain ⟨hb, hP⟩ := hP
          refine E_zast dX7_findLeads_139 (ar_7_7 (show kd 49 = 7 by decide)).1 (ar_7_7 (show kd 49 = 7 by decide)).2 hb (Or.inl rfl) ?_
          refine E_iinc (ls' := [.ref (49), .int (l1), .int (l2), .int (l3 + 1), un]) dX7_findLeads_140 rfl rfl (by decide) rfl ?_
          refine E_goto 15 dX7_findLeads_143 (by decide) ?_
          exact ih (l3 + 1) _ hP
        · replace hP := hP.2 hc
          refine E_iload_n dX7_findLeads_121 rfl ?_
          refine E_iload_n dX7_findLeads_122 rfl ?_
          refine E_icmp_eq 134 dX7_findLeads_123 (by decide) (fun hc => ?_) (fun hc => ?_)
          · replace hP := hP.1 hc
            refine E_iconst (v := 1) dX7_findLeads_134 (by decide) ?_
            refine E_goto 139 dX7_findLeads_135 (by decide) ?_
            obtain ⟨hb, hP⟩ := hP
            refine E_zast dX7_findLeads_139 (ar_7_7 (show kd 49 = 7 by decide)).1 (ar_7_7 (show kd 49 = 7 by decide)).2 hb (Or.inr rfl) ?_
            refine E_iinc (ls' := [.ref (49), .int (l1), .int (l2), .int (l3 + 1), un]) dX7_findLeads_140 rfl rfl (by decide) rfl ?_
            refine E_goto 15 dX7_findLeads_143 (by decide) ?_
            exact ih (l3 + 1) _ hP
          · replace hP := hP.2 hc
            refine E_aload_n dX7_findLeads_126 rfl ?_
            refine E_iload_n dX7_findLeads_127 rfl ?_
            refine E_callV (As := [.int (l3)]) (rest := [.int (l3), .ref (56)]) dX7_findLeads_128 cl_RX7_99 tw_499 (show kd 49 = 7 by decide) (by decide) rfl tw_500 ⟨rfl, rfl, Nat.le_of_ble_eq_true rfl, Nat.le_of_ble_eq_true rfl⟩ rfl rfl (Nat.le_of_ble_eq_true rfl) (mt_X7_isSafe _ _ _  hP) ?_
            intro r0 s0 hq0; obtain ⟨r128, h0, hs0, hP⟩ := hq0; subst h0; rw [hs0]
            show eX7_findLeads 131 [.ref (49), .int (l1), .int (l2), .int (l3), un] [.int (bI r128), .int (l3), .ref (56)] t107 _
            refine E_ifz_eq 138 dX7_findLeads_131 (by decide) (fun hc => ?_) (fun hc => ?_)
            · replace hP := hP.1 hc
              refine E_iconst (v := 0) dX7_findLeads_138 (by decide) ?_
              obtain ⟨hb, hP⟩ := hP
              refine E_zast dX7_findLeads_139 (ar_7_7 (show kd 49 = 7 by decide)).1 (ar_7_7 (show kd 49 = 7 by decide)).2 hb (Or.inl rfl) ?_
              refine E_iinc (ls' := [.ref (49), .int (l1), .int (l2), .int (l3 + 1), un]) dX7_findLeads_140 rfl rfl (by decide) rfl ?_
              refine E_goto 15 dX7_findLeads_143 (by decide) ?_
              exact ih (l3 + 1) _ hP
            · replace hP := hP.2 hc
              refine E_iconst (v := 1) dX7_findLeads_134 (by decide) ?_
              refine E_goto 139 dX7_findLeads_135 (by decide) ?_
              obtain ⟨hb, hP⟩ := hP
              refine E_zast dX7_findLeads_139 (ar_7_7 (show kd 49 = 7 by decide)).1 (ar_7_7 (show kd 49 = 7 by decide)).2 hb (Or.inr rfl) ?_
              refine E_iinc (ls' := [.ref (49), .int (l1), .int (l2), .int (l3 + 1), un]) dX7_findLeads_140 rfl rfl (by decide) rfl ?_
              refine E_goto 15 dX7_findLeads_143 (by decide) ?_
              exact ih (l3 + 1) _ hP
      · replace hP := hP.2 hc
        refine E_iconst (v := 1) dX7_findLeads_30 (by decide) ?_
        refine E_goto 35 dX7_findLeads_31 (by decide) ?_
        obtain ⟨hb, hP⟩ := hP
        refine E_zast dX7_findLeads_35 (ar_7_7 (show kd 49 = 7 by decide)).1 (ar_7_7 (show kd 49 = 7 by decide)).2 hb (Or.inr rfl) ?_
        refine E_iconst (v := 0) dX7_findLeads_36 (by decide) ?_
        refine E_istore (ls' := [.ref (49), .int (l1), .int (l2), .int (l3), .int (0)]) dX7_findLeads_37 (by decide) rfl ?_
        obtain ⟨m39, hP⟩ := hP
        refine ev_X7_findLeads_l39 (l1) (l2) (l3)  _ Q ?_ m39 _ _ hP
        intro  t107 hP
        refine E_aload_n dX7_findLeads_107 rfl ?_
        refine E_getR (j := 6) dX7_findLeads_108 (show kd 49 = 7 by decide) (by decide) rfl fd_RX7_29 (by decide) ?_
        refine E_iload_n dX7_findLeads_111 rfl ?_
        refine E_aload_n dX7_findLeads_112 rfl ?_
        refine E_getR (j := 6) dX7_findLeads_113 (show kd 49 = 7 by decide) (by decide) rfl fd_RX7_29 (by decide) ?_
        refine E_iload_n dX7_findLeads_116 rfl ?_
        obtain ⟨hb, hP⟩ := hP
        refine E_zald dX7_findLeads_117 (ar_7_7 (show kd 49 = 7 by decide)).1 (ar_7_7 (show kd 49 = 7 by decide)).2 hb ?_
        refine E_if_eq 138 dX7_findLeads_118 (by decide) (fun hc => ?_) (fun hc => ?_)
        · replace hP := hP.1 hc
          refine E_iconst (v := 0) dX7_findLeads_138 (by decide) ?_
          obtain ⟨hb, hP⟩ := hP
          refine E_zast dX7_findLeads_139 (ar_7_7 (show kd 49 = 7 by decide)).1 (ar_7_7 (show kd 49 = 7 by decide)).2 hb (Or.inl rfl) ?_
          refine E_iinc (ls' := [.ref (49), .int (l1), .int (l2), .int (l3 + 1), un]) dX7_findLeads_140 rfl rfl (by decide) rfl ?_
          refine E_goto 15 dX7_findLeads_143 (by decide) ?_
          exact ih (l3 + 1) _ hP
        · replace hP := hP.2 hc
          refine E_iload_n dX7_findLeads_121 rfl ?_
          refine E_iload_n dX7_findLeads_122 rfl ?_
          refine E_icmp_eq 134 dX7_findLeads_123 (by decide) (fun hc => ?_) (fun hc => ?_)
          · replace hP := hP.1 hc
            refine E_iconst (v := 1) dX7_findLeads_134 (by decide) ?_
            refine E_goto 139 dX7_findLeads_135 (by decide) ?_
            obtain ⟨hb, hP⟩ := hP
            refine E_zast dX7_findLeads_139 (ar_7_7 (show kd 49 = 7 by decide)).1 (ar_7_7 (show kd 49 = 7 by decide)).2 hb (Or.inr rfl) ?_
            refine E_iinc (ls' := [.ref (49), .int (l1), .int (l2), .int (l3 + 1), un]) dX7_findLeads_140 rfl rfl (by decide) rfl ?_
            refine E_goto 15 dX7_findLeads_143 (by decide) ?_
            exact ih (l3 + 1) _ hP
          · replace hP := hP.2 hc
            refine E_aload_n dX7_findLeads_126 rfl ?_
            refine E_iload_n dX7_findLeads_127 rfl ?_
            refine E_callV (As := [.int (l3)]) (rest := [.int (l3), .ref (56)]) dX7_findLeads_128 cl_RX7_99 tw_499 (show kd 49 = 7 by decide) (by decide) rfl tw_500 ⟨rfl, rfl, Nat.le_of_ble_eq_true rfl, Nat.le_of_ble_eq_true rfl⟩ rfl rfl (Nat.le_of_ble_eq_true rfl) (mt_X7_isSafe _ _ _  hP) ?_
            intro r0 s0 hq0; obtain ⟨r128, h0, hs0, hP⟩ := hq0; subst h0; rw [hs0]
            show eX7_findLeads 131 [.ref (49), .int (l1), .int (l2), .int (l3), un] [.int (bI r128), .int (l3), .ref (56)] t107 _
            refine E_ifz_eq 138 dX7_findLeads_131 (by decide) (fun hc => ?_) (fun hc => ?_)
            · replace hP := hP.1 hc
              refine E_iconst (v := 0) dX7_findLeads_138 (by decide) ?_
              obtain ⟨hb, hP⟩ := hP
              refine E_zast dX7_findLeads_139 (ar_7_7 (show kd 49 = 7 by decide)).1 (ar_7_7 (show kd 49 = 7 by decide)).2 hb (Or.inl rfl) ?_
              refine E_iinc (ls' := [.ref (49), .int (l1), .int (l2), .int (l3 + 1), un]) dX7_findLeads_140 rfl rfl (by decide) rfl ?_
              refine E_goto 15 dX7_findLeads_143 (by decide) ?_
              exact ih (l3 + 1) _ hP
            · replace hP := hP.2 hc
              refine E_iconst (v := 1) dX7_findLeads_134 (by decide) ?_
              refine E_goto 139 dX7_findLeads_135 (by decide) ?_
              obtain ⟨hb, hP⟩ := hP
              refine E_zast dX7_findLeads_139 (ar_7_7 (show kd 49 = 7 by decide)).1 (ar_7_7 (show kd 49 = 7 by decide)).2 hb (Or.inr rfl) ?_
              refine E_iinc (ls' := [.ref (49), .int (l1), .int (l2), .int (l3 + 1), un]) dX7_findLeads_140 rfl rfl (by decide) rfl ?_
              refine E_goto 15 dX7_findLeads_143 (by decide) ?_
              exact ih (l3 + 1) _ hP
set_option maxRecDepth 20000 in
theorem mt_X7_findLeads (p0 : Int32) (σ : St) (Q : St → Prop)  (hP : P_X7_findLeads p0 σ Q) : Mt yX7_findLeads cX7_findLeads 5 none rmX7_findLeads [.ref (49), .int (p0)] σ (qV Q) := by
  refine Mt.of (k := 3) (ls := [.ref (49), .int (p0), un, un, un]) (by decide +kernel) rfl (Nat.le_of_ble_eq_true rfl) ?_
  show eX7_findLeads 0 [.ref (49), .int (p0), un, un, un] [] σ _
  unfold P_X7_findLeads at hP
  refine E_aload_n dX7_findLeads_0 rfl ?_
  refine E_callV (As := []) (rest := []) dX7_findLeads_1 cl_RX7_152 tw_570 (show kd 49 = 7 by decide) (by decide) rfl tw_571 ⟨rfl, rfl, Nat.le_of_ble_eq_true rfl, Nat.le_of_ble_eq_true rfl⟩ rfl rfl (Nat.le_of_ble_eq_true rfl) (mt_X7_findGoes  _ _  hP) ?_
  rintro _ t1 ⟨rfl, hP⟩
  show eX7_findLeads 4 [.ref (49), .int (p0), un, un, un] [] t1 _
  refine E_aload_n dX7_findLeads_4 rfl ?_
  refine E_callV (As := []) (rest := []) dX7_findLeads_5 cl_RX7_113 tw_519 (show kd 49 = 7 by decide) (by decide) rfl tw_520 ⟨rfl, rfl, Nat.le_of_ble_eq_true rfl, Nat.le_of_ble_eq_true rfl⟩ rfl rfl (Nat.le_of_ble_eq_true rfl) (mt_X7_findTops  _ _  hP) ?_
  rintro _ t5 ⟨rfl, hP⟩
  show eX7_findLeads 8 [.ref (49), .int (p0), un, un, un] [] t5 _
  refine E_aload_n dX7_findLeads_8 rfl ?_
  refine E_callV (As := []) (rest := []) dX7_findLeads_9 cl_RX7_120 tw_523 (show kd 49 = 7 by decide) (by decide) rfl tw_524 ⟨rfl, rfl, Nat.le_of_ble_eq_true rfl, Nat.le_of_ble_eq_true rfl⟩ rfl rfl (Nat.le_of_ble_eq_true rfl) (mt_X7_standNow  _ _  hP) ?_
  intro r0 s0 hq0; obtain ⟨r9, h0, hs0, hP⟩ := hq0; subst h0; rw [hs0]
  show eX7_findLeads 12 [.ref (49), .int (p0), un, un, un] [.int (r9)] t5 _
  refine E_istore_n (ls' := [.ref (49), .int (p0), .int (r9), un, un]) dX7_findLeads_12 (by decide) rfl ?_
  refine E_iconst (v := 0) dX7_findLeads_13 (by decide) ?_
  refine E_istore_n (ls' := [.ref (49), .int (p0), .int (r9), .int (0), un]) dX7_findLeads_14 (by decide) rfl ?_
  obtain ⟨m15, hP⟩ := hP
  refine ev_X7_findLeads_l15 (p0) (r9)  _ Q ?_ m15 _ _ hP
  intro  t146 hP
  exact E_vret dX7_findLeads_146 rfl ⟨rfl, hP⟩
theorem dX7_firstFrom_0 : decode cX7_firstFrom 0 = .ok (.iconst 0, 1) := by decide +kernel
theorem dX7_firstFrom_1 : decode cX7_firstFrom 1 = .ok (.istore_n 2, 1) := by decide +kernel
theorem dX7_firstFrom_2 : decode cX7_firstFrom 2 = .ok (.iload_n 1, 1) := by decide +kernel
theorem dX7_firstFrom_3 : decode cX7_firstFrom 3 = .ok (.iload_n 2, 1) := by decide +kernel
theorem dX7_firstFrom_4 : decode cX7_firstFrom 4 = .ok (.invokestatic 77, 3) := by decide +kernel
theorem dX7_firstFrom_7 : decode cX7_firstFrom 7 = .ok (.ifCond .eq 27, 3) := by decide +kernel
theorem dX7_firstFrom_10 : decode cX7_firstFrom 10 = .ok (.aload_n 0, 1) := by decide +kernel
theorem dX7_firstFrom_11 : decode cX7_firstFrom 11 = .ok (.getfield 29, 3) := by decide +kernel
theorem dX7_firstFrom_14 : decode cX7_firstFrom 14 = .ok (.iload_n 1, 1) := by decide +kernel
theorem dX7_firstFrom_15 : decode cX7_firstFrom 15 = .ok (.iconst 1, 1) := by decide +kernel
theorem dX7_firstFrom_16 : decode cX7_firstFrom 16 = .ok (.iconst 3, 1) := by decide +kernel
theorem dX7_firstFrom_17 : decode cX7_firstFrom 17 = .ok (.iload_n 2, 1) := by decide +kernel
theorem dX7_firstFrom_18 : decode cX7_firstFrom 18 = .ok (.imul, 1) := by decide +kernel
theorem dX7_firstFrom_19 : decode cX7_firstFrom 19 = .ok (.ishl, 1) := by decide +kernel
theorem dX7_firstFrom_20 : decode cX7_firstFrom 20 = .ok (.isub, 1) := by decide +kernel
theorem dX7_firstFrom_21 : decode cX7_firstFrom 21 = .ok (.baload, 1) := by decide +kernel
theorem dX7_firstFrom_22 : decode cX7_firstFrom 22 = .ok (.ifCond .eq 12, 3) := by decide +kernel
theorem dX7_firstFrom_25 : decode cX7_firstFrom 25 = .ok (.aload_n 0, 1) := by decide +kernel
theorem dX7_firstFrom_26 : decode cX7_firstFrom 26 = .ok (.iload_n 1, 1) := by decide +kernel
theorem dX7_firstFrom_27 : decode cX7_firstFrom 27 = .ok (.iload_n 2, 1) := by decide +kernel
theorem dX7_firstFrom_28 : decode cX7_firstFrom 28 = .ok (.invokevirtual 139, 3) := by decide +kernel
theorem dX7_firstFrom_31 : decode cX7_firstFrom 31 = .ok (.ifCond .ne 9, 3) := by decide +kernel
theorem dX7_firstFrom_34 : decode cX7_firstFrom 34 = .ok (.iinc 2 1, 3) := by decide +kernel
theorem dX7_firstFrom_37 : decode cX7_firstFrom 37 = .ok (.goto (-35), 3) := by decide +kernel
theorem dX7_firstFrom_40 : decode cX7_firstFrom 40 = .ok (.iload_n 2, 1) := by decide +kernel
theorem dX7_firstFrom_41 : decode cX7_firstFrom 41 = .ok (.ireturn, 1) := by decide +kernel
def rmX7_firstFrom : Room := { frames := 5, cells := 0, slots := 0, locals := 112 }
abbrev eX7_firstFrom := Ev cX7_firstFrom 3 (some .int) RX7 rmX7_firstFrom
set_option maxRecDepth 20000 in
theorem ev_X7_firstFrom_l2 (l1 : Int32)  (K : Int32 → St → Prop) (Q : Int32 → Prop) (σ0 : St) (hK : ∀ k2 s, K k2 s → s = σ0 → eX7_firstFrom 40 [un, un, .int (k2)] [] s (qI fun x s => s = σ0 ∧ Q x)) : ∀ (n : Nat) (l2 : Int32) (σ : St), σ = σ0 → P_X7_firstFrom_l2 l1 K Q n l2 σ → eX7_firstFrom 2 [.ref (49), .int (l1), .int (l2)] [] σ (qI fun x s => s = σ0 ∧ Q x) := by
  intro n
  induction n with
  | zero => intro l2 σ hs hP; exact hP.elim
  | succ n ih =>
    intro l2 σ hs hP
    subst hs
    rw [P_X7_firstFrom_l2] at hP
    refine E_iload_n dX7_firstFrom_2 rfl ?_
    refine E_iload_n dX7_firstFrom_3 rfl ?_
    refine E_callS (As := [.int (l1), .int (l2)]) (rest := []) dX7_firstFrom_4 cl_RX7_77 tw_474 ⟨rfl, rfl, Nat.le_of_ble_eq_true rfl, Nat.le_of_ble_eq_true rfl⟩ rfl rfl (Nat.le_of_ble_eq_true rfl) (mt_X7_left _ _ _ _  hP) ?_
    intro r0 s0 hq0; obtain ⟨r4, h0, hs0, hP⟩ := hq0; subst h0; rw [hs0]
    show eX7_firstFrom 7 [.ref (49), .int (l1), .int (l2)] [.int (r4)] σ _
    refine E_if_eq 34 dX7_firstFrom_7 (by decide) (fun hc => ?_) (fun hc => ?_)
    · replace hP := hP.1 hc
      refine E_iinc (ls' := [.ref (49), .int (l1), .int (l2 + 1)]) dX7_firstFrom_34 rfl rfl (by decide) rfl ?_
      refine E_goto 2 dX7_firstFrom_37 (by decide) ?_
      exact ih (l2 + 1) _ rfl hP
    · replace hP := hP.2 hc
      refine E_aload_n dX7_firstFrom_10 rfl ?_
      refine E_getR (j := 6) dX7_firstFrom_11 (show kd 49 = 7 by decide) (by decide) rfl fd_RX7_29 (by decide) ?_
      refine E_iload_n dX7_firstFrom_14 rfl ?_
      refine E_iconst (v := 1) dX7_firstFrom_15 (by decide) ?_
      refine E_iconst (v := 3) dX7_firstFrom_16 (by decide) ?_
      refine E_iload_n dX7_firstFrom_17 rfl ?_
      refine E_imul dX7_firstFrom_18 ?_
      refine E_ishl dX7_firstFrom_19 ?_
      refine E_isub dX7_firstFrom_20 ?_
      obtain ⟨hb, hP⟩ := hP
      refine E_zald dX7_firstFrom_21 (ar_7_7 (show kd 49 = 7 by decide)).1 (ar_7_7 (show kd 49 = 7 by decide)).2 hb ?_
      refine E_if_eq 34 dX7_firstFrom_22 (by decide) (fun hc => ?_) (fun hc => ?_)
      · replace hP := hP.1 hc
        refine E_iinc (ls' := [.ref (49), .int (l1), .int (l2 + 1)]) dX7_firstFrom_34 rfl rfl (by decide) rfl ?_
        refine E_goto 2 dX7_firstFrom_37 (by decide) ?_
        exact ih (l2 + 1) _ rfl hP
      · replace hP := hP.2 hc
        refine E_aload_n dX7_firstFrom_25 rfl ?_
        refine E_iload_n dX7_firstFrom_26 rfl ?_
        refine E_iload_n dX7_firstFrom_27 rfl ?_
        refine E_callV (As := [.int (l1), .int (l2)]) (rest := []) dX7_firstFrom_28 cl_RX7_139 tw_548 (show kd 49 = 7 by decide) (by decide) rfl tw_549 ⟨rfl, rfl, Nat.le_of_ble_eq_true rfl, Nat.le_of_ble_eq_true rfl⟩ rfl rfl (Nat.le_of_ble_eq_true rfl) (mt_X7_canPull _ _ _ _  hP) ?_
        intro r0 s0 hq0; obtain ⟨r28, h0, hs0, hP⟩ := hq0; subst h0; rw [hs0]
        show eX7_firstFrom 31 [.ref (49), .int (l1), .int (l2)] [.int (bI r28)] σ _
        refine E_ifz_ne 40 dX7_firstFrom_31 (by decide) (fun hc => ?_) (fun hc => ?_)
        · replace hP := hP.1 hc
          refine E_mask [false, false, true] rfl ?_
          exact hK (l2) _ hP rfl
        · replace hP := hP.2 hc
          refine E_iinc (ls' := [.ref (49), .int (l1), .int (l2 + 1)]) dX7_firstFrom_34 rfl rfl (by decide) rfl ?_
          refine E_goto 2 dX7_firstFrom_37 (by decide) ?_
          exact ih (l2 + 1) _ rfl hP
set_option maxRecDepth 20000 in
theorem mt_X7_firstFrom (p0 : Int32) (σ : St) (Q : Int32 → Prop)  (hP : P_X7_firstFrom p0 σ Q) : Mt yX7_firstFrom cX7_firstFrom 3 (some .int) rmX7_firstFrom [.ref (49), .int (p0)] σ (qI fun x s => s = σ ∧ Q x) := by
  refine Mt.of (k := 1) (ls := [.ref (49), .int (p0), un]) (by decide +kernel) rfl (Nat.le_of_ble_eq_true rfl) ?_
  show eX7_firstFrom 0 [.ref (49), .int (p0), un] [] σ _
  unfold P_X7_firstFrom at hP
  refine E_iconst (v := 0) dX7_firstFrom_0 (by decide) ?_
  refine E_istore_n (ls' := [.ref (49), .int (p0), .int (0)]) dX7_firstFrom_1 (by decide) rfl ?_
  obtain ⟨m2, hP⟩ := hP
  refine ev_X7_firstFrom_l2 (p0)  _ Q σ ?_ m2 _ _ rfl hP
  intro k2 t40 hP hs
  rw [hs]
  refine E_iload_n dX7_firstFrom_40 rfl ?_
  exact E_iret dX7_firstFrom_41 rfl ⟨_, rfl, rfl, hP⟩
theorem dX7_first_0 : decode cX7_first 0 = .ok (.aload_n 0, 1) := by decide +kernel
theorem dX7_first_1 : decode cX7_first 1 = .ok (.iload_n 1, 1) := by decide +kernel
theorem dX7_first_2 : decode cX7_first 2 = .ok (.invokevirtual 149, 3) := by decide +kernel
theorem dX7_first_5 : decode cX7_first 5 = .ok (.ifCond .ne 10, 3) := by decide +kernel
theorem dX7_first_8 : decode cX7_first 8 = .ok (.aload_n 0, 1) := by decide +kernel
theorem dX7_first_9 : decode cX7_first 9 = .ok (.ldc 57, 2) := by decide +kernel
theorem dX7_first_11 : decode cX7_first 11 = .ok (.invokevirtual 105, 3) := by decide +kernel
theorem dX7_first_14 : decode cX7_first 14 = .ok (.ireturn, 1) := by decide +kernel
theorem dX7_first_15 : decode cX7_first 15 = .ok (.aload_n 0, 1) := by decide +kernel
theorem dX7_first_16 : decode cX7_first 16 = .ok (.iload_n 1, 1) := by decide +kernel
theorem dX7_first_17 : decode cX7_first 17 = .ok (.invokevirtual 167, 3) := by decide +kernel
theorem dX7_first_20 : decode cX7_first 20 = .ok (.iload_n 1, 1) := by decide +kernel
theorem dX7_first_21 : decode cX7_first 21 = .ok (.aload_n 0, 1) := by decide +kernel
theorem dX7_first_22 : decode cX7_first 22 = .ok (.invokevirtual 120, 3) := by decide +kernel
theorem dX7_first_25 : decode cX7_first 25 = .ok (.if_icmp .eq 15, 3) := by decide +kernel
theorem dX7_first_28 : decode cX7_first 28 = .ok (.aload_n 0, 1) := by decide +kernel
theorem dX7_first_29 : decode cX7_first 29 = .ok (.getfield 29, 3) := by decide +kernel
theorem dX7_first_32 : decode cX7_first 32 = .ok (.aload_n 0, 1) := by decide +kernel
theorem dX7_first_33 : decode cX7_first 33 = .ok (.invokevirtual 120, 3) := by decide +kernel
theorem dX7_first_36 : decode cX7_first 36 = .ok (.baload, 1) := by decide +kernel
theorem dX7_first_37 : decode cX7_first 37 = .ok (.ifCond .ne 12, 3) := by decide +kernel
theorem dX7_first_40 : decode cX7_first 40 = .ok (.aload_n 0, 1) := by decide +kernel
theorem dX7_first_41 : decode cX7_first 41 = .ok (.ldc 170, 2) := by decide +kernel
theorem dX7_first_43 : decode cX7_first 43 = .ok (.invokevirtual 105, 3) := by decide +kernel
theorem dX7_first_46 : decode cX7_first 46 = .ok (.goto 11, 3) := by decide +kernel
theorem dX7_first_49 : decode cX7_first 49 = .ok (.aload_n 0, 1) := by decide +kernel
theorem dX7_first_50 : decode cX7_first 50 = .ok (.aload_n 0, 1) := by decide +kernel
theorem dX7_first_51 : decode cX7_first 51 = .ok (.invokevirtual 120, 3) := by decide +kernel
theorem dX7_first_54 : decode cX7_first 54 = .ok (.invokevirtual 171, 3) := by decide +kernel
theorem dX7_first_57 : decode cX7_first 57 = .ok (.ireturn, 1) := by decide +kernel
def rmX7_first : Room := { frames := 6, cells := 0, slots := 0, locals := 134 }
abbrev eX7_first := Ev cX7_first 2 (some .int) RX7 rmX7_first
set_option maxRecDepth 20000 in
theorem mt_X7_first (p0 : Int32) (σ : St) (Q : Int32 → St → Prop)  (hP : P_X7_first p0 σ Q) : Mt yX7_first cX7_first 2 (some .int) rmX7_first [.ref (49), .int (p0)] σ (qI Q) := by
  refine Mt.of (k := 0) (ls := [.ref (49), .int (p0)]) (by decide +kernel) rfl (Nat.le_of_ble_eq_true rfl) ?_
  show eX7_first 0 [.ref (49), .int (p0)] [] σ _
  unfold P_X7_first at hP
  refine E_aload_n dX7_first_0 rfl ?_
  refine E_iload_n dX7_first_1 rfl ?_
  refine E_callV (As := [.int (p0)]) (rest := []) dX7_first_2 cl_RX7_149 tw_561 (show kd 49 = 7 by decide) (by decide) rfl tw_562 ⟨rfl, rfl, Nat.le_of_ble_eq_true rfl, Nat.le_of_ble_eq_true rfl⟩ rfl rfl (Nat.le_of_ble_eq_true rfl) (mt_X7_isStand _ _ _  hP) ?_
  intro r0 s0 hq0; obtain ⟨r2, h0, hs0, hP⟩ := hq0; subst h0; rw [hs0]
  show eX7_first 5 [.ref (49), .int (p0)] [.int (bI r2)] σ _
  refine E_ifz_ne 15 dX7_first_5 (by decide) (fun hc => ?_) (fun hc => ?_)
  · replace hP := hP.1 hc
    refine E_aload_n dX7_first_15 rfl ?_
    refine E_iload_n dX7_first_16 rfl ?_
    refine E_callV (As := [.int (p0)]) (rest := []) dX7_first_17 cl_RX7_167 tw_592 (show kd 49 = 7 by decide) (by decide) rfl tw_593 ⟨rfl, rfl, Nat.le_of_ble_eq_true rfl, Nat.le_of_ble_eq_true rfl⟩ rfl rfl (Nat.le_of_ble_eq_true rfl) (mt_X7_findLeads _ _ _  hP) ?_
    rintro _ t17 ⟨rfl, hP⟩
    show eX7_first 20 [.ref (49), .int (p0)] [] t17 _
    refine E_iload_n dX7_first_20 rfl ?_
    refine E_aload_n dX7_first_21 rfl ?_
    refine E_callV (As := []) (rest := [.int (p0)]) dX7_first_22 cl_RX7_120 tw_523 (show kd 49 = 7 by decide) (by decide) rfl tw_524 ⟨rfl, rfl, Nat.le_of_ble_eq_true rfl, Nat.le_of_ble_eq_true rfl⟩ rfl rfl (Nat.le_of_ble_eq_true rfl) (mt_X7_standNow  _ _  hP) ?_
    intro r0 s0 hq0; obtain ⟨r22, h0, hs0, hP⟩ := hq0; subst h0; rw [hs0]
    show eX7_first 25 [.ref (49), .int (p0)] [.int (r22), .int (p0)] t17 _
    refine E_icmp_eq 40 dX7_first_25 (by decide) (fun hc => ?_) (fun hc => ?_)
    · replace hP := hP.1 hc
      refine E_aload_n dX7_first_40 rfl ?_
      refine E_ldc (v := (-1000000004)) dX7_first_41 tw_585 ?_
      refine E_callV (As := [.int ((-1000000004))]) (rest := []) dX7_first_43 cl_RX7_105 tw_507 (show kd 49 = 7 by decide) (by decide) rfl tw_508 ⟨rfl, rfl, Nat.le_of_ble_eq_true rfl, Nat.le_of_ble_eq_true rfl⟩ rfl rfl (Nat.le_of_ble_eq_true rfl) (mt_X7_finds _ _ _  hP) ?_
      rintro _ t43 ⟨r43, rfl, hP⟩
      show eX7_first 46 [.ref (49), .int (p0)] [.int (r43)] t43 _
      refine E_goto 57 dX7_first_46 (by decide) ?_
      exact E_iret dX7_first_57 rfl ⟨_, rfl, hP⟩
    · replace hP := hP.2 hc
      refine E_aload_n dX7_first_28 rfl ?_
      refine E_getR (j := 6) dX7_first_29 (show kd 49 = 7 by decide) (by decide) rfl fd_RX7_29 (by decide) ?_
      refine E_aload_n dX7_first_32 rfl ?_
      refine E_callV (As := []) (rest := [.ref (56)]) dX7_first_33 cl_RX7_120 tw_523 (show kd 49 = 7 by decide) (by decide) rfl tw_524 ⟨rfl, rfl, Nat.le_of_ble_eq_true rfl, Nat.le_of_ble_eq_true rfl⟩ rfl rfl (Nat.le_of_ble_eq_true rfl) (mt_X7_standNow  _ _  hP) ?_
      intro r0 s0 hq0; obtain ⟨r33, h0, hs0, hP⟩ := hq0; subst h0; rw [hs0]
      show eX7_first 36 [.ref (49), .int (p0)] [.int (r33), .ref (56)] t17 _
      obtain ⟨hb, hP⟩ := hP
      refine E_zald dX7_first_36 (ar_7_7 (show kd 49 = 7 by decide)).1 (ar_7_7 (show kd 49 = 7 by decide)).2 hb ?_
      refine E_if_ne 49 dX7_first_37 (by decide) (fun hc => ?_) (fun hc => ?_)
      · replace hP := hP.1 hc
        refine E_aload_n dX7_first_49 rfl ?_
        refine E_aload_n dX7_first_50 rfl ?_
        refine E_callV (As := []) (rest := [.ref (49)]) dX7_first_51 cl_RX7_120 tw_523 (show kd 49 = 7 by decide) (by decide) rfl tw_524 ⟨rfl, rfl, Nat.le_of_ble_eq_true rfl, Nat.le_of_ble_eq_true rfl⟩ rfl rfl (Nat.le_of_ble_eq_true rfl) (mt_X7_standNow  _ _  hP) ?_
        intro r0 s0 hq0; obtain ⟨r51, h0, hs0, hP⟩ := hq0; subst h0; rw [hs0]
        show eX7_first 54 [.ref (49), .int (p0)] [.int (r51), .ref (49)] t17 _
        refine E_callV (As := [.int (r51)]) (rest := []) dX7_first_54 cl_RX7_171 tw_588 (show kd 49 = 7 by decide) (by decide) rfl tw_589 ⟨rfl, rfl, Nat.le_of_ble_eq_true rfl, Nat.le_of_ble_eq_true rfl⟩ rfl rfl (Nat.le_of_ble_eq_true rfl) (mt_X7_firstFrom _ _ _  hP) ?_
        intro r0 s0 hq0; obtain ⟨r54, h0, hs0, hP⟩ := hq0; subst h0; rw [hs0]
        show eX7_first 57 [.ref (49), .int (p0)] [.int (r54)] t17 _
        exact E_iret dX7_first_57 rfl ⟨_, rfl, hP⟩
      · replace hP := hP.2 hc
        refine E_aload_n dX7_first_40 rfl ?_
        refine E_ldc (v := (-1000000004)) dX7_first_41 tw_585 ?_
        refine E_callV (As := [.int ((-1000000004))]) (rest := []) dX7_first_43 cl_RX7_105 tw_507 (show kd 49 = 7 by decide) (by decide) rfl tw_508 ⟨rfl, rfl, Nat.le_of_ble_eq_true rfl, Nat.le_of_ble_eq_true rfl⟩ rfl rfl (Nat.le_of_ble_eq_true rfl) (mt_X7_finds _ _ _  hP) ?_
        rintro _ t43 ⟨r43, rfl, hP⟩
        show eX7_first 46 [.ref (49), .int (p0)] [.int (r43)] t43 _
        refine E_goto 57 dX7_first_46 (by decide) ?_
        exact E_iret dX7_first_57 rfl ⟨_, rfl, hP⟩
  · replace hP := hP.2 hc
    refine E_aload_n dX7_first_8 rfl ?_
    refine E_ldc (v := (-1000000001)) dX7_first_9 tw_452 ?_
    refine E_callV (As := [.int ((-1000000001))]) (rest := []) dX7_first_11 cl_RX7_105 tw_507 (show kd 49 = 7 by decide) (by decide) rfl tw_508 ⟨rfl, rfl, Nat.le_of_ble_eq_true rfl, Nat.le_of_ble_eq_true rfl⟩ rfl rfl (Nat.le_of_ble_eq_true rfl) (mt_X7_finds _ _ _  hP) ?_
    rintro _ t11 ⟨r11, rfl, hP⟩
    show eX7_first 14 [.ref (49), .int (p0)] [.int (r11)] t11 _
    exact E_iret dX7_first_14 rfl ⟨_, rfl, hP⟩
theorem dX7_bring_0 : decode cX7_bring 0 = .ok (.aload_n 0, 1) := by decide +kernel
theorem dX7_bring_1 : decode cX7_bring 1 = .ok (.iload_n 1, 1) := by decide +kernel
theorem dX7_bring_2 : decode cX7_bring 2 = .ok (.invokevirtual 149, 3) := by decide +kernel
theorem dX7_bring_5 : decode cX7_bring 5 = .ok (.ifCond .ne 10, 3) := by decide +kernel
theorem dX7_bring_8 : decode cX7_bring 8 = .ok (.aload_n 0, 1) := by decide +kernel
theorem dX7_bring_9 : decode cX7_bring 9 = .ok (.ldc 57, 2) := by decide +kernel
theorem dX7_bring_11 : decode cX7_bring 11 = .ok (.invokevirtual 105, 3) := by decide +kernel
theorem dX7_bring_14 : decode cX7_bring 14 = .ok (.ireturn, 1) := by decide +kernel
theorem dX7_bring_15 : decode cX7_bring 15 = .ok (.aload_n 0, 1) := by decide +kernel
theorem dX7_bring_16 : decode cX7_bring 16 = .ok (.iload_n 1, 1) := by decide +kernel
theorem dX7_bring_17 : decode cX7_bring 17 = .ok (.invokevirtual 167, 3) := by decide +kernel
theorem dX7_bring_20 : decode cX7_bring 20 = .ok (.aload_n 0, 1) := by decide +kernel
theorem dX7_bring_21 : decode cX7_bring 21 = .ok (.getfield 29, 3) := by decide +kernel
theorem dX7_bring_24 : decode cX7_bring 24 = .ok (.aload_n 0, 1) := by decide +kernel
theorem dX7_bring_25 : decode cX7_bring 25 = .ok (.invokevirtual 120, 3) := by decide +kernel
theorem dX7_bring_28 : decode cX7_bring 28 = .ok (.baload, 1) := by decide +kernel
theorem dX7_bring_29 : decode cX7_bring 29 = .ok (.ifCond .ne 10, 3) := by decide +kernel
theorem dX7_bring_32 : decode cX7_bring 32 = .ok (.aload_n 0, 1) := by decide +kernel
theorem dX7_bring_33 : decode cX7_bring 33 = .ok (.ldc 128, 2) := by decide +kernel
theorem dX7_bring_35 : decode cX7_bring 35 = .ok (.invokevirtual 105, 3) := by decide +kernel
theorem dX7_bring_38 : decode cX7_bring 38 = .ok (.ireturn, 1) := by decide +kernel
theorem dX7_bring_39 : decode cX7_bring 39 = .ok (.iconst 0, 1) := by decide +kernel
theorem dX7_bring_40 : decode cX7_bring 40 = .ok (.istore_n 2, 1) := by decide +kernel
theorem dX7_bring_41 : decode cX7_bring 41 = .ok (.aload_n 0, 1) := by decide +kernel
theorem dX7_bring_42 : decode cX7_bring 42 = .ok (.invokevirtual 120, 3) := by decide +kernel
theorem dX7_bring_45 : decode cX7_bring 45 = .ok (.iload_n 1, 1) := by decide +kernel
theorem dX7_bring_46 : decode cX7_bring 46 = .ok (.if_icmp .eq 26, 3) := by decide +kernel
theorem dX7_bring_49 : decode cX7_bring 49 = .ok (.aload_n 0, 1) := by decide +kernel
theorem dX7_bring_50 : decode cX7_bring 50 = .ok (.aload_n 0, 1) := by decide +kernel
theorem dX7_bring_51 : decode cX7_bring 51 = .ok (.aload_n 0, 1) := by decide +kernel
theorem dX7_bring_52 : decode cX7_bring 52 = .ok (.invokevirtual 120, 3) := by decide +kernel
theorem dX7_bring_55 : decode cX7_bring 55 = .ok (.invokevirtual 171, 3) := by decide +kernel
theorem dX7_bring_58 : decode cX7_bring 58 = .ok (.invokevirtual 145, 3) := by decide +kernel
theorem dX7_bring_61 : decode cX7_bring 61 = .ok (.aload_n 0, 1) := by decide +kernel
theorem dX7_bring_62 : decode cX7_bring 62 = .ok (.iload_n 1, 1) := by decide +kernel
theorem dX7_bring_63 : decode cX7_bring 63 = .ok (.invokevirtual 167, 3) := by decide +kernel
theorem dX7_bring_66 : decode cX7_bring 66 = .ok (.iinc 2 1, 3) := by decide +kernel
theorem dX7_bring_69 : decode cX7_bring 69 = .ok (.goto (-28), 3) := by decide +kernel
theorem dX7_bring_72 : decode cX7_bring 72 = .ok (.iload_n 2, 1) := by decide +kernel
theorem dX7_bring_73 : decode cX7_bring 73 = .ok (.ireturn, 1) := by decide +kernel
def rmX7_bring : Room := { frames := 6, cells := 0, slots := 0, locals := 134 }
abbrev eX7_bring := Ev cX7_bring 3 (some .int) RX7 rmX7_bring
set_option maxRecDepth 20000 in
theorem ev_X7_bring_l41 (l1 : Int32)  (K : Int32 → St → Prop) (Q : Int32 → St → Prop) (hK : ∀ k2 s, K k2 s → eX7_bring 72 [un, un, .int (k2)] [] s (qI Q)) : ∀ (n : Nat) (l2 : Int32) (σ : St), P_X7_bring_l41 l1 K Q n l2 σ → eX7_bring 41 [.ref (49), .int (l1), .int (l2)] [] σ (qI Q) := by
  intro n
  induction n with
  | zero => intro l2 σ hP; exact hP.elim
  | succ n ih =>
    intro l2 σ hP
    rw [P_X7_bring_l41] at hP
    refine E_aload_n dX7_bring_41 rfl ?_
    refine E_callV (As := []) (rest := []) dX7_bring_42 cl_RX7_120 tw_523 (show kd 49 = 7 by decide) (by decide) rfl tw_524 ⟨rfl, rfl, Nat.le_of_ble_eq_true rfl, Nat.le_of_ble_eq_true rfl⟩ rfl rfl (Nat.le_of_ble_eq_true rfl) (mt_X7_standNow  _ _  hP) ?_
    intro r0 s0 hq0; obtain ⟨r42, h0, hs0, hP⟩ := hq0; subst h0; rw [hs0]
    show eX7_bring 45 [.ref (49), .int (l1), .int (l2)] [.int (r42)] σ _
    refine E_iload_n dX7_bring_45 rfl ?_
    refine E_icmp_eq 72 dX7_bring_46 (by decide) (fun hc => ?_) (fun hc => ?_)
    · replace hP := hP.1 hc
      refine E_mask [false, false, true] rfl ?_
      exact hK (l2) _ hP
    · replace hP := hP.2 hc
      refine E_aload_n dX7_bring_49 rfl ?_
      refine E_aload_n dX7_bring_50 rfl ?_
      refine E_aload_n dX7_bring_51 rfl ?_
      refine E_callV (As := []) (rest := [.ref (49), .ref (49)]) dX7_bring_52 cl_RX7_120 tw_523 (show kd 49 = 7 by decide) (by decide) rfl tw_524 ⟨rfl, rfl, Nat.le_of_ble_eq_true rfl, Nat.le_of_ble_eq_true rfl⟩ rfl rfl (Nat.le_of_ble_eq_true rfl) (mt_X7_standNow  _ _  hP) ?_
      intro r0 s0 hq0; obtain ⟨r52, h0, hs0, hP⟩ := hq0; subst h0; rw [hs0]
      show eX7_bring 55 [.ref (49), .int (l1), .int (l2)] [.int (r52), .ref (49), .ref (49)] σ _
      refine E_callV (As := [.int (r52)]) (rest := [.ref (49)]) dX7_bring_55 cl_RX7_171 tw_588 (show kd 49 = 7 by decide) (by decide) rfl tw_589 ⟨rfl, rfl, Nat.le_of_ble_eq_true rfl, Nat.le_of_ble_eq_true rfl⟩ rfl rfl (Nat.le_of_ble_eq_true rfl) (mt_X7_firstFrom _ _ _  hP) ?_
      intro r0 s0 hq0; obtain ⟨r55, h0, hs0, hP⟩ := hq0; subst h0; rw [hs0]
      show eX7_bring 58 [.ref (49), .int (l1), .int (l2)] [.int (r55), .ref (49)] σ _
      refine E_callV (As := [.int (r55)]) (rest := []) dX7_bring_58 cl_RX7_145 tw_552 (show kd 49 = 7 by decide) (by decide) rfl tw_553 ⟨rfl, rfl, Nat.le_of_ble_eq_true rfl, Nat.le_of_ble_eq_true rfl⟩ rfl rfl (Nat.le_of_ble_eq_true rfl) (mt_X7_takeOut _ _ _  hP) ?_
      rintro _ t58 ⟨rfl, hP⟩
      show eX7_bring 61 [.ref (49), .int (l1), .int (l2)] [] t58 _
      refine E_aload_n dX7_bring_61 rfl ?_
      refine E_iload_n dX7_bring_62 rfl ?_
      refine E_callV (As := [.int (l1)]) (rest := []) dX7_bring_63 cl_RX7_167 tw_592 (show kd 49 = 7 by decide) (by decide) rfl tw_593 ⟨rfl, rfl, Nat.le_of_ble_eq_true rfl, Nat.le_of_ble_eq_true rfl⟩ rfl rfl (Nat.le_of_ble_eq_true rfl) (mt_X7_findLeads _ _ _  hP) ?_
      rintro _ t63 ⟨rfl, hP⟩
      show eX7_bring 66 [.ref (49), .int (l1), .int (l2)] [] t63 _
      refine E_iinc (ls' := [.ref (49), .int (l1), .int (l2 + 1)]) dX7_bring_66 rfl rfl (by decide) rfl ?_
      refine E_goto 41 dX7_bring_69 (by decide) ?_
      exact ih (l2 + 1) _ hP
set_option maxRecDepth 20000 in
theorem mt_X7_bring (p0 : Int32) (σ : St) (Q : Int32 → St → Prop)  (hP : P_X7_bring p0 σ Q) : Mt yX7_bring cX7_bring 3 (some .int) rmX7_bring [.ref (49), .int (p0)] σ (qI Q) := by
  refine Mt.of (k := 1) (ls := [.ref (49), .int (p0), un]) (by decide +kernel) rfl (Nat.le_of_ble_eq_true rfl) ?_
  show eX7_bring 0 [.ref (49), .int (p0), un] [] σ _
  unfold P_X7_bring at hP
  refine E_aload_n dX7_bring_0 rfl ?_
  refine E_iload_n dX7_bring_1 rfl ?_
  refine E_callV (As := [.int (p0)]) (rest := []) dX7_bring_2 cl_RX7_149 tw_561 (show kd 49 = 7 by decide) (by decide) rfl tw_562 ⟨rfl, rfl, Nat.le_of_ble_eq_true rfl, Nat.le_of_ble_eq_true rfl⟩ rfl rfl (Nat.le_of_ble_eq_true rfl) (mt_X7_isStand _ _ _  hP) ?_
  intro r0 s0 hq0; obtain ⟨r2, h0, hs0, hP⟩ := hq0; subst h0; rw [hs0]
  show eX7_bring 5 [.ref (49), .int (p0), un] [.int (bI r2)] σ _
  refine E_ifz_ne 15 dX7_bring_5 (by decide) (fun hc => ?_) (fun hc => ?_)
  · replace hP := hP.1 hc
    refine E_aload_n dX7_bring_15 rfl ?_
    refine E_iload_n dX7_bring_16 rfl ?_
    refine E_callV (As := [.int (p0)]) (rest := []) dX7_bring_17 cl_RX7_167 tw_592 (show kd 49 = 7 by decide) (by decide) rfl tw_593 ⟨rfl, rfl, Nat.le_of_ble_eq_true rfl, Nat.le_of_ble_eq_true rfl⟩ rfl rfl (Nat.le_of_ble_eq_true rfl) (mt_X7_findLeads _ _ _  hP) ?_
    rintro _ t17 ⟨rfl, hP⟩
    show eX7_bring 20 [.ref (49), .int (p0), un] [] t17 _
    refine E_aload_n dX7_bring_20 rfl ?_
    refine E_getR (j := 6) dX7_bring_21 (show kd 49 = 7 by decide) (by decide) rfl fd_RX7_29 (by decide) ?_
    refine E_aload_n dX7_bring_24 rfl ?_
    refine E_callV (As := []) (rest := [.ref (56)]) dX7_bring_25 cl_RX7_120 tw_523 (show kd 49 = 7 by decide) (by decide) rfl tw_524 ⟨rfl, rfl, Nat.le_of_ble_eq_true rfl, Nat.le_of_ble_eq_true rfl⟩ rfl rfl (Nat.le_of_ble_eq_true rfl) (mt_X7_standNow  _ _  hP) ?_
    intro r0 s0 hq0; obtain ⟨r25, h0, hs0, hP⟩ := hq0; subst h0; rw [hs0]
    show eX7_bring 28 [.ref (49), .int (p0), un] [.int (r25), .ref (56)] t17 _
    obtain ⟨hb, hP⟩ := hP
    refine E_zald dX7_bring_28 (ar_7_7 (show kd 49 = 7 by decide)).1 (ar_7_7 (show kd 49 = 7 by decide)).2 hb ?_
    refine E_if_ne 39 dX7_bring_29 (by decide) (fun hc => ?_) (fun hc => ?_)
    · replace hP := hP.1 hc
      refine E_iconst (v := 0) dX7_bring_39 (by decide) ?_
      refine E_istore_n (ls' := [.ref (49), .int (p0), .int (0)]) dX7_bring_40 (by decide) rfl ?_
      obtain ⟨m41, hP⟩ := hP
      refine ev_X7_bring_l41 (p0)  _ Q ?_ m41 _ _ hP
      intro k2 t72 hP
      refine E_iload_n dX7_bring_72 rfl ?_
      exact E_iret dX7_bring_73 rfl ⟨_, rfl, hP⟩
    · replace hP := hP.2 hc
      refine E_aload_n dX7_bring_32 rfl ?_
      refine E_ldc (v := (-1000000005)) dX7_bring_33 tw_537 ?_
      refine E_callV (As := [.int ((-1000000005))]) (rest := []) dX7_bring_35 cl_RX7_105 tw_507 (show kd 49 = 7 by decide) (by decide) rfl tw_508 ⟨rfl, rfl, Nat.le_of_ble_eq_true rfl, Nat.le_of_ble_eq_true rfl⟩ rfl rfl (Nat.le_of_ble_eq_true rfl) (mt_X7_finds _ _ _  hP) ?_
      rintro _ t35 ⟨r35, rfl, hP⟩
      show eX7_bring 38 [.ref (49), .int (p0), un] [.int (r35)] t35 _
      exact E_iret dX7_bring_38 rfl ⟨_, rfl, hP⟩
  · replace hP := hP.2 hc
    refine E_aload_n dX7_bring_8 rfl ?_
    refine E_ldc (v := (-1000000001)) dX7_bring_9 tw_452 ?_
    refine E_callV (As := [.int ((-1000000001))]) (rest := []) dX7_bring_11 cl_RX7_105 tw_507 (show kd 49 = 7 by decide) (by decide) rfl tw_508 ⟨rfl, rfl, Nat.le_of_ble_eq_true rfl, Nat.le_of_ble_eq_true rfl⟩ rfl rfl (Nat.le_of_ble_eq_true rfl) (mt_X7_finds _ _ _  hP) ?_
    rintro _ t11 ⟨r11, rfl, hP⟩
    show eX7_bring 14 [.ref (49), .int (p0), un] [.int (r11)] t11 _
    exact E_iret dX7_bring_14 rfl ⟨_, rfl, hP⟩
theorem dX7_widest_0 : decode cX7_widest 0 = .ok (.iconst 0, 1) := by decide +kernel
theorem dX7_widest_1 : decode cX7_widest 1 = .ok (.istore_n 2, 1) := by decide +kernel
theorem dX7_widest_2 : decode cX7_widest 2 = .ok (.iconst 0, 1) := by decide +kernel
theorem dX7_widest_3 : decode cX7_widest 3 = .ok (.istore_n 3, 1) := by decide +kernel
theorem dX7_widest_4 : decode cX7_widest 4 = .ok (.iload_n 3, 1) := by decide +kernel
theorem dX7_widest_5 : decode cX7_widest 5 = .ok (.iconst 3, 1) := by decide +kernel
theorem dX7_widest_6 : decode cX7_widest 6 = .ok (.if_icmp .ge 38, 3) := by decide +kernel
theorem dX7_widest_9 : decode cX7_widest 9 = .ok (.aload_n 0, 1) := by decide +kernel
theorem dX7_widest_10 : decode cX7_widest 10 = .ok (.iload_n 3, 1) := by decide +kernel
theorem dX7_widest_11 : decode cX7_widest 11 = .ok (.invokevirtual 90, 3) := by decide +kernel
theorem dX7_widest_14 : decode cX7_widest 14 = .ok (.ifCond .eq 22, 3) := by decide +kernel
theorem dX7_widest_17 : decode cX7_widest 17 = .ok (.aload_n 0, 1) := by decide +kernel
theorem dX7_widest_18 : decode cX7_widest 18 = .ok (.iload_n 1, 1) := by decide +kernel
theorem dX7_widest_19 : decode cX7_widest 19 = .ok (.iload_n 3, 1) := by decide +kernel
theorem dX7_widest_20 : decode cX7_widest 20 = .ok (.invokevirtual 93, 3) := by decide +kernel
theorem dX7_widest_23 : decode cX7_widest 23 = .ok (.iload_n 2, 1) := by decide +kernel
theorem dX7_widest_24 : decode cX7_widest 24 = .ok (.if_icmp .le 12, 3) := by decide +kernel
theorem dX7_widest_27 : decode cX7_widest 27 = .ok (.aload_n 0, 1) := by decide +kernel
theorem dX7_widest_28 : decode cX7_widest 28 = .ok (.iload_n 1, 1) := by decide +kernel
theorem dX7_widest_29 : decode cX7_widest 29 = .ok (.iload_n 3, 1) := by decide +kernel
theorem dX7_widest_30 : decode cX7_widest 30 = .ok (.invokevirtual 93, 3) := by decide +kernel
theorem dX7_widest_33 : decode cX7_widest 33 = .ok (.goto 4, 3) := by decide +kernel
theorem dX7_widest_36 : decode cX7_widest 36 = .ok (.iload_n 2, 1) := by decide +kernel
theorem dX7_widest_37 : decode cX7_widest 37 = .ok (.istore_n 2, 1) := by decide +kernel
theorem dX7_widest_38 : decode cX7_widest 38 = .ok (.iinc 3 1, 3) := by decide +kernel
theorem dX7_widest_41 : decode cX7_widest 41 = .ok (.goto (-37), 3) := by decide +kernel
theorem dX7_widest_44 : decode cX7_widest 44 = .ok (.iload_n 2, 1) := by decide +kernel
theorem dX7_widest_45 : decode cX7_widest 45 = .ok (.ireturn, 1) := by decide +kernel
def rmX7_widest : Room := { frames := 3, cells := 0, slots := 0, locals := 66 }
abbrev eX7_widest := Ev cX7_widest 4 (some .int) RX7 rmX7_widest
set_option maxRecDepth 20000 in
theorem ev_X7_widest_l4 (l1 : Int32)  (K : Int32 → St → Prop) (Q : Int32 → Prop) (σ0 : St) (hK : ∀ k2 s, K k2 s → s = σ0 → eX7_widest 44 [un, un, .int (k2), un] [] s (qI fun x s => s = σ0 ∧ Q x)) : ∀ (n : Nat) (l2 : Int32) (l3 : Int32) (σ : St), σ = σ0 → P_X7_widest_l4 l1 K Q n l2 l3 σ → eX7_widest 4 [.ref (49), .int (l1), .int (l2), .int (l3)] [] σ (qI fun x s => s = σ0 ∧ Q x) := by
  intro n
  induction n with
  | zero => intro l2 l3 σ hs hP; exact hP.elim
  | succ n ih =>
    intro l2 l3 σ hs hP
    subst hs
    rw [P_X7_widest_l4] at hP
    refine E_iload_n dX7_widest_4 rfl ?_
    refine E_iconst (v := 3) dX7_widest_5 (by decide) ?_
    refine E_icmp_ge 44 dX7_widest_6 (by decide) (fun hc => ?_) (fun hc => ?_)
    · replace hP := hP.1 hc
      refine E_mask [false, false, true, false] rfl ?_
      exact hK (l2) _ hP rfl
    · replace hP := hP.2 hc
      refine E_aload_n dX7_widest_9 rfl ?_
      refine E_iload_n dX7_widest_10 rfl ?_
      refine E_callV (As := [.int (l3)]) (rest := []) dX7_widest_11 cl_RX7_90 tw_495 (show kd 49 = 7 by decide) (by decide) rfl tw_496 ⟨rfl, rfl, Nat.le_of_ble_eq_true rfl, Nat.le_of_ble_eq_true rfl⟩ rfl rfl (Nat.le_of_ble_eq_true rfl) (mt_X7_lies _ _ _  hP) ?_
      intro r0 s0 hq0; obtain ⟨r11, h0, hs0, hP⟩ := hq0; subst h0; rw [hs0]
      show eX7_widest 14 [.ref (49), .int (l1), .int (l2), .int (l3)] [.int (bI r11)] σ _
      refine E_ifz_eq 36 dX7_widest_14 (by decide) (fun hc => ?_) (fun hc => ?_)
      · replace hP := hP.1 hc
        refine E_iload_n dX7_widest_36 rfl ?_
        refine E_istore_n (ls' := [.ref (49), .int (l1), .int (l2), .int (l3)]) dX7_widest_37 (by decide) rfl ?_
        refine E_iinc (ls' := [.ref (49), .int (l1), .int (l2), .int (l3 + 1)]) dX7_widest_38 rfl rfl (by decide) rfl ?_
        refine E_goto 4 dX7_widest_41 (by decide) ?_
        exact ih (l2) (l3 + 1) _ rfl hP
      · replace hP := hP.2 hc
        refine E_aload_n dX7_widest_17 rfl ?_
        refine E_iload_n dX7_widest_18 rfl ?_
        refine E_iload_n dX7_widest_19 rfl ?_
        refine E_callV (As := [.int (l1), .int (l3)]) (rest := []) dX7_widest_20 cl_RX7_93 tw_491 (show kd 49 = 7 by decide) (by decide) rfl tw_492 ⟨rfl, rfl, Nat.le_of_ble_eq_true rfl, Nat.le_of_ble_eq_true rfl⟩ rfl rfl (Nat.le_of_ble_eq_true rfl) (mt_X7_unlikeAt _ _ _ _  hP) ?_
        intro r0 s0 hq0; obtain ⟨r20, h0, hs0, hP⟩ := hq0; subst h0; rw [hs0]
        show eX7_widest 23 [.ref (49), .int (l1), .int (l2), .int (l3)] [.int (r20)] σ _
        refine E_iload_n dX7_widest_23 rfl ?_
        refine E_icmp_le 36 dX7_widest_24 (by decide) (fun hc => ?_) (fun hc => ?_)
        · replace hP := hP.1 hc
          refine E_iload_n dX7_widest_36 rfl ?_
          refine E_istore_n (ls' := [.ref (49), .int (l1), .int (l2), .int (l3)]) dX7_widest_37 (by decide) rfl ?_
          refine E_iinc (ls' := [.ref (49), .int (l1), .int (l2), .int (l3 + 1)]) dX7_widest_38 rfl rfl (by decide) rfl ?_
          refine E_goto 4 dX7_widest_41 (by decide) ?_
          exact ih (l2) (l3 + 1) _ rfl hP
        · replace hP := hP.2 hc
          refine E_aload_n dX7_widest_27 rfl ?_
          refine E_iload_n dX7_widest_28 rfl ?_
          refine E_iload_n dX7_widest_29 rfl ?_
          refine E_callV (As := [.int (l1), .int (l3)]) (rest := []) dX7_widest_30 cl_RX7_93 tw_491 (show kd 49 = 7 by decide) (by decide) rfl tw_492 ⟨rfl, rfl, Nat.le_of_ble_eq_true rfl, Nat.le_of_ble_eq_true rfl⟩ rfl rfl (Nat.le_of_ble_eq_true rfl) (mt_X7_unlikeAt _ _ _ _  hP) ?_
          intro r0 s0 hq0; obtain ⟨r30, h0, hs0, hP⟩ := hq0; subst h0; rw [hs0]
          show eX7_widest 33 [.ref (49), .int (l1), .int (l2), .int (l3)] [.int (r30)] σ _
          refine E_goto 37 dX7_widest_33 (by decide) ?_
          refine E_istore_n (ls' := [.ref (49), .int (l1), .int (r30), .int (l3)]) dX7_widest_37 (by decide) rfl ?_
          refine E_iinc (ls' := [.ref (49), .int (l1), .int (r30), .int (l3 + 1)]) dX7_widest_38 rfl rfl (by decide) rfl ?_
          refine E_goto 4 dX7_widest_41 (by decide) ?_
          exact ih (r30) (l3 + 1) _ rfl hP
set_option maxRecDepth 20000 in
theorem mt_X7_widest (p0 : Int32) (σ : St) (Q : Int32 → Prop)  (hP : P_X7_widest p0 σ Q) : Mt yX7_widest cX7_widest 4 (some .int) rmX7_widest [.ref (49), .int (p0)] σ (qI fun x s => s = σ ∧ Q x) := by
  refine Mt.of (k := 2) (ls := [.ref (49), .int (p0), un, un]) (by decide +kernel) rfl (Nat.le_of_ble_eq_true rfl) ?_
  show eX7_widest 0 [.ref (49), .int (p0), un, un] [] σ _
  unfold P_X7_widest at hP
  refine E_iconst (v := 0) dX7_widest_0 (by decide) ?_
  refine E_istore_n (ls' := [.ref (49), .int (p0), .int (0), un]) dX7_widest_1 (by decide) rfl ?_
  refine E_iconst (v := 0) dX7_widest_2 (by decide) ?_
  refine E_istore_n (ls' := [.ref (49), .int (p0), .int (0), .int (0)]) dX7_widest_3 (by decide) rfl ?_
  obtain ⟨m4, hP⟩ := hP
  refine ev_X7_widest_l4 (p0)  _ Q σ ?_ m4 _ _ _ rfl hP
  intro k2 t44 hP hs
  rw [hs]
  refine E_iload_n dX7_widest_44 rfl ?_
  exact E_iret dX7_widest_45 rfl ⟨_, rfl, rfl, hP⟩
