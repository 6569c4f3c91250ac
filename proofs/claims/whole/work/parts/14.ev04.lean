theorem dX5_tellItem_0 : decode cX5_tellItem 0 = .ok (.iconst 0, 1) := by decide +kernel
theorem dX5_tellItem_1 : decode cX5_tellItem 1 = .ok (.istore_n 1, 1) := by decide +kernel
theorem dX5_tellItem_2 : decode cX5_tellItem 2 = .ok (.iload_n 1, 1) := by decide +kernel
theorem dX5_tellItem_3 : decode cX5_tellItem 3 = .ok (.bipush 6, 2) := by decide +kernel
theorem dX5_tellItem_5 : decode cX5_tellItem 5 = .ok (.if_icmp .ge 36, 3) := by decide +kernel
theorem dX5_tellItem_8 : decode cX5_tellItem 8 = .ok (.aload_n 0, 1) := by decide +kernel
theorem dX5_tellItem_9 : decode cX5_tellItem 9 = .ok (.getfield 12, 3) := by decide +kernel
theorem dX5_tellItem_12 : decode cX5_tellItem 12 = .ok (.iload_n 1, 1) := by decide +kernel
theorem dX5_tellItem_13 : decode cX5_tellItem 13 = .ok (.invokestatic 53, 3) := by decide +kernel
theorem dX5_tellItem_16 : decode cX5_tellItem 16 = .ok (.invokevirtual 57, 3) := by decide +kernel
theorem dX5_tellItem_19 : decode cX5_tellItem 19 = .ok (.ifCond .eq 16, 3) := by decide +kernel
theorem dX5_tellItem_22 : decode cX5_tellItem 22 = .ok (.aload_n 0, 1) := by decide +kernel
theorem dX5_tellItem_23 : decode cX5_tellItem 23 = .ok (.getfield 12, 3) := by decide +kernel
theorem dX5_tellItem_26 : decode cX5_tellItem 26 = .ok (.invokevirtual 47, 3) := by decide +kernel
theorem dX5_tellItem_29 : decode cX5_tellItem 29 = .ok (.aload_n 0, 1) := by decide +kernel
theorem dX5_tellItem_30 : decode cX5_tellItem 30 = .ok (.iload_n 1, 1) := by decide +kernel
theorem dX5_tellItem_31 : decode cX5_tellItem 31 = .ok (.invokevirtual 61, 3) := by decide +kernel
theorem dX5_tellItem_34 : decode cX5_tellItem 34 = .ok (.ireturn, 1) := by decide +kernel
theorem dX5_tellItem_35 : decode cX5_tellItem 35 = .ok (.iinc 1 1, 3) := by decide +kernel
theorem dX5_tellItem_38 : decode cX5_tellItem 38 = .ok (.goto (-36), 3) := by decide +kernel
theorem dX5_tellItem_41 : decode cX5_tellItem 41 = .ok (.aload_n 0, 1) := by decide +kernel
theorem dX5_tellItem_42 : decode cX5_tellItem 42 = .ok (.getfield 12, 3) := by decide +kernel
theorem dX5_tellItem_45 : decode cX5_tellItem 45 = .ok (.ldc 65, 2) := by decide +kernel
theorem dX5_tellItem_47 : decode cX5_tellItem 47 = .ok (.invokevirtual 57, 3) := by decide +kernel
theorem dX5_tellItem_50 : decode cX5_tellItem 50 = .ok (.ifCond .eq 15, 3) := by decide +kernel
theorem dX5_tellItem_53 : decode cX5_tellItem 53 = .ok (.aload_n 0, 1) := by decide +kernel
theorem dX5_tellItem_54 : decode cX5_tellItem 54 = .ok (.getfield 12, 3) := by decide +kernel
theorem dX5_tellItem_57 : decode cX5_tellItem 57 = .ok (.invokevirtual 47, 3) := by decide +kernel
theorem dX5_tellItem_60 : decode cX5_tellItem 60 = .ok (.aload_n 0, 1) := by decide +kernel
theorem dX5_tellItem_61 : decode cX5_tellItem 61 = .ok (.invokevirtual 67, 3) := by decide +kernel
theorem dX5_tellItem_64 : decode cX5_tellItem 64 = .ok (.ireturn, 1) := by decide +kernel
theorem dX5_tellItem_65 : decode cX5_tellItem 65 = .ok (.aload_n 0, 1) := by decide +kernel
theorem dX5_tellItem_66 : decode cX5_tellItem 66 = .ok (.getfield 12, 3) := by decide +kernel
theorem dX5_tellItem_69 : decode cX5_tellItem 69 = .ok (.ldc 70, 2) := by decide +kernel
theorem dX5_tellItem_71 : decode cX5_tellItem 71 = .ok (.invokevirtual 57, 3) := by decide +kernel
theorem dX5_tellItem_74 : decode cX5_tellItem 74 = .ok (.ifCond .eq 15, 3) := by decide +kernel
theorem dX5_tellItem_77 : decode cX5_tellItem 77 = .ok (.aload_n 0, 1) := by decide +kernel
theorem dX5_tellItem_78 : decode cX5_tellItem 78 = .ok (.getfield 12, 3) := by decide +kernel
theorem dX5_tellItem_81 : decode cX5_tellItem 81 = .ok (.invokevirtual 47, 3) := by decide +kernel
theorem dX5_tellItem_84 : decode cX5_tellItem 84 = .ok (.aload_n 0, 1) := by decide +kernel
theorem dX5_tellItem_85 : decode cX5_tellItem 85 = .ok (.invokevirtual 72, 3) := by decide +kernel
theorem dX5_tellItem_88 : decode cX5_tellItem 88 = .ok (.ireturn, 1) := by decide +kernel
theorem dX5_tellItem_89 : decode cX5_tellItem 89 = .ok (.aload_n 0, 1) := by decide +kernel
theorem dX5_tellItem_90 : decode cX5_tellItem 90 = .ok (.getfield 12, 3) := by decide +kernel
theorem dX5_tellItem_93 : decode cX5_tellItem 93 = .ok (.ldc 75, 2) := by decide +kernel
theorem dX5_tellItem_95 : decode cX5_tellItem 95 = .ok (.invokevirtual 57, 3) := by decide +kernel
theorem dX5_tellItem_98 : decode cX5_tellItem 98 = .ok (.ifCond .eq 15, 3) := by decide +kernel
theorem dX5_tellItem_101 : decode cX5_tellItem 101 = .ok (.aload_n 0, 1) := by decide +kernel
theorem dX5_tellItem_102 : decode cX5_tellItem 102 = .ok (.getfield 12, 3) := by decide +kernel
theorem dX5_tellItem_105 : decode cX5_tellItem 105 = .ok (.invokevirtual 47, 3) := by decide +kernel
theorem dX5_tellItem_108 : decode cX5_tellItem 108 = .ok (.aload_n 0, 1) := by decide +kernel
theorem dX5_tellItem_109 : decode cX5_tellItem 109 = .ok (.invokevirtual 77, 3) := by decide +kernel
theorem dX5_tellItem_112 : decode cX5_tellItem 112 = .ok (.ireturn, 1) := by decide +kernel
theorem dX5_tellItem_113 : decode cX5_tellItem 113 = .ok (.aload_n 0, 1) := by decide +kernel
theorem dX5_tellItem_114 : decode cX5_tellItem 114 = .ok (.getfield 12, 3) := by decide +kernel
theorem dX5_tellItem_117 : decode cX5_tellItem 117 = .ok (.ldc 80, 2) := by decide +kernel
theorem dX5_tellItem_119 : decode cX5_tellItem 119 = .ok (.invokevirtual 57, 3) := by decide +kernel
theorem dX5_tellItem_122 : decode cX5_tellItem 122 = .ok (.ifCond .eq 15, 3) := by decide +kernel
theorem dX5_tellItem_125 : decode cX5_tellItem 125 = .ok (.aload_n 0, 1) := by decide +kernel
theorem dX5_tellItem_126 : decode cX5_tellItem 126 = .ok (.getfield 12, 3) := by decide +kernel
theorem dX5_tellItem_129 : decode cX5_tellItem 129 = .ok (.invokevirtual 47, 3) := by decide +kernel
theorem dX5_tellItem_132 : decode cX5_tellItem 132 = .ok (.aload_n 0, 1) := by decide +kernel
theorem dX5_tellItem_133 : decode cX5_tellItem 133 = .ok (.invokevirtual 82, 3) := by decide +kernel
theorem dX5_tellItem_136 : decode cX5_tellItem 136 = .ok (.ireturn, 1) := by decide +kernel
theorem dX5_tellItem_137 : decode cX5_tellItem 137 = .ok (.iconst 0, 1) := by decide +kernel
theorem dX5_tellItem_138 : decode cX5_tellItem 138 = .ok (.ireturn, 1) := by decide +kernel
def rmX5_tellItem : Room := { frames := 6, cells := 0, slots := 0, locals := 131 }
abbrev eX5_tellItem := Ev cX5_tellItem 2 (some .boolean) RX5 rmX5_tellItem
set_option maxRecDepth 20000 in
theorem ev_X5_tellItem_l2   (K : St → Prop) (Q : Bool → St → Prop) (hK : ∀  s, K  s → eX5_tellItem 41 [.ref (26), un] [] s (qB Q)) : ∀ (n : Nat) (l1 : Int32) (σ : St), P_X5_tellItem_l2  K Q n l1 σ → eX5_tellItem 2 [.ref (26), .int (l1)] [] σ (qB Q) := by
  intro n
  induction n with
  | zero => intro l1 σ hP; exact hP.elim
  | succ n ih =>
    intro l1 σ hP
    rw [P_X5_tellItem_l2] at hP
    refine E_iload_n dX5_tellItem_2 rfl ?_
    refine E_bipush (v := 6) dX5_tellItem_3 (by decide) ?_
    refine E_icmp_ge 41 dX5_tellItem_5 (by decide) (fun hc => ?_) (fun hc => ?_)
    · replace hP := hP.1 hc
      refine E_mask [true, false] rfl ?_
      exact hK  _ hP
    · replace hP := hP.2 hc
      refine E_aload_n dX5_tellItem_8 rfl ?_
      refine E_getR (j := 0) dX5_tellItem_9 (show kd 26 = 5 by decide) (by decide) rfl fd_RX5_12 (by decide) ?_
      refine E_iload_n dX5_tellItem_12 rfl ?_
      refine E_callS (As := [.int (l1)]) (rest := [.ref (27)]) dX5_tellItem_13 cl_RX5_53 tw_244 ⟨rfl, rfl, Nat.le_of_ble_eq_true rfl, Nat.le_of_ble_eq_true rfl⟩ rfl rfl (Nat.le_of_ble_eq_true rfl) (mt_X5_nameOf _ _ _  hP) ?_
      intro r0 s0 hq0; obtain ⟨r13, h13, h0, hs0, hP⟩ := hq0; subst h0; rw [hs0]
      show eX5_tellItem 16 [.ref (26), .int (l1)] [.ref (300 + r13), .ref (27)] σ _
      refine E_callV (As := [.ref (300 + r13)]) (rest := []) dX5_tellItem_16 cl_RX5_57 tw_212 (ar_5_1 (show kd 26 = 5 by decide)).1 (by decide) rfl tw_213 ⟨rfl, rfl, Nat.le_of_ble_eq_true rfl, Nat.le_of_ble_eq_true rfl⟩ rfl rfl (Nat.le_of_ble_eq_true rfl) (mt_X4_isWord _ _ _ h13 hP) ?_
      intro r0 s0 hq0; obtain ⟨r16, h0, hs0, hP⟩ := hq0; subst h0; rw [hs0]
      show eX5_tellItem 19 [.ref (26), .int (l1)] [.int (bI r16)] σ _
      refine E_ifz_eq 35 dX5_tellItem_19 (by decide) (fun hc => ?_) (fun hc => ?_)
      · replace hP := hP.1 hc
        refine E_iinc (ls' := [.ref (26), .int (l1 + 1)]) dX5_tellItem_35 rfl rfl (by decide) rfl ?_
        refine E_goto 2 dX5_tellItem_38 (by decide) ?_
        exact ih (l1 + 1) _ hP
      · replace hP := hP.2 hc
        refine E_aload_n dX5_tellItem_22 rfl ?_
        refine E_getR (j := 0) dX5_tellItem_23 (show kd 26 = 5 by decide) (by decide) rfl fd_RX5_12 (by decide) ?_
        refine E_callV (As := []) (rest := []) dX5_tellItem_26 cl_RX5_47 tw_168 (ar_5_1 (show kd 26 = 5 by decide)).1 (by decide) rfl tw_169 ⟨rfl, rfl, Nat.le_of_ble_eq_true rfl, Nat.le_of_ble_eq_true rfl⟩ rfl rfl (Nat.le_of_ble_eq_true rfl) (mt_X4_step  _ _  hP) ?_
        rintro _ t26 ⟨rfl, hP⟩
        show eX5_tellItem 29 [.ref (26), .int (l1)] [] t26 _
        refine E_aload_n dX5_tellItem_29 rfl ?_
        refine E_iload_n dX5_tellItem_30 rfl ?_
        refine E_callV (As := [.int (l1)]) (rest := []) dX5_tellItem_31 cl_RX5_61 tw_240 (show kd 26 = 5 by decide) (by decide) rfl tw_241 ⟨rfl, rfl, Nat.le_of_ble_eq_true rfl, Nat.le_of_ble_eq_true rfl⟩ rfl rfl (Nat.le_of_ble_eq_true rfl) (mt_X5_tellStone _ _ _  hP) ?_
        rintro _ t31 ⟨r31, rfl, hP⟩
        show eX5_tellItem 34 [.ref (26), .int (l1)] [.int (bI r31)] t31 _
        exact E_nret dX5_tellItem_34 rfl (nar_b r31) ⟨r31, rfl, hP⟩
set_option maxRecDepth 20000 in
theorem mt_X5_tellItem  (σ : St) (Q : Bool → St → Prop)  (hP : P_X5_tellItem  σ Q) : Mt yX5_tellItem cX5_tellItem 2 (some .boolean) rmX5_tellItem [.ref (26)] σ (qB Q) := by
  refine Mt.of (k := 1) (ls := [.ref (26), un]) (by decide +kernel) rfl (Nat.le_of_ble_eq_true rfl) ?_
  show eX5_tellItem 0 [.ref (26), un] [] σ _
  unfold P_X5_tellItem at hP
  refine E_iconst (v := 0) dX5_tellItem_0 (by decide) ?_
  refine E_istore_n (ls' := [.ref (26), .int (0)]) dX5_tellItem_1 (by decide) rfl ?_
  obtain ⟨m2, hP⟩ := hP
  refine ev_X5_tellItem_l2   _ Q ?_ m2 _ _ hP
  intro  t41 hP
  refine E_aload_n dX5_tellItem_41 rfl ?_
  refine E_getR (j := 0) dX5_tellItem_42 (show kd 26 = 5 by decide) (by decide) rfl fd_RX5_12 (by decide) ?_
  refine E_ldcS (i := 8) dX5_tellItem_45 rfl (by decide) rfl ?_
  refine E_callV (As := [.ref (300 + 8)]) (rest := []) dX5_tellItem_47 cl_RX5_57 tw_212 (ar_5_1 (show kd 26 = 5 by decide)).1 (by decide) rfl tw_213 ⟨rfl, rfl, Nat.le_of_ble_eq_true rfl, Nat.le_of_ble_eq_true rfl⟩ rfl rfl (Nat.le_of_ble_eq_true rfl) (mt_X4_isWord _ _ _ (show 8 < stN by decide) hP) ?_
  intro r0 s0 hq0; obtain ⟨r47, h0, hs0, hP⟩ := hq0; subst h0; rw [hs0]
  show eX5_tellItem 50 [.ref (26), un] [.int (bI r47)] t41 _
  refine E_ifz_eq 65 dX5_tellItem_50 (by decide) (fun hc => ?_) (fun hc => ?_)
  · replace hP := hP.1 hc
    refine E_aload_n dX5_tellItem_65 rfl ?_
    refine E_getR (j := 0) dX5_tellItem_66 (show kd 26 = 5 by decide) (by decide) rfl fd_RX5_12 (by decide) ?_
    refine E_ldcS (i := 11) dX5_tellItem_69 rfl (by decide) rfl ?_
    refine E_callV (As := [.ref (300 + 11)]) (rest := []) dX5_tellItem_71 cl_RX5_57 tw_212 (ar_5_1 (show kd 26 = 5 by decide)).1 (by decide) rfl tw_213 ⟨rfl, rfl, Nat.le_of_ble_eq_true rfl, Nat.le_of_ble_eq_true rfl⟩ rfl rfl (Nat.le_of_ble_eq_true rfl) (mt_X4_isWord _ _ _ (show 11 < stN by decide) hP) ?_
    intro r0 s0 hq0; obtain ⟨r71, h0, hs0, hP⟩ := hq0; subst h0; rw [hs0]
    show eX5_tellItem 74 [.ref (26), un] [.int (bI r71)] t41 _
    refine E_ifz_eq 89 dX5_tellItem_74 (by decide) (fun hc => ?_) (fun hc => ?_)
    · replace hP := hP.1 hc
      refine E_aload_n dX5_tellItem_89 rfl ?_
      refine E_getR (j := 0) dX5_tellItem_90 (show kd 26 = 5 by decide) (by decide) rfl fd_RX5_12 (by decide) ?_
      refine E_ldcS (i := 12) dX5_tellItem_93 rfl (by decide) rfl ?_
      refine E_callV (As := [.ref (300 + 12)]) (rest := []) dX5_tellItem_95 cl_RX5_57 tw_212 (ar_5_1 (show kd 26 = 5 by decide)).1 (by decide) rfl tw_213 ⟨rfl, rfl, Nat.le_of_ble_eq_true rfl, Nat.le_of_ble_eq_true rfl⟩ rfl rfl (Nat.le_of_ble_eq_true rfl) (mt_X4_isWord _ _ _ (show 12 < stN by decide) hP) ?_
      intro r0 s0 hq0; obtain ⟨r95, h0, hs0, hP⟩ := hq0; subst h0; rw [hs0]
      show eX5_tellItem 98 [.ref (26), un] [.int (bI r95)] t41 _
      refine E_ifz_eq 113 dX5_tellItem_98 (by decide) (fun hc => ?_) (fun hc => ?_)
      · replace hP := hP.1 hc
        refine E_aload_n dX5_tellItem_113 rfl ?_
        refine E_getR (j := 0) dX5_tellItem_114 (show kd 26 = 5 by decide) (by decide) rfl fd_RX5_12 (by decide) ?_
        refine E_ldcS (i := 13) dX5_tellItem_117 rfl (by decide) rfl ?_
        refine E_callV (As := [.ref (300 + 13)]) (rest := []) dX5_tellItem_119 cl_RX5_57 tw_212 (ar_5_1 (show kd 26 = 5 by decide)).1 (by decide) rfl tw_213 ⟨rfl, rfl, Nat.le_of_ble_eq_true rfl, Nat.le_of_ble_eq_true rfl⟩ rfl rfl (Nat.le_of_ble_eq_true rfl) (mt_X4_isWord _ _ _ (show 13 < stN by decide) hP) ?_
        intro r0 s0 hq0; obtain ⟨r119, h0, hs0, hP⟩ := hq0; subst h0; rw [hs0]
        show eX5_tellItem 122 [.ref (26), un] [.int (bI r119)] t41 _
        refine E_ifz_eq 137 dX5_tellItem_122 (by decide) (fun hc => ?_) (fun hc => ?_)
        · replace hP := hP.1 hc
          refine E_iconst (v := 0) dX5_tellItem_137 (by decide) ?_
          exact E_nret dX5_tellItem_138 rfl (nar_b false) ⟨false, rfl, hP⟩
        · replace hP := hP.2 hc
          refine E_aload_n dX5_tellItem_125 rfl ?_
          refine E_getR (j := 0) dX5_tellItem_126 (show kd 26 = 5 by decide) (by decide) rfl fd_RX5_12 (by decide) ?_
          refine E_callV (As := []) (rest := []) dX5_tellItem_129 cl_RX5_47 tw_168 (ar_5_1 (show kd 26 = 5 by decide)).1 (by decide) rfl tw_169 ⟨rfl, rfl, Nat.le_of_ble_eq_true rfl, Nat.le_of_ble_eq_true rfl⟩ rfl rfl (Nat.le_of_ble_eq_true rfl) (mt_X4_step  _ _  hP) ?_
          rintro _ t129 ⟨rfl, hP⟩
          show eX5_tellItem 132 [.ref (26), un] [] t129 _
          refine E_aload_n dX5_tellItem_132 rfl ?_
          refine E_callV (As := []) (rest := []) dX5_tellItem_133 cl_RX5_82 tw_247 (show kd 26 = 5 by decide) (by decide) rfl tw_248 ⟨rfl, rfl, Nat.le_of_ble_eq_true rfl, Nat.le_of_ble_eq_true rfl⟩ rfl rfl (Nat.le_of_ble_eq_true rfl) (mt_X5_tellPulls  _ _  hP) ?_
          rintro _ t133 ⟨r133, rfl, hP⟩
          show eX5_tellItem 136 [.ref (26), un] [.int (bI r133)] t133 _
          exact E_nret dX5_tellItem_136 rfl (nar_b r133) ⟨r133, rfl, hP⟩
      · replace hP := hP.2 hc
        refine E_aload_n dX5_tellItem_101 rfl ?_
        refine E_getR (j := 0) dX5_tellItem_102 (show kd 26 = 5 by decide) (by decide) rfl fd_RX5_12 (by decide) ?_
        refine E_callV (As := []) (rest := []) dX5_tellItem_105 cl_RX5_47 tw_168 (ar_5_1 (show kd 26 = 5 by decide)).1 (by decide) rfl tw_169 ⟨rfl, rfl, Nat.le_of_ble_eq_true rfl, Nat.le_of_ble_eq_true rfl⟩ rfl rfl (Nat.le_of_ble_eq_true rfl) (mt_X4_step  _ _  hP) ?_
        rintro _ t105 ⟨rfl, hP⟩
        show eX5_tellItem 108 [.ref (26), un] [] t105 _
        refine E_aload_n dX5_tellItem_108 rfl ?_
        refine E_callV (As := []) (rest := []) dX5_tellItem_109 cl_RX5_77 tw_251 (show kd 26 = 5 by decide) (by decide) rfl tw_252 ⟨rfl, rfl, Nat.le_of_ble_eq_true rfl, Nat.le_of_ble_eq_true rfl⟩ rfl rfl (Nat.le_of_ble_eq_true rfl) (mt_X5_tellSlack  _ _  hP) ?_
        rintro _ t109 ⟨r109, rfl, hP⟩
        show eX5_tellItem 112 [.ref (26), un] [.int (bI r109)] t109 _
        exact E_nret dX5_tellItem_112 rfl (nar_b r109) ⟨r109, rfl, hP⟩
    · replace hP := hP.2 hc
      refine E_aload_n dX5_tellItem_77 rfl ?_
      refine E_getR (j := 0) dX5_tellItem_78 (show kd 26 = 5 by decide) (by decide) rfl fd_RX5_12 (by decide) ?_
      refine E_callV (As := []) (rest := []) dX5_tellItem_81 cl_RX5_47 tw_168 (ar_5_1 (show kd 26 = 5 by decide)).1 (by decide) rfl tw_169 ⟨rfl, rfl, Nat.le_of_ble_eq_true rfl, Nat.le_of_ble_eq_true rfl⟩ rfl rfl (Nat.le_of_ble_eq_true rfl) (mt_X4_step  _ _  hP) ?_
      rintro _ t81 ⟨rfl, hP⟩
      show eX5_tellItem 84 [.ref (26), un] [] t81 _
      refine E_aload_n dX5_tellItem_84 rfl ?_
      refine E_callV (As := []) (rest := []) dX5_tellItem_85 cl_RX5_72 tw_255 (show kd 26 = 5 by decide) (by decide) rfl tw_256 ⟨rfl, rfl, Nat.le_of_ble_eq_true rfl, Nat.le_of_ble_eq_true rfl⟩ rfl rfl (Nat.le_of_ble_eq_true rfl) (mt_X5_tellWedge  _ _  hP) ?_
      rintro _ t85 ⟨r85, rfl, hP⟩
      show eX5_tellItem 88 [.ref (26), un] [.int (bI r85)] t85 _
      exact E_nret dX5_tellItem_88 rfl (nar_b r85) ⟨r85, rfl, hP⟩
  · replace hP := hP.2 hc
    refine E_aload_n dX5_tellItem_53 rfl ?_
    refine E_getR (j := 0) dX5_tellItem_54 (show kd 26 = 5 by decide) (by decide) rfl fd_RX5_12 (by decide) ?_
    refine E_callV (As := []) (rest := []) dX5_tellItem_57 cl_RX5_47 tw_168 (ar_5_1 (show kd 26 = 5 by decide)).1 (by decide) rfl tw_169 ⟨rfl, rfl, Nat.le_of_ble_eq_true rfl, Nat.le_of_ble_eq_true rfl⟩ rfl rfl (Nat.le_of_ble_eq_true rfl) (mt_X4_step  _ _  hP) ?_
    rintro _ t57 ⟨rfl, hP⟩
    show eX5_tellItem 60 [.ref (26), un] [] t57 _
    refine E_aload_n dX5_tellItem_60 rfl ?_
    refine E_callV (As := []) (rest := []) dX5_tellItem_61 cl_RX5_67 tw_259 (show kd 26 = 5 by decide) (by decide) rfl tw_260 ⟨rfl, rfl, Nat.le_of_ble_eq_true rfl, Nat.le_of_ble_eq_true rfl⟩ rfl rfl (Nat.le_of_ble_eq_true rfl) (mt_X5_tellBeam  _ _  hP) ?_
    rintro _ t61 ⟨r61, rfl, hP⟩
    show eX5_tellItem 64 [.ref (26), un] [.int (bI r61)] t61 _
    exact E_nret dX5_tellItem_64 rfl (nar_b r61) ⟨r61, rfl, hP⟩
theorem dX5_tell_0 : decode cX5_tell 0 = .ok (.aload_n 0, 1) := by decide +kernel
theorem dX5_tell_1 : decode cX5_tell 1 = .ok (.getfield 21, 3) := by decide +kernel
theorem dX5_tell_4 : decode cX5_tell 4 = .ok (.aload_n 1, 1) := by decide +kernel
theorem dX5_tell_5 : decode cX5_tell 5 = .ok (.invokevirtual 32, 3) := by decide +kernel
theorem dX5_tell_8 : decode cX5_tell 8 = .ok (.aload_n 0, 1) := by decide +kernel
theorem dX5_tell_9 : decode cX5_tell 9 = .ok (.getfield 12, 3) := by decide +kernel
theorem dX5_tell_12 : decode cX5_tell 12 = .ok (.invokevirtual 36, 3) := by decide +kernel
theorem dX5_tell_15 : decode cX5_tell 15 = .ok (.iconst 1, 1) := by decide +kernel
theorem dX5_tell_16 : decode cX5_tell 16 = .ok (.istore_n 2, 1) := by decide +kernel
theorem dX5_tell_17 : decode cX5_tell 17 = .ok (.iload_n 2, 1) := by decide +kernel
theorem dX5_tell_18 : decode cX5_tell 18 = .ok (.bipush 120, 2) := by decide +kernel
theorem dX5_tell_20 : decode cX5_tell 20 = .ok (.if_icmp .gt 52, 3) := by decide +kernel
theorem dX5_tell_23 : decode cX5_tell 23 = .ok (.aload_n 0, 1) := by decide +kernel
theorem dX5_tell_24 : decode cX5_tell 24 = .ok (.invokevirtual 39, 3) := by decide +kernel
theorem dX5_tell_27 : decode cX5_tell 27 = .ok (.ifCond .ne 6, 3) := by decide +kernel
theorem dX5_tell_30 : decode cX5_tell 30 = .ok (.goto 42, 3) := by decide +kernel
theorem dX5_tell_33 : decode cX5_tell 33 = .ok (.aload_n 0, 1) := by decide +kernel
theorem dX5_tell_34 : decode cX5_tell 34 = .ok (.getfield 12, 3) := by decide +kernel
theorem dX5_tell_37 : decode cX5_tell 37 = .ok (.getfield 43, 3) := by decide +kernel
theorem dX5_tell_40 : decode cX5_tell 40 = .ok (.ifCond .ne 5, 3) := by decide +kernel
theorem dX5_tell_43 : decode cX5_tell 43 = .ok (.iload_n 2, 1) := by decide +kernel
theorem dX5_tell_44 : decode cX5_tell 44 = .ok (.ireturn, 1) := by decide +kernel
theorem dX5_tell_45 : decode cX5_tell 45 = .ok (.aload_n 0, 1) := by decide +kernel
theorem dX5_tell_46 : decode cX5_tell 46 = .ok (.getfield 12, 3) := by decide +kernel
theorem dX5_tell_49 : decode cX5_tell 49 = .ok (.getfield 43, 3) := by decide +kernel
theorem dX5_tell_52 : decode cX5_tell 52 = .ok (.iconst 3, 1) := by decide +kernel
theorem dX5_tell_53 : decode cX5_tell 53 = .ok (.if_icmp .eq 6, 3) := by decide +kernel
theorem dX5_tell_56 : decode cX5_tell 56 = .ok (.goto 16, 3) := by decide +kernel
theorem dX5_tell_59 : decode cX5_tell 59 = .ok (.aload_n 0, 1) := by decide +kernel
theorem dX5_tell_60 : decode cX5_tell 60 = .ok (.getfield 12, 3) := by decide +kernel
theorem dX5_tell_63 : decode cX5_tell 63 = .ok (.invokevirtual 47, 3) := by decide +kernel
theorem dX5_tell_66 : decode cX5_tell 66 = .ok (.iinc 2 1, 3) := by decide +kernel
theorem dX5_tell_69 : decode cX5_tell 69 = .ok (.goto (-52), 3) := by decide +kernel
theorem dX5_tell_72 : decode cX5_tell 72 = .ok (.iconst (-1), 1) := by decide +kernel
theorem dX5_tell_73 : decode cX5_tell 73 = .ok (.aload_n 0, 1) := by decide +kernel
theorem dX5_tell_74 : decode cX5_tell 74 = .ok (.getfield 12, 3) := by decide +kernel
theorem dX5_tell_77 : decode cX5_tell 77 = .ok (.getfield 50, 3) := by decide +kernel
theorem dX5_tell_80 : decode cX5_tell 80 = .ok (.isub, 1) := by decide +kernel
theorem dX5_tell_81 : decode cX5_tell 81 = .ok (.ireturn, 1) := by decide +kernel
def rmX5_tell : Room := { frames := 7, cells := 0, slots := 0, locals := 152 }
abbrev eX5_tell := Ev cX5_tell 3 (some .int) RX5 rmX5_tell
set_option maxRecDepth 20000 in
theorem ev_X5_tell_l17   (K : St → Prop) (Q : Int32 → St → Prop) (hK : ∀  s, K  s → eX5_tell 72 [.ref (26), un, un] [] s (qI Q)) : ∀ (n : Nat) (l2 : Int32) (σ : St), P_X5_tell_l17  K Q n l2 σ → eX5_tell 17 [.ref (26), un, .int (l2)] [] σ (qI Q) := by
  intro n
  induction n with
  | zero => intro l2 σ hP; exact hP.elim
  | succ n ih =>
    intro l2 σ hP
    rw [P_X5_tell_l17] at hP
    refine E_iload_n dX5_tell_17 rfl ?_
    refine E_bipush (v := 120) dX5_tell_18 (by decide) ?_
    refine E_icmp_gt 72 dX5_tell_20 (by decide) (fun hc => ?_) (fun hc => ?_)
    · replace hP := hP.1 hc
      refine E_mask [true, false, false] rfl ?_
      exact hK  _ hP
    · replace hP := hP.2 hc
      refine E_aload_n dX5_tell_23 rfl ?_
      refine E_callV (As := []) (rest := []) dX5_tell_24 cl_RX5_39 tw_263 (show kd 26 = 5 by decide) (by decide) rfl tw_264 ⟨rfl, rfl, Nat.le_of_ble_eq_true rfl, Nat.le_of_ble_eq_true rfl⟩ rfl rfl (Nat.le_of_ble_eq_true rfl) (mt_X5_tellItem  _ _  hP) ?_
      rintro _ t24 ⟨r24, rfl, hP⟩
      show eX5_tell 27 [.ref (26), un, .int (l2)] [.int (bI r24)] t24 _
      refine E_ifz_ne 33 dX5_tell_27 (by decide) (fun hc => ?_) (fun hc => ?_)
      · replace hP := hP.1 hc
        refine E_aload_n dX5_tell_33 rfl ?_
        refine E_getR (j := 0) dX5_tell_34 (show kd 26 = 5 by decide) (by decide) rfl fd_RX5_12 (by decide) ?_
        refine E_getI (j := 2) dX5_tell_37 (ar_5_1 (show kd 26 = 5 by decide)).1 (by decide) rfl fd_RX5_43 ?_
        refine E_if_ne 45 dX5_tell_40 (by decide) (fun hc => ?_) (fun hc => ?_)
        · replace hP := hP.1 hc
          refine E_aload_n dX5_tell_45 rfl ?_
          refine E_getR (j := 0) dX5_tell_46 (show kd 26 = 5 by decide) (by decide) rfl fd_RX5_12 (by decide) ?_
          refine E_getI (j := 2) dX5_tell_49 (ar_5_1 (show kd 26 = 5 by decide)).1 (by decide) rfl fd_RX5_43 ?_
          refine E_iconst (v := 3) dX5_tell_52 (by decide) ?_
          refine E_icmp_eq 59 dX5_tell_53 (by decide) (fun hc => ?_) (fun hc => ?_)
          · replace hP := hP.1 hc
            refine E_aload_n dX5_tell_59 rfl ?_
            refine E_getR (j := 0) dX5_tell_60 (show kd 26 = 5 by decide) (by decide) rfl fd_RX5_12 (by decide) ?_
            refine E_callV (As := []) (rest := []) dX5_tell_63 cl_RX5_47 tw_168 (ar_5_1 (show kd 26 = 5 by decide)).1 (by decide) rfl tw_169 ⟨rfl, rfl, Nat.le_of_ble_eq_true rfl, Nat.le_of_ble_eq_true rfl⟩ rfl rfl (Nat.le_of_ble_eq_true rfl) (mt_X4_step  _ _  hP) ?_
            rintro _ t63 ⟨rfl, hP⟩
            show eX5_tell 66 [.ref (26), un, .int (l2)] [] t63 _
            refine E_iinc (ls' := [.ref (26), un, .int (l2 + 1)]) dX5_tell_66 rfl rfl (by decide) rfl ?_
            refine E_goto 17 dX5_tell_69 (by decide) ?_
            exact ih (l2 + 1) _ hP
          · replace hP := hP.2 hc
            refine E_goto 72 dX5_tell_56 (by decide) ?_
            refine E_mask [true, false, false] rfl ?_
            exact hK  _ hP
        · replace hP := hP.2 hc
          refine E_iload_n dX5_tell_43 rfl ?_
          exact E_iret dX5_tell_44 rfl ⟨_, rfl, hP⟩
      · replace hP := hP.2 hc
        refine E_goto 72 dX5_tell_30 (by decide) ?_
        refine E_mask [true, false, false] rfl ?_
        exact hK  _ hP
set_option maxRecDepth 20000 in
theorem mt_X5_tell (p0 : Nat) (σ : St) (Q : Int32 → St → Prop) (o_p0 : kd p0 = 0) (hP : P_X5_tell p0 σ Q) : Mt yX5_tell cX5_tell 3 (some .int) rmX5_tell [.ref (26), .ref (p0)] σ (qI Q) := by
  refine Mt.of (k := 1) (ls := [.ref (26), .ref (p0), un]) (by decide +kernel) rfl (Nat.le_of_ble_eq_true rfl) ?_
  show eX5_tell 0 [.ref (26), .ref (p0), un] [] σ _
  unfold P_X5_tell at hP
  refine E_aload_n dX5_tell_0 rfl ?_
  refine E_getR (j := 1) dX5_tell_1 (show kd 26 = 5 by decide) (by decide) rfl fd_RX5_21 (by decide) ?_
  refine E_aload_n dX5_tell_4 rfl ?_
  refine E_callV (As := [.ref (p0)]) (rest := []) dX5_tell_5 cl_RX5_32 tw_272 (ar_5_3 (show kd 26 = 5 by decide)).1 (by decide) rfl tw_273 ⟨rfl, rfl, Nat.le_of_ble_eq_true rfl, Nat.le_of_ble_eq_true rfl⟩ rfl rfl (Nat.le_of_ble_eq_true rfl) (mt_X0_becomeLike _ _ _ _ (ar_5_3 (show kd 26 = 5 by decide)).1 o_p0 hP) ?_
  rintro _ t5 ⟨rfl, hP⟩
  show eX5_tell 8 [.ref (26), .ref (p0), un] [] t5 _
  refine E_aload_n dX5_tell_8 rfl ?_
  refine E_getR (j := 0) dX5_tell_9 (show kd 26 = 5 by decide) (by decide) rfl fd_RX5_12 (by decide) ?_
  refine E_callV (As := []) (rest := []) dX5_tell_12 cl_RX5_36 tw_268 (ar_5_1 (show kd 26 = 5 by decide)).1 (by decide) rfl tw_269 ⟨rfl, rfl, Nat.le_of_ble_eq_true rfl, Nat.le_of_ble_eq_true rfl⟩ rfl rfl (Nat.le_of_ble_eq_true rfl) (mt_X4_rewind  _ _  hP) ?_
  rintro _ t12 ⟨rfl, hP⟩
  show eX5_tell 15 [.ref (26), .ref (p0), un] [] t12 _
  refine E_iconst (v := 1) dX5_tell_15 (by decide) ?_
  refine E_istore_n (ls' := [.ref (26), .ref (p0), .int (1)]) dX5_tell_16 (by decide) rfl ?_
  refine E_mask [true, false, true] rfl ?_
  obtain ⟨m17, hP⟩ := hP
  refine ev_X5_tell_l17   _ Q ?_ m17 _ _ hP
  intro  t72 hP
  refine E_iconst (v := (-1)) dX5_tell_72 (by decide) ?_
  refine E_aload_n dX5_tell_73 rfl ?_
  refine E_getR (j := 0) dX5_tell_74 (show kd 26 = 5 by decide) (by decide) rfl fd_RX5_12 (by decide) ?_
  refine E_getI (j := 3) dX5_tell_77 (ar_5_1 (show kd 26 = 5 by decide)).1 (by decide) rfl fd_RX5_50 ?_
  refine E_isub dX5_tell_80 ?_
  exact E_iret dX5_tell_81 rfl ⟨_, rfl, hP⟩
theorem dX6_finding_0 : decode cX6_finding 0 = .ok (.ldc 64, 2) := by decide +kernel
theorem dX6_finding_2 : decode cX6_finding 2 = .ok (.iload_n 1, 1) := by decide +kernel
theorem dX6_finding_3 : decode cX6_finding 3 = .ok (.isub, 1) := by decide +kernel
theorem dX6_finding_4 : decode cX6_finding 4 = .ok (.istore_n 2, 1) := by decide +kernel
theorem dX6_finding_5 : decode cX6_finding 5 = .ok (.iload_n 2, 1) := by decide +kernel
theorem dX6_finding_6 : decode cX6_finding 6 = .ok (.iconst 0, 1) := by decide +kernel
theorem dX6_finding_7 : decode cX6_finding 7 = .ok (.bipush 6, 2) := by decide +kernel
theorem dX6_finding_9 : decode cX6_finding 9 = .ok (.invokestatic 116, 3) := by decide +kernel
theorem dX6_finding_12 : decode cX6_finding 12 = .ok (.ifCond .eq 13, 3) := by decide +kernel
theorem dX6_finding_15 : decode cX6_finding 15 = .ok (.aload_n 0, 1) := by decide +kernel
theorem dX6_finding_16 : decode cX6_finding 16 = .ok (.getfield 49, 3) := by decide +kernel
theorem dX6_finding_19 : decode cX6_finding 19 = .ok (.iload_n 2, 1) := by decide +kernel
theorem dX6_finding_20 : decode cX6_finding 20 = .ok (.dup2, 1) := by decide +kernel
theorem dX6_finding_21 : decode cX6_finding 21 = .ok (.iaload, 1) := by decide +kernel
theorem dX6_finding_22 : decode cX6_finding 22 = .ok (.iconst 1, 1) := by decide +kernel
theorem dX6_finding_23 : decode cX6_finding 23 = .ok (.iadd, 1) := by decide +kernel
theorem dX6_finding_24 : decode cX6_finding 24 = .ok (.iastore, 1) := by decide +kernel
theorem dX6_finding_25 : decode cX6_finding 25 = .ok (.iload_n 1, 1) := by decide +kernel
theorem dX6_finding_26 : decode cX6_finding 26 = .ok (.ireturn, 1) := by decide +kernel
def rmX6_finding : Room := { frames := 1, cells := 0, slots := 0, locals := 22 }
abbrev eX6_finding := Ev cX6_finding 3 (some .int) RX6 rmX6_finding
set_option maxRecDepth 20000 in
theorem mt_X6_finding (p0 : Int32) (σ : St) (Q : Int32 → St → Prop)  (hP : P_X6_finding p0 σ Q) : Mt yX6_finding cX6_finding 3 (some .int) rmX6_finding [.ref (0), .int (p0)] σ (qI Q) := by
  refine Mt.of (k := 1) (ls := [.ref (0), .int (p0), un]) (by decide +kernel) rfl (Nat.le_of_ble_eq_true rfl) ?_
  show eX6_finding 0 [.ref (0), .int (p0), un] [] σ _
  unfold P_X6_finding at hP
  refine E_ldc (v := (-1000000001)) dX6_finding_0 tw_274 ?_
  refine E_iload_n dX6_finding_2 rfl ?_
  refine E_isub dX6_finding_3 ?_
  refine E_istore_n (ls' := [.ref (0), .int (p0), .int (((-1000000001)) - p0)]) dX6_finding_4 (by decide) rfl ?_
  refine E_iload_n dX6_finding_5 rfl ?_
  refine E_iconst (v := 0) dX6_finding_6 (by decide) ?_
  refine E_bipush (v := 6) dX6_finding_7 (by decide) ?_
  refine E_callS (As := [.int (((-1000000001)) - p0), .int (0), .int (6)]) (rest := []) dX6_finding_9 cl_RX6_116 tw_143 ⟨rfl, rfl, Nat.le_of_ble_eq_true rfl, Nat.le_of_ble_eq_true rfl⟩ rfl rfl (Nat.le_of_ble_eq_true rfl) (mt_X6_isWithin _ _ _ _ _  hP) ?_
  intro r0 s0 hq0; obtain ⟨r9, h0, hs0, hP⟩ := hq0; subst h0; rw [hs0]
  show eX6_finding 12 [.ref (0), .int (p0), .int (((-1000000001)) - p0)] [.int (bI r9)] σ _
  refine E_ifz_eq 25 dX6_finding_12 (by decide) (fun hc => ?_) (fun hc => ?_)
  · replace hP := hP.1 hc
    refine E_iload_n dX6_finding_25 rfl ?_
    exact E_iret dX6_finding_26 rfl ⟨_, rfl, hP⟩
  · replace hP := hP.2 hc
    refine E_aload_n dX6_finding_15 rfl ?_
    refine E_getR (j := 7) dX6_finding_16 (show kd 0 = 6 by decide) (by decide) rfl fd_RX6_49 (by decide) ?_
    refine E_iload_n dX6_finding_19 rfl ?_
    refine E_dup2 dX6_finding_20 rfl rfl ?_
    obtain ⟨hb, hP⟩ := hP
    refine E_iald dX6_finding_21 (ar_6_40 (show kd 0 = 6 by decide)).1 (ar_6_40 (show kd 0 = 6 by decide)).2 hb ?_
    refine E_iconst (v := 1) dX6_finding_22 (by decide) ?_
    refine E_iadd dX6_finding_23 ?_
    obtain ⟨hb, hP⟩ := hP
    refine E_iast dX6_finding_24 (ar_6_40 (show kd 0 = 6 by decide)).1 (ar_6_40 (show kd 0 = 6 by decide)).2 hb ?_
    refine E_iload_n dX6_finding_25 rfl ?_
    exact E_iret dX6_finding_26 rfl ⟨_, rfl, hP⟩
theorem dX6_isHigh_0 : decode cX6_isHigh 0 = .ok (.iload_n 0, 1) := by decide +kernel
theorem dX6_isHigh_1 : decode cX6_isHigh 1 = .ok (.iconst 1, 1) := by decide +kernel
theorem dX6_isHigh_2 : decode cX6_isHigh 2 = .ok (.bipush 30, 2) := by decide +kernel
theorem dX6_isHigh_4 : decode cX6_isHigh 4 = .ok (.invokestatic 116, 3) := by decide +kernel
theorem dX6_isHigh_7 : decode cX6_isHigh 7 = .ok (.ireturn, 1) := by decide +kernel
def rmX6_isHigh : Room := { frames := 1, cells := 0, slots := 0, locals := 22 }
abbrev eX6_isHigh := Ev cX6_isHigh 1 (some .boolean) RX6 rmX6_isHigh
set_option maxRecDepth 20000 in
theorem mt_X6_isHigh (p0 : Int32) (σ : St) (Q : Bool → Prop)  (hP : P_X6_isHigh p0 σ Q) : Mt yX6_isHigh cX6_isHigh 1 (some .boolean) rmX6_isHigh [.int (p0)] σ (qB fun x s => s = σ ∧ Q x) := by
  refine Mt.of (k := 0) (ls := [.int (p0)]) (by decide +kernel) rfl (Nat.le_of_ble_eq_true rfl) ?_
  show eX6_isHigh 0 [.int (p0)] [] σ _
  unfold P_X6_isHigh at hP
  refine E_iload_n dX6_isHigh_0 rfl ?_
  refine E_iconst (v := 1) dX6_isHigh_1 (by decide) ?_
  refine E_bipush (v := 30) dX6_isHigh_2 (by decide) ?_
  refine E_callS (As := [.int (p0), .int (1), .int (30)]) (rest := []) dX6_isHigh_4 cl_RX6_116 tw_143 ⟨rfl, rfl, Nat.le_of_ble_eq_true rfl, Nat.le_of_ble_eq_true rfl⟩ rfl rfl (Nat.le_of_ble_eq_true rfl) (mt_X6_isWithin _ _ _ _ _  hP) ?_
  intro r0 s0 hq0; obtain ⟨r4, h0, hs0, hP⟩ := hq0; subst h0; rw [hs0]
  show eX6_isHigh 7 [.int (p0)] [.int (bI r4)] σ _
  exact E_nret dX6_isHigh_7 rfl (nar_b r4) ⟨r4, rfl, rfl, hP⟩
theorem dX6_isKind_0 : decode cX6_isKind 0 = .ok (.iload_n 0, 1) := by decide +kernel
theorem dX6_isKind_1 : decode cX6_isKind 1 = .ok (.iconst 0, 1) := by decide +kernel
theorem dX6_isKind_2 : decode cX6_isKind 2 = .ok (.iconst 5, 1) := by decide +kernel
theorem dX6_isKind_3 : decode cX6_isKind 3 = .ok (.invokestatic 116, 3) := by decide +kernel
theorem dX6_isKind_6 : decode cX6_isKind 6 = .ok (.ireturn, 1) := by decide +kernel
def rmX6_isKind : Room := { frames := 1, cells := 0, slots := 0, locals := 22 }
abbrev eX6_isKind := Ev cX6_isKind 1 (some .boolean) RX6 rmX6_isKind
set_option maxRecDepth 20000 in
theorem mt_X6_isKind (p0 : Int32) (σ : St) (Q : Bool → Prop)  (hP : P_X6_isKind p0 σ Q) : Mt yX6_isKind cX6_isKind 1 (some .boolean) rmX6_isKind [.int (p0)] σ (qB fun x s => s = σ ∧ Q x) := by
  refine Mt.of (k := 0) (ls := [.int (p0)]) (by decide +kernel) rfl (Nat.le_of_ble_eq_true rfl) ?_
  show eX6_isKind 0 [.int (p0)] [] σ _
  unfold P_X6_isKind at hP
  refine E_iload_n dX6_isKind_0 rfl ?_
  refine E_iconst (v := 0) dX6_isKind_1 (by decide) ?_
  refine E_iconst (v := 5) dX6_isKind_2 (by decide) ?_
  refine E_callS (As := [.int (p0), .int (0), .int (5)]) (rest := []) dX6_isKind_3 cl_RX6_116 tw_143 ⟨rfl, rfl, Nat.le_of_ble_eq_true rfl, Nat.le_of_ble_eq_true rfl⟩ rfl rfl (Nat.le_of_ble_eq_true rfl) (mt_X6_isWithin _ _ _ _ _  hP) ?_
  intro r0 s0 hq0; obtain ⟨r3, h0, hs0, hP⟩ := hq0; subst h0; rw [hs0]
  show eX6_isKind 6 [.int (p0)] [.int (bI r3)] σ _
  exact E_nret dX6_isKind_6 rfl (nar_b r3) ⟨r3, rfl, rfl, hP⟩
theorem dX6_isWall_0 : decode cX6_isWall 0 = .ok (.iload_n 0, 1) := by decide +kernel
theorem dX6_isWall_1 : decode cX6_isWall 1 = .ok (.iconst 0, 1) := by decide +kernel
theorem dX6_isWall_2 : decode cX6_isWall 2 = .ok (.iconst 3, 1) := by decide +kernel
theorem dX6_isWall_3 : decode cX6_isWall 3 = .ok (.invokestatic 116, 3) := by decide +kernel
theorem dX6_isWall_6 : decode cX6_isWall 6 = .ok (.ireturn, 1) := by decide +kernel
def rmX6_isWall : Room := { frames := 1, cells := 0, slots := 0, locals := 22 }
abbrev eX6_isWall := Ev cX6_isWall 1 (some .boolean) RX6 rmX6_isWall
set_option maxRecDepth 20000 in
theorem mt_X6_isWall (p0 : Int32) (σ : St) (Q : Bool → Prop)  (hP : P_X6_isWall p0 σ Q) : Mt yX6_isWall cX6_isWall 1 (some .boolean) rmX6_isWall [.int (p0)] σ (qB fun x s => s = σ ∧ Q x) := by
  refine Mt.of (k := 0) (ls := [.int (p0)]) (by decide +kernel) rfl (Nat.le_of_ble_eq_true rfl) ?_
  show eX6_isWall 0 [.int (p0)] [] σ _
  unfold P_X6_isWall at hP
  refine E_iload_n dX6_isWall_0 rfl ?_
  refine E_iconst (v := 0) dX6_isWall_1 (by decide) ?_
  refine E_iconst (v := 3) dX6_isWall_2 (by decide) ?_
  refine E_callS (As := [.int (p0), .int (0), .int (3)]) (rest := []) dX6_isWall_3 cl_RX6_116 tw_143 ⟨rfl, rfl, Nat.le_of_ble_eq_true rfl, Nat.le_of_ble_eq_true rfl⟩ rfl rfl (Nat.le_of_ble_eq_true rfl) (mt_X6_isWithin _ _ _ _ _  hP) ?_
  intro r0 s0 hq0; obtain ⟨r3, h0, hs0, hP⟩ := hq0; subst h0; rw [hs0]
  show eX6_isWall 6 [.int (p0)] [.int (bI r3)] σ _
  exact E_nret dX6_isWall_6 rfl (nar_b r3) ⟨r3, rfl, rfl, hP⟩
theorem dX6_stone_0 : decode cX6_stone 0 = .ok (.iload_n 1, 1) := by decide +kernel
theorem dX6_stone_1 : decode cX6_stone 1 = .ok (.invokestatic 54, 3) := by decide +kernel
theorem dX6_stone_4 : decode cX6_stone 4 = .ok (.ifCond .eq 17, 3) := by decide +kernel
theorem dX6_stone_7 : decode cX6_stone 7 = .ok (.iload_n 2, 1) := by decide +kernel
theorem dX6_stone_8 : decode cX6_stone 8 = .ok (.invokestatic 58, 3) := by decide +kernel
theorem dX6_stone_11 : decode cX6_stone 11 = .ok (.ifCond .eq 10, 3) := by decide +kernel
theorem dX6_stone_14 : decode cX6_stone 14 = .ok (.iload_n 3, 1) := by decide +kernel
theorem dX6_stone_15 : decode cX6_stone 15 = .ok (.invokestatic 61, 3) := by decide +kernel
theorem dX6_stone_18 : decode cX6_stone 18 = .ok (.ifCond .ne 10, 3) := by decide +kernel
theorem dX6_stone_21 : decode cX6_stone 21 = .ok (.aload_n 0, 1) := by decide +kernel
theorem dX6_stone_22 : decode cX6_stone 22 = .ok (.ldc 64, 2) := by decide +kernel
theorem dX6_stone_24 : decode cX6_stone 24 = .ok (.invokevirtual 65, 3) := by decide +kernel
theorem dX6_stone_27 : decode cX6_stone 27 = .ok (.ireturn, 1) := by decide +kernel
theorem dX6_stone_28 : decode cX6_stone 28 = .ok (.aload_n 0, 1) := by decide +kernel
theorem dX6_stone_29 : decode cX6_stone 29 = .ok (.getfield 12, 3) := by decide +kernel
theorem dX6_stone_32 : decode cX6_stone 32 = .ok (.getfield 69, 3) := by decide +kernel
theorem dX6_stone_35 : decode cX6_stone 35 = .ok (.iload_n 2, 1) := by decide +kernel
theorem dX6_stone_36 : decode cX6_stone 36 = .ok (.iaload, 1) := by decide +kernel
theorem dX6_stone_37 : decode cX6_stone 37 = .ok (.bipush 7, 2) := by decide +kernel
theorem dX6_stone_39 : decode cX6_stone 39 = .ok (.if_icmp .lt 10, 3) := by decide +kernel
theorem dX6_stone_42 : decode cX6_stone 42 = .ok (.aload_n 0, 1) := by decide +kernel
theorem dX6_stone_43 : decode cX6_stone 43 = .ok (.ldc 72, 2) := by decide +kernel
theorem dX6_stone_45 : decode cX6_stone 45 = .ok (.invokevirtual 65, 3) := by decide +kernel
theorem dX6_stone_48 : decode cX6_stone 48 = .ok (.ireturn, 1) := by decide +kernel
theorem dX6_stone_49 : decode cX6_stone 49 = .ok (.aload_n 0, 1) := by decide +kernel
theorem dX6_stone_50 : decode cX6_stone 50 = .ok (.getfield 12, 3) := by decide +kernel
theorem dX6_stone_53 : decode cX6_stone 53 = .ok (.iload_n 1, 1) := by decide +kernel
theorem dX6_stone_54 : decode cX6_stone 54 = .ok (.iload_n 2, 1) := by decide +kernel
theorem dX6_stone_55 : decode cX6_stone 55 = .ok (.iload_n 3, 1) := by decide +kernel
theorem dX6_stone_56 : decode cX6_stone 56 = .ok (.bipush 10, 2) := by decide +kernel
theorem dX6_stone_58 : decode cX6_stone 58 = .ok (.invokevirtual 73, 3) := by decide +kernel
theorem dX6_stone_61 : decode cX6_stone 61 = .ok (.aload_n 0, 1) := by decide +kernel
theorem dX6_stone_62 : decode cX6_stone 62 = .ok (.getfield 12, 3) := by decide +kernel
theorem dX6_stone_65 : decode cX6_stone 65 = .ok (.getfield 69, 3) := by decide +kernel
theorem dX6_stone_68 : decode cX6_stone 68 = .ok (.iload_n 2, 1) := by decide +kernel
theorem dX6_stone_69 : decode cX6_stone 69 = .ok (.iaload, 1) := by decide +kernel
theorem dX6_stone_70 : decode cX6_stone 70 = .ok (.iconst 1, 1) := by decide +kernel
theorem dX6_stone_71 : decode cX6_stone 71 = .ok (.isub, 1) := by decide +kernel
theorem dX6_stone_72 : decode cX6_stone 72 = .ok (.ireturn, 1) := by decide +kernel
def rmX6_stone : Room := { frames := 2, cells := 0, slots := 0, locals := 46 }
abbrev eX6_stone := Ev cX6_stone 4 (some .int) RX6 rmX6_stone
set_option maxRecDepth 20000 in
theorem mt_X6_stone (p0 : Int32) (p1 : Int32) (p2 : Int32) (σ : St) (Q : Int32 → St → Prop)  (hP : P_X6_stone p0 p1 p2 σ Q) : Mt yX6_stone cX6_stone 4 (some .int) rmX6_stone [.ref (0), .int (p0), .int (p1), .int (p2)] σ (qI Q) := by
  refine Mt.of (k := 0) (ls := [.ref (0), .int (p0), .int (p1), .int (p2)]) (by decide +kernel) rfl (Nat.le_of_ble_eq_true rfl) ?_
  show eX6_stone 0 [.ref (0), .int (p0), .int (p1), .int (p2)] [] σ _
  unfold P_X6_stone at hP
  refine E_iload_n dX6_stone_0 rfl ?_
  refine E_callS (As := [.int (p0)]) (rest := []) dX6_stone_1 cl_RX6_54 tw_293 ⟨rfl, rfl, Nat.le_of_ble_eq_true rfl, Nat.le_of_ble_eq_true rfl⟩ rfl rfl (Nat.le_of_ble_eq_true rfl) (mt_X6_isKind _ _ _  hP) ?_
  intro r0 s0 hq0; obtain ⟨r1, h0, hs0, hP⟩ := hq0; subst h0; rw [hs0]
  show eX6_stone 4 [.ref (0), .int (p0), .int (p1), .int (p2)] [.int (bI r1)] σ _
  refine E_ifz_eq 21 dX6_stone_4 (by decide) (fun hc => ?_) (fun hc => ?_)
  · replace hP := hP.1 hc
    refine E_aload_n dX6_stone_21 rfl ?_
    refine E_ldc (v := (-1000000001)) dX6_stone_22 tw_274 ?_
    refine E_callV (As := [.int ((-1000000001))]) (rest := []) dX6_stone_24 cl_RX6_65 tw_279 (show kd 0 = 6 by decide) (by decide) rfl tw_280 ⟨rfl, rfl, Nat.le_of_ble_eq_true rfl, Nat.le_of_ble_eq_true rfl⟩ rfl rfl (Nat.le_of_ble_eq_true rfl) (mt_X6_finding _ _ _  hP) ?_
    rintro _ t24 ⟨r24, rfl, hP⟩
    show eX6_stone 27 [.ref (0), .int (p0), .int (p1), .int (p2)] [.int (r24)] t24 _
    exact E_iret dX6_stone_27 rfl ⟨_, rfl, hP⟩
  · replace hP := hP.2 hc
    refine E_iload_n dX6_stone_7 rfl ?_
    refine E_callS (As := [.int (p1)]) (rest := []) dX6_stone_8 cl_RX6_58 tw_290 ⟨rfl, rfl, Nat.le_of_ble_eq_true rfl, Nat.le_of_ble_eq_true rfl⟩ rfl rfl (Nat.le_of_ble_eq_true rfl) (mt_X6_isWall _ _ _  hP) ?_
    intro r0 s0 hq0; obtain ⟨r8, h0, hs0, hP⟩ := hq0; subst h0; rw [hs0]
    show eX6_stone 11 [.ref (0), .int (p0), .int (p1), .int (p2)] [.int (bI r8)] σ _
    refine E_ifz_eq 21 dX6_stone_11 (by decide) (fun hc => ?_) (fun hc => ?_)
    · replace hP := hP.1 hc
      refine E_aload_n dX6_stone_21 rfl ?_
      refine E_ldc (v := (-1000000001)) dX6_stone_22 tw_274 ?_
      refine E_callV (As := [.int ((-1000000001))]) (rest := []) dX6_stone_24 cl_RX6_65 tw_279 (show kd 0 = 6 by decide) (by decide) rfl tw_280 ⟨rfl, rfl, Nat.le_of_ble_eq_true rfl, Nat.le_of_ble_eq_true rfl⟩ rfl rfl (Nat.le_of_ble_eq_true rfl) (mt_X6_finding _ _ _  hP) ?_
      rintro _ t24 ⟨r24, rfl, hP⟩
      show eX6_stone 27 [.ref (0), .int (p0), .int (p1), .int (p2)] [.int (r24)] t24 _
      exact E_iret dX6_stone_27 rfl ⟨_, rfl, hP⟩
    · replace hP := hP.2 hc
      refine E_iload_n dX6_stone_14 rfl ?_
      refine E_callS (As := [.int (p2)]) (rest := []) dX6_stone_15 cl_RX6_61 tw_287 ⟨rfl, rfl, Nat.le_of_ble_eq_true rfl, Nat.le_of_ble_eq_true rfl⟩ rfl rfl (Nat.le_of_ble_eq_true rfl) (mt_X6_isHigh _ _ _  hP) ?_
      intro r0 s0 hq0; obtain ⟨r15, h0, hs0, hP⟩ := hq0; subst h0; rw [hs0]
      show eX6_stone 18 [.ref (0), .int (p0), .int (p1), .int (p2)] [.int (bI r15)] σ _
      refine E_ifz_ne 28 dX6_stone_18 (by decide) (fun hc => ?_) (fun hc => ?_)
      · replace hP := hP.1 hc
        refine E_aload_n dX6_stone_28 rfl ?_
        refine E_getR (j := 0) dX6_stone_29 (show kd 0 = 6 by decide) (by decide) rfl fd_RX6_12 (by decide) ?_
        refine E_getR (j := 3) dX6_stone_32 (ar_6_1 (show kd 0 = 6 by decide)).1 (by decide) rfl fd_RX6_69 (by decide) ?_
        refine E_iload_n dX6_stone_35 rfl ?_
        obtain ⟨hb, hP⟩ := hP
        refine E_iald dX6_stone_36 (ar_0_4 (ar_6_1 (show kd 0 = 6 by decide)).1).1 (ar_0_4 (ar_6_1 (show kd 0 = 6 by decide)).1).2 hb ?_
        refine E_bipush (v := 7) dX6_stone_37 (by decide) ?_
        refine E_icmp_lt 49 dX6_stone_39 (by decide) (fun hc => ?_) (fun hc => ?_)
        · replace hP := hP.1 hc
          refine E_aload_n dX6_stone_49 rfl ?_
          refine E_getR (j := 0) dX6_stone_50 (show kd 0 = 6 by decide) (by decide) rfl fd_RX6_12 (by decide) ?_
          refine E_iload_n dX6_stone_53 rfl ?_
          refine E_iload_n dX6_stone_54 rfl ?_
          refine E_iload_n dX6_stone_55 rfl ?_
          refine E_bipush (v := 10) dX6_stone_56 (by decide) ?_
          refine E_callV (As := [.int (p0), .int (p1), .int (p2), .int (10)]) (rest := []) dX6_stone_58 cl_RX6_73 tw_234 (ar_6_1 (show kd 0 = 6 by decide)).1 (by decide) rfl tw_235 ⟨rfl, rfl, Nat.le_of_ble_eq_true rfl, Nat.le_of_ble_eq_true rfl⟩ rfl rfl (Nat.le_of_ble_eq_true rfl) (mt_X0_put _ _ _ _ _ _ _ (ar_6_1 (show kd 0 = 6 by decide)).1 hP) ?_
          rintro _ t58 ⟨rfl, hP⟩
          show eX6_stone 61 [.ref (0), .int (p0), .int (p1), .int (p2)] [] t58 _
          refine E_aload_n dX6_stone_61 rfl ?_
          refine E_getR (j := 0) dX6_stone_62 (show kd 0 = 6 by decide) (by decide) rfl fd_RX6_12 (by decide) ?_
          refine E_getR (j := 3) dX6_stone_65 (ar_6_1 (show kd 0 = 6 by decide)).1 (by decide) rfl fd_RX6_69 (by decide) ?_
          refine E_iload_n dX6_stone_68 rfl ?_
          obtain ⟨hb, hP⟩ := hP
          refine E_iald dX6_stone_69 (ar_0_4 (ar_6_1 (show kd 0 = 6 by decide)).1).1 (ar_0_4 (ar_6_1 (show kd 0 = 6 by decide)).1).2 hb ?_
          refine E_iconst (v := 1) dX6_stone_70 (by decide) ?_
          refine E_isub dX6_stone_71 ?_
          exact E_iret dX6_stone_72 rfl ⟨_, rfl, hP⟩
        · replace hP := hP.2 hc
          refine E_aload_n dX6_stone_42 rfl ?_
          refine E_ldc (v := (-1000000002)) dX6_stone_43 tw_284 ?_
          refine E_callV (As := [.int ((-1000000002))]) (rest := []) dX6_stone_45 cl_RX6_65 tw_279 (show kd 0 = 6 by decide) (by decide) rfl tw_280 ⟨rfl, rfl, Nat.le_of_ble_eq_true rfl, Nat.le_of_ble_eq_true rfl⟩ rfl rfl (Nat.le_of_ble_eq_true rfl) (mt_X6_finding _ _ _  hP) ?_
          rintro _ t45 ⟨r45, rfl, hP⟩
          show eX6_stone 48 [.ref (0), .int (p0), .int (p1), .int (p2)] [.int (r45)] t45 _
          exact E_iret dX6_stone_48 rfl ⟨_, rfl, hP⟩
      · replace hP := hP.2 hc
        refine E_aload_n dX6_stone_21 rfl ?_
        refine E_ldc (v := (-1000000001)) dX6_stone_22 tw_274 ?_
        refine E_callV (As := [.int ((-1000000001))]) (rest := []) dX6_stone_24 cl_RX6_65 tw_279 (show kd 0 = 6 by decide) (by decide) rfl tw_280 ⟨rfl, rfl, Nat.le_of_ble_eq_true rfl, Nat.le_of_ble_eq_true rfl⟩ rfl rfl (Nat.le_of_ble_eq_true rfl) (mt_X6_finding _ _ _  hP) ?_
        rintro _ t24 ⟨r24, rfl, hP⟩
        show eX6_stone 27 [.ref (0), .int (p0), .int (p1), .int (p2)] [.int (r24)] t24 _
        exact E_iret dX6_stone_27 rfl ⟨_, rfl, hP⟩
theorem dX6_wallOf_0 : decode cX6_wallOf 0 = .ok (.iload_n 1, 1) := by decide +kernel
theorem dX6_wallOf_1 : decode cX6_wallOf 1 = .ok (.invokestatic 58, 3) := by decide +kernel
theorem dX6_wallOf_4 : decode cX6_wallOf 4 = .ok (.ifCond .ne 10, 3) := by decide +kernel
theorem dX6_wallOf_7 : decode cX6_wallOf 7 = .ok (.aload_n 0, 1) := by decide +kernel
theorem dX6_wallOf_8 : decode cX6_wallOf 8 = .ok (.ldc 64, 2) := by decide +kernel
theorem dX6_wallOf_10 : decode cX6_wallOf 10 = .ok (.invokevirtual 65, 3) := by decide +kernel
theorem dX6_wallOf_13 : decode cX6_wallOf 13 = .ok (.ireturn, 1) := by decide +kernel
theorem dX6_wallOf_14 : decode cX6_wallOf 14 = .ok (.iload_n 2, 1) := by decide +kernel
theorem dX6_wallOf_15 : decode cX6_wallOf 15 = .ok (.tableswitch 67 0 3 #[29, 39, 49, 58], 29) := by decide +kernel
theorem dX6_wallOf_44 : decode cX6_wallOf 44 = .ok (.aload_n 0, 1) := by decide +kernel
theorem dX6_wallOf_45 : decode cX6_wallOf 45 = .ok (.getfield 12, 3) := by decide +kernel
theorem dX6_wallOf_48 : decode cX6_wallOf 48 = .ok (.getfield 69, 3) := by decide +kernel
theorem dX6_wallOf_51 : decode cX6_wallOf 51 = .ok (.iload_n 1, 1) := by decide +kernel
theorem dX6_wallOf_52 : decode cX6_wallOf 52 = .ok (.iaload, 1) := by decide +kernel
theorem dX6_wallOf_53 : decode cX6_wallOf 53 = .ok (.ireturn, 1) := by decide +kernel
theorem dX6_wallOf_54 : decode cX6_wallOf 54 = .ok (.aload_n 0, 1) := by decide +kernel
theorem dX6_wallOf_55 : decode cX6_wallOf 55 = .ok (.getfield 12, 3) := by decide +kernel
theorem dX6_wallOf_58 : decode cX6_wallOf 58 = .ok (.getfield 77, 3) := by decide +kernel
theorem dX6_wallOf_61 : decode cX6_wallOf 61 = .ok (.iload_n 1, 1) := by decide +kernel
theorem dX6_wallOf_62 : decode cX6_wallOf 62 = .ok (.iaload, 1) := by decide +kernel
theorem dX6_wallOf_63 : decode cX6_wallOf 63 = .ok (.ireturn, 1) := by decide +kernel
theorem dX6_wallOf_64 : decode cX6_wallOf 64 = .ok (.aload_n 0, 1) := by decide +kernel
theorem dX6_wallOf_65 : decode cX6_wallOf 65 = .ok (.getfield 12, 3) := by decide +kernel
theorem dX6_wallOf_68 : decode cX6_wallOf 68 = .ok (.iload_n 1, 1) := by decide +kernel
theorem dX6_wallOf_69 : decode cX6_wallOf 69 = .ok (.invokevirtual 80, 3) := by decide +kernel
theorem dX6_wallOf_72 : decode cX6_wallOf 72 = .ok (.ireturn, 1) := by decide +kernel
theorem dX6_wallOf_73 : decode cX6_wallOf 73 = .ok (.aload_n 0, 1) := by decide +kernel
theorem dX6_wallOf_74 : decode cX6_wallOf 74 = .ok (.getfield 12, 3) := by decide +kernel
theorem dX6_wallOf_77 : decode cX6_wallOf 77 = .ok (.iload_n 1, 1) := by decide +kernel
theorem dX6_wallOf_78 : decode cX6_wallOf 78 = .ok (.invokevirtual 83, 3) := by decide +kernel
theorem dX6_wallOf_81 : decode cX6_wallOf 81 = .ok (.ireturn, 1) := by decide +kernel
theorem dX6_wallOf_82 : decode cX6_wallOf 82 = .ok (.aload_n 0, 1) := by decide +kernel
theorem dX6_wallOf_83 : decode cX6_wallOf 83 = .ok (.ldc 64, 2) := by decide +kernel
theorem dX6_wallOf_85 : decode cX6_wallOf 85 = .ok (.invokevirtual 65, 3) := by decide +kernel
theorem dX6_wallOf_88 : decode cX6_wallOf 88 = .ok (.ireturn, 1) := by decide +kernel
def rmX6_wallOf : Room := { frames := 3, cells := 0, slots := 0, locals := 73 }
abbrev eX6_wallOf := Ev cX6_wallOf 3 (some .int) RX6 rmX6_wallOf
set_option maxRecDepth 20000 in
theorem mt_X6_wallOf (p0 : Int32) (p1 : Int32) (σ : St) (Q : Int32 → St → Prop)  (hP : P_X6_wallOf p0 p1 σ Q) : Mt yX6_wallOf cX6_wallOf 3 (some .int) rmX6_wallOf [.ref (0), .int (p0), .int (p1)] σ (qI Q) := by
  refine Mt.of (k := 0) (ls := [.ref (0), .int (p0), .int (p1)]) (by decide +kernel) rfl (Nat.le_of_ble_eq_true rfl) ?_
  show eX6_wallOf 0 [.ref (0), .int (p0), .int (p1)] [] σ _
  unfold P_X6_wallOf at hP
  refine E_iload_n dX6_wallOf_0 rfl ?_
  refine E_callS (As := [.int (p0)]) (rest := []) dX6_wallOf_1 cl_RX6_58 tw_290 ⟨rfl, rfl, Nat.le_of_ble_eq_true rfl, Nat.le_of_ble_eq_true rfl⟩ rfl rfl (Nat.le_of_ble_eq_true rfl) (mt_X6_isWall _ _ _  hP) ?_
  intro r0 s0 hq0; obtain ⟨r1, h0, hs0, hP⟩ := hq0; subst h0; rw [hs0]
  show eX6_wallOf 4 [.ref (0), .int (p0), .int (p1)] [.int (bI r1)] σ _
  refine E_ifz_ne 14 dX6_wallOf_4 (by decide) (fun hc => ?_) (fun hc => ?_)
  · replace hP := hP.1 hc
    refine E_iload_n dX6_wallOf_14 rfl ?_
    refine E_tsw [(0, 44), (1, 54), (2, 64), (3, 73)] 82 dX6_wallOf_15 (by decide) (by decide) (by decide +kernel) (by decide +kernel) (List.forall_mem_cons.mpr ⟨fun hc => ?_, (List.forall_mem_cons.mpr ⟨fun hc => ?_, (List.forall_mem_cons.mpr ⟨fun hc => ?_, (List.forall_mem_cons.mpr ⟨fun hc => ?_, (fun q hq => absurd hq List.not_mem_nil)⟩)⟩)⟩)⟩) (fun hc => ?_)
    · replace hP := hP.1 hc
      refine E_aload_n dX6_wallOf_44 rfl ?_
      refine E_getR (j := 0) dX6_wallOf_45 (show kd 0 = 6 by decide) (by decide) rfl fd_RX6_12 (by decide) ?_
      refine E_getR (j := 3) dX6_wallOf_48 (ar_6_1 (show kd 0 = 6 by decide)).1 (by decide) rfl fd_RX6_69 (by decide) ?_
      refine E_iload_n dX6_wallOf_51 rfl ?_
      obtain ⟨hb, hP⟩ := hP
      refine E_iald dX6_wallOf_52 (ar_0_4 (ar_6_1 (show kd 0 = 6 by decide)).1).1 (ar_0_4 (ar_6_1 (show kd 0 = 6 by decide)).1).2 hb ?_
      exact E_iret dX6_wallOf_53 rfl ⟨_, rfl, hP⟩
    · replace hP := hP.2.1 hc
      refine E_aload_n dX6_wallOf_54 rfl ?_
      refine E_getR (j := 0) dX6_wallOf_55 (show kd 0 = 6 by decide) (by decide) rfl fd_RX6_12 (by decide) ?_
      refine E_getR (j := 4) dX6_wallOf_58 (ar_6_1 (show kd 0 = 6 by decide)).1 (by decide) rfl fd_RX6_77 (by decide) ?_
      refine E_iload_n dX6_wallOf_61 rfl ?_
      obtain ⟨hb, hP⟩ := hP
      refine E_iald dX6_wallOf_62 (ar_0_5 (ar_6_1 (show kd 0 = 6 by decide)).1).1 (ar_0_5 (ar_6_1 (show kd 0 = 6 by decide)).1).2 hb ?_
      exact E_iret dX6_wallOf_63 rfl ⟨_, rfl, hP⟩
    · replace hP := hP.2.2.1 hc
      refine E_aload_n dX6_wallOf_64 rfl ?_
      refine E_getR (j := 0) dX6_wallOf_65 (show kd 0 = 6 by decide) (by decide) rfl fd_RX6_12 (by decide) ?_
      refine E_iload_n dX6_wallOf_68 rfl ?_
      refine E_callV (As := [.int (p0)]) (rest := []) dX6_wallOf_69 cl_RX6_80 tw_35 (ar_6_1 (show kd 0 = 6 by decide)).1 (by decide) rfl tw_36 ⟨rfl, rfl, Nat.le_of_ble_eq_true rfl, Nat.le_of_ble_eq_true rfl⟩ rfl rfl (Nat.le_of_ble_eq_true rfl) (mt_X0_topOf _ _ _ _ (ar_6_1 (show kd 0 = 6 by decide)).1 hP) ?_
      intro r0 s0 hq0; obtain ⟨r69, h0, hs0, hP⟩ := hq0; subst h0; rw [hs0]
      show eX6_wallOf 72 [.ref (0), .int (p0), .int (p1)] [.int (r69)] σ _
      exact E_iret dX6_wallOf_72 rfl ⟨_, rfl, hP⟩
    · replace hP := hP.2.2.2.1 hc
      refine E_aload_n dX6_wallOf_73 rfl ?_
      refine E_getR (j := 0) dX6_wallOf_74 (show kd 0 = 6 by decide) (by decide) rfl fd_RX6_12 (by decide) ?_
      refine E_iload_n dX6_wallOf_77 rfl ?_
      refine E_callV (As := [.int (p0)]) (rest := []) dX6_wallOf_78 cl_RX6_83 tw_39 (ar_6_1 (show kd 0 = 6 by decide)).1 (by decide) rfl tw_40 ⟨rfl, rfl, Nat.le_of_ble_eq_true rfl, Nat.le_of_ble_eq_true rfl⟩ rfl rfl (Nat.le_of_ble_eq_true rfl) (mt_X0_coinsOf _ _ _ _ (ar_6_1 (show kd 0 = 6 by decide)).1 hP) ?_
      intro r0 s0 hq0; obtain ⟨r78, h0, hs0, hP⟩ := hq0; subst h0; rw [hs0]
      show eX6_wallOf 81 [.ref (0), .int (p0), .int (p1)] [.int (r78)] σ _
      exact E_iret dX6_wallOf_81 rfl ⟨_, rfl, hP⟩
    · replace hP := hP.2.2.2.2 ⟨hc (0, 44) (List.mem_of_getElem? (i := 0) rfl), hc (1, 54) (List.mem_of_getElem? (i := 1) rfl), hc (2, 64) (List.mem_of_getElem? (i := 2) rfl), hc (3, 73) (List.mem_of_getElem? (i := 3) rfl)⟩
      refine E_aload_n dX6_wallOf_82 rfl ?_
      refine E_ldc (v := (-1000000001)) dX6_wallOf_83 tw_274 ?_
      refine E_callV (As := [.int ((-1000000001))]) (rest := []) dX6_wallOf_85 cl_RX6_65 tw_279 (show kd 0 = 6 by decide) (by decide) rfl tw_280 ⟨rfl, rfl, Nat.le_of_ble_eq_true rfl, Nat.le_of_ble_eq_true rfl⟩ rfl rfl (Nat.le_of_ble_eq_true rfl) (mt_X6_finding _ _ _  hP) ?_
      rintro _ t85 ⟨r85, rfl, hP⟩
      show eX6_wallOf 88 [.ref (0), .int (p0), .int (p1)] [.int (r85)] t85 _
      exact E_iret dX6_wallOf_88 rfl ⟨_, rfl, hP⟩
  · replace hP := hP.2 hc
    refine E_aload_n dX6_wallOf_7 rfl ?_
    refine E_ldc (v := (-1000000001)) dX6_wallOf_8 tw_274 ?_
    refine E_callV (As := [.int ((-1000000001))]) (rest := []) dX6_wallOf_10 cl_RX6_65 tw_279 (show kd 0 = 6 by decide) (by decide) rfl tw_280 ⟨rfl, rfl, Nat.le_of_ble_eq_true rfl, Nat.le_of_ble_eq_true rfl⟩ rfl rfl (Nat.le_of_ble_eq_true rfl) (mt_X6_finding _ _ _  hP) ?_
    rintro _ t10 ⟨r10, rfl, hP⟩
    show eX6_wallOf 13 [.ref (0), .int (p0), .int (p1)] [.int (r10)] t10 _
    exact E_iret dX6_wallOf_13 rfl ⟨_, rfl, hP⟩
theorem dX6_asNumber_0 : decode cX6_asNumber 0 = .ok (.iload_n 0, 1) := by decide +kernel
theorem dX6_asNumber_1 : decode cX6_asNumber 1 = .ok (.ifCond .eq 7, 3) := by decide +kernel
theorem dX6_asNumber_4 : decode cX6_asNumber 4 = .ok (.iconst 1, 1) := by decide +kernel
theorem dX6_asNumber_5 : decode cX6_asNumber 5 = .ok (.goto 4, 3) := by decide +kernel
theorem dX6_asNumber_8 : decode cX6_asNumber 8 = .ok (.iconst 0, 1) := by decide +kernel
theorem dX6_asNumber_9 : decode cX6_asNumber 9 = .ok (.ireturn, 1) := by decide +kernel
def rmX6_asNumber : Room := { frames := 0, cells := 0, slots := 0, locals := 0 }
abbrev eX6_asNumber := Ev cX6_asNumber 1 (some .int) RX6 rmX6_asNumber
set_option maxRecDepth 20000 in
theorem mt_X6_asNumber (p0 : Bool) (σ : St) (Q : Int32 → Prop)  (hP : P_X6_asNumber p0 σ Q) : Mt yX6_asNumber cX6_asNumber 1 (some .int) rmX6_asNumber [.int (bI p0)] σ (qI fun x s => s = σ ∧ Q x) := by
  refine Mt.of (k := 0) (ls := [.int (bI p0)]) (by decide +kernel) rfl (Nat.le_of_ble_eq_true rfl) ?_
  show eX6_asNumber 0 [.int (bI p0)] [] σ _
  unfold P_X6_asNumber at hP
  refine E_iload_n dX6_asNumber_0 rfl ?_
  refine E_ifz_eq 8 dX6_asNumber_1 (by decide) (fun hc => ?_) (fun hc => ?_)
  · replace hP := hP.1 hc
    refine E_iconst (v := 0) dX6_asNumber_8 (by decide) ?_
    exact E_iret dX6_asNumber_9 rfl ⟨_, rfl, rfl, hP⟩
  · replace hP := hP.2 hc
    refine E_iconst (v := 1) dX6_asNumber_4 (by decide) ?_
    refine E_goto 9 dX6_asNumber_5 (by decide) ?_
    exact E_iret dX6_asNumber_9 rfl ⟨_, rfl, rfl, hP⟩
theorem dX6_isStone_0 : decode cX6_isStone 0 = .ok (.iload_n 1, 1) := by decide +kernel
theorem dX6_isStone_1 : decode cX6_isStone 1 = .ok (.invokestatic 58, 3) := by decide +kernel
theorem dX6_isStone_4 : decode cX6_isStone 4 = .ok (.ifCond .eq 26, 3) := by decide +kernel
theorem dX6_isStone_7 : decode cX6_isStone 7 = .ok (.iload_n 2, 1) := by decide +kernel
theorem dX6_isStone_8 : decode cX6_isStone 8 = .ok (.iconst 0, 1) := by decide +kernel
theorem dX6_isStone_9 : decode cX6_isStone 9 = .ok (.aload_n 0, 1) := by decide +kernel
theorem dX6_isStone_10 : decode cX6_isStone 10 = .ok (.getfield 12, 3) := by decide +kernel
theorem dX6_isStone_13 : decode cX6_isStone 13 = .ok (.getfield 69, 3) := by decide +kernel
theorem dX6_isStone_16 : decode cX6_isStone 16 = .ok (.iload_n 1, 1) := by decide +kernel
theorem dX6_isStone_17 : decode cX6_isStone 17 = .ok (.iaload, 1) := by decide +kernel
theorem dX6_isStone_18 : decode cX6_isStone 18 = .ok (.iconst 1, 1) := by decide +kernel
theorem dX6_isStone_19 : decode cX6_isStone 19 = .ok (.isub, 1) := by decide +kernel
theorem dX6_isStone_20 : decode cX6_isStone 20 = .ok (.invokestatic 116, 3) := by decide +kernel
theorem dX6_isStone_23 : decode cX6_isStone 23 = .ok (.ifCond .eq 7, 3) := by decide +kernel
theorem dX6_isStone_26 : decode cX6_isStone 26 = .ok (.iconst 1, 1) := by decide +kernel
theorem dX6_isStone_27 : decode cX6_isStone 27 = .ok (.goto 4, 3) := by decide +kernel
theorem dX6_isStone_30 : decode cX6_isStone 30 = .ok (.iconst 0, 1) := by decide +kernel
theorem dX6_isStone_31 : decode cX6_isStone 31 = .ok (.ireturn, 1) := by decide +kernel
def rmX6_isStone : Room := { frames := 2, cells := 0, slots := 0, locals := 42 }
abbrev eX6_isStone := Ev cX6_isStone 3 (some .boolean) RX6 rmX6_isStone
set_option maxRecDepth 20000 in
theorem mt_X6_isStone (p0 : Int32) (p1 : Int32) (σ : St) (Q : Bool → Prop)  (hP : P_X6_isStone p0 p1 σ Q) : Mt yX6_isStone cX6_isStone 3 (some .boolean) rmX6_isStone [.ref (0), .int (p0), .int (p1)] σ (qB fun x s => s = σ ∧ Q x) := by
  refine Mt.of (k := 0) (ls := [.ref (0), .int (p0), .int (p1)]) (by decide +kernel) rfl (Nat.le_of_ble_eq_true rfl) ?_
  show eX6_isStone 0 [.ref (0), .int (p0), .int (p1)] [] σ _
  unfold P_X6_isStone at hP
  refine E_iload_n dX6_isStone_0 rfl ?_
  refine E_callS (As := [.int (p0)]) (rest := []) dX6_isStone_1 cl_RX6_58 tw_290 ⟨rfl, rfl, Nat.le_of_ble_eq_true rfl, Nat.le_of_ble_eq_true rfl⟩ rfl rfl (Nat.le_of_ble_eq_true rfl) (mt_X6_isWall _ _ _  hP) ?_
  intro r0 s0 hq0; obtain ⟨r1, h0, hs0, hP⟩ := hq0; subst h0; rw [hs0]
  show eX6_isStone 4 [.ref (0), .int (p0), .int (p1)] [.int (bI r1)] σ _
  refine E_ifz_eq 30 dX6_isStone_4 (by decide) (fun hc => ?_) (fun hc => ?_)
  · replace hP := hP.1 hc
    refine E_iconst (v := 0) dX6_isStone_30 (by decide) ?_
    exact E_nret dX6_isStone_31 rfl (nar_b false) ⟨false, rfl, rfl, hP⟩
  · replace hP := hP.2 hc
    refine E_iload_n dX6_isStone_7 rfl ?_
    refine E_iconst (v := 0) dX6_isStone_8 (by decide) ?_
    refine E_aload_n dX6_isStone_9 rfl ?_
    refine E_getR (j := 0) dX6_isStone_10 (show kd 0 = 6 by decide) (by decide) rfl fd_RX6_12 (by decide) ?_
    refine E_getR (j := 3) dX6_isStone_13 (ar_6_1 (show kd 0 = 6 by decide)).1 (by decide) rfl fd_RX6_69 (by decide) ?_
    refine E_iload_n dX6_isStone_16 rfl ?_
    obtain ⟨hb, hP⟩ := hP
    refine E_iald dX6_isStone_17 (ar_0_4 (ar_6_1 (show kd 0 = 6 by decide)).1).1 (ar_0_4 (ar_6_1 (show kd 0 = 6 by decide)).1).2 hb ?_
    refine E_iconst (v := 1) dX6_isStone_18 (by decide) ?_
    refine E_isub dX6_isStone_19 ?_
    refine E_callS (As := [.int (p1), .int (0), .int ((gI σ 5 p0.toNatClampNeg) - 1)]) (rest := []) dX6_isStone_20 cl_RX6_116 tw_143 ⟨rfl, rfl, Nat.le_of_ble_eq_true rfl, Nat.le_of_ble_eq_true rfl⟩ rfl rfl (Nat.le_of_ble_eq_true rfl) (mt_X6_isWithin _ _ _ _ _  hP) ?_
    intro r0 s0 hq0; obtain ⟨r20, h0, hs0, hP⟩ := hq0; subst h0; rw [hs0]
    show eX6_isStone 23 [.ref (0), .int (p0), .int (p1)] [.int (bI r20)] σ _
    refine E_ifz_eq 30 dX6_isStone_23 (by decide) (fun hc => ?_) (fun hc => ?_)
    · replace hP := hP.1 hc
      refine E_iconst (v := 0) dX6_isStone_30 (by decide) ?_
      exact E_nret dX6_isStone_31 rfl (nar_b false) ⟨false, rfl, rfl, hP⟩
    · replace hP := hP.2 hc
      refine E_iconst (v := 1) dX6_isStone_26 (by decide) ?_
      refine E_goto 31 dX6_isStone_27 (by decide) ?_
      exact E_nret dX6_isStone_31 rfl (nar_b true) ⟨true, rfl, rfl, hP⟩
theorem dX6_mayGoAsLowest_0 : decode cX6_mayGoAsLowest 0 = .ok (.aload_n 0, 1) := by decide +kernel
theorem dX6_mayGoAsLowest_1 : decode cX6_mayGoAsLowest 1 = .ok (.getfield 19, 3) := by decide +kernel
theorem dX6_mayGoAsLowest_4 : decode cX6_mayGoAsLowest 4 = .ok (.aload_n 0, 1) := by decide +kernel
theorem dX6_mayGoAsLowest_5 : decode cX6_mayGoAsLowest 5 = .ok (.getfield 12, 3) := by decide +kernel
theorem dX6_mayGoAsLowest_8 : decode cX6_mayGoAsLowest 8 = .ok (.invokevirtual 216, 3) := by decide +kernel
theorem dX6_mayGoAsLowest_11 : decode cX6_mayGoAsLowest 11 = .ok (.aload_n 0, 1) := by decide +kernel
theorem dX6_mayGoAsLowest_12 : decode cX6_mayGoAsLowest 12 = .ok (.getfield 19, 3) := by decide +kernel
theorem dX6_mayGoAsLowest_15 : decode cX6_mayGoAsLowest 15 = .ok (.getfield 94, 3) := by decide +kernel
theorem dX6_mayGoAsLowest_18 : decode cX6_mayGoAsLowest 18 = .ok (.iload_n 1, 1) := by decide +kernel
theorem dX6_mayGoAsLowest_19 : decode cX6_mayGoAsLowest 19 = .ok (.iconst 0, 1) := by decide +kernel
theorem dX6_mayGoAsLowest_20 : decode cX6_mayGoAsLowest 20 = .ok (.invokestatic 90, 3) := by decide +kernel
theorem dX6_mayGoAsLowest_23 : decode cX6_mayGoAsLowest 23 = .ok (.iload_n 2, 1) := by decide +kernel
theorem dX6_mayGoAsLowest_24 : decode cX6_mayGoAsLowest 24 = .ok (.iastore, 1) := by decide +kernel
theorem dX6_mayGoAsLowest_25 : decode cX6_mayGoAsLowest 25 = .ok (.aload_n 0, 1) := by decide +kernel
theorem dX6_mayGoAsLowest_26 : decode cX6_mayGoAsLowest 26 = .ok (.getfield 25, 3) := by decide +kernel
theorem dX6_mayGoAsLowest_29 : decode cX6_mayGoAsLowest 29 = .ok (.aload_n 0, 1) := by decide +kernel
theorem dX6_mayGoAsLowest_30 : decode cX6_mayGoAsLowest 30 = .ok (.getfield 19, 3) := by decide +kernel
theorem dX6_mayGoAsLowest_33 : decode cX6_mayGoAsLowest 33 = .ok (.invokevirtual 152, 3) := by decide +kernel
theorem dX6_mayGoAsLowest_36 : decode cX6_mayGoAsLowest 36 = .ok (.aload_n 0, 1) := by decide +kernel
theorem dX6_mayGoAsLowest_37 : decode cX6_mayGoAsLowest 37 = .ok (.getfield 25, 3) := by decide +kernel
theorem dX6_mayGoAsLowest_40 : decode cX6_mayGoAsLowest 40 = .ok (.aload_n 0, 1) := by decide +kernel
theorem dX6_mayGoAsLowest_41 : decode cX6_mayGoAsLowest 41 = .ok (.getfield 25, 3) := by decide +kernel
theorem dX6_mayGoAsLowest_44 : decode cX6_mayGoAsLowest 44 = .ok (.getfield 156, 3) := by decide +kernel
theorem dX6_mayGoAsLowest_47 : decode cX6_mayGoAsLowest 47 = .ok (.iload_n 1, 1) := by decide +kernel
theorem dX6_mayGoAsLowest_48 : decode cX6_mayGoAsLowest 48 = .ok (.invokevirtual 305, 3) := by decide +kernel
theorem dX6_mayGoAsLowest_51 : decode cX6_mayGoAsLowest 51 = .ok (.ireturn, 1) := by decide +kernel
def rmX6_mayGoAsLowest : Room := { frames := 3, cells := 0, slots := 0, locals := 75 }
abbrev eX6_mayGoAsLowest := Ev cX6_mayGoAsLowest 3 (some .boolean) RX6 rmX6_mayGoAsLowest
set_option maxRecDepth 20000 in
theorem mt_X6_mayGoAsLowest (p0 : Int32) (p1 : Int32) (σ : St) (Q : Bool → St → Prop)  (hP : P_X6_mayGoAsLowest p0 p1 σ Q) : Mt yX6_mayGoAsLowest cX6_mayGoAsLowest 3 (some .boolean) rmX6_mayGoAsLowest [.ref (0), .int (p0), .int (p1)] σ (qB Q) := by
  refine Mt.of (k := 0) (ls := [.ref (0), .int (p0), .int (p1)]) (by decide +kernel) rfl (Nat.le_of_ble_eq_true rfl) ?_
  show eX6_mayGoAsLowest 0 [.ref (0), .int (p0), .int (p1)] [] σ _
  unfold P_X6_mayGoAsLowest at hP
  refine E_aload_n dX6_mayGoAsLowest_0 rfl ?_
  refine E_getR (j := 2) dX6_mayGoAsLowest_1 (show kd 0 = 6 by decide) (by decide) rfl fd_RX6_19 (by decide) ?_
  refine E_aload_n dX6_mayGoAsLowest_4 rfl ?_
  refine E_getR (j := 0) dX6_mayGoAsLowest_5 (show kd 0 = 6 by decide) (by decide) rfl fd_RX6_12 (by decide) ?_
  refine E_callV (As := [.ref (1)]) (rest := []) dX6_mayGoAsLowest_8 cl_RX6_216 tw_272 (ar_6_13 (show kd 0 = 6 by decide)).1 (by decide) rfl tw_273 ⟨rfl, rfl, Nat.le_of_ble_eq_true rfl, Nat.le_of_ble_eq_true rfl⟩ rfl rfl (Nat.le_of_ble_eq_true rfl) (mt_X0_becomeLike _ _ _ _ (ar_6_13 (show kd 0 = 6 by decide)).1 (ar_6_1 (show kd 0 = 6 by decide)).1 hP) ?_
  rintro _ t8 ⟨rfl, hP⟩
  show eX6_mayGoAsLowest 11 [.ref (0), .int (p0), .int (p1)] [] t8 _
  refine E_aload_n dX6_mayGoAsLowest_11 rfl ?_
  refine E_getR (j := 2) dX6_mayGoAsLowest_12 (show kd 0 = 6 by decide) (by decide) rfl fd_RX6_19 (by decide) ?_
  refine E_getR (j := 0) dX6_mayGoAsLowest_15 (ar_6_13 (show kd 0 = 6 by decide)).1 (by decide) rfl fd_RX6_94 (by decide) ?_
  refine E_iload_n dX6_mayGoAsLowest_18 rfl ?_
  refine E_iconst (v := 0) dX6_mayGoAsLowest_19 (by decide) ?_
  refine E_callS (As := [.int (p0), .int (0)]) (rest := [.ref (14)]) dX6_mayGoAsLowest_20 cl_RX6_90 tw_16 ⟨rfl, rfl, Nat.le_of_ble_eq_true rfl, Nat.le_of_ble_eq_true rfl⟩ rfl rfl (Nat.le_of_ble_eq_true rfl) (mt_X0_place _ _ _ _  hP) ?_
  intro r0 s0 hq0; obtain ⟨r20, h0, hs0, hP⟩ := hq0; subst h0; rw [hs0]
  show eX6_mayGoAsLowest 23 [.ref (0), .int (p0), .int (p1)] [.int (r20), .ref (14)] t8 _
  refine E_iload_n dX6_mayGoAsLowest_23 rfl ?_
  obtain ⟨hb, hP⟩ := hP
  refine E_iast dX6_mayGoAsLowest_24 (ar_0_1 (ar_6_13 (show kd 0 = 6 by decide)).1).1 (ar_0_1 (ar_6_13 (show kd 0 = 6 by decide)).1).2 hb ?_
  refine E_aload_n dX6_mayGoAsLowest_25 rfl ?_
  refine E_getR (j := 3) dX6_mayGoAsLowest_26 (show kd 0 = 6 by decide) (by decide) rfl fd_RX6_25 (by decide) ?_
  refine E_aload_n dX6_mayGoAsLowest_29 rfl ?_
  refine E_getR (j := 2) dX6_mayGoAsLowest_30 (show kd 0 = 6 by decide) (by decide) rfl fd_RX6_19 (by decide) ?_
  refine E_callV (As := [.ref (13)]) (rest := []) dX6_mayGoAsLowest_33 cl_RX6_152 tw_228 (ar_6_19 (show kd 0 = 6 by decide)).1 (by decide) rfl tw_229 ⟨rfl, rfl, Nat.le_of_ble_eq_true rfl, Nat.le_of_ble_eq_true rfl⟩ rfl rfl (Nat.le_of_ble_eq_true rfl) (mt_X3_measure _ _ _ _ (ar_6_19 (show kd 0 = 6 by decide)).1 (ar_6_13 (show kd 0 = 6 by decide)).1 hP) ?_
  rintro _ t33 ⟨rfl, hP⟩
  show eX6_mayGoAsLowest 36 [.ref (0), .int (p0), .int (p1)] [] t33 _
  refine E_aload_n dX6_mayGoAsLowest_36 rfl ?_
  refine E_getR (j := 3) dX6_mayGoAsLowest_37 (show kd 0 = 6 by decide) (by decide) rfl fd_RX6_25 (by decide) ?_
  refine E_aload_n dX6_mayGoAsLowest_40 rfl ?_
  refine E_getR (j := 3) dX6_mayGoAsLowest_41 (show kd 0 = 6 by decide) (by decide) rfl fd_RX6_25 (by decide) ?_
  refine E_getI (j := 3) dX6_mayGoAsLowest_44 (ar_6_19 (show kd 0 = 6 by decide)).1 (by decide) rfl fd_RX6_156 ?_
  refine E_iload_n dX6_mayGoAsLowest_47 rfl ?_
  refine E_callV (As := [.int (gI t33 19 3), .int (p0)]) (rest := []) dX6_mayGoAsLowest_48 cl_RX6_305 tw_89 (ar_6_19 (show kd 0 = 6 by decide)).1 (by decide) rfl tw_90 ⟨rfl, rfl, Nat.le_of_ble_eq_true rfl, Nat.le_of_ble_eq_true rfl⟩ rfl rfl (Nat.le_of_ble_eq_true rfl) (mt_X3_lowestMayGo _ _ _ _ _ (ar_6_19 (show kd 0 = 6 by decide)).1 hP) ?_
  intro r0 s0 hq0; obtain ⟨r48, h0, hs0, hP⟩ := hq0; subst h0; rw [hs0]
  show eX6_mayGoAsLowest 51 [.ref (0), .int (p0), .int (p1)] [.int (bI r48)] t33 _
  exact E_nret dX6_mayGoAsLowest_51 rfl (nar_b r48) ⟨r48, rfl, hP⟩
theorem dX6_of_0 : decode cX6_of 0 = .ok (.aload_n 0, 1) := by decide +kernel
theorem dX6_of_1 : decode cX6_of 1 = .ok (.iload_n 1, 1) := by decide +kernel
theorem dX6_of_2 : decode cX6_of 2 = .ok (.iload_n 2, 1) := by decide +kernel
theorem dX6_of_3 : decode cX6_of 3 = .ok (.invokevirtual 86, 3) := by decide +kernel
theorem dX6_of_6 : decode cX6_of 6 = .ok (.ifCond .ne 10, 3) := by decide +kernel
theorem dX6_of_9 : decode cX6_of 9 = .ok (.aload_n 0, 1) := by decide +kernel
theorem dX6_of_10 : decode cX6_of 10 = .ok (.ldc 64, 2) := by decide +kernel
theorem dX6_of_12 : decode cX6_of 12 = .ok (.invokevirtual 65, 3) := by decide +kernel
theorem dX6_of_15 : decode cX6_of 15 = .ok (.ireturn, 1) := by decide +kernel
theorem dX6_of_16 : decode cX6_of 16 = .ok (.iload_n 1, 1) := by decide +kernel
theorem dX6_of_17 : decode cX6_of 17 = .ok (.iload_n 2, 1) := by decide +kernel
theorem dX6_of_18 : decode cX6_of 18 = .ok (.invokestatic 90, 3) := by decide +kernel
theorem dX6_of_21 : decode cX6_of 21 = .ok (.istore 4, 2) := by decide +kernel
theorem dX6_of_23 : decode cX6_of 23 = .ok (.iload_n 3, 1) := by decide +kernel
theorem dX6_of_24 : decode cX6_of 24 = .ok (.tableswitch 112 0 5 #[40, 51, 62, 73, 83, 93], 40) := by decide +kernel
theorem dX6_of_64 : decode cX6_of 64 = .ok (.aload_n 0, 1) := by decide +kernel
theorem dX6_of_65 : decode cX6_of 65 = .ok (.getfield 12, 3) := by decide +kernel
theorem dX6_of_68 : decode cX6_of 68 = .ok (.getfield 94, 3) := by decide +kernel
theorem dX6_of_71 : decode cX6_of 71 = .ok (.iload 4, 2) := by decide +kernel
theorem dX6_of_73 : decode cX6_of 73 = .ok (.iaload, 1) := by decide +kernel
theorem dX6_of_74 : decode cX6_of 74 = .ok (.ireturn, 1) := by decide +kernel
theorem dX6_of_75 : decode cX6_of 75 = .ok (.aload_n 0, 1) := by decide +kernel
theorem dX6_of_76 : decode cX6_of 76 = .ok (.getfield 12, 3) := by decide +kernel
theorem dX6_of_79 : decode cX6_of 79 = .ok (.getfield 97, 3) := by decide +kernel
theorem dX6_of_82 : decode cX6_of 82 = .ok (.iload 4, 2) := by decide +kernel
theorem dX6_of_84 : decode cX6_of 84 = .ok (.iaload, 1) := by decide +kernel
theorem dX6_of_85 : decode cX6_of 85 = .ok (.ireturn, 1) := by decide +kernel
theorem dX6_of_86 : decode cX6_of 86 = .ok (.aload_n 0, 1) := by decide +kernel
theorem dX6_of_87 : decode cX6_of 87 = .ok (.getfield 12, 3) := by decide +kernel
theorem dX6_of_90 : decode cX6_of 90 = .ok (.getfield 100, 3) := by decide +kernel
theorem dX6_of_93 : decode cX6_of 93 = .ok (.iload 4, 2) := by decide +kernel
theorem dX6_of_95 : decode cX6_of 95 = .ok (.iaload, 1) := by decide +kernel
theorem dX6_of_96 : decode cX6_of 96 = .ok (.ireturn, 1) := by decide +kernel
theorem dX6_of_97 : decode cX6_of 97 = .ok (.aload_n 0, 1) := by decide +kernel
theorem dX6_of_98 : decode cX6_of 98 = .ok (.getfield 12, 3) := by decide +kernel
theorem dX6_of_101 : decode cX6_of 101 = .ok (.iload_n 1, 1) := by decide +kernel
theorem dX6_of_102 : decode cX6_of 102 = .ok (.iload_n 2, 1) := by decide +kernel
theorem dX6_of_103 : decode cX6_of 103 = .ok (.invokevirtual 103, 3) := by decide +kernel
theorem dX6_of_106 : decode cX6_of 106 = .ok (.ireturn, 1) := by decide +kernel
theorem dX6_of_107 : decode cX6_of 107 = .ok (.aload_n 0, 1) := by decide +kernel
theorem dX6_of_108 : decode cX6_of 108 = .ok (.getfield 12, 3) := by decide +kernel
theorem dX6_of_111 : decode cX6_of 111 = .ok (.iload_n 1, 1) := by decide +kernel
theorem dX6_of_112 : decode cX6_of 112 = .ok (.iload_n 2, 1) := by decide +kernel
theorem dX6_of_113 : decode cX6_of 113 = .ok (.invokevirtual 106, 3) := by decide +kernel
theorem dX6_of_116 : decode cX6_of 116 = .ok (.ireturn, 1) := by decide +kernel
theorem dX6_of_117 : decode cX6_of 117 = .ok (.aload_n 0, 1) := by decide +kernel
theorem dX6_of_118 : decode cX6_of 118 = .ok (.iload_n 1, 1) := by decide +kernel
theorem dX6_of_119 : decode cX6_of 119 = .ok (.aload_n 0, 1) := by decide +kernel
theorem dX6_of_120 : decode cX6_of 120 = .ok (.getfield 12, 3) := by decide +kernel
theorem dX6_of_123 : decode cX6_of 123 = .ok (.getfield 94, 3) := by decide +kernel
theorem dX6_of_126 : decode cX6_of 126 = .ok (.iload 4, 2) := by decide +kernel
theorem dX6_of_128 : decode cX6_of 128 = .ok (.iaload, 1) := by decide +kernel
theorem dX6_of_129 : decode cX6_of 129 = .ok (.invokevirtual 109, 3) := by decide +kernel
theorem dX6_of_132 : decode cX6_of 132 = .ok (.invokestatic 112, 3) := by decide +kernel
theorem dX6_of_135 : decode cX6_of 135 = .ok (.ireturn, 1) := by decide +kernel
theorem dX6_of_136 : decode cX6_of 136 = .ok (.aload_n 0, 1) := by decide +kernel
theorem dX6_of_137 : decode cX6_of 137 = .ok (.ldc 64, 2) := by decide +kernel
theorem dX6_of_139 : decode cX6_of 139 = .ok (.invokevirtual 65, 3) := by decide +kernel
theorem dX6_of_142 : decode cX6_of 142 = .ok (.ireturn, 1) := by decide +kernel
def rmX6_of : Room := { frames := 4, cells := 0, slots := 0, locals := 97 }
abbrev eX6_of := Ev cX6_of 5 (some .int) RX6 rmX6_of
set_option maxRecDepth 20000 in
theorem mt_X6_of (p0 : Int32) (p1 : Int32) (p2 : Int32) (σ : St) (Q : Int32 → St → Prop)  (hP : P_X6_of p0 p1 p2 σ Q) : Mt yX6_of cX6_of 5 (some .int) rmX6_of [.ref (0), .int (p0), .int (p1), .int (p2)] σ (qI Q) := by
  refine Mt.of (k := 1) (ls := [.ref (0), .int (p0), .int (p1), .int (p2), un]) (by decide +kernel) rfl (Nat.le_of_ble_eq_true rfl) ?_
  show eX6_of 0 [.ref (0), .int (p0), .int (p1), .int (p2), un] [] σ _
  unfold P_X6_of at hP
  refine E_aload_n dX6_of_0 rfl ?_
  refine E_iload_n dX6_of_1 rfl ?_
  refine E_iload_n dX6_of_2 rfl ?_
  refine E_callV (As := [.int (p0), .int (p1)]) (rest := []) dX6_of_3 cl_RX6_86 tw_318 (show kd 0 = 6 by decide) (by decide) rfl tw_319 ⟨rfl, rfl, Nat.le_of_ble_eq_true rfl, Nat.le_of_ble_eq_true rfl⟩ rfl rfl (Nat.le_of_ble_eq_true rfl) (mt_X6_isStone _ _ _ _  hP) ?_
  intro r0 s0 hq0; obtain ⟨r3, h0, hs0, hP⟩ := hq0; subst h0; rw [hs0]
  show eX6_of 6 [.ref (0), .int (p0), .int (p1), .int (p2), un] [.int (bI r3)] σ _
  refine E_ifz_ne 16 dX6_of_6 (by decide) (fun hc => ?_) (fun hc => ?_)
  · replace hP := hP.1 hc
    refine E_iload_n dX6_of_16 rfl ?_
    refine E_iload_n dX6_of_17 rfl ?_
    refine E_callS (As := [.int (p0), .int (p1)]) (rest := []) dX6_of_18 cl_RX6_90 tw_16 ⟨rfl, rfl, Nat.le_of_ble_eq_true rfl, Nat.le_of_ble_eq_true rfl⟩ rfl rfl (Nat.le_of_ble_eq_true rfl) (mt_X0_place _ _ _ _  hP) ?_
    intro r0 s0 hq0; obtain ⟨r18, h0, hs0, hP⟩ := hq0; subst h0; rw [hs0]
    show eX6_of 21 [.ref (0), .int (p0), .int (p1), .int (p2), un] [.int (r18)] σ _
    refine E_istore (ls' := [.ref (0), .int (p0), .int (p1), .int (p2), .int (r18)]) dX6_of_21 (by decide) rfl ?_
    refine E_iload_n dX6_of_23 rfl ?_
    refine E_tsw [(0, 64), (1, 75), (2, 86), (3, 97), (4, 107), (5, 117)] 136 dX6_of_24 (by decide) (by decide) (by decide +kernel) (by decide +kernel) (List.forall_mem_cons.mpr ⟨fun hc => ?_, (List.forall_mem_cons.mpr ⟨fun hc => ?_, (List.forall_mem_cons.mpr ⟨fun hc => ?_, (List.forall_mem_cons.mpr ⟨fun hc => ?_, (List.forall_mem_cons.mpr ⟨fun hc => ?_, (List.forall_mem_cons.mpr ⟨fun hc => ?_, (fun q hq => absurd hq List.not_mem_nil)⟩)⟩)⟩)⟩)⟩)⟩) (fun hc => ?_)
    · replace hP := hP.1 hc
      refine E_aload_n dX6_of_64 rfl ?_
      refine E_getR (j := 0) dX6_of_65 (show kd 0 = 6 by decide) (by decide) rfl fd_RX6_12 (by decide) ?_
      refine E_getR (j := 0) dX6_of_68 (ar_6_1 (show kd 0 = 6 by decide)).1 (by decide) rfl fd_RX6_94 (by decide) ?_
      refine E_iload dX6_of_71 rfl ?_
      obtain ⟨hb, hP⟩ := hP
      refine E_iald dX6_of_73 (ar_0_1 (ar_6_1 (show kd 0 = 6 by decide)).1).1 (ar_0_1 (ar_6_1 (show kd 0 = 6 by decide)).1).2 hb ?_
      exact E_iret dX6_of_74 rfl ⟨_, rfl, hP⟩
    · replace hP := hP.2.1 hc
      refine E_aload_n dX6_of_75 rfl ?_
      refine E_getR (j := 0) dX6_of_76 (show kd 0 = 6 by decide) (by decide) rfl fd_RX6_12 (by decide) ?_
      refine E_getR (j := 1) dX6_of_79 (ar_6_1 (show kd 0 = 6 by decide)).1 (by decide) rfl fd_RX6_97 (by decide) ?_
      refine E_iload dX6_of_82 rfl ?_
      obtain ⟨hb, hP⟩ := hP
      refine E_iald dX6_of_84 (ar_0_2 (ar_6_1 (show kd 0 = 6 by decide)).1).1 (ar_0_2 (ar_6_1 (show kd 0 = 6 by decide)).1).2 hb ?_
      exact E_iret dX6_of_85 rfl ⟨_, rfl, hP⟩
    · replace hP := hP.2.2.1 hc
      refine E_aload_n dX6_of_86 rfl ?_
      refine E_getR (j := 0) dX6_of_87 (show kd 0 = 6 by decide) (by decide) rfl fd_RX6_12 (by decide) ?_
      refine E_getR (j := 2) dX6_of_90 (ar_6_1 (show kd 0 = 6 by decide)).1 (by decide) rfl fd_RX6_100 (by decide) ?_
      refine E_iload dX6_of_93 rfl ?_
      obtain ⟨hb, hP⟩ := hP
      refine E_iald dX6_of_95 (ar_0_3 (ar_6_1 (show kd 0 = 6 by decide)).1).1 (ar_0_3 (ar_6_1 (show kd 0 = 6 by decide)).1).2 hb ?_
      exact E_iret dX6_of_96 rfl ⟨_, rfl, hP⟩
    · replace hP := hP.2.2.2.1 hc
      refine E_aload_n dX6_of_97 rfl ?_
      refine E_getR (j := 0) dX6_of_98 (show kd 0 = 6 by decide) (by decide) rfl fd_RX6_12 (by decide) ?_
      refine E_iload_n dX6_of_101 rfl ?_
      refine E_iload_n dX6_of_102 rfl ?_
      refine E_callV (As := [.int (p0), .int (p1)]) (rest := []) dX6_of_103 cl_RX6_103 tw_31 (ar_6_1 (show kd 0 = 6 by decide)).1 (by decide) rfl tw_32 ⟨rfl, rfl, Nat.le_of_ble_eq_true rfl, Nat.le_of_ble_eq_true rfl⟩ rfl rfl (Nat.le_of_ble_eq_true rfl) (mt_X0_tallOf _ _ _ _ _ (ar_6_1 (show kd 0 = 6 by decide)).1 hP) ?_
      intro r0 s0 hq0; obtain ⟨r103, h0, hs0, hP⟩ := hq0; subst h0; rw [hs0]
      show eX6_of 106 [.ref (0), .int (p0), .int (p1), .int (p2), .int (r18)] [.int (r103)] σ _
      exact E_iret dX6_of_106 rfl ⟨_, rfl, hP⟩
    · replace hP := hP.2.2.2.2.1 hc
      refine E_aload_n dX6_of_107 rfl ?_
      refine E_getR (j := 0) dX6_of_108 (show kd 0 = 6 by decide) (by decide) rfl fd_RX6_12 (by decide) ?_
      refine E_iload_n dX6_of_111 rfl ?_
      refine E_iload_n dX6_of_112 rfl ?_
      refine E_callV (As := [.int (p0), .int (p1)]) (rest := []) dX6_of_113 cl_RX6_106 tw_24 (ar_6_1 (show kd 0 = 6 by decide)).1 (by decide) rfl tw_25 ⟨rfl, rfl, Nat.le_of_ble_eq_true rfl, Nat.le_of_ble_eq_true rfl⟩ rfl rfl (Nat.le_of_ble_eq_true rfl) (mt_X0_coinOf _ _ _ _ _ (ar_6_1 (show kd 0 = 6 by decide)).1 hP) ?_
      intro r0 s0 hq0; obtain ⟨r113, h0, hs0, hP⟩ := hq0; subst h0; rw [hs0]
      show eX6_of 116 [.ref (0), .int (p0), .int (p1), .int (p2), .int (r18)] [.int (r113)] σ _
      exact E_iret dX6_of_116 rfl ⟨_, rfl, hP⟩
    · replace hP := hP.2.2.2.2.2.1 hc
      refine E_aload_n dX6_of_117 rfl ?_
      refine E_iload_n dX6_of_118 rfl ?_
      refine E_aload_n dX6_of_119 rfl ?_
      refine E_getR (j := 0) dX6_of_120 (show kd 0 = 6 by decide) (by decide) rfl fd_RX6_12 (by decide) ?_
      refine E_getR (j := 0) dX6_of_123 (ar_6_1 (show kd 0 = 6 by decide)).1 (by decide) rfl fd_RX6_94 (by decide) ?_
      refine E_iload dX6_of_126 rfl ?_
      obtain ⟨hb, hP⟩ := hP
      refine E_iald dX6_of_128 (ar_0_1 (ar_6_1 (show kd 0 = 6 by decide)).1).1 (ar_0_1 (ar_6_1 (show kd 0 = 6 by decide)).1).2 hb ?_
      refine E_callV (As := [.int (p0), .int (gI σ 2 r18.toNatClampNeg)]) (rest := []) dX6_of_129 cl_RX6_109 tw_314 (show kd 0 = 6 by decide) (by decide) rfl tw_315 ⟨rfl, rfl, Nat.le_of_ble_eq_true rfl, Nat.le_of_ble_eq_true rfl⟩ rfl rfl (Nat.le_of_ble_eq_true rfl) (mt_X6_mayGoAsLowest _ _ _ _  hP) ?_
      rintro _ t129 ⟨r129, rfl, hP⟩
      show eX6_of 132 [.ref (0), .int (p0), .int (p1), .int (p2), .int (r18)] [.int (bI r129)] t129 _
      refine E_callS (As := [.int (bI r129)]) (rest := []) dX6_of_132 cl_RX6_112 tw_311 ⟨rfl, rfl, Nat.le_of_ble_eq_true rfl, Nat.le_of_ble_eq_true rfl⟩ rfl rfl (Nat.le_of_ble_eq_true rfl) (mt_X6_asNumber _ _ _  hP) ?_
      intro r0 s0 hq0; obtain ⟨r132, h0, hs0, hP⟩ := hq0; subst h0; rw [hs0]
      show eX6_of 135 [.ref (0), .int (p0), .int (p1), .int (p2), .int (r18)] [.int (r132)] t129 _
      exact E_iret dX6_of_135 rfl ⟨_, rfl, hP⟩
    · replace hP := hP.2.2.2.2.2.2 ⟨hc (0, 64) (List.mem_of_getElem? (i := 0) rfl), hc (1, 75) (List.mem_of_getElem? (i := 1) rfl), hc (2, 86) (List.mem_of_getElem? (i := 2) rfl), hc (3, 97) (List.mem_of_getElem? (i := 3) rfl), hc (4, 107) (List.mem_of_getElem? (i := 4) rfl), hc (5, 117) (List.mem_of_getElem? (i := 5) rfl)⟩
      refine E_aload_n dX6_of_136 rfl ?_
      refine E_ldc (v := (-1000000001)) dX6_of_137 tw_274 ?_
      refine E_callV (As := [.int ((-1000000001))]) (rest := []) dX6_of_139 cl_RX6_65 tw_279 (show kd 0 = 6 by decide) (by decide) rfl tw_280 ⟨rfl, rfl, Nat.le_of_ble_eq_true rfl, Nat.le_of_ble_eq_true rfl⟩ rfl rfl (Nat.le_of_ble_eq_true rfl) (mt_X6_finding _ _ _  hP) ?_
      rintro _ t139 ⟨r139, rfl, hP⟩
      show eX6_of 142 [.ref (0), .int (p0), .int (p1), .int (p2), .int (r18)] [.int (r139)] t139 _
      exact E_iret dX6_of_142 rfl ⟨_, rfl, hP⟩
  · replace hP := hP.2 hc
    refine E_aload_n dX6_of_9 rfl ?_
    refine E_ldc (v := (-1000000001)) dX6_of_10 tw_274 ?_
    refine E_callV (As := [.int ((-1000000001))]) (rest := []) dX6_of_12 cl_RX6_65 tw_279 (show kd 0 = 6 by decide) (by decide) rfl tw_280 ⟨rfl, rfl, Nat.le_of_ble_eq_true rfl, Nat.le_of_ble_eq_true rfl⟩ rfl rfl (Nat.le_of_ble_eq_true rfl) (mt_X6_finding _ _ _  hP) ?_
    rintro _ t12 ⟨r12, rfl, hP⟩
    show eX6_of 15 [.ref (0), .int (p0), .int (p1), .int (p2), un] [.int (r12)] t12 _
    exact E_iret dX6_of_15 rfl ⟨_, rfl, hP⟩
theorem dX6_set_0 : decode cX6_set 0 = .ok (.aload_n 0, 1) := by decide +kernel
theorem dX6_set_1 : decode cX6_set 1 = .ok (.iload_n 1, 1) := by decide +kernel
theorem dX6_set_2 : decode cX6_set 2 = .ok (.iload_n 2, 1) := by decide +kernel
theorem dX6_set_3 : decode cX6_set 3 = .ok (.invokevirtual 86, 3) := by decide +kernel
theorem dX6_set_6 : decode cX6_set 6 = .ok (.ifCond .ne 10, 3) := by decide +kernel
theorem dX6_set_9 : decode cX6_set 9 = .ok (.aload_n 0, 1) := by decide +kernel
theorem dX6_set_10 : decode cX6_set 10 = .ok (.ldc 64, 2) := by decide +kernel
theorem dX6_set_12 : decode cX6_set 12 = .ok (.invokevirtual 65, 3) := by decide +kernel
theorem dX6_set_15 : decode cX6_set 15 = .ok (.ireturn, 1) := by decide +kernel
theorem dX6_set_16 : decode cX6_set 16 = .ok (.iload_n 1, 1) := by decide +kernel
theorem dX6_set_17 : decode cX6_set 17 = .ok (.iload_n 2, 1) := by decide +kernel
theorem dX6_set_18 : decode cX6_set 18 = .ok (.invokestatic 90, 3) := by decide +kernel
theorem dX6_set_21 : decode cX6_set 21 = .ok (.istore 5, 2) := by decide +kernel
theorem dX6_set_23 : decode cX6_set 23 = .ok (.iload_n 3, 1) := by decide +kernel
theorem dX6_set_24 : decode cX6_set 24 = .ok (.iconst 1, 1) := by decide +kernel
theorem dX6_set_25 : decode cX6_set 25 = .ok (.if_icmp .ne 38, 3) := by decide +kernel
theorem dX6_set_28 : decode cX6_set 28 = .ok (.iload 4, 2) := by decide +kernel
theorem dX6_set_30 : decode cX6_set 30 = .ok (.invokestatic 61, 3) := by decide +kernel
theorem dX6_set_33 : decode cX6_set 33 = .ok (.ifCond .eq 30, 3) := by decide +kernel
theorem dX6_set_36 : decode cX6_set 36 = .ok (.aload_n 0, 1) := by decide +kernel
theorem dX6_set_37 : decode cX6_set 37 = .ok (.getfield 12, 3) := by decide +kernel
theorem dX6_set_40 : decode cX6_set 40 = .ok (.getfield 97, 3) := by decide +kernel
theorem dX6_set_43 : decode cX6_set 43 = .ok (.iload 5, 2) := by decide +kernel
theorem dX6_set_45 : decode cX6_set 45 = .ok (.iaload, 1) := by decide +kernel
theorem dX6_set_46 : decode cX6_set 46 = .ok (.istore 6, 2) := by decide +kernel
theorem dX6_set_48 : decode cX6_set 48 = .ok (.aload_n 0, 1) := by decide +kernel
theorem dX6_set_49 : decode cX6_set 49 = .ok (.getfield 12, 3) := by decide +kernel
theorem dX6_set_52 : decode cX6_set 52 = .ok (.getfield 97, 3) := by decide +kernel
theorem dX6_set_55 : decode cX6_set 55 = .ok (.iload 5, 2) := by decide +kernel
theorem dX6_set_57 : decode cX6_set 57 = .ok (.iload 4, 2) := by decide +kernel
theorem dX6_set_59 : decode cX6_set 59 = .ok (.iastore, 1) := by decide +kernel
theorem dX6_set_60 : decode cX6_set 60 = .ok (.iload 6, 2) := by decide +kernel
theorem dX6_set_62 : decode cX6_set 62 = .ok (.ireturn, 1) := by decide +kernel
theorem dX6_set_63 : decode cX6_set 63 = .ok (.iload_n 3, 1) := by decide +kernel
theorem dX6_set_64 : decode cX6_set 64 = .ok (.iconst 2, 1) := by decide +kernel
theorem dX6_set_65 : decode cX6_set 65 = .ok (.if_icmp .ne 42, 3) := by decide +kernel
theorem dX6_set_68 : decode cX6_set 68 = .ok (.iload 4, 2) := by decide +kernel
theorem dX6_set_70 : decode cX6_set 70 = .ok (.iconst 0, 1) := by decide +kernel
theorem dX6_set_71 : decode cX6_set 71 = .ok (.sipush 999, 3) := by decide +kernel
theorem dX6_set_74 : decode cX6_set 74 = .ok (.invokestatic 116, 3) := by decide +kernel
theorem dX6_set_77 : decode cX6_set 77 = .ok (.ifCond .eq 30, 3) := by decide +kernel
theorem dX6_set_80 : decode cX6_set 80 = .ok (.aload_n 0, 1) := by decide +kernel
theorem dX6_set_81 : decode cX6_set 81 = .ok (.getfield 12, 3) := by decide +kernel
theorem dX6_set_84 : decode cX6_set 84 = .ok (.getfield 100, 3) := by decide +kernel
theorem dX6_set_87 : decode cX6_set 87 = .ok (.iload 5, 2) := by decide +kernel
theorem dX6_set_89 : decode cX6_set 89 = .ok (.iaload, 1) := by decide +kernel
theorem dX6_set_90 : decode cX6_set 90 = .ok (.istore 6, 2) := by decide +kernel
theorem dX6_set_92 : decode cX6_set 92 = .ok (.aload_n 0, 1) := by decide +kernel
theorem dX6_set_93 : decode cX6_set 93 = .ok (.getfield 12, 3) := by decide +kernel
theorem dX6_set_96 : decode cX6_set 96 = .ok (.getfield 100, 3) := by decide +kernel
theorem dX6_set_99 : decode cX6_set 99 = .ok (.iload 5, 2) := by decide +kernel
theorem dX6_set_101 : decode cX6_set 101 = .ok (.iload 4, 2) := by decide +kernel
theorem dX6_set_103 : decode cX6_set 103 = .ok (.iastore, 1) := by decide +kernel
theorem dX6_set_104 : decode cX6_set 104 = .ok (.iload 6, 2) := by decide +kernel
theorem dX6_set_106 : decode cX6_set 106 = .ok (.ireturn, 1) := by decide +kernel
theorem dX6_set_107 : decode cX6_set 107 = .ok (.aload_n 0, 1) := by decide +kernel
theorem dX6_set_108 : decode cX6_set 108 = .ok (.ldc 64, 2) := by decide +kernel
theorem dX6_set_110 : decode cX6_set 110 = .ok (.invokevirtual 65, 3) := by decide +kernel
theorem dX6_set_113 : decode cX6_set 113 = .ok (.ireturn, 1) := by decide +kernel
def rmX6_set : Room := { frames := 3, cells := 0, slots := 0, locals := 64 }
abbrev eX6_set := Ev cX6_set 7 (some .int) RX6 rmX6_set
set_option maxRecDepth 20000 in
theorem mt_X6_set (p0 : Int32) (p1 : Int32) (p2 : Int32) (p3 : Int32) (σ : St) (Q : Int32 → St → Prop)  (hP : P_X6_set p0 p1 p2 p3 σ Q) : Mt yX6_set cX6_set 7 (some .int) rmX6_set [.ref (0), .int (p0), .int (p1), .int (p2), .int (p3)] σ (qI Q) := by
  refine Mt.of (k := 2) (ls := [.ref (0), .int (p0), .int (p1), .int (p2), .int (p3), un, un]) (by decide +kernel) rfl (Nat.le_of_ble_eq_true rfl) ?_
  show eX6_set 0 [.ref (0), .int (p0), .int (p1), .int (p2), .int (p3), un, un] [] σ _
  unfold P_X6_set at hP
  refine E_aload_n dX6_set_0 rfl ?_
  refine E_iload_n dX6_set_1 rfl ?_
  refine E_iload_n dX6_set_2 rfl ?_
  refine E_callV (As := [.int (p0), .int (p1)]) (rest := []) dX6_set_3 cl_RX6_86 tw_318 (show kd 0 = 6 by decide) (by decide) rfl tw_319 ⟨rfl, rfl, Nat.le_of_ble_eq_true rfl, Nat.le_of_ble_eq_true rfl⟩ rfl rfl (Nat.le_of_ble_eq_true rfl) (mt_X6_isStone _ _ _ _  hP) ?_
  intro r0 s0 hq0; obtain ⟨r3, h0, hs0, hP⟩ := hq0; subst h0; rw [hs0]
  show eX6_set 6 [.ref (0), .int (p0), .int (p1), .int (p2), .int (p3), un, un] [.int (bI r3)] σ _
  refine E_ifz_ne 16 dX6_set_6 (by decide) (fun hc => ?_) (fun hc => ?_)
  · replace hP := hP.1 hc
    refine E_iload_n dX6_set_16 rfl ?_
    refine E_iload_n dX6_set_17 rfl ?_
    refine E_callS (As := [.int (p0), .int (p1)]) (rest := []) dX6_set_18 cl_RX6_90 tw_16 ⟨rfl, rfl, Nat.le_of_ble_eq_true rfl, Nat.le_of_ble_eq_true rfl⟩ rfl rfl (Nat.le_of_ble_eq_true rfl) (mt_X0_place _ _ _ _  hP) ?_
    intro r0 s0 hq0; obtain ⟨r18, h0, hs0, hP⟩ := hq0; subst h0; rw [hs0]
    show eX6_set 21 [.ref (0), .int (p0), .int (p1), .int (p2), .int (p3), un, un] [.int (r18)] σ _
    refine E_istore (ls' := [.ref (0), .int (p0), .int (p1), .int (p2), .int (p3), .int (r18), un]) dX6_set_21 (by decide) rfl ?_
    refine E_iload_n dX6_set_23 rfl ?_
    refine E_iconst (v := 1) dX6_set_24 (by decide) ?_
    refine E_icmp_ne 63 dX6_set_25 (by decide) (fun hc => ?_) (fun hc => ?_)
    · replace hP := hP.1 hc
      refine E_iload_n dX6_set_63 rfl ?_
      refine E_iconst (v := 2) dX6_set_64 (by decide) ?_
      refine E_icmp_ne 107 dX6_set_65 (by decide) (fun hc => ?_) (fun hc => ?_)
      · replace hP := hP.1 hc
        refine E_aload_n dX6_set_107 rfl ?_
        refine E_ldc (v := (-1000000001)) dX6_set_108 tw_274 ?_
        refine E_callV (As := [.int ((-1000000001))]) (rest := []) dX6_set_110 cl_RX6_65 tw_279 (show kd 0 = 6 by decide) (by decide) rfl tw_280 ⟨rfl, rfl, Nat.le_of_ble_eq_true rfl, Nat.le_of_ble_eq_true rfl⟩ rfl rfl (Nat.le_of_ble_eq_true rfl) (mt_X6_finding _ _ _  hP) ?_
        rintro _ t110 ⟨r110, rfl, hP⟩
        show eX6_set 113 [.ref (0), .int (p0), .int (p1), .int (p2), .int (p3), .int (r18), un] [.int (r110)] t110 _
        exact E_iret dX6_set_113 rfl ⟨_, rfl, hP⟩
      · replace hP := hP.2 hc
        refine E_iload dX6_set_68 rfl ?_
        refine E_iconst (v := 0) dX6_set_70 (by decide) ?_
        refine E_sipush (v := 999) dX6_set_71 (by decide) ?_
        refine E_callS (As := [.int (p3), .int (0), .int (999)]) (rest := []) dX6_set_74 cl_RX6_116 tw_143 ⟨rfl, rfl, Nat.le_of_ble_eq_true rfl, Nat.le_of_ble_eq_true rfl⟩ rfl rfl (Nat.le_of_ble_eq_true rfl) (mt_X6_isWithin _ _ _ _ _  hP) ?_
        intro r0 s0 hq0; obtain ⟨r74, h0, hs0, hP⟩ := hq0; subst h0; rw [hs0]
        show eX6_set 77 [.ref (0), .int (p0), .int (p1), .int (p2), .int (p3), .int (r18), un] [.int (bI r74)] σ _
        refine E_ifz_eq 107 dX6_set_77 (by decide) (fun hc => ?_) (fun hc => ?_)
        · replace hP := hP.1 hc
          refine E_aload_n dX6_set_107 rfl ?_
          refine E_ldc (v := (-1000000001)) dX6_set_108 tw_274 ?_
          refine E_callV (As := [.int ((-1000000001))]) (rest := []) dX6_set_110 cl_RX6_65 tw_279 (show kd 0 = 6 by decide) (by decide) rfl tw_280 ⟨rfl, rfl, Nat.le_of_ble_eq_true rfl, Nat.le_of_ble_eq_true rfl⟩ rfl rfl (Nat.le_of_ble_eq_true rfl) (mt_X6_finding _ _ _  hP) ?_
          rintro _ t110 ⟨r110, rfl, hP⟩
          show eX6_set 113 [.ref (0), .int (p0), .int (p1), .int (p2), .int (p3), .int (r18), un] [.int (r110)] t110 _
          exact E_iret dX6_set_113 rfl ⟨_, rfl, hP⟩
        · replace hP := hP.2 hc
          refine E_aload_n dX6_set_80 rfl ?_
          refine E_getR (j := 0) dX6_set_81 (show kd 0 = 6 by decide) (by decide) rfl fd_RX6_12 (by decide) ?_
          refine E_getR (j := 2) dX6_set_84 (ar_6_1 (show kd 0 = 6 by decide)).1 (by decide) rfl fd_RX6_100 (by decide) ?_
          refine E_iload dX6_set_87 rfl ?_
          obtain ⟨hb, hP⟩ := hP
          refine E_iald dX6_set_89 (ar_0_3 (ar_6_1 (show kd 0 = 6 by decide)).1).1 (ar_0_3 (ar_6_1 (show kd 0 = 6 by decide)).1).2 hb ?_
          refine E_istore (ls' := [.ref (0), .int (p0), .int (p1), .int (p2), .int (p3), .int (r18), .int (gI σ 4 r18.toNatClampNeg)]) dX6_set_90 (by decide) rfl ?_
          refine E_aload_n dX6_set_92 rfl ?_
          refine E_getR (j := 0) dX6_set_93 (show kd 0 = 6 by decide) (by decide) rfl fd_RX6_12 (by decide) ?_
          refine E_getR (j := 2) dX6_set_96 (ar_6_1 (show kd 0 = 6 by decide)).1 (by decide) rfl fd_RX6_100 (by decide) ?_
          refine E_iload dX6_set_99 rfl ?_
          refine E_iload dX6_set_101 rfl ?_
          obtain ⟨hb, hP⟩ := hP
          refine E_iast dX6_set_103 (ar_0_3 (ar_6_1 (show kd 0 = 6 by decide)).1).1 (ar_0_3 (ar_6_1 (show kd 0 = 6 by decide)).1).2 hb ?_
          refine E_iload dX6_set_104 rfl ?_
          exact E_iret dX6_set_106 rfl ⟨_, rfl, hP⟩
    · replace hP := hP.2 hc
      refine E_iload dX6_set_28 rfl ?_
      refine E_callS (As := [.int (p3)]) (rest := []) dX6_set_30 cl_RX6_61 tw_287 ⟨rfl, rfl, Nat.le_of_ble_eq_true rfl, Nat.le_of_ble_eq_true rfl⟩ rfl rfl (Nat.le_of_ble_eq_true rfl) (mt_X6_isHigh _ _ _  hP) ?_
      intro r0 s0 hq0; obtain ⟨r30, h0, hs0, hP⟩ := hq0; subst h0; rw [hs0]
      show eX6_set 33 [.ref (0), .int (p0), .int (p1), .int (p2), .int (p3), .int (r18), un] [.int (bI r30)] σ _
      refine E_ifz_eq 63 dX6_set_33 (by decide) (fun hc => ?_) (fun hc => ?_)
      · replace hP := hP.1 hc
        refine E_iload_n dX6_set_63 rfl ?_
        refine E_iconst (v := 2) dX6_set_64 (by decide) ?_
        refine E_icmp_ne 107 dX6_set_65 (by decide) (fun hc => ?_) (fun hc => ?_)
        · replace hP := hP.1 hc
          refine E_aload_n dX6_set_107 rfl ?_
          refine E_ldc (v := (-1000000001)) dX6_set_108 tw_274 ?_
          refine E_callV (As := [.int ((-1000000001))]) (rest := []) dX6_set_110 cl_RX6_65 tw_279 (show kd 0 = 6 by decide) (by decide) rfl tw_280 ⟨rfl, rfl, Nat.le_of_ble_eq_true rfl, Nat.le_of_ble_eq_true rfl⟩ rfl rfl (Nat.le_of_ble_eq_true rfl) (mt_X6_finding _ _ _  hP) ?_
          rintro _ t110 ⟨r110, rfl, hP⟩
          show eX6_set 113 [.ref (0), .int (p0), .int (p1), .int (p2), .int (p3), .int (r18), un] [.int (r110)] t110 _
          exact E_iret dX6_set_113 rfl ⟨_, rfl, hP⟩
        · replace hP := hP.2 hc
          refine E_iload dX6_set_68 rfl ?_
          refine E_iconst (v := 0) dX6_set_70 (by decide) ?_
          refine E_sipush (v := 999) dX6_set_71 (by decide) ?_
          refine E_callS (As := [.int (p3), .int (0), .int (999)]) (rest := []) dX6_set_74 cl_RX6_116 tw_143 ⟨rfl, rfl, Nat.le_of_ble_eq_true rfl, Nat.le_of_ble_eq_true rfl⟩ rfl rfl (Nat.le_of_ble_eq_true rfl) (mt_X6_isWithin _ _ _ _ _  hP) ?_
          intro r0 s0 hq0; obtain ⟨r74, h0, hs0, hP⟩ := hq0; subst h0; rw [hs0]
          show eX6_set 77 [.ref (0), .int (p0), .int (p1), .int (p2), .int (p3), .int (r18), un] [.int (bI r74)] σ _
          refine E_ifz_eq 107 dX6_set_77 (by decide) (fun hc => ?_) (fun hc => ?_)
          · replace hP := hP.1 hc
            refine E_aload_n dX6_set_107 rfl ?_
            refine E_ldc (v := (-1000000001)) dX6_set_108 tw_274 ?_
            refine E_callV (As := [.int ((-1000000001))]) (rest := []) dX6_set_110 cl_RX6_65 tw_279 (show kd 0 = 6 by decide) (by decide) rfl tw_280 ⟨rfl, rfl, Nat.le_of_ble_eq_true rfl, Nat.le_of_ble_eq_true rfl⟩ rfl rfl (Nat.le_of_ble_eq_true rfl) (mt_X6_finding _ _ _  hP) ?_
            rintro _ t110 ⟨r110, rfl, hP⟩
            show eX6_set 113 [.ref (0), .int (p0), .int (p1), .int (p2), .int (p3), .int (r18), un] [.int (r110)] t110 _
            exact E_iret dX6_set_113 rfl ⟨_, rfl, hP⟩
          · replace hP := hP.2 hc
            refine E_aload_n dX6_set_80 rfl ?_
            refine E_getR (j := 0) dX6_set_81 (show kd 0 = 6 by decide) (by decide) rfl fd_RX6_12 (by decide) ?_
            refine E_getR (j := 2) dX6_set_84 (ar_6_1 (show kd 0 = 6 by decide)).1 (by decide) rfl fd_RX6_100 (by decide) ?_
            refine E_iload dX6_set_87 rfl ?_
            obtain ⟨hb, hP⟩ := hP
            refine E_iald dX6_set_89 (ar_0_3 (ar_6_1 (show kd 0 = 6 by decide)).1).1 (ar_0_3 (ar_6_1 (show kd 0 = 6 by decide)).1).2 hb ?_
            refine E_istore (ls' := [.ref (0), .int (p0), .int (p1), .int (p2), .int (p3), .int (r18), .int (gI σ 4 r18.toNatClampNeg)]) dX6_set_90 (by decide) rfl ?_
            refine E_aload_n dX6_set_92 rfl ?_
            refine E_getR (j := 0) dX6_set_93 (show kd 0 = 6 by decide) (by decide) rfl fd_RX6_12 (by decide) ?_
            refine E_getR (j := 2) dX6_set_96 (ar_6_1 (show kd 0 = 6 by decide)).1 (by decide) rfl fd_RX6_100 (by decide) ?_
            refine E_iload dX6_set_99 rfl ?_
            refine E_iload dX6_set_101 rfl ?_
            obtain ⟨hb, hP⟩ := hP
            refine E_iast dX6_set_103 (ar_0_3 (ar_6_1 (show kd 0 = 6 by decide)).1).1 (ar_0_3 (ar_6_1 (show kd 0 = 6 by decide)).1).2 hb ?_
            refine E_iload dX6_set_104 rfl ?_
            exact E_iret dX6_set_106 rfl ⟨_, rfl, hP⟩
      · replace hP := hP.2 hc
        refine E_aload_n dX6_set_36 rfl ?_
        refine E_getR (j := 0) dX6_set_37 (show kd 0 = 6 by decide) (by decide) rfl fd_RX6_12 (by decide) ?_
        refine E_getR (j := 1) dX6_set_40 (ar_6_1 (show kd 0 = 6 by decide)).1 (by decide) rfl fd_RX6_97 (by decide) ?_
        refine E_iload dX6_set_43 rfl ?_
        obtain ⟨hb, hP⟩ := hP
        refine E_iald dX6_set_45 (ar_0_2 (ar_6_1 (show kd 0 = 6 by decide)).1).1 (ar_0_2 (ar_6_1 (show kd 0 = 6 by decide)).1).2 hb ?_
        refine E_istore (ls' := [.ref (0), .int (p0), .int (p1), .int (p2), .int (p3), .int (r18), .int (gI σ 3 r18.toNatClampNeg)]) dX6_set_46 (by decide) rfl ?_
        refine E_aload_n dX6_set_48 rfl ?_
        refine E_getR (j := 0) dX6_set_49 (show kd 0 = 6 by decide) (by decide) rfl fd_RX6_12 (by decide) ?_
        refine E_getR (j := 1) dX6_set_52 (ar_6_1 (show kd 0 = 6 by decide)).1 (by decide) rfl fd_RX6_97 (by decide) ?_
        refine E_iload dX6_set_55 rfl ?_
        refine E_iload dX6_set_57 rfl ?_
        obtain ⟨hb, hP⟩ := hP
        refine E_iast dX6_set_59 (ar_0_2 (ar_6_1 (show kd 0 = 6 by decide)).1).1 (ar_0_2 (ar_6_1 (show kd 0 = 6 by decide)).1).2 hb ?_
        refine E_iload dX6_set_60 rfl ?_
        exact E_iret dX6_set_62 rfl ⟨_, rfl, hP⟩
  · replace hP := hP.2 hc
    refine E_aload_n dX6_set_9 rfl ?_
    refine E_ldc (v := (-1000000001)) dX6_set_10 tw_274 ?_
    refine E_callV (As := [.int ((-1000000001))]) (rest := []) dX6_set_12 cl_RX6_65 tw_279 (show kd 0 = 6 by decide) (by decide) rfl tw_280 ⟨rfl, rfl, Nat.le_of_ble_eq_true rfl, Nat.le_of_ble_eq_true rfl⟩ rfl rfl (Nat.le_of_ble_eq_true rfl) (mt_X6_finding _ _ _  hP) ?_
    rintro _ t12 ⟨r12, rfl, hP⟩
    show eX6_set 15 [.ref (0), .int (p0), .int (p1), .int (p2), .int (p3), un, un] [.int (r12)] t12 _
    exact E_iret dX6_set_15 rfl ⟨_, rfl, hP⟩
theorem dX6_turn_0 : decode cX6_turn 0 = .ok (.aload_n 0, 1) := by decide +kernel
theorem dX6_turn_1 : decode cX6_turn 1 = .ok (.iload_n 1, 1) := by decide +kernel
theorem dX6_turn_2 : decode cX6_turn 2 = .ok (.iload_n 2, 1) := by decide +kernel
theorem dX6_turn_3 : decode cX6_turn 3 = .ok (.invokevirtual 86, 3) := by decide +kernel
theorem dX6_turn_6 : decode cX6_turn 6 = .ok (.ifCond .eq 10, 3) := by decide +kernel
theorem dX6_turn_9 : decode cX6_turn 9 = .ok (.iload_n 3, 1) := by decide +kernel
theorem dX6_turn_10 : decode cX6_turn 10 = .ok (.invokestatic 54, 3) := by decide +kernel
theorem dX6_turn_13 : decode cX6_turn 13 = .ok (.ifCond .ne 10, 3) := by decide +kernel
theorem dX6_turn_16 : decode cX6_turn 16 = .ok (.aload_n 0, 1) := by decide +kernel
theorem dX6_turn_17 : decode cX6_turn 17 = .ok (.ldc 64, 2) := by decide +kernel
theorem dX6_turn_19 : decode cX6_turn 19 = .ok (.invokevirtual 65, 3) := by decide +kernel
theorem dX6_turn_22 : decode cX6_turn 22 = .ok (.ireturn, 1) := by decide +kernel
theorem dX6_turn_23 : decode cX6_turn 23 = .ok (.iload_n 1, 1) := by decide +kernel
theorem dX6_turn_24 : decode cX6_turn 24 = .ok (.iload_n 2, 1) := by decide +kernel
theorem dX6_turn_25 : decode cX6_turn 25 = .ok (.invokestatic 90, 3) := by decide +kernel
theorem dX6_turn_28 : decode cX6_turn 28 = .ok (.istore 4, 2) := by decide +kernel
theorem dX6_turn_30 : decode cX6_turn 30 = .ok (.aload_n 0, 1) := by decide +kernel
theorem dX6_turn_31 : decode cX6_turn 31 = .ok (.getfield 12, 3) := by decide +kernel
theorem dX6_turn_34 : decode cX6_turn 34 = .ok (.getfield 94, 3) := by decide +kernel
theorem dX6_turn_37 : decode cX6_turn 37 = .ok (.iload 4, 2) := by decide +kernel
theorem dX6_turn_39 : decode cX6_turn 39 = .ok (.iaload, 1) := by decide +kernel
theorem dX6_turn_40 : decode cX6_turn 40 = .ok (.istore 5, 2) := by decide +kernel
theorem dX6_turn_42 : decode cX6_turn 42 = .ok (.aload_n 0, 1) := by decide +kernel
theorem dX6_turn_43 : decode cX6_turn 43 = .ok (.getfield 12, 3) := by decide +kernel
theorem dX6_turn_46 : decode cX6_turn 46 = .ok (.getfield 94, 3) := by decide +kernel
theorem dX6_turn_49 : decode cX6_turn 49 = .ok (.iload 4, 2) := by decide +kernel
theorem dX6_turn_51 : decode cX6_turn 51 = .ok (.iload_n 3, 1) := by decide +kernel
theorem dX6_turn_52 : decode cX6_turn 52 = .ok (.iastore, 1) := by decide +kernel
theorem dX6_turn_53 : decode cX6_turn 53 = .ok (.iload 5, 2) := by decide +kernel
theorem dX6_turn_55 : decode cX6_turn 55 = .ok (.ireturn, 1) := by decide +kernel
def rmX6_turn : Room := { frames := 3, cells := 0, slots := 0, locals := 64 }
abbrev eX6_turn := Ev cX6_turn 6 (some .int) RX6 rmX6_turn
set_option maxRecDepth 20000 in
theorem mt_X6_turn (p0 : Int32) (p1 : Int32) (p2 : Int32) (σ : St) (Q : Int32 → St → Prop)  (hP : P_X6_turn p0 p1 p2 σ Q) : Mt yX6_turn cX6_turn 6 (some .int) rmX6_turn [.ref (0), .int (p0), .int (p1), .int (p2)] σ (qI Q) := by
  refine Mt.of (k := 2) (ls := [.ref (0), .int (p0), .int (p1), .int (p2), un, un]) (by decide +kernel) rfl (Nat.le_of_ble_eq_true rfl) ?_
  show eX6_turn 0 [.ref (0), .int (p0), .int (p1), .int (p2), un, un] [] σ _
  unfold P_X6_turn at hP
  refine E_aload_n dX6_turn_0 rfl ?_
  refine E_iload_n dX6_turn_1 rfl ?_
  refine E_iload_n dX6_turn_2 rfl ?_
  refine E_callV (As := [.int (p0), .int (p1)]) (rest := []) dX6_turn_3 cl_RX6_86 tw_318 (show kd 0 = 6 by decide) (by decide) rfl tw_319 ⟨rfl, rfl, Nat.le_of_ble_eq_true rfl, Nat.le_of_ble_eq_true rfl⟩ rfl rfl (Nat.le_of_ble_eq_true rfl) (mt_X6_isStone _ _ _ _  hP) ?_
  intro r0 s0 hq0; obtain ⟨r3, h0, hs0, hP⟩ := hq0; subst h0; rw [hs0]
  show eX6_turn 6 [.ref (0), .int (p0), .int (p1), .int (p2), un, un] [.int (bI r3)] σ _
  refine E_ifz_eq 16 dX6_turn_6 (by decide) (fun hc => ?_) (fun hc => ?_)
  · replace hP := hP.1 hc
    refine E_aload_n dX6_turn_16 rfl ?_
    refine E_ldc (v := (-1000000001)) dX6_turn_17 tw_274 ?_
    refine E_callV (As := [.int ((-1000000001))]) (rest := []) dX6_turn_19 cl_RX6_65 tw_279 (show kd 0 = 6 by decide) (by decide) rfl tw_280 ⟨rfl, rfl, Nat.le_of_ble_eq_true rfl, Nat.le_of_ble_eq_true rfl⟩ rfl rfl (Nat.le_of_ble_eq_true rfl) (mt_X6_finding _ _ _  hP) ?_
    rintro _ t19 ⟨r19, rfl, hP⟩
    show eX6_turn 22 [.ref (0), .int (p0), .int (p1), .int (p2), un, un] [.int (r19)] t19 _
    exact E_iret dX6_turn_22 rfl ⟨_, rfl, hP⟩
  · replace hP := hP.2 hc
    refine E_iload_n dX6_turn_9 rfl ?_
    refine E_callS (As := [.int (p2)]) (rest := []) dX6_turn_10 cl_RX6_54 tw_293 ⟨rfl, rfl, Nat.le_of_ble_eq_true rfl, Nat.le_of_ble_eq_true rfl⟩ rfl rfl (Nat.le_of_ble_eq_true rfl) (mt_X6_isKind _ _ _  hP) ?_
    intro r0 s0 hq0; obtain ⟨r10, h0, hs0, hP⟩ := hq0; subst h0; rw [hs0]
    show eX6_turn 13 [.ref (0), .int (p0), .int (p1), .int (p2), un, un] [.int (bI r10)] σ _
    refine E_ifz_ne 23 dX6_turn_13 (by decide) (fun hc => ?_) (fun hc => ?_)
    · replace hP := hP.1 hc
      refine E_iload_n dX6_turn_23 rfl ?_
      refine E_iload_n dX6_turn_24 rfl ?_
      refine E_callS (As := [.int (p0), .int (p1)]) (rest := []) dX6_turn_25 cl_RX6_90 tw_16 ⟨rfl, rfl, Nat.le_of_ble_eq_true rfl, Nat.le_of_ble_eq_true rfl⟩ rfl rfl (Nat.le_of_ble_eq_true rfl) (mt_X0_place _ _ _ _  hP) ?_
      intro r0 s0 hq0; obtain ⟨r25, h0, hs0, hP⟩ := hq0; subst h0; rw [hs0]
      show eX6_turn 28 [.ref (0), .int (p0), .int (p1), .int (p2), un, un] [.int (r25)] σ _
      refine E_istore (ls' := [.ref (0), .int (p0), .int (p1), .int (p2), .int (r25), un]) dX6_turn_28 (by decide) rfl ?_
      refine E_aload_n dX6_turn_30 rfl ?_
      refine E_getR (j := 0) dX6_turn_31 (show kd 0 = 6 by decide) (by decide) rfl fd_RX6_12 (by decide) ?_
      refine E_getR (j := 0) dX6_turn_34 (ar_6_1 (show kd 0 = 6 by decide)).1 (by decide) rfl fd_RX6_94 (by decide) ?_
      refine E_iload dX6_turn_37 rfl ?_
      obtain ⟨hb, hP⟩ := hP
      refine E_iald dX6_turn_39 (ar_0_1 (ar_6_1 (show kd 0 = 6 by decide)).1).1 (ar_0_1 (ar_6_1 (show kd 0 = 6 by decide)).1).2 hb ?_
      refine E_istore (ls' := [.ref (0), .int (p0), .int (p1), .int (p2), .int (r25), .int (gI σ 2 r25.toNatClampNeg)]) dX6_turn_40 (by decide) rfl ?_
      refine E_aload_n dX6_turn_42 rfl ?_
      refine E_getR (j := 0) dX6_turn_43 (show kd 0 = 6 by decide) (by decide) rfl fd_RX6_12 (by decide) ?_
      refine E_getR (j := 0) dX6_turn_46 (ar_6_1 (show kd 0 = 6 by decide)).1 (by decide) rfl fd_RX6_94 (by decide) ?_
      refine E_iload dX6_turn_49 rfl ?_
      refine E_iload_n dX6_turn_51 rfl ?_
      obtain ⟨hb, hP⟩ := hP
      refine E_iast dX6_turn_52 (ar_0_1 (ar_6_1 (show kd 0 = 6 by decide)).1).1 (ar_0_1 (ar_6_1 (show kd 0 = 6 by decide)).1).2 hb ?_
      refine E_iload dX6_turn_53 rfl ?_
      exact E_iret dX6_turn_55 rfl ⟨_, rfl, hP⟩
    · replace hP := hP.2 hc
      refine E_aload_n dX6_turn_16 rfl ?_
      refine E_ldc (v := (-1000000001)) dX6_turn_17 tw_274 ?_
      refine E_callV (As := [.int ((-1000000001))]) (rest := []) dX6_turn_19 cl_RX6_65 tw_279 (show kd 0 = 6 by decide) (by decide) rfl tw_280 ⟨rfl, rfl, Nat.le_of_ble_eq_true rfl, Nat.le_of_ble_eq_true rfl⟩ rfl rfl (Nat.le_of_ble_eq_true rfl) (mt_X6_finding _ _ _  hP) ?_
      rintro _ t19 ⟨r19, rfl, hP⟩
      show eX6_turn 22 [.ref (0), .int (p0), .int (p1), .int (p2), un, un] [.int (r19)] t19 _
      exact E_iret dX6_turn_22 rfl ⟨_, rfl, hP⟩
theorem dX6_isUnder_0 : decode cX6_isUnder 0 = .ok (.iload_n 0, 1) := by decide +kernel
theorem dX6_isUnder_1 : decode cX6_isUnder 1 = .ok (.istore_n 2, 1) := by decide +kernel
theorem dX6_isUnder_2 : decode cX6_isUnder 2 = .ok (.iconst 0, 1) := by decide +kernel
theorem dX6_isUnder_3 : decode cX6_isUnder 3 = .ok (.istore_n 3, 1) := by decide +kernel
theorem dX6_isUnder_4 : decode cX6_isUnder 4 = .ok (.iload_n 3, 1) := by decide +kernel
theorem dX6_isUnder_5 : decode cX6_isUnder 5 = .ok (.bipush 6, 2) := by decide +kernel
theorem dX6_isUnder_7 : decode cX6_isUnder 7 = .ok (.if_icmp .ge 26, 3) := by decide +kernel
theorem dX6_isUnder_10 : decode cX6_isUnder 10 = .ok (.iload_n 2, 1) := by decide +kernel
theorem dX6_isUnder_11 : decode cX6_isUnder 11 = .ok (.ifCond .lt 22, 3) := by decide +kernel
theorem dX6_isUnder_14 : decode cX6_isUnder 14 = .ok (.iload_n 2, 1) := by decide +kernel
theorem dX6_isUnder_15 : decode cX6_isUnder 15 = .ok (.iload_n 1, 1) := by decide +kernel
theorem dX6_isUnder_16 : decode cX6_isUnder 16 = .ok (.if_icmp .ne 5, 3) := by decide +kernel
theorem dX6_isUnder_19 : decode cX6_isUnder 19 = .ok (.iconst 1, 1) := by decide +kernel
theorem dX6_isUnder_20 : decode cX6_isUnder 20 = .ok (.ireturn, 1) := by decide +kernel
theorem dX6_isUnder_21 : decode cX6_isUnder 21 = .ok (.getstatic 308, 3) := by decide +kernel
theorem dX6_isUnder_24 : decode cX6_isUnder 24 = .ok (.iload_n 2, 1) := by decide +kernel
theorem dX6_isUnder_25 : decode cX6_isUnder 25 = .ok (.iaload, 1) := by decide +kernel
theorem dX6_isUnder_26 : decode cX6_isUnder 26 = .ok (.istore_n 2, 1) := by decide +kernel
theorem dX6_isUnder_27 : decode cX6_isUnder 27 = .ok (.iinc 3 1, 3) := by decide +kernel
theorem dX6_isUnder_30 : decode cX6_isUnder 30 = .ok (.goto (-26), 3) := by decide +kernel
theorem dX6_isUnder_33 : decode cX6_isUnder 33 = .ok (.iconst 0, 1) := by decide +kernel
theorem dX6_isUnder_34 : decode cX6_isUnder 34 = .ok (.ireturn, 1) := by decide +kernel
def rmX6_isUnder : Room := { frames := 0, cells := 0, slots := 0, locals := 0 }
abbrev eX6_isUnder := Ev cX6_isUnder 4 (some .boolean) RX6 rmX6_isUnder
set_option maxRecDepth 20000 in
theorem ev_X6_isUnder_l4 (l1 : Int32)  (K : St → Prop) (Q : Bool → Prop) (σ0 : St) (hK : ∀  s, K  s → s = σ0 → eX6_isUnder 33 [un, un, un, un] [] s (qB fun x s => s = σ0 ∧ Q x)) : ∀ (n : Nat) (l2 : Int32) (l3 : Int32) (σ : St), σ = σ0 → P_X6_isUnder_l4 l1 K Q n l2 l3 σ → eX6_isUnder 4 [un, .int (l1), .int (l2), .int (l3)] [] σ (qB fun x s => s = σ0 ∧ Q x) := by
  intro n
  induction n with
  | zero => intro l2 l3 σ hs hP; exact hP.elim
  | succ n ih =>
    intro l2 l3 σ hs hP
    subst hs
    rw [P_X6_isUnder_l4] at hP
    refine E_iload_n dX6_isUnder_4 rfl ?_
    refine E_bipush (v := 6) dX6_isUnder_5 (by decide) ?_
    refine E_icmp_ge 33 dX6_isUnder_7 (by decide) (fun hc => ?_) (fun hc => ?_)
    · replace hP := hP.1 hc
      refine E_mask [false, false, false, false] rfl ?_
      exact hK  _ hP rfl
    · replace hP := hP.2 hc
      refine E_iload_n dX6_isUnder_10 rfl ?_
      refine E_if_lt 33 dX6_isUnder_11 (by decide) (fun hc => ?_) (fun hc => ?_)
      · replace hP := hP.1 hc
        refine E_mask [false, false, false, false] rfl ?_
        exact hK  _ hP rfl
      · replace hP := hP.2 hc
        refine E_iload_n dX6_isUnder_14 rfl ?_
        refine E_iload_n dX6_isUnder_15 rfl ?_
        refine E_icmp_ne 21 dX6_isUnder_16 (by decide) (fun hc => ?_) (fun hc => ?_)
        · replace hP := hP.1 hc
          refine E_above dX6_isUnder_21 tw_320 ?_
          refine E_iload_n dX6_isUnder_24 rfl ?_
          obtain ⟨hb, hP⟩ := hP
          refine E_aboveAt dX6_isUnder_25 hb ?_
          refine E_istore_n (ls' := [un, .int (l1), .int (aboveL.getD l2.toNatClampNeg 0), .int (l3)]) dX6_isUnder_26 (by decide) rfl ?_
          refine E_iinc (ls' := [un, .int (l1), .int (aboveL.getD l2.toNatClampNeg 0), .int (l3 + 1)]) dX6_isUnder_27 rfl rfl (by decide) rfl ?_
          refine E_goto 4 dX6_isUnder_30 (by decide) ?_
          exact ih (aboveL.getD l2.toNatClampNeg 0) (l3 + 1) _ rfl hP
        · replace hP := hP.2 hc
          refine E_iconst (v := 1) dX6_isUnder_19 (by decide) ?_
          exact E_nret dX6_isUnder_20 rfl (nar_b true) ⟨true, rfl, rfl, hP⟩
set_option maxRecDepth 20000 in
theorem mt_X6_isUnder (p0 : Int32) (p1 : Int32) (σ : St) (Q : Bool → Prop)  (hP : P_X6_isUnder p0 p1 σ Q) : Mt yX6_isUnder cX6_isUnder 4 (some .boolean) rmX6_isUnder [.int (p0), .int (p1)] σ (qB fun x s => s = σ ∧ Q x) := by
  refine Mt.of (k := 2) (ls := [.int (p0), .int (p1), un, un]) (by decide +kernel) rfl (Nat.le_of_ble_eq_true rfl) ?_
  show eX6_isUnder 0 [.int (p0), .int (p1), un, un] [] σ _
  unfold P_X6_isUnder at hP
  refine E_iload_n dX6_isUnder_0 rfl ?_
  refine E_istore_n (ls' := [.int (p0), .int (p1), .int (p0), un]) dX6_isUnder_1 (by decide) rfl ?_
  refine E_iconst (v := 0) dX6_isUnder_2 (by decide) ?_
  refine E_istore_n (ls' := [.int (p0), .int (p1), .int (p0), .int (0)]) dX6_isUnder_3 (by decide) rfl ?_
  refine E_mask [false, true, true, true] rfl ?_
  obtain ⟨m4, hP⟩ := hP
  refine ev_X6_isUnder_l4 (p1)  _ Q σ ?_ m4 _ _ _ rfl hP
  intro  t33 hP hs
  rw [hs]
  refine E_iconst (v := 0) dX6_isUnder_33 (by decide) ?_
  exact E_nret dX6_isUnder_34 rfl (nar_b false) ⟨false, rfl, rfl, hP⟩
