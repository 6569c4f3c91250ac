theorem dX4_step_0 : decode cX4_step 0 = .ok (.aload_n 0, 1) := by decide +kernel
theorem dX4_step_1 : decode cX4_step 1 = .ok (.aload_n 0, 1) := by decide +kernel
theorem dX4_step_2 : decode cX4_step 2 = .ok (.getfield 19, 3) := by decide +kernel
theorem dX4_step_5 : decode cX4_step 5 = .ok (.putfield 25, 3) := by decide +kernel
theorem dX4_step_8 : decode cX4_step 8 = .ok (.aload_n 0, 1) := by decide +kernel
theorem dX4_step_9 : decode cX4_step 9 = .ok (.getfield 25, 3) := by decide +kernel
theorem dX4_step_12 : decode cX4_step 12 = .ok (.aload_n 0, 1) := by decide +kernel
theorem dX4_step_13 : decode cX4_step 13 = .ok (.getfield 15, 3) := by decide +kernel
theorem dX4_step_16 : decode cX4_step 16 = .ok (.if_icmp .ge 30, 3) := by decide +kernel
theorem dX4_step_19 : decode cX4_step 19 = .ok (.aload_n 0, 1) := by decide +kernel
theorem dX4_step_20 : decode cX4_step 20 = .ok (.getfield 9, 3) := by decide +kernel
theorem dX4_step_23 : decode cX4_step 23 = .ok (.aload_n 0, 1) := by decide +kernel
theorem dX4_step_24 : decode cX4_step 24 = .ok (.getfield 25, 3) := by decide +kernel
theorem dX4_step_27 : decode cX4_step 27 = .ok (.iaload, 1) := by decide +kernel
theorem dX4_step_28 : decode cX4_step 28 = .ok (.bipush 32, 2) := by decide +kernel
theorem dX4_step_30 : decode cX4_step 30 = .ok (.if_icmp .ne 16, 3) := by decide +kernel
theorem dX4_step_33 : decode cX4_step 33 = .ok (.aload_n 0, 1) := by decide +kernel
theorem dX4_step_34 : decode cX4_step 34 = .ok (.dup, 1) := by decide +kernel
theorem dX4_step_35 : decode cX4_step 35 = .ok (.getfield 25, 3) := by decide +kernel
theorem dX4_step_38 : decode cX4_step 38 = .ok (.iconst 1, 1) := by decide +kernel
theorem dX4_step_39 : decode cX4_step 39 = .ok (.iadd, 1) := by decide +kernel
theorem dX4_step_40 : decode cX4_step 40 = .ok (.putfield 25, 3) := by decide +kernel
theorem dX4_step_43 : decode cX4_step 43 = .ok (.goto (-35), 3) := by decide +kernel
theorem dX4_step_46 : decode cX4_step 46 = .ok (.aload_n 0, 1) := by decide +kernel
theorem dX4_step_47 : decode cX4_step 47 = .ok (.aload_n 0, 1) := by decide +kernel
theorem dX4_step_48 : decode cX4_step 48 = .ok (.getfield 25, 3) := by decide +kernel
theorem dX4_step_51 : decode cX4_step 51 = .ok (.putfield 19, 3) := by decide +kernel
theorem dX4_step_54 : decode cX4_step 54 = .ok (.aload_n 0, 1) := by decide +kernel
theorem dX4_step_55 : decode cX4_step 55 = .ok (.getfield 25, 3) := by decide +kernel
theorem dX4_step_58 : decode cX4_step 58 = .ok (.aload_n 0, 1) := by decide +kernel
theorem dX4_step_59 : decode cX4_step 59 = .ok (.getfield 15, 3) := by decide +kernel
theorem dX4_step_62 : decode cX4_step 62 = .ok (.if_icmp .lt 11, 3) := by decide +kernel
theorem dX4_step_65 : decode cX4_step 65 = .ok (.aload_n 0, 1) := by decide +kernel
theorem dX4_step_66 : decode cX4_step 66 = .ok (.iconst 0, 1) := by decide +kernel
theorem dX4_step_67 : decode cX4_step 67 = .ok (.putfield 28, 3) := by decide +kernel
theorem dX4_step_70 : decode cX4_step 70 = .ok (.goto 82, 3) := by decide +kernel
theorem dX4_step_73 : decode cX4_step 73 = .ok (.aload_n 0, 1) := by decide +kernel
theorem dX4_step_74 : decode cX4_step 74 = .ok (.aload_n 0, 1) := by decide +kernel
theorem dX4_step_75 : decode cX4_step 75 = .ok (.getfield 25, 3) := by decide +kernel
theorem dX4_step_78 : decode cX4_step 78 = .ok (.invokevirtual 31, 3) := by decide +kernel
theorem dX4_step_81 : decode cX4_step 81 = .ok (.ifCond .eq 15, 3) := by decide +kernel
theorem dX4_step_84 : decode cX4_step 84 = .ok (.aload_n 0, 1) := by decide +kernel
theorem dX4_step_85 : decode cX4_step 85 = .ok (.iconst 1, 1) := by decide +kernel
theorem dX4_step_86 : decode cX4_step 86 = .ok (.putfield 28, 3) := by decide +kernel
theorem dX4_step_89 : decode cX4_step 89 = .ok (.aload_n 0, 1) := by decide +kernel
theorem dX4_step_90 : decode cX4_step 90 = .ok (.invokevirtual 35, 3) := by decide +kernel
theorem dX4_step_93 : decode cX4_step 93 = .ok (.goto 59, 3) := by decide +kernel
theorem dX4_step_96 : decode cX4_step 96 = .ok (.aload_n 0, 1) := by decide +kernel
theorem dX4_step_97 : decode cX4_step 97 = .ok (.aload_n 0, 1) := by decide +kernel
theorem dX4_step_98 : decode cX4_step 98 = .ok (.getfield 25, 3) := by decide +kernel
theorem dX4_step_101 : decode cX4_step 101 = .ok (.invokevirtual 38, 3) := by decide +kernel
theorem dX4_step_104 : decode cX4_step 104 = .ok (.ifCond .eq 15, 3) := by decide +kernel
theorem dX4_step_107 : decode cX4_step 107 = .ok (.aload_n 0, 1) := by decide +kernel
theorem dX4_step_108 : decode cX4_step 108 = .ok (.iconst 2, 1) := by decide +kernel
theorem dX4_step_109 : decode cX4_step 109 = .ok (.putfield 28, 3) := by decide +kernel
theorem dX4_step_112 : decode cX4_step 112 = .ok (.aload_n 0, 1) := by decide +kernel
theorem dX4_step_113 : decode cX4_step 113 = .ok (.invokevirtual 41, 3) := by decide +kernel
theorem dX4_step_116 : decode cX4_step 116 = .ok (.goto 36, 3) := by decide +kernel
theorem dX4_step_119 : decode cX4_step 119 = .ok (.aload_n 0, 1) := by decide +kernel
theorem dX4_step_120 : decode cX4_step 120 = .ok (.aload_n 0, 1) := by decide +kernel
theorem dX4_step_121 : decode cX4_step 121 = .ok (.getfield 9, 3) := by decide +kernel
theorem dX4_step_124 : decode cX4_step 124 = .ok (.aload_n 0, 1) := by decide +kernel
theorem dX4_step_125 : decode cX4_step 125 = .ok (.getfield 25, 3) := by decide +kernel
theorem dX4_step_128 : decode cX4_step 128 = .ok (.iaload, 1) := by decide +kernel
theorem dX4_step_129 : decode cX4_step 129 = .ok (.bipush 59, 2) := by decide +kernel
theorem dX4_step_131 : decode cX4_step 131 = .ok (.if_icmp .ne 7, 3) := by decide +kernel
theorem dX4_step_134 : decode cX4_step 134 = .ok (.iconst 3, 1) := by decide +kernel
theorem dX4_step_135 : decode cX4_step 135 = .ok (.goto 4, 3) := by decide +kernel
theorem dX4_step_138 : decode cX4_step 138 = .ok (.iconst 4, 1) := by decide +kernel
theorem dX4_step_139 : decode cX4_step 139 = .ok (.putfield 28, 3) := by decide +kernel
theorem dX4_step_142 : decode cX4_step 142 = .ok (.aload_n 0, 1) := by decide +kernel
theorem dX4_step_143 : decode cX4_step 143 = .ok (.dup, 1) := by decide +kernel
theorem dX4_step_144 : decode cX4_step 144 = .ok (.getfield 19, 3) := by decide +kernel
theorem dX4_step_147 : decode cX4_step 147 = .ok (.iconst 1, 1) := by decide +kernel
theorem dX4_step_148 : decode cX4_step 148 = .ok (.iadd, 1) := by decide +kernel
theorem dX4_step_149 : decode cX4_step 149 = .ok (.putfield 19, 3) := by decide +kernel
theorem dX4_step_152 : decode cX4_step 152 = .ok (.return_, 1) := by decide +kernel
def rmX4_step : Room := { frames := 3, cells := 0, slots := 0, locals := 63 }
abbrev eX4_step := Ev cX4_step 1 none RX4 rmX4_step
set_option maxRecDepth 20000 in
theorem ev_X4_step_l8   (K : St → Prop) (Q : St → Prop) (hK : ∀  s, K  s → eX4_step 46 [.ref (27)] [] s (qV Q)) : ∀ (n : Nat)  (σ : St), P_X4_step_l8  K Q n  σ → eX4_step 8 [.ref (27)] [] σ (qV Q) := by
  intro n
  induction n with
  | zero => intro  σ hP; exact hP.elim
  | succ n ih =>
    intro  σ hP
    rw [P_X4_step_l8] at hP
    refine E_aload_n dX4_step_8 rfl ?_
    refine E_getI (j := 3) dX4_step_9 (show kd 27 = 4 by decide) (by decide) rfl fd_RX4_25 ?_
    refine E_aload_n dX4_step_12 rfl ?_
    refine E_getI (j := 1) dX4_step_13 (show kd 27 = 4 by decide) (by decide) rfl fd_RX4_15 ?_
    refine E_icmp_ge 46 dX4_step_16 (by decide) (fun hc => ?_) (fun hc => ?_)
    · replace hP := hP.1 hc
      exact hK  _ hP
    · replace hP := hP.2 hc
      refine E_aload_n dX4_step_19 rfl ?_
      refine E_getR (j := 0) dX4_step_20 (show kd 27 = 4 by decide) (by decide) rfl fd_RX4_9 (by decide) ?_
      refine E_aload_n dX4_step_23 rfl ?_
      refine E_getI (j := 3) dX4_step_24 (show kd 27 = 4 by decide) (by decide) rfl fd_RX4_25 ?_
      obtain ⟨hb, hP⟩ := hP
      refine E_iald dX4_step_27 (ar_4_1 (show kd 27 = 4 by decide)).1 (ar_4_1 (show kd 27 = 4 by decide)).2 hb ?_
      refine E_bipush (v := 32) dX4_step_28 (by decide) ?_
      refine E_icmp_ne 46 dX4_step_30 (by decide) (fun hc => ?_) (fun hc => ?_)
      · replace hP := hP.1 hc
        exact hK  _ hP
      · replace hP := hP.2 hc
        refine E_aload_n dX4_step_33 rfl ?_
        refine E_dup dX4_step_34 rfl ?_
        refine E_getI (j := 3) dX4_step_35 (show kd 27 = 4 by decide) (by decide) rfl fd_RX4_25 ?_
        refine E_iconst (v := 1) dX4_step_38 (by decide) ?_
        refine E_iadd dX4_step_39 ?_
        refine E_putI (j := 3) dX4_step_40 (show kd 27 = 4 by decide) (by decide) rfl fd_RX4_25 fp_4_3 ?_
        refine E_goto 8 dX4_step_43 (by decide) ?_
        exact ih  _ hP
set_option maxRecDepth 20000 in
theorem mt_X4_step  (σ : St) (Q : St → Prop)  (hP : P_X4_step  σ Q) : Mt yX4_step cX4_step 1 none rmX4_step [.ref (27)] σ (qV Q) := by
  refine Mt.of (k := 0) (ls := [.ref (27)]) (by decide +kernel) rfl (Nat.le_of_ble_eq_true rfl) ?_
  show eX4_step 0 [.ref (27)] [] σ _
  unfold P_X4_step at hP
  refine E_aload_n dX4_step_0 rfl ?_
  refine E_aload_n dX4_step_1 rfl ?_
  refine E_getI (j := 5) dX4_step_2 (show kd 27 = 4 by decide) (by decide) rfl fd_RX4_19 ?_
  refine E_putI (j := 3) dX4_step_5 (show kd 27 = 4 by decide) (by decide) rfl fd_RX4_25 fp_4_3 ?_
  obtain ⟨m8, hP⟩ := hP
  refine ev_X4_step_l8   _ Q ?_ m8  _ hP
  intro  t46 hP
  refine E_aload_n dX4_step_46 rfl ?_
  refine E_aload_n dX4_step_47 rfl ?_
  refine E_getI (j := 3) dX4_step_48 (show kd 27 = 4 by decide) (by decide) rfl fd_RX4_25 ?_
  refine E_putI (j := 5) dX4_step_51 (show kd 27 = 4 by decide) (by decide) rfl fd_RX4_19 fp_4_5 ?_
  refine E_nm (fun s51 hs51 => ?_)
  replace hP := hP s51 hs51
  refine E_aload_n dX4_step_54 rfl ?_
  refine E_getI (j := 3) dX4_step_55 (show kd 27 = 4 by decide) (by decide) rfl fd_RX4_25 ?_
  refine E_aload_n dX4_step_58 rfl ?_
  refine E_getI (j := 1) dX4_step_59 (show kd 27 = 4 by decide) (by decide) rfl fd_RX4_15 ?_
  refine E_icmp_lt 73 dX4_step_62 (by decide) (fun hc => ?_) (fun hc => ?_)
  · replace hP := hP.1 hc
    refine E_aload_n dX4_step_73 rfl ?_
    refine E_aload_n dX4_step_74 rfl ?_
    refine E_getI (j := 3) dX4_step_75 (show kd 27 = 4 by decide) (by decide) rfl fd_RX4_25 ?_
    refine E_callV (As := [.int (gI s51 27 3)]) (rest := []) dX4_step_78 cl_RX4_31 tw_154 (show kd 27 = 4 by decide) (by decide) rfl tw_155 ⟨rfl, rfl, Nat.le_of_ble_eq_true rfl, Nat.le_of_ble_eq_true rfl⟩ rfl rfl (Nat.le_of_ble_eq_true rfl) (mt_X4_isLetter _ _ _  hP) ?_
    intro r0 s0 hq0; obtain ⟨r78, h0, hs0, hP⟩ := hq0; subst h0; rw [hs0]
    show eX4_step 81 [.ref (27)] [.int (bI r78)] s51 _
    refine E_ifz_eq 96 dX4_step_81 (by decide) (fun hc => ?_) (fun hc => ?_)
    · replace hP := hP.1 hc
      refine E_aload_n dX4_step_96 rfl ?_
      refine E_aload_n dX4_step_97 rfl ?_
      refine E_getI (j := 3) dX4_step_98 (show kd 27 = 4 by decide) (by decide) rfl fd_RX4_25 ?_
      refine E_callV (As := [.int (gI s51 27 3)]) (rest := []) dX4_step_101 cl_RX4_38 tw_150 (show kd 27 = 4 by decide) (by decide) rfl tw_151 ⟨rfl, rfl, Nat.le_of_ble_eq_true rfl, Nat.le_of_ble_eq_true rfl⟩ rfl rfl (Nat.le_of_ble_eq_true rfl) (mt_X4_isDigit _ _ _  hP) ?_
      intro r0 s0 hq0; obtain ⟨r101, h0, hs0, hP⟩ := hq0; subst h0; rw [hs0]
      show eX4_step 104 [.ref (27)] [.int (bI r101)] s51 _
      refine E_ifz_eq 119 dX4_step_104 (by decide) (fun hc => ?_) (fun hc => ?_)
      · replace hP := hP.1 hc
        refine E_aload_n dX4_step_119 rfl ?_
        refine E_aload_n dX4_step_120 rfl ?_
        refine E_getR (j := 0) dX4_step_121 (show kd 27 = 4 by decide) (by decide) rfl fd_RX4_9 (by decide) ?_
        refine E_aload_n dX4_step_124 rfl ?_
        refine E_getI (j := 3) dX4_step_125 (show kd 27 = 4 by decide) (by decide) rfl fd_RX4_25 ?_
        obtain ⟨hb, hP⟩ := hP
        refine E_iald dX4_step_128 (ar_4_1 (show kd 27 = 4 by decide)).1 (ar_4_1 (show kd 27 = 4 by decide)).2 hb ?_
        refine E_bipush (v := 59) dX4_step_129 (by decide) ?_
        refine E_icmp_ne 138 dX4_step_131 (by decide) (fun hc => ?_) (fun hc => ?_)
        · replace hP := hP.1 hc
          refine E_iconst (v := 4) dX4_step_138 (by decide) ?_
          refine E_putI (j := 2) dX4_step_139 (show kd 27 = 4 by decide) (by decide) rfl fd_RX4_28 fp_4_2 ?_
          refine E_aload_n dX4_step_142 rfl ?_
          refine E_dup dX4_step_143 rfl ?_
          refine E_getI (j := 5) dX4_step_144 (show kd 27 = 4 by decide) (by decide) rfl fd_RX4_19 ?_
          refine E_iconst (v := 1) dX4_step_147 (by decide) ?_
          refine E_iadd dX4_step_148 ?_
          refine E_putI (j := 5) dX4_step_149 (show kd 27 = 4 by decide) (by decide) rfl fd_RX4_19 fp_4_5 ?_
          exact E_vret dX4_step_152 rfl ⟨rfl, hP⟩
        · replace hP := hP.2 hc
          refine E_iconst (v := 3) dX4_step_134 (by decide) ?_
          refine E_goto 139 dX4_step_135 (by decide) ?_
          refine E_putI (j := 2) dX4_step_139 (show kd 27 = 4 by decide) (by decide) rfl fd_RX4_28 fp_4_2 ?_
          refine E_aload_n dX4_step_142 rfl ?_
          refine E_dup dX4_step_143 rfl ?_
          refine E_getI (j := 5) dX4_step_144 (show kd 27 = 4 by decide) (by decide) rfl fd_RX4_19 ?_
          refine E_iconst (v := 1) dX4_step_147 (by decide) ?_
          refine E_iadd dX4_step_148 ?_
          refine E_putI (j := 5) dX4_step_149 (show kd 27 = 4 by decide) (by decide) rfl fd_RX4_19 fp_4_5 ?_
          exact E_vret dX4_step_152 rfl ⟨rfl, hP⟩
      · replace hP := hP.2 hc
        refine E_aload_n dX4_step_107 rfl ?_
        refine E_iconst (v := 2) dX4_step_108 (by decide) ?_
        refine E_putI (j := 2) dX4_step_109 (show kd 27 = 4 by decide) (by decide) rfl fd_RX4_28 fp_4_2 ?_
        refine E_aload_n dX4_step_112 rfl ?_
        refine E_callV (As := []) (rest := []) dX4_step_113 cl_RX4_41 tw_160 (show kd 27 = 4 by decide) (by decide) rfl tw_161 ⟨rfl, rfl, Nat.le_of_ble_eq_true rfl, Nat.le_of_ble_eq_true rfl⟩ rfl rfl (Nat.le_of_ble_eq_true rfl) (mt_X4_skipDigits  _ _  hP) ?_
        rintro _ t113 ⟨rfl, hP⟩
        show eX4_step 116 [.ref (27)] [] t113 _
        refine E_goto 152 dX4_step_116 (by decide) ?_
        exact E_vret dX4_step_152 rfl ⟨rfl, hP⟩
    · replace hP := hP.2 hc
      refine E_aload_n dX4_step_84 rfl ?_
      refine E_iconst (v := 1) dX4_step_85 (by decide) ?_
      refine E_putI (j := 2) dX4_step_86 (show kd 27 = 4 by decide) (by decide) rfl fd_RX4_28 fp_4_2 ?_
      refine E_aload_n dX4_step_89 rfl ?_
      refine E_callV (As := []) (rest := []) dX4_step_90 cl_RX4_35 tw_164 (show kd 27 = 4 by decide) (by decide) rfl tw_165 ⟨rfl, rfl, Nat.le_of_ble_eq_true rfl, Nat.le_of_ble_eq_true rfl⟩ rfl rfl (Nat.le_of_ble_eq_true rfl) (mt_X4_skipLetters  _ _  hP) ?_
      rintro _ t90 ⟨rfl, hP⟩
      show eX4_step 93 [.ref (27)] [] t90 _
      refine E_goto 152 dX4_step_93 (by decide) ?_
      exact E_vret dX4_step_152 rfl ⟨rfl, hP⟩
  · replace hP := hP.2 hc
    refine E_aload_n dX4_step_65 rfl ?_
    refine E_iconst (v := 0) dX4_step_66 (by decide) ?_
    refine E_putI (j := 2) dX4_step_67 (show kd 27 = 4 by decide) (by decide) rfl fd_RX4_28 fp_4_2 ?_
    refine E_goto 152 dX4_step_70 (by decide) ?_
    exact E_vret dX4_step_152 rfl ⟨rfl, hP⟩
theorem dX4_rewind_0 : decode cX4_rewind 0 = .ok (.aload_n 0, 1) := by decide +kernel
theorem dX4_rewind_1 : decode cX4_rewind 1 = .ok (.iconst 0, 1) := by decide +kernel
theorem dX4_rewind_2 : decode cX4_rewind 2 = .ok (.putfield 19, 3) := by decide +kernel
theorem dX4_rewind_5 : decode cX4_rewind 5 = .ok (.aload_n 0, 1) := by decide +kernel
theorem dX4_rewind_6 : decode cX4_rewind 6 = .ok (.invokevirtual 22, 3) := by decide +kernel
theorem dX4_rewind_9 : decode cX4_rewind 9 = .ok (.return_, 1) := by decide +kernel
def rmX4_rewind : Room := { frames := 4, cells := 0, slots := 0, locals := 83 }
abbrev eX4_rewind := Ev cX4_rewind 1 none RX4 rmX4_rewind
set_option maxRecDepth 20000 in
theorem mt_X4_rewind  (σ : St) (Q : St → Prop)  (hP : P_X4_rewind  σ Q) : Mt yX4_rewind cX4_rewind 1 none rmX4_rewind [.ref (27)] σ (qV Q) := by
  refine Mt.of (k := 0) (ls := [.ref (27)]) (by decide +kernel) rfl (Nat.le_of_ble_eq_true rfl) ?_
  show eX4_rewind 0 [.ref (27)] [] σ _
  unfold P_X4_rewind at hP
  refine E_aload_n dX4_rewind_0 rfl ?_
  refine E_iconst (v := 0) dX4_rewind_1 (by decide) ?_
  refine E_putI (j := 5) dX4_rewind_2 (show kd 27 = 4 by decide) (by decide) rfl fd_RX4_19 fp_4_5 ?_
  refine E_aload_n dX4_rewind_5 rfl ?_
  refine E_callV (As := []) (rest := []) dX4_rewind_6 cl_RX4_22 tw_168 (show kd 27 = 4 by decide) (by decide) rfl tw_169 ⟨rfl, rfl, Nat.le_of_ble_eq_true rfl, Nat.le_of_ble_eq_true rfl⟩ rfl rfl (Nat.le_of_ble_eq_true rfl) (mt_X4_step  _ _  hP) ?_
  rintro _ t6 ⟨rfl, hP⟩
  show eX4_rewind 9 [.ref (27)] [] t6 _
  exact E_vret dX4_rewind_9 rfl ⟨rfl, hP⟩
theorem dX4_isNumber_0 : decode cX4_isNumber 0 = .ok (.aload_n 0, 1) := by decide +kernel
theorem dX4_isNumber_1 : decode cX4_isNumber 1 = .ok (.getfield 28, 3) := by decide +kernel
theorem dX4_isNumber_4 : decode cX4_isNumber 4 = .ok (.iconst 2, 1) := by decide +kernel
theorem dX4_isNumber_5 : decode cX4_isNumber 5 = .ok (.if_icmp .ne 19, 3) := by decide +kernel
theorem dX4_isNumber_8 : decode cX4_isNumber 8 = .ok (.aload_n 0, 1) := by decide +kernel
theorem dX4_isNumber_9 : decode cX4_isNumber 9 = .ok (.getfield 44, 3) := by decide +kernel
theorem dX4_isNumber_12 : decode cX4_isNumber 12 = .ok (.iload_n 1, 1) := by decide +kernel
theorem dX4_isNumber_13 : decode cX4_isNumber 13 = .ok (.iload_n 2, 1) := by decide +kernel
theorem dX4_isNumber_14 : decode cX4_isNumber 14 = .ok (.invokestatic 53, 3) := by decide +kernel
theorem dX4_isNumber_17 : decode cX4_isNumber 17 = .ok (.ifCond .eq 7, 3) := by decide +kernel
theorem dX4_isNumber_20 : decode cX4_isNumber 20 = .ok (.iconst 1, 1) := by decide +kernel
theorem dX4_isNumber_21 : decode cX4_isNumber 21 = .ok (.goto 4, 3) := by decide +kernel
theorem dX4_isNumber_24 : decode cX4_isNumber 24 = .ok (.iconst 0, 1) := by decide +kernel
theorem dX4_isNumber_25 : decode cX4_isNumber 25 = .ok (.ireturn, 1) := by decide +kernel
def rmX4_isNumber : Room := { frames := 1, cells := 0, slots := 0, locals := 22 }
abbrev eX4_isNumber := Ev cX4_isNumber 3 (some .boolean) RX4 rmX4_isNumber
set_option maxRecDepth 20000 in
theorem mt_X4_isNumber (p0 : Int32) (p1 : Int32) (σ : St) (Q : Bool → Prop)  (hP : P_X4_isNumber p0 p1 σ Q) : Mt yX4_isNumber cX4_isNumber 3 (some .boolean) rmX4_isNumber [.ref (27), .int (p0), .int (p1)] σ (qB fun x s => s = σ ∧ Q x) := by
  refine Mt.of (k := 0) (ls := [.ref (27), .int (p0), .int (p1)]) (by decide +kernel) rfl (Nat.le_of_ble_eq_true rfl) ?_
  show eX4_isNumber 0 [.ref (27), .int (p0), .int (p1)] [] σ _
  unfold P_X4_isNumber at hP
  refine E_aload_n dX4_isNumber_0 rfl ?_
  refine E_getI (j := 2) dX4_isNumber_1 (show kd 27 = 4 by decide) (by decide) rfl fd_RX4_28 ?_
  refine E_iconst (v := 2) dX4_isNumber_4 (by decide) ?_
  refine E_icmp_ne 24 dX4_isNumber_5 (by decide) (fun hc => ?_) (fun hc => ?_)
  · replace hP := hP.1 hc
    refine E_iconst (v := 0) dX4_isNumber_24 (by decide) ?_
    exact E_nret dX4_isNumber_25 rfl (nar_b false) ⟨false, rfl, rfl, hP⟩
  · replace hP := hP.2 hc
    refine E_aload_n dX4_isNumber_8 rfl ?_
    refine E_getI (j := 4) dX4_isNumber_9 (show kd 27 = 4 by decide) (by decide) rfl fd_RX4_44 ?_
    refine E_iload_n dX4_isNumber_12 rfl ?_
    refine E_iload_n dX4_isNumber_13 rfl ?_
    refine E_callN (n := 3) (As := [.int (gI σ 27 4), .int (p0), .int (p1)]) (rest := []) rfl dX4_isNumber_14 tw_141 tw_142 (by decide +kernel) tw_143 ⟨rfl, rfl, Nat.le_of_ble_eq_true rfl, Nat.le_of_ble_eq_true rfl⟩ rfl rfl (Nat.le_of_ble_eq_true rfl) (mt_X6_isWithin _ _ _ _ _  hP) ?_
    intro r0 s0 hq0; obtain ⟨r14, h0, hs0, hP⟩ := hq0; subst h0; rw [hs0]
    show eX4_isNumber 17 [.ref (27), .int (p0), .int (p1)] [.int (bI r14)] σ _
    refine E_ifz_eq 24 dX4_isNumber_17 (by decide) (fun hc => ?_) (fun hc => ?_)
    · replace hP := hP.1 hc
      refine E_iconst (v := 0) dX4_isNumber_24 (by decide) ?_
      exact E_nret dX4_isNumber_25 rfl (nar_b false) ⟨false, rfl, rfl, hP⟩
    · replace hP := hP.2 hc
      refine E_iconst (v := 1) dX4_isNumber_20 (by decide) ?_
      refine E_goto 25 dX4_isNumber_21 (by decide) ?_
      exact E_nret dX4_isNumber_25 rfl (nar_b true) ⟨true, rfl, rfl, hP⟩
theorem dJ0_isLatin1_aae02_0 : decode cJ0_isLatin1_aae02 0 = .ok (.getstatic 38, 3) := by decide +kernel
theorem dJ0_isLatin1_aae02_3 : decode cJ0_isLatin1_aae02 3 = .ok (.ifCond .eq 14, 3) := by decide +kernel
theorem dJ0_isLatin1_aae02_6 : decode cJ0_isLatin1_aae02 6 = .ok (.aload_n 0, 1) := by decide +kernel
theorem dJ0_isLatin1_aae02_7 : decode cJ0_isLatin1_aae02 7 = .ok (.getfield 15, 3) := by decide +kernel
theorem dJ0_isLatin1_aae02_10 : decode cJ0_isLatin1_aae02 10 = .ok (.ifCond .ne 7, 3) := by decide +kernel
theorem dJ0_isLatin1_aae02_13 : decode cJ0_isLatin1_aae02 13 = .ok (.iconst 1, 1) := by decide +kernel
theorem dJ0_isLatin1_aae02_14 : decode cJ0_isLatin1_aae02 14 = .ok (.goto 4, 3) := by decide +kernel
theorem dJ0_isLatin1_aae02_17 : decode cJ0_isLatin1_aae02 17 = .ok (.iconst 0, 1) := by decide +kernel
theorem dJ0_isLatin1_aae02_18 : decode cJ0_isLatin1_aae02 18 = .ok (.ireturn, 1) := by decide +kernel
def rmJ0_isLatin1_aae02 : Room := { frames := 0, cells := 0, slots := 0, locals := 0 }
abbrev eJ0_isLatin1_aae02 := Ev cJ0_isLatin1_aae02 1 (some .boolean) RJ0 rmJ0_isLatin1_aae02
set_option maxRecDepth 20000 in
theorem mt_J0_isLatin1_aae02 (a0 : Nat) (σ : St) (Q : Bool → Prop) (o_a0 : a0 < stN) (hP : P_J0_isLatin1_aae02 a0 σ Q) : Mt yJ0_isLatin1_aae02 cJ0_isLatin1_aae02 1 (some .boolean) rmJ0_isLatin1_aae02 [.ref (300 + a0)] σ (qB fun x s => s = σ ∧ Q x) := by
  refine Mt.of (k := 0) (ls := [.ref (300 + a0)]) (by decide +kernel) rfl (Nat.le_of_ble_eq_true rfl) ?_
  show eJ0_isLatin1_aae02 0 [.ref (300 + a0)] [] σ _
  unfold P_J0_isLatin1_aae02 at hP
  refine E_compact dJ0_isLatin1_aae02_0 tw_170 ?_
  refine E_if_eq 17 dJ0_isLatin1_aae02_3 (by decide) (fun hc => absurd hc (by decide)) (fun _ => ?_)
  refine E_aload_n dJ0_isLatin1_aae02_6 rfl ?_
  refine E_strCoder dJ0_isLatin1_aae02_7 o_a0 tw_171 ?_
  refine E_if_ne 17 dJ0_isLatin1_aae02_10 (by decide) (fun hc => absurd hc (by decide)) (fun _ => ?_)
  refine E_iconst (v := 1) dJ0_isLatin1_aae02_13 (by decide) ?_
  refine E_goto 18 dJ0_isLatin1_aae02_14 (by decide) ?_
  exact E_nret dJ0_isLatin1_aae02_18 rfl (nar_b true) ⟨true, rfl, rfl, hP⟩
theorem dJ3_checkIndex_8e157_0 : decode cJ3_checkIndex_8e157 0 = .ok (.iload_n 0, 1) := by decide +kernel
theorem dJ3_checkIndex_8e157_1 : decode cJ3_checkIndex_8e157 1 = .ok (.ifCond .lt 8, 3) := by decide +kernel
theorem dJ3_checkIndex_8e157_4 : decode cJ3_checkIndex_8e157 4 = .ok (.iload_n 0, 1) := by decide +kernel
theorem dJ3_checkIndex_8e157_5 : decode cJ3_checkIndex_8e157 5 = .ok (.iload_n 1, 1) := by decide +kernel
theorem dJ3_checkIndex_8e157_6 : decode cJ3_checkIndex_8e157 6 = .ok (.if_icmp .lt 10, 3) := by decide +kernel
theorem dJ3_checkIndex_8e157_9 : decode cJ3_checkIndex_8e157 9 = .ok (.aload_n 2, 1) := by decide +kernel
theorem dJ3_checkIndex_8e157_10 : decode cJ3_checkIndex_8e157 10 = .ok (.iload_n 0, 1) := by decide +kernel
theorem dJ3_checkIndex_8e157_11 : decode cJ3_checkIndex_8e157 11 = .ok (.iload_n 1, 1) := by decide +kernel
theorem dJ3_checkIndex_8e157_12 : decode cJ3_checkIndex_8e157 12 = .ok (.invokestatic 95, 3) := by decide +kernel
theorem dJ3_checkIndex_8e157_15 : decode cJ3_checkIndex_8e157 15 = .ok (.athrow, 1) := by decide +kernel
theorem dJ3_checkIndex_8e157_16 : decode cJ3_checkIndex_8e157 16 = .ok (.iload_n 0, 1) := by decide +kernel
theorem dJ3_checkIndex_8e157_17 : decode cJ3_checkIndex_8e157 17 = .ok (.ireturn, 1) := by decide +kernel
def rmJ3_checkIndex_8e157 : Room := { frames := 0, cells := 0, slots := 0, locals := 0 }
abbrev eJ3_checkIndex_8e157 := Ev cJ3_checkIndex_8e157 3 (some .int) RJ3 rmJ3_checkIndex_8e157
set_option maxRecDepth 20000 in
theorem mt_J3_checkIndex_8e157 (p0 : Int32) (p1 : Int32) (p2 : Nat) (σ : St) (Q : Int32 → Prop)  (hP : P_J3_checkIndex_8e157 p0 p1 p2 σ Q) : Mt yJ3_checkIndex_8e157 cJ3_checkIndex_8e157 3 (some .int) rmJ3_checkIndex_8e157 [.int (p0), .int (p1), .ref (p2)] σ (qI fun x s => s = σ ∧ Q x) := by
  refine Mt.of (k := 0) (ls := [.int (p0), .int (p1), .ref (p2)]) (by decide +kernel) rfl (Nat.le_of_ble_eq_true rfl) ?_
  show eJ3_checkIndex_8e157 0 [.int (p0), .int (p1), .ref (p2)] [] σ _
  unfold P_J3_checkIndex_8e157 at hP
  refine E_iload_n dJ3_checkIndex_8e157_0 rfl ?_
  refine E_if_lt 9 dJ3_checkIndex_8e157_1 (by decide) (fun hc => ?_) (fun hc => ?_)
  · replace hP := hP.1 hc
    refine E_aload_n dJ3_checkIndex_8e157_9 rfl ?_
    refine E_iload_n dJ3_checkIndex_8e157_10 rfl ?_
    refine E_iload_n dJ3_checkIndex_8e157_11 rfl ?_
    exact hP.elim
  · replace hP := hP.2 hc
    refine E_iload_n dJ3_checkIndex_8e157_4 rfl ?_
    refine E_iload_n dJ3_checkIndex_8e157_5 rfl ?_
    refine E_icmp_lt 16 dJ3_checkIndex_8e157_6 (by decide) (fun hc => ?_) (fun hc => ?_)
    · replace hP := hP.1 hc
      refine E_iload_n dJ3_checkIndex_8e157_16 rfl ?_
      exact E_iret dJ3_checkIndex_8e157_17 rfl ⟨_, rfl, rfl, hP⟩
    · replace hP := hP.2 hc
      refine E_aload_n dJ3_checkIndex_8e157_9 rfl ?_
      refine E_iload_n dJ3_checkIndex_8e157_10 rfl ?_
      refine E_iload_n dJ3_checkIndex_8e157_11 rfl ?_
      exact hP.elim
theorem dJ0_checkIndex_df160_0 : decode cJ0_checkIndex_df160 0 = .ok (.iload_n 0, 1) := by decide +kernel
theorem dJ0_checkIndex_df160_1 : decode cJ0_checkIndex_df160 1 = .ok (.iload_n 1, 1) := by decide +kernel
theorem dJ0_checkIndex_df160_2 : decode cJ0_checkIndex_df160 2 = .ok (.getstatic 1053, 3) := by decide +kernel
theorem dJ0_checkIndex_df160_5 : decode cJ0_checkIndex_df160 5 = .ok (.invokestatic 1059, 3) := by decide +kernel
theorem dJ0_checkIndex_df160_8 : decode cJ0_checkIndex_df160 8 = .ok (.pop, 1) := by decide +kernel
theorem dJ0_checkIndex_df160_9 : decode cJ0_checkIndex_df160 9 = .ok (.return_, 1) := by decide +kernel
def rmJ0_checkIndex_df160 : Room := { frames := 1, cells := 0, slots := 0, locals := 22 }
abbrev eJ0_checkIndex_df160 := Ev cJ0_checkIndex_df160 2 none RJ0 rmJ0_checkIndex_df160
set_option maxRecDepth 20000 in
theorem mt_J0_checkIndex_df160 (p0 : Int32) (p1 : Int32) (σ : St) (Q : Prop)  (hP : P_J0_checkIndex_df160 p0 p1 σ Q) : Mt yJ0_checkIndex_df160 cJ0_checkIndex_df160 2 none rmJ0_checkIndex_df160 [.int (p0), .int (p1)] σ (qV fun s => s = σ ∧ Q) := by
  refine Mt.of (k := 0) (ls := [.int (p0), .int (p1)]) (by decide +kernel) rfl (Nat.le_of_ble_eq_true rfl) ?_
  show eJ0_checkIndex_df160 0 [.int (p0), .int (p1)] [] σ _
  unfold P_J0_checkIndex_df160 at hP
  refine E_iload_n dJ0_checkIndex_df160_0 rfl ?_
  refine E_iload_n dJ0_checkIndex_df160_1 rfl ?_
  refine E_fmt dJ0_checkIndex_df160_2 tw_176 (fun f2 => ?_)
  replace hP := hP f2
  refine E_callS (As := [.int (p0), .int (p1), .ref (f2)]) (rest := []) dJ0_checkIndex_df160_5 cl_RJ0_1059 tw_175 ⟨rfl, rfl, Nat.le_of_ble_eq_true rfl, Nat.le_of_ble_eq_true rfl⟩ rfl rfl (Nat.le_of_ble_eq_true rfl) (mt_J3_checkIndex_8e157 _ _ _ _ _  hP) ?_
  intro r0 s0 hq0; obtain ⟨r5, h0, hs0, hP⟩ := hq0; subst h0; rw [hs0]
  show eJ0_checkIndex_df160 8 [.int (p0), .int (p1)] [.int (r5)] σ _
  refine E_pop dJ0_checkIndex_df160_8 rfl ?_
  exact E_vret dJ0_checkIndex_df160_9 rfl ⟨rfl, rfl, hP⟩
theorem dJ1_charAt_3b067_0 : decode cJ1_charAt_3b067 0 = .ok (.iload_n 1, 1) := by decide +kernel
theorem dJ1_charAt_3b067_1 : decode cJ1_charAt_3b067 1 = .ok (.aload_n 0, 1) := by decide +kernel
theorem dJ1_charAt_3b067_2 : decode cJ1_charAt_3b067 2 = .ok (.arraylength, 1) := by decide +kernel
theorem dJ1_charAt_3b067_3 : decode cJ1_charAt_3b067 3 = .ok (.invokestatic 9, 3) := by decide +kernel
theorem dJ1_charAt_3b067_6 : decode cJ1_charAt_3b067 6 = .ok (.aload_n 0, 1) := by decide +kernel
theorem dJ1_charAt_3b067_7 : decode cJ1_charAt_3b067 7 = .ok (.iload_n 1, 1) := by decide +kernel
theorem dJ1_charAt_3b067_8 : decode cJ1_charAt_3b067 8 = .ok (.baload, 1) := by decide +kernel
theorem dJ1_charAt_3b067_9 : decode cJ1_charAt_3b067 9 = .ok (.sipush 255, 3) := by decide +kernel
theorem dJ1_charAt_3b067_12 : decode cJ1_charAt_3b067 12 = .ok (.iand, 1) := by decide +kernel
theorem dJ1_charAt_3b067_13 : decode cJ1_charAt_3b067 13 = .ok (.i2c, 1) := by decide +kernel
theorem dJ1_charAt_3b067_14 : decode cJ1_charAt_3b067 14 = .ok (.ireturn, 1) := by decide +kernel
def rmJ1_charAt_3b067 : Room := { frames := 2, cells := 0, slots := 0, locals := 43 }
abbrev eJ1_charAt_3b067 := Ev cJ1_charAt_3b067 2 (some .char) RJ1 rmJ1_charAt_3b067
set_option maxRecDepth 20000 in
theorem mt_J1_charAt_3b067 (p0 : Nat) (p1 : Int32) (σ : St) (Q : Int32 → Prop) (o_p0 : p0 < stN) (hP : P_J1_charAt_3b067 p0 p1 σ Q) : Mt yJ1_charAt_3b067 cJ1_charAt_3b067 2 (some .char) rmJ1_charAt_3b067 [.ref (400 + p0), .int (p1)] σ (qI fun x s => s = σ ∧ Q x) := by
  refine Mt.of (k := 0) (ls := [.ref (400 + p0), .int (p1)]) (by decide +kernel) rfl (Nat.le_of_ble_eq_true rfl) ?_
  show eJ1_charAt_3b067 0 [.ref (400 + p0), .int (p1)] [] σ _
  unfold P_J1_charAt_3b067 at hP
  refine E_iload_n dJ1_charAt_3b067_0 rfl ?_
  refine E_aload_n dJ1_charAt_3b067_1 rfl ?_
  refine E_strLen (v := Int32.ofNat (stLen.getD p0 0)) dJ1_charAt_3b067_2 o_p0 rfl ?_
  refine E_callS (As := [.int (p1), .int (Int32.ofNat (stLen.getD p0 0))]) (rest := []) dJ1_charAt_3b067_3 cl_RJ1_9 tw_180 ⟨rfl, rfl, Nat.le_of_ble_eq_true rfl, Nat.le_of_ble_eq_true rfl⟩ rfl rfl (Nat.le_of_ble_eq_true rfl) (mt_J0_checkIndex_df160 _ _ _ _  hP) ?_
  intro r0 s0 hq0; obtain ⟨h0, hs0, hP⟩ := hq0; subst h0; rw [hs0]
  show eJ1_charAt_3b067 6 [.ref (400 + p0), .int (p1)] [] σ _
  refine E_aload_n dJ1_charAt_3b067_6 rfl ?_
  refine E_iload_n dJ1_charAt_3b067_7 rfl ?_
  obtain ⟨hb, hP⟩ := hP
  refine E_strAt dJ1_charAt_3b067_8 o_p0 hb ?_
  refine E_sipush (v := 255) dJ1_charAt_3b067_9 (by decide) ?_
  refine E_iand dJ1_charAt_3b067_12 ?_
  refine E_i2c dJ1_charAt_3b067_13 ?_
  obtain ⟨hb, hP⟩ := hP
  exact E_nret dJ1_charAt_3b067_14 rfl hb ⟨_, rfl, rfl, hP⟩
theorem dJ0_charAt_5068e_0 : decode cJ0_charAt_5068e 0 = .ok (.aload_n 0, 1) := by decide +kernel
theorem dJ0_charAt_5068e_1 : decode cJ0_charAt_5068e 1 = .ok (.invokevirtual 492, 3) := by decide +kernel
theorem dJ0_charAt_5068e_4 : decode cJ0_charAt_5068e 4 = .ok (.ifCond .eq 12, 3) := by decide +kernel
theorem dJ0_charAt_5068e_7 : decode cJ0_charAt_5068e 7 = .ok (.aload_n 0, 1) := by decide +kernel
theorem dJ0_charAt_5068e_8 : decode cJ0_charAt_5068e 8 = .ok (.getfield 9, 3) := by decide +kernel
theorem dJ0_charAt_5068e_11 : decode cJ0_charAt_5068e 11 = .ok (.iload_n 1, 1) := by decide +kernel
theorem dJ0_charAt_5068e_12 : decode cJ0_charAt_5068e 12 = .ok (.invokestatic 495, 3) := by decide +kernel
theorem dJ0_charAt_5068e_15 : decode cJ0_charAt_5068e 15 = .ok (.ireturn, 1) := by decide +kernel
theorem dJ0_charAt_5068e_16 : decode cJ0_charAt_5068e 16 = .ok (.aload_n 0, 1) := by decide +kernel
theorem dJ0_charAt_5068e_17 : decode cJ0_charAt_5068e 17 = .ok (.getfield 9, 3) := by decide +kernel
theorem dJ0_charAt_5068e_20 : decode cJ0_charAt_5068e 20 = .ok (.iload_n 1, 1) := by decide +kernel
theorem dJ0_charAt_5068e_21 : decode cJ0_charAt_5068e 21 = .ok (.invokestatic 498, 3) := by decide +kernel
theorem dJ0_charAt_5068e_24 : decode cJ0_charAt_5068e 24 = .ok (.ireturn, 1) := by decide +kernel
def rmJ0_charAt_5068e : Room := { frames := 3, cells := 0, slots := 0, locals := 64 }
abbrev eJ0_charAt_5068e := Ev cJ0_charAt_5068e 2 (some .char) RJ0 rmJ0_charAt_5068e
set_option maxRecDepth 20000 in
theorem mt_J0_charAt_5068e (a0 : Nat) (p0 : Int32) (σ : St) (Q : Int32 → Prop) (o_a0 : a0 < stN) (hP : P_J0_charAt_5068e a0 p0 σ Q) : Mt yJ0_charAt_5068e cJ0_charAt_5068e 2 (some .char) rmJ0_charAt_5068e [.ref (300 + a0), .int (p0)] σ (qI fun x s => s = σ ∧ Q x) := by
  refine Mt.of (k := 0) (ls := [.ref (300 + a0), .int (p0)]) (by decide +kernel) rfl (Nat.le_of_ble_eq_true rfl) ?_
  show eJ0_charAt_5068e 0 [.ref (300 + a0), .int (p0)] [] σ _
  unfold P_J0_charAt_5068e at hP
  refine E_aload_n dJ0_charAt_5068e_0 rfl ?_
  refine E_callT (As := []) (rest := []) dJ0_charAt_5068e_1 cl_RJ0_492 tw_188 o_a0 tw_189 ⟨rfl, rfl, Nat.le_of_ble_eq_true rfl, Nat.le_of_ble_eq_true rfl⟩ rfl rfl (Nat.le_of_ble_eq_true rfl) (mt_J0_isLatin1_aae02 _ _ _ o_a0 hP) ?_
  intro r0 s0 hq0; obtain ⟨r1, h0, hs0, hP⟩ := hq0; subst h0; rw [hs0]
  show eJ0_charAt_5068e 4 [.ref (300 + a0), .int (p0)] [.int (bI r1)] σ _
  refine E_ifz_eq 16 dJ0_charAt_5068e_4 (by decide) (fun hc => ?_) (fun hc => ?_)
  · replace hP := hP.1 hc
    refine E_aload_n dJ0_charAt_5068e_16 rfl ?_
    refine E_strValue dJ0_charAt_5068e_17 o_a0 tw_181 ?_
    refine E_iload_n dJ0_charAt_5068e_20 rfl ?_
    exact hP.elim
  · replace hP := hP.2 hc
    refine E_aload_n dJ0_charAt_5068e_7 rfl ?_
    refine E_strValue dJ0_charAt_5068e_8 o_a0 tw_181 ?_
    refine E_iload_n dJ0_charAt_5068e_11 rfl ?_
    refine E_callS (As := [.ref (400 + a0), .int (p0)]) (rest := []) dJ0_charAt_5068e_12 cl_RJ0_495 tw_185 ⟨rfl, rfl, Nat.le_of_ble_eq_true rfl, Nat.le_of_ble_eq_true rfl⟩ rfl rfl (Nat.le_of_ble_eq_true rfl) (mt_J1_charAt_3b067 _ _ _ _ o_a0 hP) ?_
    intro r0 s0 hq0; obtain ⟨r12, h0, hs0, hP⟩ := hq0; subst h0; rw [hs0]
    show eJ0_charAt_5068e 15 [.ref (300 + a0), .int (p0)] [.int (r12)] σ _
    obtain ⟨hb, hP⟩ := hP
    exact E_nret dJ0_charAt_5068e_15 rfl hb ⟨_, rfl, rfl, hP⟩
theorem dJ0_coder_7d493_0 : decode cJ0_coder_7d493 0 = .ok (.getstatic 38, 3) := by decide +kernel
theorem dJ0_coder_7d493_3 : decode cJ0_coder_7d493 3 = .ok (.ifCond .eq 10, 3) := by decide +kernel
theorem dJ0_coder_7d493_6 : decode cJ0_coder_7d493 6 = .ok (.aload_n 0, 1) := by decide +kernel
theorem dJ0_coder_7d493_7 : decode cJ0_coder_7d493 7 = .ok (.getfield 15, 3) := by decide +kernel
theorem dJ0_coder_7d493_10 : decode cJ0_coder_7d493 10 = .ok (.goto 4, 3) := by decide +kernel
theorem dJ0_coder_7d493_13 : decode cJ0_coder_7d493 13 = .ok (.iconst 1, 1) := by decide +kernel
theorem dJ0_coder_7d493_14 : decode cJ0_coder_7d493 14 = .ok (.ireturn, 1) := by decide +kernel
def rmJ0_coder_7d493 : Room := { frames := 0, cells := 0, slots := 0, locals := 0 }
abbrev eJ0_coder_7d493 := Ev cJ0_coder_7d493 1 (some .byte) RJ0 rmJ0_coder_7d493
set_option maxRecDepth 20000 in
theorem mt_J0_coder_7d493 (a0 : Nat) (σ : St) (Q : Int32 → Prop) (o_a0 : a0 < stN) (hP : P_J0_coder_7d493 a0 σ Q) : Mt yJ0_coder_7d493 cJ0_coder_7d493 1 (some .byte) rmJ0_coder_7d493 [.ref (300 + a0)] σ (qI fun x s => s = σ ∧ Q x) := by
  refine Mt.of (k := 0) (ls := [.ref (300 + a0)]) (by decide +kernel) rfl (Nat.le_of_ble_eq_true rfl) ?_
  show eJ0_coder_7d493 0 [.ref (300 + a0)] [] σ _
  unfold P_J0_coder_7d493 at hP
  refine E_compact dJ0_coder_7d493_0 tw_170 ?_
  refine E_if_eq 13 dJ0_coder_7d493_3 (by decide) (fun hc => absurd hc (by decide)) (fun _ => ?_)
  refine E_aload_n dJ0_coder_7d493_6 rfl ?_
  refine E_strCoder dJ0_coder_7d493_7 o_a0 tw_171 ?_
  refine E_goto 14 dJ0_coder_7d493_10 (by decide) ?_
  exact E_nret (ty := .byte) dJ0_coder_7d493_14 rfl (by decide) ⟨_, rfl, rfl, hP⟩
theorem dJ0_length_8abf5_0 : decode cJ0_length_8abf5 0 = .ok (.aload_n 0, 1) := by decide +kernel
theorem dJ0_length_8abf5_1 : decode cJ0_length_8abf5 1 = .ok (.getfield 9, 3) := by decide +kernel
theorem dJ0_length_8abf5_4 : decode cJ0_length_8abf5 4 = .ok (.arraylength, 1) := by decide +kernel
theorem dJ0_length_8abf5_5 : decode cJ0_length_8abf5 5 = .ok (.aload_n 0, 1) := by decide +kernel
theorem dJ0_length_8abf5_6 : decode cJ0_length_8abf5 6 = .ok (.invokevirtual 335, 3) := by decide +kernel
theorem dJ0_length_8abf5_9 : decode cJ0_length_8abf5 9 = .ok (.ishr, 1) := by decide +kernel
theorem dJ0_length_8abf5_10 : decode cJ0_length_8abf5 10 = .ok (.ireturn, 1) := by decide +kernel
def rmJ0_length_8abf5 : Room := { frames := 1, cells := 0, slots := 0, locals := 20 }
abbrev eJ0_length_8abf5 := Ev cJ0_length_8abf5 1 (some .int) RJ0 rmJ0_length_8abf5
set_option maxRecDepth 20000 in
theorem mt_J0_length_8abf5 (a0 : Nat) (σ : St) (Q : Int32 → Prop) (o_a0 : a0 < stN) (hP : P_J0_length_8abf5 a0 σ Q) : Mt yJ0_length_8abf5 cJ0_length_8abf5 1 (some .int) rmJ0_length_8abf5 [.ref (300 + a0)] σ (qI fun x s => s = σ ∧ Q x) := by
  refine Mt.of (k := 0) (ls := [.ref (300 + a0)]) (by decide +kernel) rfl (Nat.le_of_ble_eq_true rfl) ?_
  show eJ0_length_8abf5 0 [.ref (300 + a0)] [] σ _
  unfold P_J0_length_8abf5 at hP
  refine E_aload_n dJ0_length_8abf5_0 rfl ?_
  refine E_strValue dJ0_length_8abf5_1 o_a0 tw_181 ?_
  refine E_strLen (v := Int32.ofNat (stLen.getD a0 0)) dJ0_length_8abf5_4 o_a0 rfl ?_
  refine E_aload_n dJ0_length_8abf5_5 rfl ?_
  refine E_callT (As := []) (rest := [.int (Int32.ofNat (stLen.getD a0 0))]) dJ0_length_8abf5_6 cl_RJ0_335 tw_192 o_a0 tw_193 ⟨rfl, rfl, Nat.le_of_ble_eq_true rfl, Nat.le_of_ble_eq_true rfl⟩ rfl rfl (Nat.le_of_ble_eq_true rfl) (mt_J0_coder_7d493 _ _ _ o_a0 hP) ?_
  intro r0 s0 hq0; obtain ⟨r6, h0, hs0, hP⟩ := hq0; subst h0; rw [hs0]
  show eJ0_length_8abf5 9 [.ref (300 + a0)] [.int (r6), .int (Int32.ofNat (stLen.getD a0 0))] σ _
  refine E_ishr dJ0_length_8abf5_9 ?_
  exact E_iret dJ0_length_8abf5_10 rfl ⟨_, rfl, rfl, hP⟩
theorem dX4_isWord_0 : decode cX4_isWord 0 = .ok (.aload_n 0, 1) := by decide +kernel
theorem dX4_isWord_1 : decode cX4_isWord 1 = .ok (.getfield 28, 3) := by decide +kernel
theorem dX4_isWord_4 : decode cX4_isWord 4 = .ok (.iconst 1, 1) := by decide +kernel
theorem dX4_isWord_5 : decode cX4_isWord 5 = .ok (.if_icmp .ne 19, 3) := by decide +kernel
theorem dX4_isWord_8 : decode cX4_isWord 8 = .ok (.aload_n 0, 1) := by decide +kernel
theorem dX4_isWord_9 : decode cX4_isWord 9 = .ok (.getfield 19, 3) := by decide +kernel
theorem dX4_isWord_12 : decode cX4_isWord 12 = .ok (.aload_n 0, 1) := by decide +kernel
theorem dX4_isWord_13 : decode cX4_isWord 13 = .ok (.getfield 25, 3) := by decide +kernel
theorem dX4_isWord_16 : decode cX4_isWord 16 = .ok (.isub, 1) := by decide +kernel
theorem dX4_isWord_17 : decode cX4_isWord 17 = .ok (.aload_n 1, 1) := by decide +kernel
theorem dX4_isWord_18 : decode cX4_isWord 18 = .ok (.invokevirtual 57, 3) := by decide +kernel
theorem dX4_isWord_21 : decode cX4_isWord 21 = .ok (.if_icmp .eq 5, 3) := by decide +kernel
theorem dX4_isWord_24 : decode cX4_isWord 24 = .ok (.iconst 0, 1) := by decide +kernel
theorem dX4_isWord_25 : decode cX4_isWord 25 = .ok (.ireturn, 1) := by decide +kernel
theorem dX4_isWord_26 : decode cX4_isWord 26 = .ok (.iconst 0, 1) := by decide +kernel
theorem dX4_isWord_27 : decode cX4_isWord 27 = .ok (.istore_n 2, 1) := by decide +kernel
theorem dX4_isWord_28 : decode cX4_isWord 28 = .ok (.iload_n 2, 1) := by decide +kernel
theorem dX4_isWord_29 : decode cX4_isWord 29 = .ok (.aload_n 1, 1) := by decide +kernel
theorem dX4_isWord_30 : decode cX4_isWord 30 = .ok (.invokevirtual 57, 3) := by decide +kernel
theorem dX4_isWord_33 : decode cX4_isWord 33 = .ok (.if_icmp .ge 30, 3) := by decide +kernel
theorem dX4_isWord_36 : decode cX4_isWord 36 = .ok (.aload_n 0, 1) := by decide +kernel
theorem dX4_isWord_37 : decode cX4_isWord 37 = .ok (.getfield 9, 3) := by decide +kernel
theorem dX4_isWord_40 : decode cX4_isWord 40 = .ok (.aload_n 0, 1) := by decide +kernel
theorem dX4_isWord_41 : decode cX4_isWord 41 = .ok (.getfield 25, 3) := by decide +kernel
theorem dX4_isWord_44 : decode cX4_isWord 44 = .ok (.iload_n 2, 1) := by decide +kernel
theorem dX4_isWord_45 : decode cX4_isWord 45 = .ok (.iadd, 1) := by decide +kernel
theorem dX4_isWord_46 : decode cX4_isWord 46 = .ok (.iaload, 1) := by decide +kernel
theorem dX4_isWord_47 : decode cX4_isWord 47 = .ok (.aload_n 1, 1) := by decide +kernel
theorem dX4_isWord_48 : decode cX4_isWord 48 = .ok (.iload_n 2, 1) := by decide +kernel
theorem dX4_isWord_49 : decode cX4_isWord 49 = .ok (.invokevirtual 62, 3) := by decide +kernel
theorem dX4_isWord_52 : decode cX4_isWord 52 = .ok (.if_icmp .eq 5, 3) := by decide +kernel
theorem dX4_isWord_55 : decode cX4_isWord 55 = .ok (.iconst 0, 1) := by decide +kernel
theorem dX4_isWord_56 : decode cX4_isWord 56 = .ok (.ireturn, 1) := by decide +kernel
theorem dX4_isWord_57 : decode cX4_isWord 57 = .ok (.iinc 2 1, 3) := by decide +kernel
theorem dX4_isWord_60 : decode cX4_isWord 60 = .ok (.goto (-32), 3) := by decide +kernel
theorem dX4_isWord_63 : decode cX4_isWord 63 = .ok (.iconst 1, 1) := by decide +kernel
theorem dX4_isWord_64 : decode cX4_isWord 64 = .ok (.ireturn, 1) := by decide +kernel
def rmX4_isWord : Room := { frames := 4, cells := 0, slots := 0, locals := 85 }
abbrev eX4_isWord := Ev cX4_isWord 3 (some .boolean) RX4 rmX4_isWord
set_option maxRecDepth 20000 in
theorem ev_X4_isWord_l28 (l1 : Nat) (o_l1 : l1 < stN) (K : St → Prop) (Q : Bool → Prop) (σ0 : St) (hK : ∀  s, K  s → s = σ0 → eX4_isWord 63 [un, un, un] [] s (qB fun x s => s = σ0 ∧ Q x)) : ∀ (n : Nat) (l2 : Int32) (σ : St), σ = σ0 → P_X4_isWord_l28 l1 K Q n l2 σ → eX4_isWord 28 [.ref (27), .ref (300 + l1), .int (l2)] [] σ (qB fun x s => s = σ0 ∧ Q x) := by
  intro n
  induction n with
  | zero => intro l2 σ hs hP; exact hP.elim
  | succ n ih =>
    intro l2 σ hs hP
    subst hs
    rw [P_X4_isWord_l28] at hP
    refine E_iload_n dX4_isWord_28 rfl ?_
    refine E_aload_n dX4_isWord_29 rfl ?_
    refine E_callT (As := []) (rest := [.int (l2)]) dX4_isWord_30 cl_RX4_57 tw_200 o_l1 tw_201 ⟨rfl, rfl, Nat.le_of_ble_eq_true rfl, Nat.le_of_ble_eq_true rfl⟩ rfl rfl (Nat.le_of_ble_eq_true rfl) (mt_J0_length_8abf5 _ _ _ o_l1 hP) ?_
    intro r0 s0 hq0; obtain ⟨r30, h0, hs0, hP⟩ := hq0; subst h0; rw [hs0]
    show eX4_isWord 33 [.ref (27), .ref (300 + l1), .int (l2)] [.int (r30), .int (l2)] σ _
    refine E_icmp_ge 63 dX4_isWord_33 (by decide) (fun hc => ?_) (fun hc => ?_)
    · replace hP := hP.1 hc
      refine E_mask [false, false, false] rfl ?_
      exact hK  _ hP rfl
    · replace hP := hP.2 hc
      refine E_aload_n dX4_isWord_36 rfl ?_
      refine E_getR (j := 0) dX4_isWord_37 (show kd 27 = 4 by decide) (by decide) rfl fd_RX4_9 (by decide) ?_
      refine E_aload_n dX4_isWord_40 rfl ?_
      refine E_getI (j := 3) dX4_isWord_41 (show kd 27 = 4 by decide) (by decide) rfl fd_RX4_25 ?_
      refine E_iload_n dX4_isWord_44 rfl ?_
      refine E_iadd dX4_isWord_45 ?_
      obtain ⟨hb, hP⟩ := hP
      refine E_iald dX4_isWord_46 (ar_4_1 (show kd 27 = 4 by decide)).1 (ar_4_1 (show kd 27 = 4 by decide)).2 hb ?_
      refine E_aload_n dX4_isWord_47 rfl ?_
      refine E_iload_n dX4_isWord_48 rfl ?_
      refine E_callT (As := [.int (l2)]) (rest := [.int (gI σ 28 ((gI σ 27 3) + l2).toNatClampNeg)]) dX4_isWord_49 cl_RX4_62 tw_196 o_l1 tw_197 ⟨rfl, rfl, Nat.le_of_ble_eq_true rfl, Nat.le_of_ble_eq_true rfl⟩ rfl rfl (Nat.le_of_ble_eq_true rfl) (mt_J0_charAt_5068e _ _ _ _ o_l1 hP) ?_
      intro r0 s0 hq0; obtain ⟨r49, h0, hs0, hP⟩ := hq0; subst h0; rw [hs0]
      show eX4_isWord 52 [.ref (27), .ref (300 + l1), .int (l2)] [.int (r49), .int (gI σ 28 ((gI σ 27 3) + l2).toNatClampNeg)] σ _
      refine E_icmp_eq 57 dX4_isWord_52 (by decide) (fun hc => ?_) (fun hc => ?_)
      · replace hP := hP.1 hc
        refine E_iinc (ls' := [.ref (27), .ref (300 + l1), .int (l2 + 1)]) dX4_isWord_57 rfl rfl (by decide) rfl ?_
        refine E_goto 28 dX4_isWord_60 (by decide) ?_
        exact ih (l2 + 1) _ rfl hP
      · replace hP := hP.2 hc
        refine E_iconst (v := 0) dX4_isWord_55 (by decide) ?_
        exact E_nret dX4_isWord_56 rfl (nar_b false) ⟨false, rfl, rfl, hP⟩
set_option maxRecDepth 20000 in
theorem mt_X4_isWord (p0 : Nat) (σ : St) (Q : Bool → Prop) (o_p0 : p0 < stN) (hP : P_X4_isWord p0 σ Q) : Mt yX4_isWord cX4_isWord 3 (some .boolean) rmX4_isWord [.ref (27), .ref (300 + p0)] σ (qB fun x s => s = σ ∧ Q x) := by
  refine Mt.of (k := 1) (ls := [.ref (27), .ref (300 + p0), un]) (by decide +kernel) rfl (Nat.le_of_ble_eq_true rfl) ?_
  show eX4_isWord 0 [.ref (27), .ref (300 + p0), un] [] σ _
  unfold P_X4_isWord at hP
  refine E_aload_n dX4_isWord_0 rfl ?_
  refine E_getI (j := 2) dX4_isWord_1 (show kd 27 = 4 by decide) (by decide) rfl fd_RX4_28 ?_
  refine E_iconst (v := 1) dX4_isWord_4 (by decide) ?_
  refine E_icmp_ne 24 dX4_isWord_5 (by decide) (fun hc => ?_) (fun hc => ?_)
  · replace hP := hP.1 hc
    refine E_iconst (v := 0) dX4_isWord_24 (by decide) ?_
    exact E_nret dX4_isWord_25 rfl (nar_b false) ⟨false, rfl, rfl, hP⟩
  · replace hP := hP.2 hc
    refine E_aload_n dX4_isWord_8 rfl ?_
    refine E_getI (j := 5) dX4_isWord_9 (show kd 27 = 4 by decide) (by decide) rfl fd_RX4_19 ?_
    refine E_aload_n dX4_isWord_12 rfl ?_
    refine E_getI (j := 3) dX4_isWord_13 (show kd 27 = 4 by decide) (by decide) rfl fd_RX4_25 ?_
    refine E_isub dX4_isWord_16 ?_
    refine E_aload_n dX4_isWord_17 rfl ?_
    refine E_callT (As := []) (rest := [.int ((gI σ 27 5) - (gI σ 27 3))]) dX4_isWord_18 cl_RX4_57 tw_200 o_p0 tw_201 ⟨rfl, rfl, Nat.le_of_ble_eq_true rfl, Nat.le_of_ble_eq_true rfl⟩ rfl rfl (Nat.le_of_ble_eq_true rfl) (mt_J0_length_8abf5 _ _ _ o_p0 hP) ?_
    intro r0 s0 hq0; obtain ⟨r18, h0, hs0, hP⟩ := hq0; subst h0; rw [hs0]
    show eX4_isWord 21 [.ref (27), .ref (300 + p0), un] [.int (r18), .int ((gI σ 27 5) - (gI σ 27 3))] σ _
    refine E_icmp_eq 26 dX4_isWord_21 (by decide) (fun hc => ?_) (fun hc => ?_)
    · replace hP := hP.1 hc
      refine E_iconst (v := 0) dX4_isWord_26 (by decide) ?_
      refine E_istore_n (ls' := [.ref (27), .ref (300 + p0), .int (0)]) dX4_isWord_27 (by decide) rfl ?_
      obtain ⟨m28, hP⟩ := hP
      refine ev_X4_isWord_l28 (p0) o_p0 _ Q σ ?_ m28 _ _ rfl hP
      intro  t63 hP hs
      rw [hs]
      refine E_iconst (v := 1) dX4_isWord_63 (by decide) ?_
      exact E_nret dX4_isWord_64 rfl (nar_b true) ⟨true, rfl, rfl, hP⟩
    · replace hP := hP.2 hc
      refine E_iconst (v := 0) dX4_isWord_24 (by decide) ?_
      exact E_nret dX4_isWord_25 rfl (nar_b false) ⟨false, rfl, rfl, hP⟩
theorem dX5_nameOf_0 : decode cX5_nameOf 0 = .ok (.iload_n 0, 1) := by decide +kernel
theorem dX5_nameOf_1 : decode cX5_nameOf 1 = .ok (.tableswitch 50 1 5 #[35, 38, 41, 44, 47], 35) := by decide +kernel
theorem dX5_nameOf_36 : decode cX5_nameOf 36 = .ok (.ldc 85, 2) := by decide +kernel
theorem dX5_nameOf_38 : decode cX5_nameOf 38 = .ok (.areturn, 1) := by decide +kernel
theorem dX5_nameOf_39 : decode cX5_nameOf 39 = .ok (.ldc 87, 2) := by decide +kernel
theorem dX5_nameOf_41 : decode cX5_nameOf 41 = .ok (.areturn, 1) := by decide +kernel
theorem dX5_nameOf_42 : decode cX5_nameOf 42 = .ok (.ldc 89, 2) := by decide +kernel
theorem dX5_nameOf_44 : decode cX5_nameOf 44 = .ok (.areturn, 1) := by decide +kernel
theorem dX5_nameOf_45 : decode cX5_nameOf 45 = .ok (.ldc 91, 2) := by decide +kernel
theorem dX5_nameOf_47 : decode cX5_nameOf 47 = .ok (.areturn, 1) := by decide +kernel
theorem dX5_nameOf_48 : decode cX5_nameOf 48 = .ok (.ldc 93, 2) := by decide +kernel
theorem dX5_nameOf_50 : decode cX5_nameOf 50 = .ok (.areturn, 1) := by decide +kernel
theorem dX5_nameOf_51 : decode cX5_nameOf 51 = .ok (.ldc 95, 2) := by decide +kernel
theorem dX5_nameOf_53 : decode cX5_nameOf 53 = .ok (.areturn, 1) := by decide +kernel
def rmX5_nameOf : Room := { frames := 0, cells := 0, slots := 0, locals := 0 }
abbrev eX5_nameOf := Ev cX5_nameOf 1 (some (.object "java/lang/String")) RX5 rmX5_nameOf
set_option maxRecDepth 20000 in
theorem mt_X5_nameOf (p0 : Int32) (σ : St) (Q : Nat → Prop)  (hP : P_X5_nameOf p0 σ Q) : Mt yX5_nameOf cX5_nameOf 1 (some (.object "java/lang/String")) rmX5_nameOf [.int (p0)] σ (qS fun x s => s = σ ∧ Q x) := by
  refine Mt.of (k := 0) (ls := [.int (p0)]) (by decide +kernel) rfl (Nat.le_of_ble_eq_true rfl) ?_
  show eX5_nameOf 0 [.int (p0)] [] σ _
  unfold P_X5_nameOf at hP
  refine E_iload_n dX5_nameOf_0 rfl ?_
  refine E_tsw [(1, 36), (2, 39), (3, 42), (4, 45), (5, 48)] 51 dX5_nameOf_1 (by decide) (by decide) (by decide +kernel) (by decide +kernel) (List.forall_mem_cons.mpr ⟨fun hc => ?_, (List.forall_mem_cons.mpr ⟨fun hc => ?_, (List.forall_mem_cons.mpr ⟨fun hc => ?_, (List.forall_mem_cons.mpr ⟨fun hc => ?_, (List.forall_mem_cons.mpr ⟨fun hc => ?_, (fun q hq => absurd hq List.not_mem_nil)⟩)⟩)⟩)⟩)⟩) (fun hc => ?_)
  · replace hP := hP.1 hc
    refine E_ldcS (i := 0) dX5_nameOf_36 rfl (by decide) rfl ?_
    exact E_aret dX5_nameOf_38 rfl ⟨_, (show 0 < stN by decide), rfl, rfl, hP⟩
  · replace hP := hP.2.1 hc
    refine E_ldcS (i := 1) dX5_nameOf_39 rfl (by decide) rfl ?_
    exact E_aret dX5_nameOf_41 rfl ⟨_, (show 1 < stN by decide), rfl, rfl, hP⟩
  · replace hP := hP.2.2.1 hc
    refine E_ldcS (i := 2) dX5_nameOf_42 rfl (by decide) rfl ?_
    exact E_aret dX5_nameOf_44 rfl ⟨_, (show 2 < stN by decide), rfl, rfl, hP⟩
  · replace hP := hP.2.2.2.1 hc
    refine E_ldcS (i := 3) dX5_nameOf_45 rfl (by decide) rfl ?_
    exact E_aret dX5_nameOf_47 rfl ⟨_, (show 3 < stN by decide), rfl, rfl, hP⟩
  · replace hP := hP.2.2.2.2.1 hc
    refine E_ldcS (i := 4) dX5_nameOf_48 rfl (by decide) rfl ?_
    exact E_aret dX5_nameOf_50 rfl ⟨_, (show 4 < stN by decide), rfl, rfl, hP⟩
  · replace hP := hP.2.2.2.2.2 ⟨hc (1, 36) (List.mem_of_getElem? (i := 0) rfl), hc (2, 39) (List.mem_of_getElem? (i := 1) rfl), hc (3, 42) (List.mem_of_getElem? (i := 2) rfl), hc (4, 45) (List.mem_of_getElem? (i := 3) rfl), hc (5, 48) (List.mem_of_getElem? (i := 4) rfl)⟩
    refine E_ldcS (i := 5) dX5_nameOf_51 rfl (by decide) rfl ?_
    exact E_aret dX5_nameOf_53 rfl ⟨_, (show 5 < stN by decide), rfl, rfl, hP⟩
theorem dX5_tellBeam_0 : decode cX5_tellBeam 0 = .ok (.aload_n 0, 1) := by decide +kernel
theorem dX5_tellBeam_1 : decode cX5_tellBeam 1 = .ok (.getfield 12, 3) := by decide +kernel
theorem dX5_tellBeam_4 : decode cX5_tellBeam 4 = .ok (.iconst 0, 1) := by decide +kernel
theorem dX5_tellBeam_5 : decode cX5_tellBeam 5 = .ok (.iconst 2, 1) := by decide +kernel
theorem dX5_tellBeam_6 : decode cX5_tellBeam 6 = .ok (.invokevirtual 97, 3) := by decide +kernel
theorem dX5_tellBeam_9 : decode cX5_tellBeam 9 = .ok (.ifCond .ne 5, 3) := by decide +kernel
theorem dX5_tellBeam_12 : decode cX5_tellBeam 12 = .ok (.iconst 0, 1) := by decide +kernel
theorem dX5_tellBeam_13 : decode cX5_tellBeam 13 = .ok (.ireturn, 1) := by decide +kernel
theorem dX5_tellBeam_14 : decode cX5_tellBeam 14 = .ok (.aload_n 0, 1) := by decide +kernel
theorem dX5_tellBeam_15 : decode cX5_tellBeam 15 = .ok (.getfield 12, 3) := by decide +kernel
theorem dX5_tellBeam_18 : decode cX5_tellBeam 18 = .ok (.getfield 105, 3) := by decide +kernel
theorem dX5_tellBeam_21 : decode cX5_tellBeam 21 = .ok (.istore_n 1, 1) := by decide +kernel
theorem dX5_tellBeam_22 : decode cX5_tellBeam 22 = .ok (.aload_n 0, 1) := by decide +kernel
theorem dX5_tellBeam_23 : decode cX5_tellBeam 23 = .ok (.getfield 12, 3) := by decide +kernel
theorem dX5_tellBeam_26 : decode cX5_tellBeam 26 = .ok (.invokevirtual 47, 3) := by decide +kernel
theorem dX5_tellBeam_29 : decode cX5_tellBeam 29 = .ok (.aload_n 0, 1) := by decide +kernel
theorem dX5_tellBeam_30 : decode cX5_tellBeam 30 = .ok (.getfield 12, 3) := by decide +kernel
theorem dX5_tellBeam_33 : decode cX5_tellBeam 33 = .ok (.ldc 116, 2) := by decide +kernel
theorem dX5_tellBeam_35 : decode cX5_tellBeam 35 = .ok (.invokevirtual 57, 3) := by decide +kernel
theorem dX5_tellBeam_38 : decode cX5_tellBeam 38 = .ok (.istore_n 2, 1) := by decide +kernel
theorem dX5_tellBeam_39 : decode cX5_tellBeam 39 = .ok (.iload_n 2, 1) := by decide +kernel
theorem dX5_tellBeam_40 : decode cX5_tellBeam 40 = .ok (.ifCond .ne 17, 3) := by decide +kernel
theorem dX5_tellBeam_43 : decode cX5_tellBeam 43 = .ok (.aload_n 0, 1) := by decide +kernel
theorem dX5_tellBeam_44 : decode cX5_tellBeam 44 = .ok (.getfield 12, 3) := by decide +kernel
theorem dX5_tellBeam_47 : decode cX5_tellBeam 47 = .ok (.ldc 118, 2) := by decide +kernel
theorem dX5_tellBeam_49 : decode cX5_tellBeam 49 = .ok (.invokevirtual 57, 3) := by decide +kernel
theorem dX5_tellBeam_52 : decode cX5_tellBeam 52 = .ok (.ifCond .ne 5, 3) := by decide +kernel
theorem dX5_tellBeam_55 : decode cX5_tellBeam 55 = .ok (.iconst 0, 1) := by decide +kernel
theorem dX5_tellBeam_56 : decode cX5_tellBeam 56 = .ok (.ireturn, 1) := by decide +kernel
theorem dX5_tellBeam_57 : decode cX5_tellBeam 57 = .ok (.aload_n 0, 1) := by decide +kernel
theorem dX5_tellBeam_58 : decode cX5_tellBeam 58 = .ok (.getfield 21, 3) := by decide +kernel
theorem dX5_tellBeam_61 : decode cX5_tellBeam 61 = .ok (.iload_n 1, 1) := by decide +kernel
theorem dX5_tellBeam_62 : decode cX5_tellBeam 62 = .ok (.iload_n 2, 1) := by decide +kernel
theorem dX5_tellBeam_63 : decode cX5_tellBeam 63 = .ok (.invokevirtual 120, 3) := by decide +kernel
theorem dX5_tellBeam_66 : decode cX5_tellBeam 66 = .ok (.aload_n 0, 1) := by decide +kernel
theorem dX5_tellBeam_67 : decode cX5_tellBeam 67 = .ok (.getfield 12, 3) := by decide +kernel
theorem dX5_tellBeam_70 : decode cX5_tellBeam 70 = .ok (.invokevirtual 47, 3) := by decide +kernel
theorem dX5_tellBeam_73 : decode cX5_tellBeam 73 = .ok (.iconst 1, 1) := by decide +kernel
theorem dX5_tellBeam_74 : decode cX5_tellBeam 74 = .ok (.ireturn, 1) := by decide +kernel
def rmX5_tellBeam : Room := { frames := 5, cells := 0, slots := 0, locals := 107 }
abbrev eX5_tellBeam := Ev cX5_tellBeam 3 (some .boolean) RX5 rmX5_tellBeam
set_option maxRecDepth 20000 in
theorem mt_X5_tellBeam  (σ : St) (Q : Bool → St → Prop)  (hP : P_X5_tellBeam  σ Q) : Mt yX5_tellBeam cX5_tellBeam 3 (some .boolean) rmX5_tellBeam [.ref (26)] σ (qB Q) := by
  refine Mt.of (k := 2) (ls := [.ref (26), un, un]) (by decide +kernel) rfl (Nat.le_of_ble_eq_true rfl) ?_
  show eX5_tellBeam 0 [.ref (26), un, un] [] σ _
  unfold P_X5_tellBeam at hP
  refine E_aload_n dX5_tellBeam_0 rfl ?_
  refine E_getR (j := 0) dX5_tellBeam_1 (show kd 26 = 5 by decide) (by decide) rfl fd_RX5_12 (by decide) ?_
  refine E_iconst (v := 0) dX5_tellBeam_4 (by decide) ?_
  refine E_iconst (v := 2) dX5_tellBeam_5 (by decide) ?_
  refine E_callV (As := [.int (0), .int (2)]) (rest := []) dX5_tellBeam_6 cl_RX5_97 tw_216 (ar_5_1 (show kd 26 = 5 by decide)).1 (by decide) rfl tw_217 ⟨rfl, rfl, Nat.le_of_ble_eq_true rfl, Nat.le_of_ble_eq_true rfl⟩ rfl rfl (Nat.le_of_ble_eq_true rfl) (mt_X4_isNumber _ _ _ _  hP) ?_
  intro r0 s0 hq0; obtain ⟨r6, h0, hs0, hP⟩ := hq0; subst h0; rw [hs0]
  show eX5_tellBeam 9 [.ref (26), un, un] [.int (bI r6)] σ _
  refine E_ifz_ne 14 dX5_tellBeam_9 (by decide) (fun hc => ?_) (fun hc => ?_)
  · replace hP := hP.1 hc
    refine E_aload_n dX5_tellBeam_14 rfl ?_
    refine E_getR (j := 0) dX5_tellBeam_15 (show kd 26 = 5 by decide) (by decide) rfl fd_RX5_12 (by decide) ?_
    refine E_getI (j := 4) dX5_tellBeam_18 (ar_5_1 (show kd 26 = 5 by decide)).1 (by decide) rfl fd_RX5_105 ?_
    refine E_istore_n (ls' := [.ref (26), .int (gI σ 27 4), un]) dX5_tellBeam_21 (by decide) rfl ?_
    refine E_aload_n dX5_tellBeam_22 rfl ?_
    refine E_getR (j := 0) dX5_tellBeam_23 (show kd 26 = 5 by decide) (by decide) rfl fd_RX5_12 (by decide) ?_
    refine E_callV (As := []) (rest := []) dX5_tellBeam_26 cl_RX5_47 tw_168 (ar_5_1 (show kd 26 = 5 by decide)).1 (by decide) rfl tw_169 ⟨rfl, rfl, Nat.le_of_ble_eq_true rfl, Nat.le_of_ble_eq_true rfl⟩ rfl rfl (Nat.le_of_ble_eq_true rfl) (mt_X4_step  _ _  hP) ?_
    rintro _ t26 ⟨rfl, hP⟩
    show eX5_tellBeam 29 [.ref (26), .int (gI σ 27 4), un] [] t26 _
    refine E_aload_n dX5_tellBeam_29 rfl ?_
    refine E_getR (j := 0) dX5_tellBeam_30 (show kd 26 = 5 by decide) (by decide) rfl fd_RX5_12 (by decide) ?_
    refine E_ldcS (i := 9) dX5_tellBeam_33 rfl (by decide) rfl ?_
    refine E_callV (As := [.ref (300 + 9)]) (rest := []) dX5_tellBeam_35 cl_RX5_57 tw_212 (ar_5_1 (show kd 26 = 5 by decide)).1 (by decide) rfl tw_213 ⟨rfl, rfl, Nat.le_of_ble_eq_true rfl, Nat.le_of_ble_eq_true rfl⟩ rfl rfl (Nat.le_of_ble_eq_true rfl) (mt_X4_isWord _ _ _ (show 9 < stN by decide) hP) ?_
    intro r0 s0 hq0; obtain ⟨r35, h0, hs0, hP⟩ := hq0; subst h0; rw [hs0]
    show eX5_tellBeam 38 [.ref (26), .int (gI σ 27 4), un] [.int (bI r35)] t26 _
    refine E_istore_n (ls' := [.ref (26), .int (gI σ 27 4), .int (bI r35)]) dX5_tellBeam_38 (by decide) rfl ?_
    refine E_iload_n dX5_tellBeam_39 rfl ?_
    refine E_ifz_ne 57 dX5_tellBeam_40 (by decide) (fun hc => ?_) (fun hc => ?_)
    · replace hP := hP.1 hc
      refine E_aload_n dX5_tellBeam_57 rfl ?_
      refine E_getR (j := 1) dX5_tellBeam_58 (show kd 26 = 5 by decide) (by decide) rfl fd_RX5_21 (by decide) ?_
      refine E_iload_n dX5_tellBeam_61 rfl ?_
      refine E_iload_n dX5_tellBeam_62 rfl ?_
      refine E_callV (As := [.int (gI σ 27 4), .int (bI r35)]) (rest := []) dX5_tellBeam_63 cl_RX5_120 tw_208 (ar_5_3 (show kd 26 = 5 by decide)).1 (by decide) rfl tw_209 ⟨rfl, rfl, Nat.le_of_ble_eq_true rfl, Nat.le_of_ble_eq_true rfl⟩ rfl rfl (Nat.le_of_ble_eq_true rfl) (mt_X0_layBeam _ _ _ _ _ (ar_5_3 (show kd 26 = 5 by decide)).1 hP) ?_
      rintro _ t63 ⟨rfl, hP⟩
      show eX5_tellBeam 66 [.ref (26), .int (gI σ 27 4), .int (bI r35)] [] t63 _
      refine E_aload_n dX5_tellBeam_66 rfl ?_
      refine E_getR (j := 0) dX5_tellBeam_67 (show kd 26 = 5 by decide) (by decide) rfl fd_RX5_12 (by decide) ?_
      refine E_callV (As := []) (rest := []) dX5_tellBeam_70 cl_RX5_47 tw_168 (ar_5_1 (show kd 26 = 5 by decide)).1 (by decide) rfl tw_169 ⟨rfl, rfl, Nat.le_of_ble_eq_true rfl, Nat.le_of_ble_eq_true rfl⟩ rfl rfl (Nat.le_of_ble_eq_true rfl) (mt_X4_step  _ _  hP) ?_
      rintro _ t70 ⟨rfl, hP⟩
      show eX5_tellBeam 73 [.ref (26), .int (gI σ 27 4), .int (bI r35)] [] t70 _
      refine E_iconst (v := 1) dX5_tellBeam_73 (by decide) ?_
      exact E_nret dX5_tellBeam_74 rfl (nar_b true) ⟨true, rfl, hP⟩
    · replace hP := hP.2 hc
      refine E_aload_n dX5_tellBeam_43 rfl ?_
      refine E_getR (j := 0) dX5_tellBeam_44 (show kd 26 = 5 by decide) (by decide) rfl fd_RX5_12 (by decide) ?_
      refine E_ldcS (i := 10) dX5_tellBeam_47 rfl (by decide) rfl ?_
      refine E_callV (As := [.ref (300 + 10)]) (rest := []) dX5_tellBeam_49 cl_RX5_57 tw_212 (ar_5_1 (show kd 26 = 5 by decide)).1 (by decide) rfl tw_213 ⟨rfl, rfl, Nat.le_of_ble_eq_true rfl, Nat.le_of_ble_eq_true rfl⟩ rfl rfl (Nat.le_of_ble_eq_true rfl) (mt_X4_isWord _ _ _ (show 10 < stN by decide) hP) ?_
      intro r0 s0 hq0; obtain ⟨r49, h0, hs0, hP⟩ := hq0; subst h0; rw [hs0]
      show eX5_tellBeam 52 [.ref (26), .int (gI σ 27 4), .int (bI r35)] [.int (bI r49)] t26 _
      refine E_ifz_ne 57 dX5_tellBeam_52 (by decide) (fun hc => ?_) (fun hc => ?_)
      · replace hP := hP.1 hc
        refine E_aload_n dX5_tellBeam_57 rfl ?_
        refine E_getR (j := 1) dX5_tellBeam_58 (show kd 26 = 5 by decide) (by decide) rfl fd_RX5_21 (by decide) ?_
        refine E_iload_n dX5_tellBeam_61 rfl ?_
        refine E_iload_n dX5_tellBeam_62 rfl ?_
        refine E_callV (As := [.int (gI σ 27 4), .int (bI r35)]) (rest := []) dX5_tellBeam_63 cl_RX5_120 tw_208 (ar_5_3 (show kd 26 = 5 by decide)).1 (by decide) rfl tw_209 ⟨rfl, rfl, Nat.le_of_ble_eq_true rfl, Nat.le_of_ble_eq_true rfl⟩ rfl rfl (Nat.le_of_ble_eq_true rfl) (mt_X0_layBeam _ _ _ _ _ (ar_5_3 (show kd 26 = 5 by decide)).1 hP) ?_
        rintro _ t63 ⟨rfl, hP⟩
        show eX5_tellBeam 66 [.ref (26), .int (gI σ 27 4), .int (bI r35)] [] t63 _
        refine E_aload_n dX5_tellBeam_66 rfl ?_
        refine E_getR (j := 0) dX5_tellBeam_67 (show kd 26 = 5 by decide) (by decide) rfl fd_RX5_12 (by decide) ?_
        refine E_callV (As := []) (rest := []) dX5_tellBeam_70 cl_RX5_47 tw_168 (ar_5_1 (show kd 26 = 5 by decide)).1 (by decide) rfl tw_169 ⟨rfl, rfl, Nat.le_of_ble_eq_true rfl, Nat.le_of_ble_eq_true rfl⟩ rfl rfl (Nat.le_of_ble_eq_true rfl) (mt_X4_step  _ _  hP) ?_
        rintro _ t70 ⟨rfl, hP⟩
        show eX5_tellBeam 73 [.ref (26), .int (gI σ 27 4), .int (bI r35)] [] t70 _
        refine E_iconst (v := 1) dX5_tellBeam_73 (by decide) ?_
        exact E_nret dX5_tellBeam_74 rfl (nar_b true) ⟨true, rfl, hP⟩
      · replace hP := hP.2 hc
        refine E_iconst (v := 0) dX5_tellBeam_55 (by decide) ?_
        exact E_nret dX5_tellBeam_56 rfl (nar_b false) ⟨false, rfl, hP⟩
  · replace hP := hP.2 hc
    refine E_iconst (v := 0) dX5_tellBeam_12 (by decide) ?_
    exact E_nret dX5_tellBeam_13 rfl (nar_b false) ⟨false, rfl, hP⟩
theorem dX5_tellPulls_0 : decode cX5_tellPulls 0 = .ok (.aload_n 0, 1) := by decide +kernel
theorem dX5_tellPulls_1 : decode cX5_tellPulls 1 = .ok (.getfield 12, 3) := by decide +kernel
theorem dX5_tellPulls_4 : decode cX5_tellPulls 4 = .ok (.getfield 43, 3) := by decide +kernel
theorem dX5_tellPulls_7 : decode cX5_tellPulls 7 = .ok (.iconst 2, 1) := by decide +kernel
theorem dX5_tellPulls_8 : decode cX5_tellPulls 8 = .ok (.if_icmp .eq 5, 3) := by decide +kernel
theorem dX5_tellPulls_11 : decode cX5_tellPulls 11 = .ok (.iconst 0, 1) := by decide +kernel
theorem dX5_tellPulls_12 : decode cX5_tellPulls 12 = .ok (.ireturn, 1) := by decide +kernel
theorem dX5_tellPulls_13 : decode cX5_tellPulls 13 = .ok (.iconst 0, 1) := by decide +kernel
theorem dX5_tellPulls_14 : decode cX5_tellPulls 14 = .ok (.istore_n 1, 1) := by decide +kernel
theorem dX5_tellPulls_15 : decode cX5_tellPulls 15 = .ok (.iload_n 1, 1) := by decide +kernel
theorem dX5_tellPulls_16 : decode cX5_tellPulls 16 = .ok (.bipush 120, 2) := by decide +kernel
theorem dX5_tellPulls_18 : decode cX5_tellPulls 18 = .ok (.if_icmp .ge 92, 3) := by decide +kernel
theorem dX5_tellPulls_21 : decode cX5_tellPulls 21 = .ok (.aload_n 0, 1) := by decide +kernel
theorem dX5_tellPulls_22 : decode cX5_tellPulls 22 = .ok (.getfield 12, 3) := by decide +kernel
theorem dX5_tellPulls_25 : decode cX5_tellPulls 25 = .ok (.getfield 43, 3) := by decide +kernel
theorem dX5_tellPulls_28 : decode cX5_tellPulls 28 = .ok (.iconst 2, 1) := by decide +kernel
theorem dX5_tellPulls_29 : decode cX5_tellPulls 29 = .ok (.if_icmp .ne 81, 3) := by decide +kernel
theorem dX5_tellPulls_32 : decode cX5_tellPulls 32 = .ok (.aload_n 0, 1) := by decide +kernel
theorem dX5_tellPulls_33 : decode cX5_tellPulls 33 = .ok (.getfield 12, 3) := by decide +kernel
theorem dX5_tellPulls_36 : decode cX5_tellPulls 36 = .ok (.iconst 0, 1) := by decide +kernel
theorem dX5_tellPulls_37 : decode cX5_tellPulls 37 = .ok (.iconst 3, 1) := by decide +kernel
theorem dX5_tellPulls_38 : decode cX5_tellPulls 38 = .ok (.invokevirtual 97, 3) := by decide +kernel
theorem dX5_tellPulls_41 : decode cX5_tellPulls 41 = .ok (.ifCond .ne 5, 3) := by decide +kernel
theorem dX5_tellPulls_44 : decode cX5_tellPulls 44 = .ok (.iconst 0, 1) := by decide +kernel
theorem dX5_tellPulls_45 : decode cX5_tellPulls 45 = .ok (.ireturn, 1) := by decide +kernel
theorem dX5_tellPulls_46 : decode cX5_tellPulls 46 = .ok (.aload_n 0, 1) := by decide +kernel
theorem dX5_tellPulls_47 : decode cX5_tellPulls 47 = .ok (.getfield 28, 3) := by decide +kernel
theorem dX5_tellPulls_50 : decode cX5_tellPulls 50 = .ok (.aload_n 0, 1) := by decide +kernel
theorem dX5_tellPulls_51 : decode cX5_tellPulls 51 = .ok (.getfield 21, 3) := by decide +kernel
theorem dX5_tellPulls_54 : decode cX5_tellPulls 54 = .ok (.invokevirtual 129, 3) := by decide +kernel
theorem dX5_tellPulls_57 : decode cX5_tellPulls 57 = .ok (.aload_n 0, 1) := by decide +kernel
theorem dX5_tellPulls_58 : decode cX5_tellPulls 58 = .ok (.getfield 28, 3) := by decide +kernel
theorem dX5_tellPulls_61 : decode cX5_tellPulls 61 = .ok (.aload_n 0, 1) := by decide +kernel
theorem dX5_tellPulls_62 : decode cX5_tellPulls 62 = .ok (.getfield 28, 3) := by decide +kernel
theorem dX5_tellPulls_65 : decode cX5_tellPulls 65 = .ok (.getfield 132, 3) := by decide +kernel
theorem dX5_tellPulls_68 : decode cX5_tellPulls 68 = .ok (.aload_n 0, 1) := by decide +kernel
theorem dX5_tellPulls_69 : decode cX5_tellPulls 69 = .ok (.getfield 12, 3) := by decide +kernel
theorem dX5_tellPulls_72 : decode cX5_tellPulls 72 = .ok (.getfield 105, 3) := by decide +kernel
theorem dX5_tellPulls_75 : decode cX5_tellPulls 75 = .ok (.invokevirtual 135, 3) := by decide +kernel
theorem dX5_tellPulls_78 : decode cX5_tellPulls 78 = .ok (.ifCond .ne 5, 3) := by decide +kernel
theorem dX5_tellPulls_81 : decode cX5_tellPulls 81 = .ok (.iconst 0, 1) := by decide +kernel
theorem dX5_tellPulls_82 : decode cX5_tellPulls 82 = .ok (.ireturn, 1) := by decide +kernel
theorem dX5_tellPulls_83 : decode cX5_tellPulls 83 = .ok (.aload_n 0, 1) := by decide +kernel
theorem dX5_tellPulls_84 : decode cX5_tellPulls 84 = .ok (.getfield 21, 3) := by decide +kernel
theorem dX5_tellPulls_87 : decode cX5_tellPulls 87 = .ok (.aload_n 0, 1) := by decide +kernel
theorem dX5_tellPulls_88 : decode cX5_tellPulls 88 = .ok (.getfield 12, 3) := by decide +kernel
theorem dX5_tellPulls_91 : decode cX5_tellPulls 91 = .ok (.getfield 105, 3) := by decide +kernel
theorem dX5_tellPulls_94 : decode cX5_tellPulls 94 = .ok (.invokevirtual 138, 3) := by decide +kernel
theorem dX5_tellPulls_97 : decode cX5_tellPulls 97 = .ok (.aload_n 0, 1) := by decide +kernel
theorem dX5_tellPulls_98 : decode cX5_tellPulls 98 = .ok (.getfield 12, 3) := by decide +kernel
theorem dX5_tellPulls_101 : decode cX5_tellPulls 101 = .ok (.invokevirtual 47, 3) := by decide +kernel
theorem dX5_tellPulls_104 : decode cX5_tellPulls 104 = .ok (.iinc 1 1, 3) := by decide +kernel
theorem dX5_tellPulls_107 : decode cX5_tellPulls 107 = .ok (.goto (-92), 3) := by decide +kernel
theorem dX5_tellPulls_110 : decode cX5_tellPulls 110 = .ok (.iconst 1, 1) := by decide +kernel
theorem dX5_tellPulls_111 : decode cX5_tellPulls 111 = .ok (.ireturn, 1) := by decide +kernel
def rmX5_tellPulls : Room := { frames := 4, cells := 0, slots := 0, locals := 83 }
abbrev eX5_tellPulls := Ev cX5_tellPulls 2 (some .boolean) RX5 rmX5_tellPulls
set_option maxRecDepth 20000 in
theorem ev_X5_tellPulls_l15   (K : St → Prop) (Q : Bool → St → Prop) (hK : ∀  s, K  s → eX5_tellPulls 110 [un, un] [] s (qB Q)) : ∀ (n : Nat) (l1 : Int32) (σ : St), P_X5_tellPulls_l15  K Q n l1 σ → eX5_tellPulls 15 [.ref (26), .int (l1)] [] σ (qB Q) := by
  intro n
  induction n with
  | zero => intro l1 σ hP; exact hP.elim
  | succ n ih =>
    intro l1 σ hP
    rw [P_X5_tellPulls_l15] at hP
    refine E_iload_n dX5_tellPulls_15 rfl ?_
    refine E_bipush (v := 120) dX5_tellPulls_16 (by decide) ?_
    refine E_icmp_ge 110 dX5_tellPulls_18 (by decide) (fun hc => ?_) (fun hc => ?_)
    · replace hP := hP.1 hc
      refine E_mask [false, false] rfl ?_
      exact hK  _ hP
    · replace hP := hP.2 hc
      refine E_aload_n dX5_tellPulls_21 rfl ?_
      refine E_getR (j := 0) dX5_tellPulls_22 (show kd 26 = 5 by decide) (by decide) rfl fd_RX5_12 (by decide) ?_
      refine E_getI (j := 2) dX5_tellPulls_25 (ar_5_1 (show kd 26 = 5 by decide)).1 (by decide) rfl fd_RX5_43 ?_
      refine E_iconst (v := 2) dX5_tellPulls_28 (by decide) ?_
      refine E_icmp_ne 110 dX5_tellPulls_29 (by decide) (fun hc => ?_) (fun hc => ?_)
      · replace hP := hP.1 hc
        refine E_mask [false, false] rfl ?_
        exact hK  _ hP
      · replace hP := hP.2 hc
        refine E_aload_n dX5_tellPulls_32 rfl ?_
        refine E_getR (j := 0) dX5_tellPulls_33 (show kd 26 = 5 by decide) (by decide) rfl fd_RX5_12 (by decide) ?_
        refine E_iconst (v := 0) dX5_tellPulls_36 (by decide) ?_
        refine E_iconst (v := 3) dX5_tellPulls_37 (by decide) ?_
        refine E_callV (As := [.int (0), .int (3)]) (rest := []) dX5_tellPulls_38 cl_RX5_97 tw_216 (ar_5_1 (show kd 26 = 5 by decide)).1 (by decide) rfl tw_217 ⟨rfl, rfl, Nat.le_of_ble_eq_true rfl, Nat.le_of_ble_eq_true rfl⟩ rfl rfl (Nat.le_of_ble_eq_true rfl) (mt_X4_isNumber _ _ _ _  hP) ?_
        intro r0 s0 hq0; obtain ⟨r38, h0, hs0, hP⟩ := hq0; subst h0; rw [hs0]
        show eX5_tellPulls 41 [.ref (26), .int (l1)] [.int (bI r38)] σ _
        refine E_ifz_ne 46 dX5_tellPulls_41 (by decide) (fun hc => ?_) (fun hc => ?_)
        · replace hP := hP.1 hc
          refine E_aload_n dX5_tellPulls_46 rfl ?_
          refine E_getR (j := 2) dX5_tellPulls_47 (show kd 26 = 5 by decide) (by decide) rfl fd_RX5_28 (by decide) ?_
          refine E_aload_n dX5_tellPulls_50 rfl ?_
          refine E_getR (j := 1) dX5_tellPulls_51 (show kd 26 = 5 by decide) (by decide) rfl fd_RX5_21 (by decide) ?_
          refine E_callV (As := [.ref (29)]) (rest := []) dX5_tellPulls_54 cl_RX5_129 tw_228 (ar_5_9 (show kd 26 = 5 by decide)).1 (by decide) rfl tw_229 ⟨rfl, rfl, Nat.le_of_ble_eq_true rfl, Nat.le_of_ble_eq_true rfl⟩ rfl rfl (Nat.le_of_ble_eq_true rfl) (mt_X3_measure _ _ _ _ (ar_5_9 (show kd 26 = 5 by decide)).1 (ar_5_3 (show kd 26 = 5 by decide)).1 hP) ?_
          rintro _ t54 ⟨rfl, hP⟩
          show eX5_tellPulls 57 [.ref (26), .int (l1)] [] t54 _
          refine E_aload_n dX5_tellPulls_57 rfl ?_
          refine E_getR (j := 2) dX5_tellPulls_58 (show kd 26 = 5 by decide) (by decide) rfl fd_RX5_28 (by decide) ?_
          refine E_aload_n dX5_tellPulls_61 rfl ?_
          refine E_getR (j := 2) dX5_tellPulls_62 (show kd 26 = 5 by decide) (by decide) rfl fd_RX5_28 (by decide) ?_
          refine E_getI (j := 3) dX5_tellPulls_65 (ar_5_9 (show kd 26 = 5 by decide)).1 (by decide) rfl fd_RX5_132 ?_
          refine E_aload_n dX5_tellPulls_68 rfl ?_
          refine E_getR (j := 0) dX5_tellPulls_69 (show kd 26 = 5 by decide) (by decide) rfl fd_RX5_12 (by decide) ?_
          refine E_getI (j := 4) dX5_tellPulls_72 (ar_5_1 (show kd 26 = 5 by decide)).1 (by decide) rfl fd_RX5_105 ?_
          refine E_callV (As := [.int (gI t54 35 3), .int (gI t54 27 4)]) (rest := []) dX5_tellPulls_75 cl_RX5_135 tw_105 (ar_5_9 (show kd 26 = 5 by decide)).1 (by decide) rfl tw_106 ⟨rfl, rfl, Nat.le_of_ble_eq_true rfl, Nat.le_of_ble_eq_true rfl⟩ rfl rfl (Nat.le_of_ble_eq_true rfl) (mt_X3_canPullAt _ _ _ _ _ (ar_5_9 (show kd 26 = 5 by decide)).1 hP) ?_
          intro r0 s0 hq0; obtain ⟨r75, h0, hs0, hP⟩ := hq0; subst h0; rw [hs0]
          show eX5_tellPulls 78 [.ref (26), .int (l1)] [.int (bI r75)] t54 _
          refine E_ifz_ne 83 dX5_tellPulls_78 (by decide) (fun hc => ?_) (fun hc => ?_)
          · replace hP := hP.1 hc
            refine E_aload_n dX5_tellPulls_83 rfl ?_
            refine E_getR (j := 1) dX5_tellPulls_84 (show kd 26 = 5 by decide) (by decide) rfl fd_RX5_21 (by decide) ?_
            refine E_aload_n dX5_tellPulls_87 rfl ?_
            refine E_getR (j := 0) dX5_tellPulls_88 (show kd 26 = 5 by decide) (by decide) rfl fd_RX5_12 (by decide) ?_
            refine E_getI (j := 4) dX5_tellPulls_91 (ar_5_1 (show kd 26 = 5 by decide)).1 (by decide) rfl fd_RX5_105 ?_
            refine E_callV (As := [.int (gI t54 27 4)]) (rest := []) dX5_tellPulls_94 cl_RX5_138 tw_223 (ar_5_3 (show kd 26 = 5 by decide)).1 (by decide) rfl tw_224 ⟨rfl, rfl, Nat.le_of_ble_eq_true rfl, Nat.le_of_ble_eq_true rfl⟩ rfl rfl (Nat.le_of_ble_eq_true rfl) (mt_X0_takeLowest _ _ _ _ (ar_5_3 (show kd 26 = 5 by decide)).1 hP) ?_
            rintro _ t94 ⟨rfl, hP⟩
            show eX5_tellPulls 97 [.ref (26), .int (l1)] [] t94 _
            refine E_aload_n dX5_tellPulls_97 rfl ?_
            refine E_getR (j := 0) dX5_tellPulls_98 (show kd 26 = 5 by decide) (by decide) rfl fd_RX5_12 (by decide) ?_
            refine E_callV (As := []) (rest := []) dX5_tellPulls_101 cl_RX5_47 tw_168 (ar_5_1 (show kd 26 = 5 by decide)).1 (by decide) rfl tw_169 ⟨rfl, rfl, Nat.le_of_ble_eq_true rfl, Nat.le_of_ble_eq_true rfl⟩ rfl rfl (Nat.le_of_ble_eq_true rfl) (mt_X4_step  _ _  hP) ?_
            rintro _ t101 ⟨rfl, hP⟩
            show eX5_tellPulls 104 [.ref (26), .int (l1)] [] t101 _
            refine E_iinc (ls' := [.ref (26), .int (l1 + 1)]) dX5_tellPulls_104 rfl rfl (by decide) rfl ?_
            refine E_goto 15 dX5_tellPulls_107 (by decide) ?_
            exact ih (l1 + 1) _ hP
          · replace hP := hP.2 hc
            refine E_iconst (v := 0) dX5_tellPulls_81 (by decide) ?_
            exact E_nret dX5_tellPulls_82 rfl (nar_b false) ⟨false, rfl, hP⟩
        · replace hP := hP.2 hc
          refine E_iconst (v := 0) dX5_tellPulls_44 (by decide) ?_
          exact E_nret dX5_tellPulls_45 rfl (nar_b false) ⟨false, rfl, hP⟩
set_option maxRecDepth 20000 in
theorem mt_X5_tellPulls  (σ : St) (Q : Bool → St → Prop)  (hP : P_X5_tellPulls  σ Q) : Mt yX5_tellPulls cX5_tellPulls 2 (some .boolean) rmX5_tellPulls [.ref (26)] σ (qB Q) := by
  refine Mt.of (k := 1) (ls := [.ref (26), un]) (by decide +kernel) rfl (Nat.le_of_ble_eq_true rfl) ?_
  show eX5_tellPulls 0 [.ref (26), un] [] σ _
  unfold P_X5_tellPulls at hP
  refine E_aload_n dX5_tellPulls_0 rfl ?_
  refine E_getR (j := 0) dX5_tellPulls_1 (show kd 26 = 5 by decide) (by decide) rfl fd_RX5_12 (by decide) ?_
  refine E_getI (j := 2) dX5_tellPulls_4 (ar_5_1 (show kd 26 = 5 by decide)).1 (by decide) rfl fd_RX5_43 ?_
  refine E_iconst (v := 2) dX5_tellPulls_7 (by decide) ?_
  refine E_icmp_eq 13 dX5_tellPulls_8 (by decide) (fun hc => ?_) (fun hc => ?_)
  · replace hP := hP.1 hc
    refine E_iconst (v := 0) dX5_tellPulls_13 (by decide) ?_
    refine E_istore_n (ls' := [.ref (26), .int (0)]) dX5_tellPulls_14 (by decide) rfl ?_
    obtain ⟨m15, hP⟩ := hP
    refine ev_X5_tellPulls_l15   _ Q ?_ m15 _ _ hP
    intro  t110 hP
    refine E_iconst (v := 1) dX5_tellPulls_110 (by decide) ?_
    exact E_nret dX5_tellPulls_111 rfl (nar_b true) ⟨true, rfl, hP⟩
  · replace hP := hP.2 hc
    refine E_iconst (v := 0) dX5_tellPulls_11 (by decide) ?_
    exact E_nret dX5_tellPulls_12 rfl (nar_b false) ⟨false, rfl, hP⟩
theorem dX5_tellSlack_0 : decode cX5_tellSlack 0 = .ok (.aload_n 0, 1) := by decide +kernel
theorem dX5_tellSlack_1 : decode cX5_tellSlack 1 = .ok (.getfield 12, 3) := by decide +kernel
theorem dX5_tellSlack_4 : decode cX5_tellSlack 4 = .ok (.iconst 0, 1) := by decide +kernel
theorem dX5_tellSlack_5 : decode cX5_tellSlack 5 = .ok (.bipush 99, 2) := by decide +kernel
theorem dX5_tellSlack_7 : decode cX5_tellSlack 7 = .ok (.invokevirtual 97, 3) := by decide +kernel
theorem dX5_tellSlack_10 : decode cX5_tellSlack 10 = .ok (.ifCond .ne 5, 3) := by decide +kernel
theorem dX5_tellSlack_13 : decode cX5_tellSlack 13 = .ok (.iconst 0, 1) := by decide +kernel
theorem dX5_tellSlack_14 : decode cX5_tellSlack 14 = .ok (.ireturn, 1) := by decide +kernel
theorem dX5_tellSlack_15 : decode cX5_tellSlack 15 = .ok (.aload_n 0, 1) := by decide +kernel
theorem dX5_tellSlack_16 : decode cX5_tellSlack 16 = .ok (.getfield 21, 3) := by decide +kernel
theorem dX5_tellSlack_19 : decode cX5_tellSlack 19 = .ok (.aload_n 0, 1) := by decide +kernel
theorem dX5_tellSlack_20 : decode cX5_tellSlack 20 = .ok (.getfield 12, 3) := by decide +kernel
theorem dX5_tellSlack_23 : decode cX5_tellSlack 23 = .ok (.getfield 105, 3) := by decide +kernel
theorem dX5_tellSlack_26 : decode cX5_tellSlack 26 = .ok (.putfield 127, 3) := by decide +kernel
theorem dX5_tellSlack_29 : decode cX5_tellSlack 29 = .ok (.aload_n 0, 1) := by decide +kernel
theorem dX5_tellSlack_30 : decode cX5_tellSlack 30 = .ok (.getfield 12, 3) := by decide +kernel
theorem dX5_tellSlack_33 : decode cX5_tellSlack 33 = .ok (.invokevirtual 47, 3) := by decide +kernel
theorem dX5_tellSlack_36 : decode cX5_tellSlack 36 = .ok (.iconst 1, 1) := by decide +kernel
theorem dX5_tellSlack_37 : decode cX5_tellSlack 37 = .ok (.ireturn, 1) := by decide +kernel
def rmX5_tellSlack : Room := { frames := 4, cells := 0, slots := 0, locals := 83 }
abbrev eX5_tellSlack := Ev cX5_tellSlack 1 (some .boolean) RX5 rmX5_tellSlack
set_option maxRecDepth 20000 in
theorem mt_X5_tellSlack  (σ : St) (Q : Bool → St → Prop)  (hP : P_X5_tellSlack  σ Q) : Mt yX5_tellSlack cX5_tellSlack 1 (some .boolean) rmX5_tellSlack [.ref (26)] σ (qB Q) := by
  refine Mt.of (k := 0) (ls := [.ref (26)]) (by decide +kernel) rfl (Nat.le_of_ble_eq_true rfl) ?_
  show eX5_tellSlack 0 [.ref (26)] [] σ _
  unfold P_X5_tellSlack at hP
  refine E_aload_n dX5_tellSlack_0 rfl ?_
  refine E_getR (j := 0) dX5_tellSlack_1 (show kd 26 = 5 by decide) (by decide) rfl fd_RX5_12 (by decide) ?_
  refine E_iconst (v := 0) dX5_tellSlack_4 (by decide) ?_
  refine E_bipush (v := 99) dX5_tellSlack_5 (by decide) ?_
  refine E_callV (As := [.int (0), .int (99)]) (rest := []) dX5_tellSlack_7 cl_RX5_97 tw_216 (ar_5_1 (show kd 26 = 5 by decide)).1 (by decide) rfl tw_217 ⟨rfl, rfl, Nat.le_of_ble_eq_true rfl, Nat.le_of_ble_eq_true rfl⟩ rfl rfl (Nat.le_of_ble_eq_true rfl) (mt_X4_isNumber _ _ _ _  hP) ?_
  intro r0 s0 hq0; obtain ⟨r7, h0, hs0, hP⟩ := hq0; subst h0; rw [hs0]
  show eX5_tellSlack 10 [.ref (26)] [.int (bI r7)] σ _
  refine E_ifz_ne 15 dX5_tellSlack_10 (by decide) (fun hc => ?_) (fun hc => ?_)
  · replace hP := hP.1 hc
    refine E_aload_n dX5_tellSlack_15 rfl ?_
    refine E_getR (j := 1) dX5_tellSlack_16 (show kd 26 = 5 by decide) (by decide) rfl fd_RX5_21 (by decide) ?_
    refine E_aload_n dX5_tellSlack_19 rfl ?_
    refine E_getR (j := 0) dX5_tellSlack_20 (show kd 26 = 5 by decide) (by decide) rfl fd_RX5_12 (by decide) ?_
    refine E_getI (j := 4) dX5_tellSlack_23 (ar_5_1 (show kd 26 = 5 by decide)).1 (by decide) rfl fd_RX5_105 ?_
    refine E_putI (j := 6) dX5_tellSlack_26 (ar_5_3 (show kd 26 = 5 by decide)).1 (by decide) rfl fd_RX5_127 fp_0_6 ?_
    refine E_aload_n dX5_tellSlack_29 rfl ?_
    refine E_getR (j := 0) dX5_tellSlack_30 (show kd 26 = 5 by decide) (by decide) rfl fd_RX5_12 (by decide) ?_
    refine E_callV (As := []) (rest := []) dX5_tellSlack_33 cl_RX5_47 tw_168 (ar_5_1 (show kd 26 = 5 by decide)).1 (by decide) rfl tw_169 ⟨rfl, rfl, Nat.le_of_ble_eq_true rfl, Nat.le_of_ble_eq_true rfl⟩ rfl rfl (Nat.le_of_ble_eq_true rfl) (mt_X4_step  _ _  hP) ?_
    rintro _ t33 ⟨rfl, hP⟩
    show eX5_tellSlack 36 [.ref (26)] [] t33 _
    refine E_iconst (v := 1) dX5_tellSlack_36 (by decide) ?_
    exact E_nret dX5_tellSlack_37 rfl (nar_b true) ⟨true, rfl, hP⟩
  · replace hP := hP.2 hc
    refine E_iconst (v := 0) dX5_tellSlack_13 (by decide) ?_
    exact E_nret dX5_tellSlack_14 rfl (nar_b false) ⟨false, rfl, hP⟩
theorem dX5_tellStone_0 : decode cX5_tellStone 0 = .ok (.aload_n 0, 1) := by decide +kernel
theorem dX5_tellStone_1 : decode cX5_tellStone 1 = .ok (.getfield 12, 3) := by decide +kernel
theorem dX5_tellStone_4 : decode cX5_tellStone 4 = .ok (.iconst 0, 1) := by decide +kernel
theorem dX5_tellStone_5 : decode cX5_tellStone 5 = .ok (.iconst 3, 1) := by decide +kernel
theorem dX5_tellStone_6 : decode cX5_tellStone 6 = .ok (.invokevirtual 97, 3) := by decide +kernel
theorem dX5_tellStone_9 : decode cX5_tellStone 9 = .ok (.ifCond .eq 23, 3) := by decide +kernel
theorem dX5_tellStone_12 : decode cX5_tellStone 12 = .ok (.aload_n 0, 1) := by decide +kernel
theorem dX5_tellStone_13 : decode cX5_tellStone 13 = .ok (.getfield 21, 3) := by decide +kernel
theorem dX5_tellStone_16 : decode cX5_tellStone 16 = .ok (.getfield 101, 3) := by decide +kernel
theorem dX5_tellStone_19 : decode cX5_tellStone 19 = .ok (.aload_n 0, 1) := by decide +kernel
theorem dX5_tellStone_20 : decode cX5_tellStone 20 = .ok (.getfield 12, 3) := by decide +kernel
theorem dX5_tellStone_23 : decode cX5_tellStone 23 = .ok (.getfield 105, 3) := by decide +kernel
theorem dX5_tellStone_26 : decode cX5_tellStone 26 = .ok (.iaload, 1) := by decide +kernel
theorem dX5_tellStone_27 : decode cX5_tellStone 27 = .ok (.bipush 7, 2) := by decide +kernel
theorem dX5_tellStone_29 : decode cX5_tellStone 29 = .ok (.if_icmp .lt 5, 3) := by decide +kernel
theorem dX5_tellStone_32 : decode cX5_tellStone 32 = .ok (.iconst 0, 1) := by decide +kernel
theorem dX5_tellStone_33 : decode cX5_tellStone 33 = .ok (.ireturn, 1) := by decide +kernel
theorem dX5_tellStone_34 : decode cX5_tellStone 34 = .ok (.aload_n 0, 1) := by decide +kernel
theorem dX5_tellStone_35 : decode cX5_tellStone 35 = .ok (.getfield 12, 3) := by decide +kernel
theorem dX5_tellStone_38 : decode cX5_tellStone 38 = .ok (.getfield 105, 3) := by decide +kernel
theorem dX5_tellStone_41 : decode cX5_tellStone 41 = .ok (.istore_n 2, 1) := by decide +kernel
theorem dX5_tellStone_42 : decode cX5_tellStone 42 = .ok (.iconst 5, 1) := by decide +kernel
theorem dX5_tellStone_43 : decode cX5_tellStone 43 = .ok (.istore_n 3, 1) := by decide +kernel
theorem dX5_tellStone_44 : decode cX5_tellStone 44 = .ok (.bipush 10, 2) := by decide +kernel
theorem dX5_tellStone_46 : decode cX5_tellStone 46 = .ok (.istore 4, 2) := by decide +kernel
theorem dX5_tellStone_48 : decode cX5_tellStone 48 = .ok (.aload_n 0, 1) := by decide +kernel
theorem dX5_tellStone_49 : decode cX5_tellStone 49 = .ok (.getfield 12, 3) := by decide +kernel
theorem dX5_tellStone_52 : decode cX5_tellStone 52 = .ok (.invokevirtual 47, 3) := by decide +kernel
theorem dX5_tellStone_55 : decode cX5_tellStone 55 = .ok (.aload_n 0, 1) := by decide +kernel
theorem dX5_tellStone_56 : decode cX5_tellStone 56 = .ok (.getfield 12, 3) := by decide +kernel
theorem dX5_tellStone_59 : decode cX5_tellStone 59 = .ok (.ldc 108, 2) := by decide +kernel
theorem dX5_tellStone_61 : decode cX5_tellStone 61 = .ok (.invokevirtual 57, 3) := by decide +kernel
theorem dX5_tellStone_64 : decode cX5_tellStone 64 = .ok (.ifCond .eq 40, 3) := by decide +kernel
theorem dX5_tellStone_67 : decode cX5_tellStone 67 = .ok (.aload_n 0, 1) := by decide +kernel
theorem dX5_tellStone_68 : decode cX5_tellStone 68 = .ok (.getfield 12, 3) := by decide +kernel
theorem dX5_tellStone_71 : decode cX5_tellStone 71 = .ok (.invokevirtual 47, 3) := by decide +kernel
theorem dX5_tellStone_74 : decode cX5_tellStone 74 = .ok (.aload_n 0, 1) := by decide +kernel
theorem dX5_tellStone_75 : decode cX5_tellStone 75 = .ok (.getfield 12, 3) := by decide +kernel
theorem dX5_tellStone_78 : decode cX5_tellStone 78 = .ok (.iconst 1, 1) := by decide +kernel
theorem dX5_tellStone_79 : decode cX5_tellStone 79 = .ok (.bipush 30, 2) := by decide +kernel
theorem dX5_tellStone_81 : decode cX5_tellStone 81 = .ok (.invokevirtual 97, 3) := by decide +kernel
theorem dX5_tellStone_84 : decode cX5_tellStone 84 = .ok (.ifCond .ne 5, 3) := by decide +kernel
theorem dX5_tellStone_87 : decode cX5_tellStone 87 = .ok (.iconst 0, 1) := by decide +kernel
theorem dX5_tellStone_88 : decode cX5_tellStone 88 = .ok (.ireturn, 1) := by decide +kernel
theorem dX5_tellStone_89 : decode cX5_tellStone 89 = .ok (.aload_n 0, 1) := by decide +kernel
theorem dX5_tellStone_90 : decode cX5_tellStone 90 = .ok (.getfield 12, 3) := by decide +kernel
theorem dX5_tellStone_93 : decode cX5_tellStone 93 = .ok (.getfield 105, 3) := by decide +kernel
theorem dX5_tellStone_96 : decode cX5_tellStone 96 = .ok (.istore_n 3, 1) := by decide +kernel
theorem dX5_tellStone_97 : decode cX5_tellStone 97 = .ok (.aload_n 0, 1) := by decide +kernel
theorem dX5_tellStone_98 : decode cX5_tellStone 98 = .ok (.getfield 12, 3) := by decide +kernel
theorem dX5_tellStone_101 : decode cX5_tellStone 101 = .ok (.invokevirtual 47, 3) := by decide +kernel
theorem dX5_tellStone_104 : decode cX5_tellStone 104 = .ok (.aload_n 0, 1) := by decide +kernel
theorem dX5_tellStone_105 : decode cX5_tellStone 105 = .ok (.getfield 12, 3) := by decide +kernel
theorem dX5_tellStone_108 : decode cX5_tellStone 108 = .ok (.ldc 110, 2) := by decide +kernel
theorem dX5_tellStone_110 : decode cX5_tellStone 110 = .ok (.invokevirtual 57, 3) := by decide +kernel
theorem dX5_tellStone_113 : decode cX5_tellStone 113 = .ok (.ifCond .eq 42, 3) := by decide +kernel
theorem dX5_tellStone_116 : decode cX5_tellStone 116 = .ok (.aload_n 0, 1) := by decide +kernel
theorem dX5_tellStone_117 : decode cX5_tellStone 117 = .ok (.getfield 12, 3) := by decide +kernel
theorem dX5_tellStone_120 : decode cX5_tellStone 120 = .ok (.invokevirtual 47, 3) := by decide +kernel
theorem dX5_tellStone_123 : decode cX5_tellStone 123 = .ok (.aload_n 0, 1) := by decide +kernel
theorem dX5_tellStone_124 : decode cX5_tellStone 124 = .ok (.getfield 12, 3) := by decide +kernel
theorem dX5_tellStone_127 : decode cX5_tellStone 127 = .ok (.iconst 0, 1) := by decide +kernel
theorem dX5_tellStone_128 : decode cX5_tellStone 128 = .ok (.sipush 999, 3) := by decide +kernel
theorem dX5_tellStone_131 : decode cX5_tellStone 131 = .ok (.invokevirtual 97, 3) := by decide +kernel
theorem dX5_tellStone_134 : decode cX5_tellStone 134 = .ok (.ifCond .ne 5, 3) := by decide +kernel
theorem dX5_tellStone_137 : decode cX5_tellStone 137 = .ok (.iconst 0, 1) := by decide +kernel
theorem dX5_tellStone_138 : decode cX5_tellStone 138 = .ok (.ireturn, 1) := by decide +kernel
theorem dX5_tellStone_139 : decode cX5_tellStone 139 = .ok (.aload_n 0, 1) := by decide +kernel
theorem dX5_tellStone_140 : decode cX5_tellStone 140 = .ok (.getfield 12, 3) := by decide +kernel
theorem dX5_tellStone_143 : decode cX5_tellStone 143 = .ok (.getfield 105, 3) := by decide +kernel
theorem dX5_tellStone_146 : decode cX5_tellStone 146 = .ok (.istore 4, 2) := by decide +kernel
theorem dX5_tellStone_148 : decode cX5_tellStone 148 = .ok (.aload_n 0, 1) := by decide +kernel
theorem dX5_tellStone_149 : decode cX5_tellStone 149 = .ok (.getfield 12, 3) := by decide +kernel
theorem dX5_tellStone_152 : decode cX5_tellStone 152 = .ok (.invokevirtual 47, 3) := by decide +kernel
theorem dX5_tellStone_155 : decode cX5_tellStone 155 = .ok (.aload_n 0, 1) := by decide +kernel
theorem dX5_tellStone_156 : decode cX5_tellStone 156 = .ok (.getfield 21, 3) := by decide +kernel
theorem dX5_tellStone_159 : decode cX5_tellStone 159 = .ok (.iload_n 1, 1) := by decide +kernel
theorem dX5_tellStone_160 : decode cX5_tellStone 160 = .ok (.iload_n 2, 1) := by decide +kernel
theorem dX5_tellStone_161 : decode cX5_tellStone 161 = .ok (.iload_n 3, 1) := by decide +kernel
theorem dX5_tellStone_162 : decode cX5_tellStone 162 = .ok (.iload 4, 2) := by decide +kernel
theorem dX5_tellStone_164 : decode cX5_tellStone 164 = .ok (.invokevirtual 112, 3) := by decide +kernel
theorem dX5_tellStone_167 : decode cX5_tellStone 167 = .ok (.iconst 1, 1) := by decide +kernel
theorem dX5_tellStone_168 : decode cX5_tellStone 168 = .ok (.ireturn, 1) := by decide +kernel
def rmX5_tellStone : Room := { frames := 5, cells := 0, slots := 0, locals := 107 }
abbrev eX5_tellStone := Ev cX5_tellStone 5 (some .boolean) RX5 rmX5_tellStone
set_option maxRecDepth 20000 in
theorem mt_X5_tellStone (p0 : Int32) (σ : St) (Q : Bool → St → Prop)  (hP : P_X5_tellStone p0 σ Q) : Mt yX5_tellStone cX5_tellStone 5 (some .boolean) rmX5_tellStone [.ref (26), .int (p0)] σ (qB Q) := by
  refine Mt.of (k := 3) (ls := [.ref (26), .int (p0), un, un, un]) (by decide +kernel) rfl (Nat.le_of_ble_eq_true rfl) ?_
  show eX5_tellStone 0 [.ref (26), .int (p0), un, un, un] [] σ _
  unfold P_X5_tellStone at hP
  refine E_aload_n dX5_tellStone_0 rfl ?_
  refine E_getR (j := 0) dX5_tellStone_1 (show kd 26 = 5 by decide) (by decide) rfl fd_RX5_12 (by decide) ?_
  refine E_iconst (v := 0) dX5_tellStone_4 (by decide) ?_
  refine E_iconst (v := 3) dX5_tellStone_5 (by decide) ?_
  refine E_callV (As := [.int (0), .int (3)]) (rest := []) dX5_tellStone_6 cl_RX5_97 tw_216 (ar_5_1 (show kd 26 = 5 by decide)).1 (by decide) rfl tw_217 ⟨rfl, rfl, Nat.le_of_ble_eq_true rfl, Nat.le_of_ble_eq_true rfl⟩ rfl rfl (Nat.le_of_ble_eq_true rfl) (mt_X4_isNumber _ _ _ _  hP) ?_
  intro r0 s0 hq0; obtain ⟨r6, h0, hs0, hP⟩ := hq0; subst h0; rw [hs0]
  show eX5_tellStone 9 [.ref (26), .int (p0), un, un, un] [.int (bI r6)] σ _
  refine E_ifz_eq 32 dX5_tellStone_9 (by decide) (fun hc => ?_) (fun hc => ?_)
  · replace hP := hP.1 hc
    refine E_iconst (v := 0) dX5_tellStone_32 (by decide) ?_
    exact E_nret dX5_tellStone_33 rfl (nar_b false) ⟨false, rfl, hP⟩
  · replace hP := hP.2 hc
    refine E_aload_n dX5_tellStone_12 rfl ?_
    refine E_getR (j := 1) dX5_tellStone_13 (show kd 26 = 5 by decide) (by decide) rfl fd_RX5_21 (by decide) ?_
    refine E_getR (j := 3) dX5_tellStone_16 (ar_5_3 (show kd 26 = 5 by decide)).1 (by decide) rfl fd_RX5_101 (by decide) ?_
    refine E_aload_n dX5_tellStone_19 rfl ?_
    refine E_getR (j := 0) dX5_tellStone_20 (show kd 26 = 5 by decide) (by decide) rfl fd_RX5_12 (by decide) ?_
    refine E_getI (j := 4) dX5_tellStone_23 (ar_5_1 (show kd 26 = 5 by decide)).1 (by decide) rfl fd_RX5_105 ?_
    obtain ⟨hb, hP⟩ := hP
    refine E_iald dX5_tellStone_26 (ar_0_4 (ar_5_3 (show kd 26 = 5 by decide)).1).1 (ar_0_4 (ar_5_3 (show kd 26 = 5 by decide)).1).2 hb ?_
    refine E_bipush (v := 7) dX5_tellStone_27 (by decide) ?_
    refine E_icmp_lt 34 dX5_tellStone_29 (by decide) (fun hc => ?_) (fun hc => ?_)
    · replace hP := hP.1 hc
      refine E_aload_n dX5_tellStone_34 rfl ?_
      refine E_getR (j := 0) dX5_tellStone_35 (show kd 26 = 5 by decide) (by decide) rfl fd_RX5_12 (by decide) ?_
      refine E_getI (j := 4) dX5_tellStone_38 (ar_5_1 (show kd 26 = 5 by decide)).1 (by decide) rfl fd_RX5_105 ?_
      refine E_istore_n (ls' := [.ref (26), .int (p0), .int (gI σ 27 4), un, un]) dX5_tellStone_41 (by decide) rfl ?_
      refine E_iconst (v := 5) dX5_tellStone_42 (by decide) ?_
      refine E_istore_n (ls' := [.ref (26), .int (p0), .int (gI σ 27 4), .int (5), un]) dX5_tellStone_43 (by decide) rfl ?_
      refine E_bipush (v := 10) dX5_tellStone_44 (by decide) ?_
      refine E_istore (ls' := [.ref (26), .int (p0), .int (gI σ 27 4), .int (5), .int (10)]) dX5_tellStone_46 (by decide) rfl ?_
      refine E_aload_n dX5_tellStone_48 rfl ?_
      refine E_getR (j := 0) dX5_tellStone_49 (show kd 26 = 5 by decide) (by decide) rfl fd_RX5_12 (by decide) ?_
      refine E_callV (As := []) (rest := []) dX5_tellStone_52 cl_RX5_47 tw_168 (ar_5_1 (show kd 26 = 5 by decide)).1 (by decide) rfl tw_169 ⟨rfl, rfl, Nat.le_of_ble_eq_true rfl, Nat.le_of_ble_eq_true rfl⟩ rfl rfl (Nat.le_of_ble_eq_true rfl) (mt_X4_step  _ _  hP) ?_
      rintro _ t52 ⟨rfl, hP⟩
      show eX5_tellStone 55 [.ref (26), .int (p0), .int (gI σ 27 4), .int (5), .int (10)] [] t52 _
      refine E_aload_n dX5_tellStone_55 rfl ?_
      refine E_getR (j := 0) dX5_tellStone_56 (show kd 26 = 5 by decide) (by decide) rfl fd_RX5_12 (by decide) ?_
      refine E_ldcS (i := 6) dX5_tellStone_59 rfl (by decide) rfl ?_
      refine E_callV (As := [.ref (300 + 6)]) (rest := []) dX5_tellStone_61 cl_RX5_57 tw_212 (ar_5_1 (show kd 26 = 5 by decide)).1 (by decide) rfl tw_213 ⟨rfl, rfl, Nat.le_of_ble_eq_true rfl, Nat.le_of_ble_eq_true rfl⟩ rfl rfl (Nat.le_of_ble_eq_true rfl) (mt_X4_isWord _ _ _ (show 6 < stN by decide) hP) ?_
      intro r0 s0 hq0; obtain ⟨r61, h0, hs0, hP⟩ := hq0; subst h0; rw [hs0]
      show eX5_tellStone 64 [.ref (26), .int (p0), .int (gI σ 27 4), .int (5), .int (10)] [.int (bI r61)] t52 _
      refine E_ifz_eq 104 dX5_tellStone_64 (by decide) (fun hc => ?_) (fun hc => ?_)
      · replace hP := hP.1 hc
        refine E_aload_n dX5_tellStone_104 rfl ?_
        refine E_getR (j := 0) dX5_tellStone_105 (show kd 26 = 5 by decide) (by decide) rfl fd_RX5_12 (by decide) ?_
        refine E_ldcS (i := 7) dX5_tellStone_108 rfl (by decide) rfl ?_
        refine E_callV (As := [.ref (300 + 7)]) (rest := []) dX5_tellStone_110 cl_RX5_57 tw_212 (ar_5_1 (show kd 26 = 5 by decide)).1 (by decide) rfl tw_213 ⟨rfl, rfl, Nat.le_of_ble_eq_true rfl, Nat.le_of_ble_eq_true rfl⟩ rfl rfl (Nat.le_of_ble_eq_true rfl) (mt_X4_isWord _ _ _ (show 7 < stN by decide) hP) ?_
        intro r0 s0 hq0; obtain ⟨r110, h0, hs0, hP⟩ := hq0; subst h0; rw [hs0]
        show eX5_tellStone 113 [.ref (26), .int (p0), .int (gI σ 27 4), .int (5), .int (10)] [.int (bI r110)] t52 _
        refine E_ifz_eq 155 dX5_tellStone_113 (by decide) (fun hc => ?_) (fun hc => ?_)
        · replace hP := hP.1 hc
          refine E_aload_n dX5_tellStone_155 rfl ?_
          refine E_getR (j := 1) dX5_tellStone_156 (show kd 26 = 5 by decide) (by decide) rfl fd_RX5_21 (by decide) ?_
          refine E_iload_n dX5_tellStone_159 rfl ?_
          refine E_iload_n dX5_tellStone_160 rfl ?_
          refine E_iload_n dX5_tellStone_161 rfl ?_
          refine E_iload dX5_tellStone_162 rfl ?_
          refine E_callV (As := [.int (p0), .int (gI σ 27 4), .int (5), .int (10)]) (rest := []) dX5_tellStone_164 cl_RX5_112 tw_234 (ar_5_3 (show kd 26 = 5 by decide)).1 (by decide) rfl tw_235 ⟨rfl, rfl, Nat.le_of_ble_eq_true rfl, Nat.le_of_ble_eq_true rfl⟩ rfl rfl (Nat.le_of_ble_eq_true rfl) (mt_X0_put _ _ _ _ _ _ _ (ar_5_3 (show kd 26 = 5 by decide)).1 hP) ?_
          rintro _ t164 ⟨rfl, hP⟩
          show eX5_tellStone 167 [.ref (26), .int (p0), .int (gI σ 27 4), .int (5), .int (10)] [] t164 _
          refine E_iconst (v := 1) dX5_tellStone_167 (by decide) ?_
          exact E_nret dX5_tellStone_168 rfl (nar_b true) ⟨true, rfl, hP⟩
        · replace hP := hP.2 hc
          refine E_aload_n dX5_tellStone_116 rfl ?_
          refine E_getR (j := 0) dX5_tellStone_117 (show kd 26 = 5 by decide) (by decide) rfl fd_RX5_12 (by decide) ?_
          refine E_callV (As := []) (rest := []) dX5_tellStone_120 cl_RX5_47 tw_168 (ar_5_1 (show kd 26 = 5 by decide)).1 (by decide) rfl tw_169 ⟨rfl, rfl, Nat.le_of_ble_eq_true rfl, Nat.le_of_ble_eq_true rfl⟩ rfl rfl (Nat.le_of_ble_eq_true rfl) (mt_X4_step  _ _  hP) ?_
          rintro _ t120 ⟨rfl, hP⟩
          show eX5_tellStone 123 [.ref (26), .int (p0), .int (gI σ 27 4), .int (5), .int (10)] [] t120 _
          refine E_aload_n dX5_tellStone_123 rfl ?_
          refine E_getR (j := 0) dX5_tellStone_124 (show kd 26 = 5 by decide) (by decide) rfl fd_RX5_12 (by decide) ?_
          refine E_iconst (v := 0) dX5_tellStone_127 (by decide) ?_
          refine E_sipush (v := 999) dX5_tellStone_128 (by decide) ?_
          refine E_callV (As := [.int (0), .int (999)]) (rest := []) dX5_tellStone_131 cl_RX5_97 tw_216 (ar_5_1 (show kd 26 = 5 by decide)).1 (by decide) rfl tw_217 ⟨rfl, rfl, Nat.le_of_ble_eq_true rfl, Nat.le_of_ble_eq_true rfl⟩ rfl rfl (Nat.le_of_ble_eq_true rfl) (mt_X4_isNumber _ _ _ _  hP) ?_
          intro r0 s0 hq0; obtain ⟨r131, h0, hs0, hP⟩ := hq0; subst h0; rw [hs0]
          show eX5_tellStone 134 [.ref (26), .int (p0), .int (gI σ 27 4), .int (5), .int (10)] [.int (bI r131)] t120 _
          refine E_ifz_ne 139 dX5_tellStone_134 (by decide) (fun hc => ?_) (fun hc => ?_)
          · replace hP := hP.1 hc
            refine E_aload_n dX5_tellStone_139 rfl ?_
            refine E_getR (j := 0) dX5_tellStone_140 (show kd 26 = 5 by decide) (by decide) rfl fd_RX5_12 (by decide) ?_
            refine E_getI (j := 4) dX5_tellStone_143 (ar_5_1 (show kd 26 = 5 by decide)).1 (by decide) rfl fd_RX5_105 ?_
            refine E_istore (ls' := [.ref (26), .int (p0), .int (gI σ 27 4), .int (5), .int (gI t120 27 4)]) dX5_tellStone_146 (by decide) rfl ?_
            refine E_aload_n dX5_tellStone_148 rfl ?_
            refine E_getR (j := 0) dX5_tellStone_149 (show kd 26 = 5 by decide) (by decide) rfl fd_RX5_12 (by decide) ?_
            refine E_callV (As := []) (rest := []) dX5_tellStone_152 cl_RX5_47 tw_168 (ar_5_1 (show kd 26 = 5 by decide)).1 (by decide) rfl tw_169 ⟨rfl, rfl, Nat.le_of_ble_eq_true rfl, Nat.le_of_ble_eq_true rfl⟩ rfl rfl (Nat.le_of_ble_eq_true rfl) (mt_X4_step  _ _  hP) ?_
            rintro _ t152 ⟨rfl, hP⟩
            show eX5_tellStone 155 [.ref (26), .int (p0), .int (gI σ 27 4), .int (5), .int (gI t120 27 4)] [] t152 _
            refine E_aload_n dX5_tellStone_155 rfl ?_
            refine E_getR (j := 1) dX5_tellStone_156 (show kd 26 = 5 by decide) (by decide) rfl fd_RX5_21 (by decide) ?_
            refine E_iload_n dX5_tellStone_159 rfl ?_
            refine E_iload_n dX5_tellStone_160 rfl ?_
            refine E_iload_n dX5_tellStone_161 rfl ?_
            refine E_iload dX5_tellStone_162 rfl ?_
            refine E_callV (As := [.int (p0), .int (gI σ 27 4), .int (5), .int (gI t120 27 4)]) (rest := []) dX5_tellStone_164 cl_RX5_112 tw_234 (ar_5_3 (show kd 26 = 5 by decide)).1 (by decide) rfl tw_235 ⟨rfl, rfl, Nat.le_of_ble_eq_true rfl, Nat.le_of_ble_eq_true rfl⟩ rfl rfl (Nat.le_of_ble_eq_true rfl) (mt_X0_put _ _ _ _ _ _ _ (ar_5_3 (show kd 26 = 5 by decide)).1 hP) ?_
            rintro _ t164 ⟨rfl, hP⟩
            show eX5_tellStone 167 [.ref (26), .int (p0), .int (gI σ 27 4), .int (5), .int (gI t120 27 4)] [] t164 _
            refine E_iconst (v := 1) dX5_tellStone_167 (by decide) ?_
            exact E_nret dX5_tellStone_168 rfl (nar_b true) ⟨true, rfl, hP⟩
          · replace hP := hP.2 hc
            refine E_iconst (v := 0) dX5_tellStone_137 (by decide) ?_
            exact E_nret dX5_tellStone_138 rfl (nar_b false) ⟨false, rfl, hP⟩
      · replace hP := hP.2 hc
        refine E_aload_n dX5_tellStone_67 rfl ?_
        refine E_getR (j := 0) dX5_tellStone_68 (show kd 26 = 5 by decide) (by decide) rfl fd_RX5_12 (by decide) ?_
        refine E_callV (As := []) (rest := []) dX5_tellStone_71 cl_RX5_47 tw_168 (ar_5_1 (show kd 26 = 5 by decide)).1 (by decide) rfl tw_169 ⟨rfl, rfl, Nat.le_of_ble_eq_true rfl, Nat.le_of_ble_eq_true rfl⟩ rfl rfl (Nat.le_of_ble_eq_true rfl) (mt_X4_step  _ _  hP) ?_
        rintro _ t71 ⟨rfl, hP⟩
        show eX5_tellStone 74 [.ref (26), .int (p0), .int (gI σ 27 4), .int (5), .int (10)] [] t71 _
        refine E_aload_n dX5_tellStone_74 rfl ?_
        refine E_getR (j := 0) dX5_tellStone_75 (show kd 26 = 5 by decide) (by decide) rfl fd_RX5_12 (by decide) ?_
        refine E_iconst (v := 1) dX5_tellStone_78 (by decide) ?_
        refine E_bipush (v := 30) dX5_tellStone_79 (by decide) ?_
        refine E_callV (As := [.int (1), .int (30)]) (rest := []) dX5_tellStone_81 cl_RX5_97 tw_216 (ar_5_1 (show kd 26 = 5 by decide)).1 (by decide) rfl tw_217 ⟨rfl, rfl, Nat.le_of_ble_eq_true rfl, Nat.le_of_ble_eq_true rfl⟩ rfl rfl (Nat.le_of_ble_eq_true rfl) (mt_X4_isNumber _ _ _ _  hP) ?_
        intro r0 s0 hq0; obtain ⟨r81, h0, hs0, hP⟩ := hq0; subst h0; rw [hs0]
        show eX5_tellStone 84 [.ref (26), .int (p0), .int (gI σ 27 4), .int (5), .int (10)] [.int (bI r81)] t71 _
        refine E_ifz_ne 89 dX5_tellStone_84 (by decide) (fun hc => ?_) (fun hc => ?_)
        · replace hP := hP.1 hc
          refine E_aload_n dX5_tellStone_89 rfl ?_
          refine E_getR (j := 0) dX5_tellStone_90 (show kd 26 = 5 by decide) (by decide) rfl fd_RX5_12 (by decide) ?_
          refine E_getI (j := 4) dX5_tellStone_93 (ar_5_1 (show kd 26 = 5 by decide)).1 (by decide) rfl fd_RX5_105 ?_
          refine E_istore_n (ls' := [.ref (26), .int (p0), .int (gI σ 27 4), .int (gI t71 27 4), .int (10)]) dX5_tellStone_96 (by decide) rfl ?_
          refine E_aload_n dX5_tellStone_97 rfl ?_
          refine E_getR (j := 0) dX5_tellStone_98 (show kd 26 = 5 by decide) (by decide) rfl fd_RX5_12 (by decide) ?_
          refine E_callV (As := []) (rest := []) dX5_tellStone_101 cl_RX5_47 tw_168 (ar_5_1 (show kd 26 = 5 by decide)).1 (by decide) rfl tw_169 ⟨rfl, rfl, Nat.le_of_ble_eq_true rfl, Nat.le_of_ble_eq_true rfl⟩ rfl rfl (Nat.le_of_ble_eq_true rfl) (mt_X4_step  _ _  hP) ?_
          rintro _ t101 ⟨rfl, hP⟩
          show eX5_tellStone 104 [.ref (26), .int (p0), .int (gI σ 27 4), .int (gI t71 27 4), .int (10)] [] t101 _
          refine E_aload_n dX5_tellStone_104 rfl ?_
          refine E_getR (j := 0) dX5_tellStone_105 (show kd 26 = 5 by decide) (by decide) rfl fd_RX5_12 (by decide) ?_
          refine E_ldcS (i := 7) dX5_tellStone_108 rfl (by decide) rfl ?_
          refine E_callV (As := [.ref (300 + 7)]) (rest := []) dX5_tellStone_110 cl_RX5_57 tw_212 (ar_5_1 (show kd 26 = 5 by decide)).1 (by decide) rfl tw_213 ⟨rfl, rfl, Nat.le_of_ble_eq_true rfl, Nat.le_of_ble_eq_true rfl⟩ rfl rfl (Nat.le_of_ble_eq_true rfl) (mt_X4_isWord _ _ _ (show 7 < stN by decide) hP) ?_
          intro r0 s0 hq0; obtain ⟨r110, h0, hs0, hP⟩ := hq0; subst h0; rw [hs0]
          show eX5_tellStone 113 [.ref (26), .int (p0), .int (gI σ 27 4), .int (gI t71 27 4), .int (10)] [.int (bI r110)] t101 _
          refine E_ifz_eq 155 dX5_tellStone_113 (by decide) (fun hc => ?_) (fun hc => ?_)
          · replace hP := hP.1 hc
            refine E_aload_n dX5_tellStone_155 rfl ?_
            refine E_getR (j := 1) dX5_tellStone_156 (show kd 26 = 5 by decide) (by decide) rfl fd_RX5_21 (by decide) ?_
            refine E_iload_n dX5_tellStone_159 rfl ?_
            refine E_iload_n dX5_tellStone_160 rfl ?_
            refine E_iload_n dX5_tellStone_161 rfl ?_
            refine E_iload dX5_tellStone_162 rfl ?_
            refine E_callV (As := [.int (p0), .int (gI σ 27 4), .int (gI t71 27 4), .int (10)]) (rest := []) dX5_tellStone_164 cl_RX5_112 tw_234 (ar_5_3 (show kd 26 = 5 by decide)).1 (by decide) rfl tw_235 ⟨rfl, rfl, Nat.le_of_ble_eq_true rfl, Nat.le_of_ble_eq_true rfl⟩ rfl rfl (Nat.le_of_ble_eq_true rfl) (mt_X0_put _ _ _ _ _ _ _ (ar_5_3 (show kd 26 = 5 by decide)).1 hP) ?_
            rintro _ t164 ⟨rfl, hP⟩
            show eX5_tellStone 167 [.ref (26), .int (p0), .int (gI σ 27 4), .int (gI t71 27 4), .int (10)] [] t164 _
            refine E_iconst (v := 1) dX5_tellStone_167 (by decide) ?_
            exact E_nret dX5_tellStone_168 rfl (nar_b true) ⟨true, rfl, hP⟩
          · replace hP := hP.2 hc
            refine E_aload_n dX5_tellStone_116 rfl ?_
            refine E_getR (j := 0) dX5_tellStone_117 (show kd 26 = 5 by decide) (by decide) rfl fd_RX5_12 (by decide) ?_
            refine E_callV (As := []) (rest := []) dX5_tellStone_120 cl_RX5_47 tw_168 (ar_5_1 (show kd 26 = 5 by decide)).1 (by decide) rfl tw_169 ⟨rfl, rfl, Nat.le_of_ble_eq_true rfl, Nat.le_of_ble_eq_true rfl⟩ rfl rfl (Nat.le_of_ble_eq_true rfl) (mt_X4_step  _ _  hP) ?_
            rintro _ t120 ⟨rfl, hP⟩
            show eX5_tellStone 123 [.ref (26), .int (p0), .int (gI σ 27 4), .int (gI t71 27 4), .int (10)] [] t120 _
            refine E_aload_n dX5_tellStone_123 rfl ?_
            refine E_getR (j := 0) dX5_tellStone_124 (show kd 26 = 5 by decide) (by decide) rfl fd_RX5_12 (by decide) ?_
            refine E_iconst (v := 0) dX5_tellStone_127 (by decide) ?_
            refine E_sipush (v := 999) dX5_tellStone_128 (by decide) ?_
            refine E_callV (As := [.int (0), .int (999)]) (rest := []) dX5_tellStone_131 cl_RX5_97 tw_216 (ar_5_1 (show kd 26 = 5 by decide)).1 (by decide) rfl tw_217 ⟨rfl, rfl, Nat.le_of_ble_eq_true rfl, Nat.le_of_ble_eq_true rfl⟩ rfl rfl (Nat.le_of_ble_eq_true rfl) (mt_X4_isNumber _ _ _ _  hP) ?_
            intro r0 s0 hq0; obtain ⟨r131, h0, hs0, hP⟩ := hq0; subst h0; rw [hs0]
            show eX5_tellStone 134 [.ref (26), .int (p0), .int (gI σ 27 4), .int (gI t71 27 4), .int (10)] [.int (bI r131)] t120 _
            refine E_ifz_ne 139 dX5_tellStone_134 (by decide) (fun hc => ?_) (fun hc => ?_)
            · replace hP := hP.1 hc
              refine E_aload_n dX5_tellStone_139 rfl ?_
              refine E_getR (j := 0) dX5_tellStone_140 (show kd 26 = 5 by decide) (by decide) rfl fd_RX5_12 (by decide) ?_
              refine E_getI (j := 4) dX5_tellStone_143 (ar_5_1 (show kd 26 = 5 by decide)).1 (by decide) rfl fd_RX5_105 ?_
              refine E_istore (ls' := [.ref (26), .int (p0), .int (gI σ 27 4), .int (gI t71 27 4), .int (gI t120 27 4)]) dX5_tellStone_146 (by decide) rfl ?_
              refine E_aload_n dX5_tellStone_148 rfl ?_
              refine E_getR (j := 0) dX5_tellStone_149 (show kd 26 = 5 by decide) (by decide) rfl fd_RX5_12 (by decide) ?_
              refine E_callV (As := []) (rest := []) dX5_tellStone_152 cl_RX5_47 tw_168 (ar_5_1 (show kd 26 = 5 by decide)).1 (by decide) rfl tw_169 ⟨rfl, rfl, Nat.le_of_ble_eq_true rfl, Nat.le_of_ble_eq_true rfl⟩ rfl rfl (Nat.le_of_ble_eq_true rfl) (mt_X4_step  _ _  hP) ?_
              rintro _ t152 ⟨rfl, hP⟩
              show eX5_tellStone 155 [.ref (26), .int (p0), .int (gI σ 27 4), .int (gI t71 27 4), .int (gI t120 27 4)] [] t152 _
              refine E_aload_n dX5_tellStone_155 rfl ?_
              refine E_getR (j := 1) dX5_tellStone_156 (show kd 26 = 5 by decide) (by decide) rfl fd_RX5_21 (by decide) ?_
              refine E_iload_n dX5_tellStone_159 rfl ?_
              refine E_iload_n dX5_tellStone_160 rfl ?_
              refine E_iload_n dX5_tellStone_161 rfl ?_
              refine E_iload dX5_tellStone_162 rfl ?_
              refine E_callV (As := [.int (p0), .int (gI σ 27 4), .int (gI t71 27 4), .int (gI t120 27 4)]) (rest := []) dX5_tellStone_164 cl_RX5_112 tw_234 (ar_5_3 (show kd 26 = 5 by decide)).1 (by decide) rfl tw_235 ⟨rfl, rfl, Nat.le_of_ble_eq_true rfl, Nat.le_of_ble_eq_true rfl⟩ rfl rfl (Nat.le_of_ble_eq_true rfl) (mt_X0_put _ _ _ _ _ _ _ (ar_5_3 (show kd 26 = 5 by decide)).1 hP) ?_
              rintro _ t164 ⟨rfl, hP⟩
              show eX5_tellStone 167 [.ref (26), .int (p0), .int (gI σ 27 4), .int (gI t71 27 4), .int (gI t120 27 4)] [] t164 _
              refine E_iconst (v := 1) dX5_tellStone_167 (by decide) ?_
              exact E_nret dX5_tellStone_168 rfl (nar_b true) ⟨true, rfl, hP⟩
            · replace hP := hP.2 hc
              refine E_iconst (v := 0) dX5_tellStone_137 (by decide) ?_
              exact E_nret dX5_tellStone_138 rfl (nar_b false) ⟨false, rfl, hP⟩
        · replace hP := hP.2 hc
          refine E_iconst (v := 0) dX5_tellStone_87 (by decide) ?_
          exact E_nret dX5_tellStone_88 rfl (nar_b false) ⟨false, rfl, hP⟩
    · replace hP := hP.2 hc
      refine E_iconst (v := 0) dX5_tellStone_32 (by decide) ?_
      exact E_nret dX5_tellStone_33 rfl (nar_b false) ⟨false, rfl, hP⟩
theorem dX5_tellWedge_0 : decode cX5_tellWedge 0 = .ok (.aload_n 0, 1) := by decide +kernel
theorem dX5_tellWedge_1 : decode cX5_tellWedge 1 = .ok (.getfield 12, 3) := by decide +kernel
theorem dX5_tellWedge_4 : decode cX5_tellWedge 4 = .ok (.iconst 0, 1) := by decide +kernel
theorem dX5_tellWedge_5 : decode cX5_tellWedge 5 = .ok (.iconst 3, 1) := by decide +kernel
theorem dX5_tellWedge_6 : decode cX5_tellWedge 6 = .ok (.invokevirtual 97, 3) := by decide +kernel
theorem dX5_tellWedge_9 : decode cX5_tellWedge 9 = .ok (.ifCond .ne 5, 3) := by decide +kernel
theorem dX5_tellWedge_12 : decode cX5_tellWedge 12 = .ok (.iconst 0, 1) := by decide +kernel
theorem dX5_tellWedge_13 : decode cX5_tellWedge 13 = .ok (.ireturn, 1) := by decide +kernel
theorem dX5_tellWedge_14 : decode cX5_tellWedge 14 = .ok (.aload_n 0, 1) := by decide +kernel
theorem dX5_tellWedge_15 : decode cX5_tellWedge 15 = .ok (.getfield 12, 3) := by decide +kernel
theorem dX5_tellWedge_18 : decode cX5_tellWedge 18 = .ok (.getfield 105, 3) := by decide +kernel
theorem dX5_tellWedge_21 : decode cX5_tellWedge 21 = .ok (.istore_n 1, 1) := by decide +kernel
theorem dX5_tellWedge_22 : decode cX5_tellWedge 22 = .ok (.aload_n 0, 1) := by decide +kernel
theorem dX5_tellWedge_23 : decode cX5_tellWedge 23 = .ok (.getfield 12, 3) := by decide +kernel
theorem dX5_tellWedge_26 : decode cX5_tellWedge 26 = .ok (.invokevirtual 47, 3) := by decide +kernel
theorem dX5_tellWedge_29 : decode cX5_tellWedge 29 = .ok (.aload_n 0, 1) := by decide +kernel
theorem dX5_tellWedge_30 : decode cX5_tellWedge 30 = .ok (.getfield 12, 3) := by decide +kernel
theorem dX5_tellWedge_33 : decode cX5_tellWedge 33 = .ok (.iconst 0, 1) := by decide +kernel
theorem dX5_tellWedge_34 : decode cX5_tellWedge 34 = .ok (.bipush 20, 2) := by decide +kernel
theorem dX5_tellWedge_36 : decode cX5_tellWedge 36 = .ok (.invokevirtual 97, 3) := by decide +kernel
theorem dX5_tellWedge_39 : decode cX5_tellWedge 39 = .ok (.ifCond .ne 5, 3) := by decide +kernel
theorem dX5_tellWedge_42 : decode cX5_tellWedge 42 = .ok (.iconst 0, 1) := by decide +kernel
theorem dX5_tellWedge_43 : decode cX5_tellWedge 43 = .ok (.ireturn, 1) := by decide +kernel
theorem dX5_tellWedge_44 : decode cX5_tellWedge 44 = .ok (.aload_n 0, 1) := by decide +kernel
theorem dX5_tellWedge_45 : decode cX5_tellWedge 45 = .ok (.getfield 21, 3) := by decide +kernel
theorem dX5_tellWedge_48 : decode cX5_tellWedge 48 = .ok (.getfield 124, 3) := by decide +kernel
theorem dX5_tellWedge_51 : decode cX5_tellWedge 51 = .ok (.iload_n 1, 1) := by decide +kernel
theorem dX5_tellWedge_52 : decode cX5_tellWedge 52 = .ok (.aload_n 0, 1) := by decide +kernel
theorem dX5_tellWedge_53 : decode cX5_tellWedge 53 = .ok (.getfield 12, 3) := by decide +kernel
theorem dX5_tellWedge_56 : decode cX5_tellWedge 56 = .ok (.getfield 105, 3) := by decide +kernel
theorem dX5_tellWedge_59 : decode cX5_tellWedge 59 = .ok (.iastore, 1) := by decide +kernel
theorem dX5_tellWedge_60 : decode cX5_tellWedge 60 = .ok (.aload_n 0, 1) := by decide +kernel
theorem dX5_tellWedge_61 : decode cX5_tellWedge 61 = .ok (.getfield 12, 3) := by decide +kernel
theorem dX5_tellWedge_64 : decode cX5_tellWedge 64 = .ok (.invokevirtual 47, 3) := by decide +kernel
theorem dX5_tellWedge_67 : decode cX5_tellWedge 67 = .ok (.iconst 1, 1) := by decide +kernel
theorem dX5_tellWedge_68 : decode cX5_tellWedge 68 = .ok (.ireturn, 1) := by decide +kernel
def rmX5_tellWedge : Room := { frames := 4, cells := 0, slots := 0, locals := 83 }
abbrev eX5_tellWedge := Ev cX5_tellWedge 2 (some .boolean) RX5 rmX5_tellWedge
set_option maxRecDepth 20000 in
theorem mt_X5_tellWedge  (σ : St) (Q : Bool → St → Prop)  (hP : P_X5_tellWedge  σ Q) : Mt yX5_tellWedge cX5_tellWedge 2 (some .boolean) rmX5_tellWedge [.ref (26)] σ (qB Q) := by
  refine Mt.of (k := 1) (ls := [.ref (26), un]) (by decide +kernel) rfl (Nat.le_of_ble_eq_true rfl) ?_
  show eX5_tellWedge 0 [.ref (26), un] [] σ _
  unfold P_X5_tellWedge at hP
  refine E_aload_n dX5_tellWedge_0 rfl ?_
  refine E_getR (j := 0) dX5_tellWedge_1 (show kd 26 = 5 by decide) (by decide) rfl fd_RX5_12 (by decide) ?_
  refine E_iconst (v := 0) dX5_tellWedge_4 (by decide) ?_
  refine E_iconst (v := 3) dX5_tellWedge_5 (by decide) ?_
  refine E_callV (As := [.int (0), .int (3)]) (rest := []) dX5_tellWedge_6 cl_RX5_97 tw_216 (ar_5_1 (show kd 26 = 5 by decide)).1 (by decide) rfl tw_217 ⟨rfl, rfl, Nat.le_of_ble_eq_true rfl, Nat.le_of_ble_eq_true rfl⟩ rfl rfl (Nat.le_of_ble_eq_true rfl) (mt_X4_isNumber _ _ _ _  hP) ?_
  intro r0 s0 hq0; obtain ⟨r6, h0, hs0, hP⟩ := hq0; subst h0; rw [hs0]
  show eX5_tellWedge 9 [.ref (26), un] [.int (bI r6)] σ _
  refine E_ifz_ne 14 dX5_tellWedge_9 (by decide) (fun hc => ?_) (fun hc => ?_)
  · replace hP := hP.1 hc
    refine E_aload_n dX5_tellWedge_14 rfl ?_
    refine E_getR (j := 0) dX5_tellWedge_15 (show kd 26 = 5 by decide) (by decide) rfl fd_RX5_12 (by decide) ?_
    refine E_getI (j := 4) dX5_tellWedge_18 (ar_5_1 (show kd 26 = 5 by decide)).1 (by decide) rfl fd_RX5_105 ?_
    refine E_istore_n (ls' := [.ref (26), .int (gI σ 27 4)]) dX5_tellWedge_21 (by decide) rfl ?_
    refine E_aload_n dX5_tellWedge_22 rfl ?_
    refine E_getR (j := 0) dX5_tellWedge_23 (show kd 26 = 5 by decide) (by decide) rfl fd_RX5_12 (by decide) ?_
    refine E_callV (As := []) (rest := []) dX5_tellWedge_26 cl_RX5_47 tw_168 (ar_5_1 (show kd 26 = 5 by decide)).1 (by decide) rfl tw_169 ⟨rfl, rfl, Nat.le_of_ble_eq_true rfl, Nat.le_of_ble_eq_true rfl⟩ rfl rfl (Nat.le_of_ble_eq_true rfl) (mt_X4_step  _ _  hP) ?_
    rintro _ t26 ⟨rfl, hP⟩
    show eX5_tellWedge 29 [.ref (26), .int (gI σ 27 4)] [] t26 _
    refine E_aload_n dX5_tellWedge_29 rfl ?_
    refine E_getR (j := 0) dX5_tellWedge_30 (show kd 26 = 5 by decide) (by decide) rfl fd_RX5_12 (by decide) ?_
    refine E_iconst (v := 0) dX5_tellWedge_33 (by decide) ?_
    refine E_bipush (v := 20) dX5_tellWedge_34 (by decide) ?_
    refine E_callV (As := [.int (0), .int (20)]) (rest := []) dX5_tellWedge_36 cl_RX5_97 tw_216 (ar_5_1 (show kd 26 = 5 by decide)).1 (by decide) rfl tw_217 ⟨rfl, rfl, Nat.le_of_ble_eq_true rfl, Nat.le_of_ble_eq_true rfl⟩ rfl rfl (Nat.le_of_ble_eq_true rfl) (mt_X4_isNumber _ _ _ _  hP) ?_
    intro r0 s0 hq0; obtain ⟨r36, h0, hs0, hP⟩ := hq0; subst h0; rw [hs0]
    show eX5_tellWedge 39 [.ref (26), .int (gI σ 27 4)] [.int (bI r36)] t26 _
    refine E_ifz_ne 44 dX5_tellWedge_39 (by decide) (fun hc => ?_) (fun hc => ?_)
    · replace hP := hP.1 hc
      refine E_aload_n dX5_tellWedge_44 rfl ?_
      refine E_getR (j := 1) dX5_tellWedge_45 (show kd 26 = 5 by decide) (by decide) rfl fd_RX5_21 (by decide) ?_
      refine E_getR (j := 4) dX5_tellWedge_48 (ar_5_3 (show kd 26 = 5 by decide)).1 (by decide) rfl fd_RX5_124 (by decide) ?_
      refine E_iload_n dX5_tellWedge_51 rfl ?_
      refine E_aload_n dX5_tellWedge_52 rfl ?_
      refine E_getR (j := 0) dX5_tellWedge_53 (show kd 26 = 5 by decide) (by decide) rfl fd_RX5_12 (by decide) ?_
      refine E_getI (j := 4) dX5_tellWedge_56 (ar_5_1 (show kd 26 = 5 by decide)).1 (by decide) rfl fd_RX5_105 ?_
      obtain ⟨hb, hP⟩ := hP
      refine E_iast dX5_tellWedge_59 (ar_0_5 (ar_5_3 (show kd 26 = 5 by decide)).1).1 (ar_0_5 (ar_5_3 (show kd 26 = 5 by decide)).1).2 hb ?_
      refine E_aload_n dX5_tellWedge_60 rfl ?_
      refine E_getR (j := 0) dX5_tellWedge_61 (show kd 26 = 5 by decide) (by decide) rfl fd_RX5_12 (by decide) ?_
      refine E_callV (As := []) (rest := []) dX5_tellWedge_64 cl_RX5_47 tw_168 (ar_5_1 (show kd 26 = 5 by decide)).1 (by decide) rfl tw_169 ⟨rfl, rfl, Nat.le_of_ble_eq_true rfl, Nat.le_of_ble_eq_true rfl⟩ rfl rfl (Nat.le_of_ble_eq_true rfl) (mt_X4_step  _ _  hP) ?_
      rintro _ t64 ⟨rfl, hP⟩
      show eX5_tellWedge 67 [.ref (26), .int (gI σ 27 4)] [] t64 _
      refine E_iconst (v := 1) dX5_tellWedge_67 (by decide) ?_
      exact E_nret dX5_tellWedge_68 rfl (nar_b true) ⟨true, rfl, hP⟩
    · replace hP := hP.2 hc
      refine E_iconst (v := 0) dX5_tellWedge_42 (by decide) ?_
      exact E_nret dX5_tellWedge_43 rfl (nar_b false) ⟨false, rfl, hP⟩
  · replace hP := hP.2 hc
    refine E_iconst (v := 0) dX5_tellWedge_12 (by decide) ?_
    exact E_nret dX5_tellWedge_13 rfl (nar_b false) ⟨false, rfl, hP⟩
