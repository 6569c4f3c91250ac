theorem dX7_slackTo_0 : decode cX7_slackTo 0 = .ok (.aload_n 0, 1) := by decide +kernel
theorem dX7_slackTo_1 : decode cX7_slackTo 1 = .ok (.invokevirtual 152, 3) := by decide +kernel
theorem dX7_slackTo_4 : decode cX7_slackTo 4 = .ok (.aload_n 0, 1) := by decide +kernel
theorem dX7_slackTo_5 : decode cX7_slackTo 5 = .ok (.invokevirtual 113, 3) := by decide +kernel
theorem dX7_slackTo_8 : decode cX7_slackTo 8 = .ok (.aload_n 0, 1) := by decide +kernel
theorem dX7_slackTo_9 : decode cX7_slackTo 9 = .ok (.invokevirtual 120, 3) := by decide +kernel
theorem dX7_slackTo_12 : decode cX7_slackTo 12 = .ok (.istore_n 2, 1) := by decide +kernel
theorem dX7_slackTo_13 : decode cX7_slackTo 13 = .ok (.iconst 0, 1) := by decide +kernel
theorem dX7_slackTo_14 : decode cX7_slackTo 14 = .ok (.istore_n 3, 1) := by decide +kernel
theorem dX7_slackTo_15 : decode cX7_slackTo 15 = .ok (.iload_n 3, 1) := by decide +kernel
theorem dX7_slackTo_16 : decode cX7_slackTo 16 = .ok (.iload_n 2, 1) := by decide +kernel
theorem dX7_slackTo_17 : decode cX7_slackTo 17 = .ok (.if_icmp .ge 18, 3) := by decide +kernel
theorem dX7_slackTo_20 : decode cX7_slackTo 20 = .ok (.aload_n 0, 1) := by decide +kernel
theorem dX7_slackTo_21 : decode cX7_slackTo 21 = .ok (.getfield 33, 3) := by decide +kernel
theorem dX7_slackTo_24 : decode cX7_slackTo 24 = .ok (.iload_n 3, 1) := by decide +kernel
theorem dX7_slackTo_25 : decode cX7_slackTo 25 = .ok (.sipush 1000, 3) := by decide +kernel
theorem dX7_slackTo_28 : decode cX7_slackTo 28 = .ok (.iastore, 1) := by decide +kernel
theorem dX7_slackTo_29 : decode cX7_slackTo 29 = .ok (.iinc 3 1, 3) := by decide +kernel
theorem dX7_slackTo_32 : decode cX7_slackTo 32 = .ok (.goto (-17), 3) := by decide +kernel
theorem dX7_slackTo_35 : decode cX7_slackTo 35 = .ok (.aload_n 0, 1) := by decide +kernel
theorem dX7_slackTo_36 : decode cX7_slackTo 36 = .ok (.getfield 33, 3) := by decide +kernel
theorem dX7_slackTo_39 : decode cX7_slackTo 39 = .ok (.iload_n 2, 1) := by decide +kernel
theorem dX7_slackTo_40 : decode cX7_slackTo 40 = .ok (.iconst 0, 1) := by decide +kernel
theorem dX7_slackTo_41 : decode cX7_slackTo 41 = .ok (.iastore, 1) := by decide +kernel
theorem dX7_slackTo_42 : decode cX7_slackTo 42 = .ok (.iload_n 2, 1) := by decide +kernel
theorem dX7_slackTo_43 : decode cX7_slackTo 43 = .ok (.istore_n 3, 1) := by decide +kernel
theorem dX7_slackTo_44 : decode cX7_slackTo 44 = .ok (.iload_n 3, 1) := by decide +kernel
theorem dX7_slackTo_45 : decode cX7_slackTo 45 = .ok (.iload_n 1, 1) := by decide +kernel
theorem dX7_slackTo_46 : decode cX7_slackTo 46 = .ok (.if_icmp .lt 149, 3) := by decide +kernel
theorem dX7_slackTo_49 : decode cX7_slackTo 49 = .ok (.iload_n 3, 1) := by decide +kernel
theorem dX7_slackTo_50 : decode cX7_slackTo 50 = .ok (.iload_n 2, 1) := by decide +kernel
theorem dX7_slackTo_51 : decode cX7_slackTo 51 = .ok (.if_icmp .eq 15, 3) := by decide +kernel
theorem dX7_slackTo_54 : decode cX7_slackTo 54 = .ok (.aload_n 0, 1) := by decide +kernel
theorem dX7_slackTo_55 : decode cX7_slackTo 55 = .ok (.getfield 33, 3) := by decide +kernel
theorem dX7_slackTo_58 : decode cX7_slackTo 58 = .ok (.iload_n 3, 1) := by decide +kernel
theorem dX7_slackTo_59 : decode cX7_slackTo 59 = .ok (.iaload, 1) := by decide +kernel
theorem dX7_slackTo_60 : decode cX7_slackTo 60 = .ok (.sipush 1000, 3) := by decide +kernel
theorem dX7_slackTo_63 : decode cX7_slackTo 63 = .ok (.if_icmp .ne 7, 3) := by decide +kernel
theorem dX7_slackTo_66 : decode cX7_slackTo 66 = .ok (.iconst 0, 1) := by decide +kernel
theorem dX7_slackTo_67 : decode cX7_slackTo 67 = .ok (.goto 8, 3) := by decide +kernel
theorem dX7_slackTo_70 : decode cX7_slackTo 70 = .ok (.aload_n 0, 1) := by decide +kernel
theorem dX7_slackTo_71 : decode cX7_slackTo 71 = .ok (.iload_n 3, 1) := by decide +kernel
theorem dX7_slackTo_72 : decode cX7_slackTo 72 = .ok (.invokevirtual 174, 3) := by decide +kernel
theorem dX7_slackTo_75 : decode cX7_slackTo 75 = .ok (.istore 4, 2) := by decide +kernel
theorem dX7_slackTo_77 : decode cX7_slackTo 77 = .ok (.aload_n 0, 1) := by decide +kernel
theorem dX7_slackTo_78 : decode cX7_slackTo 78 = .ok (.getfield 33, 3) := by decide +kernel
theorem dX7_slackTo_81 : decode cX7_slackTo 81 = .ok (.iload_n 3, 1) := by decide +kernel
theorem dX7_slackTo_82 : decode cX7_slackTo 82 = .ok (.iload 4, 2) := by decide +kernel
theorem dX7_slackTo_84 : decode cX7_slackTo 84 = .ok (.aload_n 0, 1) := by decide +kernel
theorem dX7_slackTo_85 : decode cX7_slackTo 85 = .ok (.getfield 33, 3) := by decide +kernel
theorem dX7_slackTo_88 : decode cX7_slackTo 88 = .ok (.iload_n 3, 1) := by decide +kernel
theorem dX7_slackTo_89 : decode cX7_slackTo 89 = .ok (.iaload, 1) := by decide +kernel
theorem dX7_slackTo_90 : decode cX7_slackTo 90 = .ok (.if_icmp .le 8, 3) := by decide +kernel
theorem dX7_slackTo_93 : decode cX7_slackTo 93 = .ok (.iload 4, 2) := by decide +kernel
theorem dX7_slackTo_95 : decode cX7_slackTo 95 = .ok (.goto 9, 3) := by decide +kernel
theorem dX7_slackTo_98 : decode cX7_slackTo 98 = .ok (.aload_n 0, 1) := by decide +kernel
theorem dX7_slackTo_99 : decode cX7_slackTo 99 = .ok (.getfield 33, 3) := by decide +kernel
theorem dX7_slackTo_102 : decode cX7_slackTo 102 = .ok (.iload_n 3, 1) := by decide +kernel
theorem dX7_slackTo_103 : decode cX7_slackTo 103 = .ok (.iaload, 1) := by decide +kernel
theorem dX7_slackTo_104 : decode cX7_slackTo 104 = .ok (.iastore, 1) := by decide +kernel
theorem dX7_slackTo_105 : decode cX7_slackTo 105 = .ok (.iconst 0, 1) := by decide +kernel
theorem dX7_slackTo_106 : decode cX7_slackTo 106 = .ok (.istore 5, 2) := by decide +kernel
theorem dX7_slackTo_108 : decode cX7_slackTo 108 = .ok (.iload 5, 2) := by decide +kernel
theorem dX7_slackTo_110 : decode cX7_slackTo 110 = .ok (.iconst 4, 1) := by decide +kernel
theorem dX7_slackTo_111 : decode cX7_slackTo 111 = .ok (.if_icmp .ge 78, 3) := by decide +kernel
theorem dX7_slackTo_114 : decode cX7_slackTo 114 = .ok (.aload_n 0, 1) := by decide +kernel
theorem dX7_slackTo_115 : decode cX7_slackTo 115 = .ok (.getfield 33, 3) := by decide +kernel
theorem dX7_slackTo_118 : decode cX7_slackTo 118 = .ok (.iload_n 3, 1) := by decide +kernel
theorem dX7_slackTo_119 : decode cX7_slackTo 119 = .ok (.iaload, 1) := by decide +kernel
theorem dX7_slackTo_120 : decode cX7_slackTo 120 = .ok (.bipush 100, 2) := by decide +kernel
theorem dX7_slackTo_122 : decode cX7_slackTo 122 = .ok (.if_icmp .ge 67, 3) := by decide +kernel
theorem dX7_slackTo_125 : decode cX7_slackTo 125 = .ok (.iload_n 3, 1) := by decide +kernel
theorem dX7_slackTo_126 : decode cX7_slackTo 126 = .ok (.iconst 1, 1) := by decide +kernel
theorem dX7_slackTo_127 : decode cX7_slackTo 127 = .ok (.iconst 3, 1) := by decide +kernel
theorem dX7_slackTo_128 : decode cX7_slackTo 128 = .ok (.iload 5, 2) := by decide +kernel
theorem dX7_slackTo_130 : decode cX7_slackTo 130 = .ok (.imul, 1) := by decide +kernel
theorem dX7_slackTo_131 : decode cX7_slackTo 131 = .ok (.ishl, 1) := by decide +kernel
theorem dX7_slackTo_132 : decode cX7_slackTo 132 = .ok (.isub, 1) := by decide +kernel
theorem dX7_slackTo_133 : decode cX7_slackTo 133 = .ok (.istore 6, 2) := by decide +kernel
theorem dX7_slackTo_135 : decode cX7_slackTo 135 = .ok (.aload_n 0, 1) := by decide +kernel
theorem dX7_slackTo_136 : decode cX7_slackTo 136 = .ok (.getfield 33, 3) := by decide +kernel
theorem dX7_slackTo_139 : decode cX7_slackTo 139 = .ok (.aload_n 0, 1) := by decide +kernel
theorem dX7_slackTo_140 : decode cX7_slackTo 140 = .ok (.getfield 26, 3) := by decide +kernel
theorem dX7_slackTo_143 : decode cX7_slackTo 143 = .ok (.iload_n 3, 1) := by decide +kernel
theorem dX7_slackTo_144 : decode cX7_slackTo 144 = .ok (.iaload, 1) := by decide +kernel
theorem dX7_slackTo_145 : decode cX7_slackTo 145 = .ok (.iload 5, 2) := by decide +kernel
theorem dX7_slackTo_147 : decode cX7_slackTo 147 = .ok (.ishr, 1) := by decide +kernel
theorem dX7_slackTo_148 : decode cX7_slackTo 148 = .ok (.iconst 1, 1) := by decide +kernel
theorem dX7_slackTo_149 : decode cX7_slackTo 149 = .ok (.iand, 1) := by decide +kernel
theorem dX7_slackTo_150 : decode cX7_slackTo 150 = .ok (.iconst 1, 1) := by decide +kernel
theorem dX7_slackTo_151 : decode cX7_slackTo 151 = .ok (.if_icmp .ne 24, 3) := by decide +kernel
theorem dX7_slackTo_154 : decode cX7_slackTo 154 = .ok (.aload_n 0, 1) := by decide +kernel
theorem dX7_slackTo_155 : decode cX7_slackTo 155 = .ok (.getfield 33, 3) := by decide +kernel
theorem dX7_slackTo_158 : decode cX7_slackTo 158 = .ok (.iload 6, 2) := by decide +kernel
theorem dX7_slackTo_160 : decode cX7_slackTo 160 = .ok (.iaload, 1) := by decide +kernel
theorem dX7_slackTo_161 : decode cX7_slackTo 161 = .ok (.aload_n 0, 1) := by decide +kernel
theorem dX7_slackTo_162 : decode cX7_slackTo 162 = .ok (.getfield 33, 3) := by decide +kernel
theorem dX7_slackTo_165 : decode cX7_slackTo 165 = .ok (.iload_n 3, 1) := by decide +kernel
theorem dX7_slackTo_166 : decode cX7_slackTo 166 = .ok (.iaload, 1) := by decide +kernel
theorem dX7_slackTo_167 : decode cX7_slackTo 167 = .ok (.if_icmp .le 8, 3) := by decide +kernel
theorem dX7_slackTo_170 : decode cX7_slackTo 170 = .ok (.iload 6, 2) := by decide +kernel
theorem dX7_slackTo_172 : decode cX7_slackTo 172 = .ok (.goto 4, 3) := by decide +kernel
theorem dX7_slackTo_175 : decode cX7_slackTo 175 = .ok (.iload_n 3, 1) := by decide +kernel
theorem dX7_slackTo_176 : decode cX7_slackTo 176 = .ok (.aload_n 0, 1) := by decide +kernel
theorem dX7_slackTo_177 : decode cX7_slackTo 177 = .ok (.getfield 33, 3) := by decide +kernel
theorem dX7_slackTo_180 : decode cX7_slackTo 180 = .ok (.iload_n 3, 1) := by decide +kernel
theorem dX7_slackTo_181 : decode cX7_slackTo 181 = .ok (.iaload, 1) := by decide +kernel
theorem dX7_slackTo_182 : decode cX7_slackTo 182 = .ok (.iastore, 1) := by decide +kernel
theorem dX7_slackTo_183 : decode cX7_slackTo 183 = .ok (.iinc 5 1, 3) := by decide +kernel
theorem dX7_slackTo_186 : decode cX7_slackTo 186 = .ok (.goto (-78), 3) := by decide +kernel
theorem dX7_slackTo_189 : decode cX7_slackTo 189 = .ok (.iinc 3 (-1), 3) := by decide +kernel
theorem dX7_slackTo_192 : decode cX7_slackTo 192 = .ok (.goto (-148), 3) := by decide +kernel
theorem dX7_slackTo_195 : decode cX7_slackTo 195 = .ok (.aload_n 0, 1) := by decide +kernel
theorem dX7_slackTo_196 : decode cX7_slackTo 196 = .ok (.getfield 33, 3) := by decide +kernel
theorem dX7_slackTo_199 : decode cX7_slackTo 199 = .ok (.iload_n 1, 1) := by decide +kernel
theorem dX7_slackTo_200 : decode cX7_slackTo 200 = .ok (.iaload, 1) := by decide +kernel
theorem dX7_slackTo_201 : decode cX7_slackTo 201 = .ok (.bipush 100, 2) := by decide +kernel
theorem dX7_slackTo_203 : decode cX7_slackTo 203 = .ok (.if_icmp .ge 12, 3) := by decide +kernel
theorem dX7_slackTo_206 : decode cX7_slackTo 206 = .ok (.aload_n 0, 1) := by decide +kernel
theorem dX7_slackTo_207 : decode cX7_slackTo 207 = .ok (.getfield 33, 3) := by decide +kernel
theorem dX7_slackTo_210 : decode cX7_slackTo 210 = .ok (.iload_n 1, 1) := by decide +kernel
theorem dX7_slackTo_211 : decode cX7_slackTo 211 = .ok (.iaload, 1) := by decide +kernel
theorem dX7_slackTo_212 : decode cX7_slackTo 212 = .ok (.goto 9, 3) := by decide +kernel
theorem dX7_slackTo_215 : decode cX7_slackTo 215 = .ok (.aload_n 0, 1) := by decide +kernel
theorem dX7_slackTo_216 : decode cX7_slackTo 216 = .ok (.ldc 170, 2) := by decide +kernel
theorem dX7_slackTo_218 : decode cX7_slackTo 218 = .ok (.invokevirtual 105, 3) := by decide +kernel
theorem dX7_slackTo_221 : decode cX7_slackTo 221 = .ok (.ireturn, 1) := by decide +kernel
def rmX7_slackTo : Room := { frames := 4, cells := 0, slots := 0, locals := 95 }
abbrev eX7_slackTo := Ev cX7_slackTo 7 (some .int) RX7 rmX7_slackTo
set_option maxRecDepth 20000 in
theorem ev_X7_slackTo_l15 (l1 : Int32) (l2 : Int32)  (K : St → Prop) (Q : Int32 → St → Prop) (hK : ∀  s, K  s → eX7_slackTo 35 [.ref (49), .int (l1), .int (l2), un, un, un, un] [] s (qI Q)) : ∀ (n : Nat) (l3 : Int32) (σ : St), P_X7_slackTo_l15 l1 l2 K Q n l3 σ → eX7_slackTo 15 [.ref (49), .int (l1), .int (l2), .int (l3), un, un, un] [] σ (qI Q) := by
  intro n
  induction n with
  | zero => intro l3 σ hP; exact hP.elim
  | succ n ih =>
    intro l3 σ hP
    rw [P_X7_slackTo_l15] at hP
    refine E_iload_n dX7_slackTo_15 rfl ?_
    refine E_iload_n dX7_slackTo_16 rfl ?_
    refine E_icmp_ge 35 dX7_slackTo_17 (by decide) (fun hc => ?_) (fun hc => ?_)
    · replace hP := hP.1 hc
      refine E_mask [true, true, true, false, false, false, false] rfl ?_
      exact hK  _ hP
    · replace hP := hP.2 hc
      refine E_aload_n dX7_slackTo_20 rfl ?_
      refine E_getR (j := 7) dX7_slackTo_21 (show kd 49 = 7 by decide) (by decide) rfl fd_RX7_33 (by decide) ?_
      refine E_iload_n dX7_slackTo_24 rfl ?_
      refine E_sipush (v := 1000) dX7_slackTo_25 (by decide) ?_
      obtain ⟨hb, hP⟩ := hP
      refine E_iast dX7_slackTo_28 (ar_7_8 (show kd 49 = 7 by decide)).1 (ar_7_8 (show kd 49 = 7 by decide)).2 hb ?_
      refine E_iinc (ls' := [.ref (49), .int (l1), .int (l2), .int (l3 + 1), un, un, un]) dX7_slackTo_29 rfl rfl (by decide) rfl ?_
      refine E_goto 15 dX7_slackTo_32 (by decide) ?_
      exact ih (l3 + 1) _ hP
set_option maxRecDepth 20000 in
theorem ev_X7_slackTo_l108 (l1 : Int32) (l2 : Int32) (l3 : Int32)  (K : St → Prop) (Q : Int32 → St → Prop) (hK : ∀  s, K  s → eX7_slackTo 189 [.ref (49), .int (l1), .int (l2), .int (l3), un, un, un] [] s (qI Q)) : ∀ (n : Nat) (l5 : Int32) (σ : St), P_X7_slackTo_l108 l1 l2 l3 K Q n l5 σ → eX7_slackTo 108 [.ref (49), .int (l1), .int (l2), .int (l3), un, .int (l5), un] [] σ (qI Q) := by
  intro n
  induction n with
  | zero => intro l5 σ hP; exact hP.elim
  | succ n ih =>
    intro l5 σ hP
    rw [P_X7_slackTo_l108] at hP
    refine E_iload dX7_slackTo_108 rfl ?_
    refine E_iconst (v := 4) dX7_slackTo_110 (by decide) ?_
    refine E_icmp_ge 189 dX7_slackTo_111 (by decide) (fun hc => ?_) (fun hc => ?_)
    · replace hP := hP.1 hc
      refine E_mask [true, true, true, true, false, false, false] rfl ?_
      exact hK  _ hP
    · replace hP := hP.2 hc
      refine E_aload_n dX7_slackTo_114 rfl ?_
      refine E_getR (j := 7) dX7_slackTo_115 (show kd 49 = 7 by decide) (by decide) rfl fd_RX7_33 (by decide) ?_
      refine E_iload_n dX7_slackTo_118 rfl ?_
      obtain ⟨hb, hP⟩ := hP
      refine E_iald dX7_slackTo_119 (ar_7_8 (show kd 49 = 7 by decide)).1 (ar_7_8 (show kd 49 = 7 by decide)).2 hb ?_
      refine E_bipush (v := 100) dX7_slackTo_120 (by decide) ?_
      refine E_icmp_ge 189 dX7_slackTo_122 (by decide) (fun hc => ?_) (fun hc => ?_)
      · replace hP := hP.1 hc
        refine E_mask [true, true, true, true, false, false, false] rfl ?_
        exact hK  _ hP
      · replace hP := hP.2 hc
        refine E_iload_n dX7_slackTo_125 rfl ?_
        refine E_iconst (v := 1) dX7_slackTo_126 (by decide) ?_
        refine E_iconst (v := 3) dX7_slackTo_127 (by decide) ?_
        refine E_iload dX7_slackTo_128 rfl ?_
        refine E_imul dX7_slackTo_130 ?_
        refine E_ishl dX7_slackTo_131 ?_
        refine E_isub dX7_slackTo_132 ?_
        refine E_istore (ls' := [.ref (49), .int (l1), .int (l2), .int (l3), un, .int (l5), .int (l3 - (1 <<< ((3 * l5) &&& 31)))]) dX7_slackTo_133 (by decide) rfl ?_
        refine E_aload_n dX7_slackTo_135 rfl ?_
        refine E_getR (j := 7) dX7_slackTo_136 (show kd 49 = 7 by decide) (by decide) rfl fd_RX7_33 (by decide) ?_
        refine E_aload_n dX7_slackTo_139 rfl ?_
        refine E_getR (j := 5) dX7_slackTo_140 (show kd 49 = 7 by decide) (by decide) rfl fd_RX7_26 (by decide) ?_
        refine E_iload_n dX7_slackTo_143 rfl ?_
        obtain ⟨hb, hP⟩ := hP
        refine E_iald dX7_slackTo_144 (ar_7_6 (show kd 49 = 7 by decide)).1 (ar_7_6 (show kd 49 = 7 by decide)).2 hb ?_
        refine E_iload dX7_slackTo_145 rfl ?_
        refine E_ishr dX7_slackTo_147 ?_
        refine E_iconst (v := 1) dX7_slackTo_148 (by decide) ?_
        refine E_iand dX7_slackTo_149 ?_
        refine E_iconst (v := 1) dX7_slackTo_150 (by decide) ?_
        refine E_icmp_ne 175 dX7_slackTo_151 (by decide) (fun hc => ?_) (fun hc => ?_)
        · replace hP := hP.1 hc
          refine E_iload_n dX7_slackTo_175 rfl ?_
          refine E_aload_n dX7_slackTo_176 rfl ?_
          refine E_getR (j := 7) dX7_slackTo_177 (show kd 49 = 7 by decide) (by decide) rfl fd_RX7_33 (by decide) ?_
          refine E_iload_n dX7_slackTo_180 rfl ?_
          obtain ⟨hb, hP⟩ := hP
          refine E_iald dX7_slackTo_181 (ar_7_8 (show kd 49 = 7 by decide)).1 (ar_7_8 (show kd 49 = 7 by decide)).2 hb ?_
          obtain ⟨hb, hP⟩ := hP
          refine E_iast dX7_slackTo_182 (ar_7_8 (show kd 49 = 7 by decide)).1 (ar_7_8 (show kd 49 = 7 by decide)).2 hb ?_
          refine E_iinc (ls' := [.ref (49), .int (l1), .int (l2), .int (l3), un, .int (l5 + 1), .int (l3 - (1 <<< ((3 * l5) &&& 31)))]) dX7_slackTo_183 rfl rfl (by decide) rfl ?_
          refine E_goto 108 dX7_slackTo_186 (by decide) ?_
          refine E_mask [true, true, true, true, false, true, false] rfl ?_
          exact ih (l5 + 1) _ hP
        · replace hP := hP.2 hc
          refine E_aload_n dX7_slackTo_154 rfl ?_
          refine E_getR (j := 7) dX7_slackTo_155 (show kd 49 = 7 by decide) (by decide) rfl fd_RX7_33 (by decide) ?_
          refine E_iload dX7_slackTo_158 rfl ?_
          obtain ⟨hb, hP⟩ := hP
          refine E_iald dX7_slackTo_160 (ar_7_8 (show kd 49 = 7 by decide)).1 (ar_7_8 (show kd 49 = 7 by decide)).2 hb ?_
          refine E_aload_n dX7_slackTo_161 rfl ?_
          refine E_getR (j := 7) dX7_slackTo_162 (show kd 49 = 7 by decide) (by decide) rfl fd_RX7_33 (by decide) ?_
          refine E_iload_n dX7_slackTo_165 rfl ?_
          obtain ⟨hb, hP⟩ := hP
          refine E_iald dX7_slackTo_166 (ar_7_8 (show kd 49 = 7 by decide)).1 (ar_7_8 (show kd 49 = 7 by decide)).2 hb ?_
          refine E_icmp_le 175 dX7_slackTo_167 (by decide) (fun hc => ?_) (fun hc => ?_)
          · replace hP := hP.1 hc
            refine E_iload_n dX7_slackTo_175 rfl ?_
            refine E_aload_n dX7_slackTo_176 rfl ?_
            refine E_getR (j := 7) dX7_slackTo_177 (show kd 49 = 7 by decide) (by decide) rfl fd_RX7_33 (by decide) ?_
            refine E_iload_n dX7_slackTo_180 rfl ?_
            obtain ⟨hb, hP⟩ := hP
            refine E_iald dX7_slackTo_181 (ar_7_8 (show kd 49 = 7 by decide)).1 (ar_7_8 (show kd 49 = 7 by decide)).2 hb ?_
            obtain ⟨hb, hP⟩ := hP
            refine E_iast dX7_slackTo_182 (ar_7_8 (show kd 49 = 7 by decide)).1 (ar_7_8 (show kd 49 = 7 by decide)).2 hb ?_
            refine E_iinc (ls' := [.ref (49), .int (l1), .int (l2), .int (l3), un, .int (l5 + 1), .int (l3 - (1 <<< ((3 * l5) &&& 31)))]) dX7_slackTo_183 rfl rfl (by decide) rfl ?_
            refine E_goto 108 dX7_slackTo_186 (by decide) ?_
            refine E_mask [true, true, true, true, false, true, false] rfl ?_
            exact ih (l5 + 1) _ hP
          · replace hP := hP.2 hc
            refine E_iload dX7_slackTo_170 rfl ?_
            refine E_goto 176 dX7_slackTo_172 (by decide) ?_
            refine E_aload_n dX7_slackTo_176 rfl ?_
            refine E_getR (j := 7) dX7_slackTo_177 (show kd 49 = 7 by decide) (by decide) rfl fd_RX7_33 (by decide) ?_
            refine E_iload_n dX7_slackTo_180 rfl ?_
            obtain ⟨hb, hP⟩ := hP
            refine E_iald dX7_slackTo_181 (ar_7_8 (show kd 49 = 7 by decide)).1 (ar_7_8 (show kd 49 = 7 by decide)).2 hb ?_
            obtain ⟨hb, hP⟩ := hP
            refine E_iast dX7_slackTo_182 (ar_7_8 (show kd 49 = 7 by decide)).1 (ar_7_8 (show kd 49 = 7 by decide)).2 hb ?_
            refine E_iinc (ls' := [.ref (49), .int (l1), .int (l2), .int (l3), un, .int (l5 + 1), .int (l3 - (1 <<< ((3 * l5) &&& 31)))]) dX7_slackTo_183 rfl rfl (by decide) rfl ?_
            refine E_goto 108 dX7_slackTo_186 (by decide) ?_
            refine E_mask [true, true, true, true, false, true, false] rfl ?_
            exact ih (l5 + 1) _ hP
set_option maxRecDepth 20000 in
theorem ev_X7_slackTo_l44 (l1 : Int32) (l2 : Int32)  (K : St → Prop) (Q : Int32 → St → Prop) (hK : ∀  s, K  s → eX7_slackTo 195 [.ref (49), .int (l1), un, un, un, un, un] [] s (qI Q)) : ∀ (n : Nat) (l3 : Int32) (σ : St), P_X7_slackTo_l44 l1 l2 K Q n l3 σ → eX7_slackTo 44 [.ref (49), .int (l1), .int (l2), .int (l3), un, un, un] [] σ (qI Q) := by
  intro n
  induction n with
  | zero => intro l3 σ hP; exact hP.elim
  | succ n ih =>
    intro l3 σ hP
    rw [P_X7_slackTo_l44] at hP
    refine E_iload_n dX7_slackTo_44 rfl ?_
    refine E_iload_n dX7_slackTo_45 rfl ?_
    refine E_icmp_lt 195 dX7_slackTo_46 (by decide) (fun hc => ?_) (fun hc => ?_)
    · replace hP := hP.1 hc
      refine E_mask [true, true, false, false, false, false, false] rfl ?_
      exact hK  _ hP
    · replace hP := hP.2 hc
      refine E_iload_n dX7_slackTo_49 rfl ?_
      refine E_iload_n dX7_slackTo_50 rfl ?_
      refine E_icmp_eq 66 dX7_slackTo_51 (by decide) (fun hc => ?_) (fun hc => ?_)
      · replace hP := hP.1 hc
        refine E_iconst (v := 0) dX7_slackTo_66 (by decide) ?_
        refine E_goto 75 dX7_slackTo_67 (by decide) ?_
        refine E_istore (ls' := [.ref (49), .int (l1), .int (l2), .int (l3), .int (0), un, un]) dX7_slackTo_75 (by decide) rfl ?_
        refine E_aload_n dX7_slackTo_77 rfl ?_
        refine E_getR (j := 7) dX7_slackTo_78 (show kd 49 = 7 by decide) (by decide) rfl fd_RX7_33 (by decide) ?_
        refine E_iload_n dX7_slackTo_81 rfl ?_
        refine E_iload dX7_slackTo_82 rfl ?_
        refine E_aload_n dX7_slackTo_84 rfl ?_
        refine E_getR (j := 7) dX7_slackTo_85 (show kd 49 = 7 by decide) (by decide) rfl fd_RX7_33 (by decide) ?_
        refine E_iload_n dX7_slackTo_88 rfl ?_
        obtain ⟨hb, hP⟩ := hP
        refine E_iald dX7_slackTo_89 (ar_7_8 (show kd 49 = 7 by decide)).1 (ar_7_8 (show kd 49 = 7 by decide)).2 hb ?_
        refine E_icmp_le 98 dX7_slackTo_90 (by decide) (fun hc => ?_) (fun hc => ?_)
        · replace hP := hP.1 hc
          refine E_aload_n dX7_slackTo_98 rfl ?_
          refine E_getR (j := 7) dX7_slackTo_99 (show kd 49 = 7 by decide) (by decide) rfl fd_RX7_33 (by decide) ?_
          refine E_iload_n dX7_slackTo_102 rfl ?_
          obtain ⟨hb, hP⟩ := hP
          refine E_iald dX7_slackTo_103 (ar_7_8 (show kd 49 = 7 by decide)).1 (ar_7_8 (show kd 49 = 7 by decide)).2 hb ?_
          obtain ⟨hb, hP⟩ := hP
          refine E_iast dX7_slackTo_104 (ar_7_8 (show kd 49 = 7 by decide)).1 (ar_7_8 (show kd 49 = 7 by decide)).2 hb ?_
          refine E_iconst (v := 0) dX7_slackTo_105 (by decide) ?_
          refine E_istore (ls' := [.ref (49), .int (l1), .int (l2), .int (l3), .int (0), .int (0), un]) dX7_slackTo_106 (by decide) rfl ?_
          refine E_mask [true, true, true, true, false, true, false] rfl ?_
          obtain ⟨m108, hP⟩ := hP
          refine ev_X7_slackTo_l108 (l1) (l2) (l3)  _ Q ?_ m108 _ _ hP
          intro  t189 hP
          refine E_iinc (ls' := [.ref (49), .int (l1), .int (l2), .int (l3 + (-1)), un, un, un]) dX7_slackTo_189 rfl rfl (by decide) rfl ?_
          refine E_goto 44 dX7_slackTo_192 (by decide) ?_
          exact ih (l3 + (-1)) _ hP
        · replace hP := hP.2 hc
          refine E_iload dX7_slackTo_93 rfl ?_
          refine E_goto 104 dX7_slackTo_95 (by decide) ?_
          obtain ⟨hb, hP⟩ := hP
          refine E_iast dX7_slackTo_104 (ar_7_8 (show kd 49 = 7 by decide)).1 (ar_7_8 (show kd 49 = 7 by decide)).2 hb ?_
          refine E_iconst (v := 0) dX7_slackTo_105 (by decide) ?_
          refine E_istore (ls' := [.ref (49), .int (l1), .int (l2), .int (l3), .int (0), .int (0), un]) dX7_slackTo_106 (by decide) rfl ?_
          refine E_mask [true, true, true, true, false, true, false] rfl ?_
          obtain ⟨m108, hP⟩ := hP
          refine ev_X7_slackTo_l108 (l1) (l2) (l3)  _ Q ?_ m108 _ _ hP
          intro  t189 hP
          refine E_iinc (ls' := [.ref (49), .int (l1), .int (l2), .int (l3 + (-1)), un, un, un]) dX7_slackTo_189 rfl rfl (by decide) rfl ?_
          refine E_goto 44 dX7_slackTo_192 (by decide) ?_
          exact ih (l3 + (-1)) _ hP
      · replace hP := hP.2 hc
        refine E_aload_n dX7_slackTo_54 rfl ?_
        refine E_getR (j := 7) dX7_slackTo_55 (show kd 49 = 7 by decide) (by decide) rfl fd_RX7_33 (by decide) ?_
        refine E_iload_n dX7_slackTo_58 rfl ?_
        obtain ⟨hb, hP⟩ := hP
        refine E_iald dX7_slackTo_59 (ar_7_8 (show kd 49 = 7 by decide)).1 (ar_7_8 (show kd 49 = 7 by decide)).2 hb ?_
        refine E_sipush (v := 1000) dX7_slackTo_60 (by decide) ?_
        refine E_icmp_ne 70 dX7_slackTo_63 (by decide) (fun hc => ?_) (fun hc => ?_)
        · replace hP := hP.1 hc
          refine E_aload_n dX7_slackTo_70 rfl ?_
          refine E_iload_n dX7_slackTo_71 rfl ?_
          refine E_callV (As := [.int (l3)]) (rest := []) dX7_slackTo_72 cl_RX7_174 tw_597 (show kd 49 = 7 by decide) (by decide) rfl tw_598 ⟨rfl, rfl, Nat.le_of_ble_eq_true rfl, Nat.le_of_ble_eq_true rfl⟩ rfl rfl (Nat.le_of_ble_eq_true rfl) (mt_X7_widest _ _ _  hP) ?_
          intro r0 s0 hq0; obtain ⟨r72, h0, hs0, hP⟩ := hq0; subst h0; rw [hs0]
          show eX7_slackTo 75 [.ref (49), .int (l1), .int (l2), .int (l3), un, un, un] [.int (r72)] σ _
          refine E_istore (ls' := [.ref (49), .int (l1), .int (l2), .int (l3), .int (r72), un, un]) dX7_slackTo_75 (by decide) rfl ?_
          refine E_aload_n dX7_slackTo_77 rfl ?_
          refine E_getR (j := 7) dX7_slackTo_78 (show kd 49 = 7 by decide) (by decide) rfl fd_RX7_33 (by decide) ?_
          refine E_iload_n dX7_slackTo_81 rfl ?_
          refine E_iload dX7_slackTo_82 rfl ?_
          refine E_aload_n dX7_slackTo_84 rfl ?_
          refine E_getR (j := 7) dX7_slackTo_85 (show kd 49 = 7 by decide) (by decide) rfl fd_RX7_33 (by decide) ?_
          refine E_iload_n dX7_slackTo_88 rfl ?_
          obtain ⟨hb, hP⟩ := hP
          refine E_iald dX7_slackTo_89 (ar_7_8 (show kd 49 = 7 by decide)).1 (ar_7_8 (show kd 49 = 7 by decide)).2 hb ?_
          refine E_icmp_le 98 dX7_slackTo_90 (by decide) (fun hc => ?_) (fun hc => ?_)
          · replace hP := hP.1 hc
            refine E_aload_n dX7_slackTo_98 rfl ?_
            refine E_getR (j := 7) dX7_slackTo_99 (show kd 49 = 7 by decide) (by decide) rfl fd_RX7_33 (by decide) ?_
            refine E_iload_n dX7_slackTo_102 rfl ?_
            obtain ⟨hb, hP⟩ := hP
            refine E_iald dX7_slackTo_103 (ar_7_8 (show kd 49 = 7 by decide)).1 (ar_7_8 (show kd 49 = 7 by decide)).2 hb ?_
            obtain ⟨hb, hP⟩ := hP
            refine E_iast dX7_slackTo_104 (ar_7_8 (show kd 49 = 7 by decide)).1 (ar_7_8 (show kd 49 = 7 by decide)).2 hb ?_
            refine E_iconst (v := 0) dX7_slackTo_105 (by decide) ?_
            refine E_istore (ls' := [.ref (49), .int (l1), .int (l2), .int (l3), .int (r72), .int (0), un]) dX7_slackTo_106 (by decide) rfl ?_
            refine E_mask [true, true, true, true, false, true, false] rfl ?_
            obtain ⟨m108, hP⟩ := hP
            refine ev_X7_slackTo_l108 (l1) (l2) (l3)  _ Q ?_ m108 _ _ hP
            intro  t189 hP
            refine E_iinc (ls' := [.ref (49), .int (l1), .int (l2), .int (l3 + (-1)), un, un, un]) dX7_slackTo_189 rfl rfl (by decide) rfl ?_
            refine E_goto 44 dX7_slackTo_192 (by decide) ?_
            exact ih (l3 + (-1)) _ hP
          · replace hP := hP.2 hc
            refine E_iload dX7_slackTo_93 rfl ?_
            refine E_goto 104 dX7_slackTo_95 (by decide) ?_
            obtain ⟨hb, hP⟩ := hP
            refine E_iast dX7_slackTo_104 (ar_7_8 (show kd 49 = 7 by decide)).1 (ar_7_8 (show kd 49 = 7 by decide)).2 hb ?_
            refine E_iconst (v := 0) dX7_slackTo_105 (by decide) ?_
            refine E_istore (ls' := [.ref (49), .int (l1), .int (l2), .int (l3), .int (r72), .int (0), un]) dX7_slackTo_106 (by decide) rfl ?_
            refine E_mask [true, true, true, true, false, true, false] rfl ?_
            obtain ⟨m108, hP⟩ := hP
            refine ev_X7_slackTo_l108 (l1) (l2) (l3)  _ Q ?_ m108 _ _ hP
            intro  t189 hP
            refine E_iinc (ls' := [.ref (49), .int (l1), .int (l2), .int (l3 + (-1)), un, un, un]) dX7_slackTo_189 rfl rfl (by decide) rfl ?_
            refine E_goto 44 dX7_slackTo_192 (by decide) ?_
            exact ih (l3 + (-1)) _ hP
        · replace hP := hP.2 hc
          refine E_iconst (v := 0) dX7_slackTo_66 (by decide) ?_
          refine E_goto 75 dX7_slackTo_67 (by decide) ?_
          refine E_istore (ls' := [.ref (49), .int (l1), .int (l2), .int (l3), .int (0), un, un]) dX7_slackTo_75 (by decide) rfl ?_
          refine E_aload_n dX7_slackTo_77 rfl ?_
          refine E_getR (j := 7) dX7_slackTo_78 (show kd 49 = 7 by decide) (by decide) rfl fd_RX7_33 (by decide) ?_
          refine E_iload_n dX7_slackTo_81 rfl ?_
          refine E_iload dX7_slackTo_82 rfl ?_
          refine E_aload_n dX7_slackTo_84 rfl ?_
          refine E_getR (j := 7) dX7_slackTo_85 (show kd 49 = 7 by decide) (by decide) rfl fd_RX7_33 (by decide) ?_
          refine E_iload_n dX7_slackTo_88 rfl ?_
          obtain ⟨hb, hP⟩ := hP
          refine E_iald dX7_slackTo_89 (ar_7_8 (show kd 49 = 7 by decide)).1 (ar_7_8 (show kd 49 = 7 by decide)).2 hb ?_
          refine E_icmp_le 98 dX7_slackTo_90 (by decide) (fun hc => ?_) (fun hc => ?_)
          · replace hP := hP.1 hc
            refine E_aload_n dX7_slackTo_98 rfl ?_
            refine E_getR (j := 7) dX7_slackTo_99 (show kd 49 = 7 by decide) (by decide) rfl fd_RX7_33 (by decide) ?_
            refine E_iload_n dX7_slackTo_102 rfl ?_
            obtain ⟨hb, hP⟩ := hP
            refine E_iald dX7_slackTo_103 (ar_7_8 (show kd 49 = 7 by decide)).1 (ar_7_8 (show kd 49 = 7 by decide)).2 hb ?_
            obtain ⟨hb, hP⟩ := hP
            refine E_iast dX7_slackTo_104 (ar_7_8 (show kd 49 = 7 by decide)).1 (ar_7_8 (show kd 49 = 7 by decide)).2 hb ?_
            refine E_iconst (v := 0) dX7_slackTo_105 (by decide) ?_
            refine E_istore (ls' := [.ref (49), .int (l1), .int (l2), .int (l3), .int (0), .int (0), un]) dX7_slackTo_106 (by decide) rfl ?_
            refine E_mask [true, true, true, true, false, true, false] rfl ?_
            obtain ⟨m108, hP⟩ := hP
            refine ev_X7_slackTo_l108 (l1) (l2) (l3)  _ Q ?_ m108 _ _ hP
            intro  t189 hP
            refine E_iinc (ls' := [.ref (49), .int (l1), .int (l2), .int (l3 + (-1)), un, un, un]) dX7_slackTo_189 rfl rfl (by decide) rfl ?_
            refine E_goto 44 dX7_slackTo_192 (by decide) ?_
            exact ih (l3 + (-1)) _ hP
          · replace hP := hP.2 hc
            refine E_iload dX7_slackTo_93 rfl ?_
            refine E_goto 104 dX7_slackTo_95 (by decide) ?_
            obtain ⟨hb, hP⟩ := hP
            refine E_iast dX7_slackTo_104 (ar_7_8 (show kd 49 = 7 by decide)).1 (ar_7_8 (show kd 49 = 7 by decide)).2 hb ?_
            refine E_iconst (v := 0) dX7_slackTo_105 (by decide) ?_
            refine E_istore (ls' := [.ref (49), .int (l1), .int (l2), .int (l3), .int (0), .int (0), un]) dX7_slackTo_106 (by decide) rfl ?_
            refine E_mask [true, true, true, true, false, true, false] rfl ?_
            obtain ⟨m108, hP⟩ := hP
            refine ev_X7_slackTo_l108 (l1) (l2) (l3)  _ Q ?_ m108 _ _ hP
            intro  t189 hP
            refine E_iinc (ls' := [.ref (49), .int (l1), .int (l2), .int (l3 + (-1)), un, un, un]) dX7_slackTo_189 rfl rfl (by decide) rfl ?_
            refine E_goto 44 dX7_slackTo_192 (by decide) ?_
            exact ih (l3 + (-1)) _ hP
set_option maxRecDepth 20000 in
theorem mt_X7_slackTo (p0 : Int32) (σ : St) (Q : Int32 → St → Prop)  (hP : P_X7_slackTo p0 σ Q) : Mt yX7_slackTo cX7_slackTo 7 (some .int) rmX7_slackTo [.ref (49), .int (p0)] σ (qI Q) := by
  refine Mt.of (k := 5) (ls := [.ref (49), .int (p0), un, un, un, un, un]) (by decide +kernel) rfl (Nat.le_of_ble_eq_true rfl) ?_
  show eX7_slackTo 0 [.ref (49), .int (p0), un, un, un, un, un] [] σ _
  unfold P_X7_slackTo at hP
  refine E_aload_n dX7_slackTo_0 rfl ?_
  refine E_callV (As := []) (rest := []) dX7_slackTo_1 cl_RX7_152 tw_570 (show kd 49 = 7 by decide) (by decide) rfl tw_571 ⟨rfl, rfl, Nat.le_of_ble_eq_true rfl, Nat.le_of_ble_eq_true rfl⟩ rfl rfl (Nat.le_of_ble_eq_true rfl) (mt_X7_findGoes  _ _  hP) ?_
  rintro _ t1 ⟨rfl, hP⟩
  show eX7_slackTo 4 [.ref (49), .int (p0), un, un, un, un, un] [] t1 _
  refine E_aload_n dX7_slackTo_4 rfl ?_
  refine E_callV (As := []) (rest := []) dX7_slackTo_5 cl_RX7_113 tw_519 (show kd 49 = 7 by decide) (by decide) rfl tw_520 ⟨rfl, rfl, Nat.le_of_ble_eq_true rfl, Nat.le_of_ble_eq_true rfl⟩ rfl rfl (Nat.le_of_ble_eq_true rfl) (mt_X7_findTops  _ _  hP) ?_
  rintro _ t5 ⟨rfl, hP⟩
  show eX7_slackTo 8 [.ref (49), .int (p0), un, un, un, un, un] [] t5 _
  refine E_aload_n dX7_slackTo_8 rfl ?_
  refine E_callV (As := []) (rest := []) dX7_slackTo_9 cl_RX7_120 tw_523 (show kd 49 = 7 by decide) (by decide) rfl tw_524 ⟨rfl, rfl, Nat.le_of_ble_eq_true rfl, Nat.le_of_ble_eq_true rfl⟩ rfl rfl (Nat.le_of_ble_eq_true rfl) (mt_X7_standNow  _ _  hP) ?_
  intro r0 s0 hq0; obtain ⟨r9, h0, hs0, hP⟩ := hq0; subst h0; rw [hs0]
  show eX7_slackTo 12 [.ref (49), .int (p0), un, un, un, un, un] [.int (r9)] t5 _
  refine E_istore_n (ls' := [.ref (49), .int (p0), .int (r9), un, un, un, un]) dX7_slackTo_12 (by decide) rfl ?_
  refine E_iconst (v := 0) dX7_slackTo_13 (by decide) ?_
  refine E_istore_n (ls' := [.ref (49), .int (p0), .int (r9), .int (0), un, un, un]) dX7_slackTo_14 (by decide) rfl ?_
  obtain ⟨m15, hP⟩ := hP
  refine ev_X7_slackTo_l15 (p0) (r9)  _ Q ?_ m15 _ _ hP
  intro  t35 hP
  refine E_aload_n dX7_slackTo_35 rfl ?_
  refine E_getR (j := 7) dX7_slackTo_36 (show kd 49 = 7 by decide) (by decide) rfl fd_RX7_33 (by decide) ?_
  refine E_iload_n dX7_slackTo_39 rfl ?_
  refine E_iconst (v := 0) dX7_slackTo_40 (by decide) ?_
  obtain ⟨hb, hP⟩ := hP
  refine E_iast dX7_slackTo_41 (ar_7_8 (show kd 49 = 7 by decide)).1 (ar_7_8 (show kd 49 = 7 by decide)).2 hb ?_
  refine E_iload_n dX7_slackTo_42 rfl ?_
  refine E_istore_n (ls' := [.ref (49), .int (p0), .int (r9), .int (r9), un, un, un]) dX7_slackTo_43 (by decide) rfl ?_
  obtain ⟨m44, hP⟩ := hP
  refine ev_X7_slackTo_l44 (p0) (r9)  _ Q ?_ m44 _ _ hP
  intro  t195 hP
  refine E_aload_n dX7_slackTo_195 rfl ?_
  refine E_getR (j := 7) dX7_slackTo_196 (show kd 49 = 7 by decide) (by decide) rfl fd_RX7_33 (by decide) ?_
  refine E_iload_n dX7_slackTo_199 rfl ?_
  obtain ⟨hb, hP⟩ := hP
  refine E_iald dX7_slackTo_200 (ar_7_8 (show kd 49 = 7 by decide)).1 (ar_7_8 (show kd 49 = 7 by decide)).2 hb ?_
  refine E_bipush (v := 100) dX7_slackTo_201 (by decide) ?_
  refine E_icmp_ge 215 dX7_slackTo_203 (by decide) (fun hc => ?_) (fun hc => ?_)
  · replace hP := hP.1 hc
    refine E_aload_n dX7_slackTo_215 rfl ?_
    refine E_ldc (v := (-1000000004)) dX7_slackTo_216 tw_585 ?_
    refine E_callV (As := [.int ((-1000000004))]) (rest := []) dX7_slackTo_218 cl_RX7_105 tw_507 (show kd 49 = 7 by decide) (by decide) rfl tw_508 ⟨rfl, rfl, Nat.le_of_ble_eq_true rfl, Nat.le_of_ble_eq_true rfl⟩ rfl rfl (Nat.le_of_ble_eq_true rfl) (mt_X7_finds _ _ _  hP) ?_
    rintro _ t218 ⟨r218, rfl, hP⟩
    show eX7_slackTo 221 [.ref (49), .int (p0), un, un, un, un, un] [.int (r218)] t218 _
    exact E_iret dX7_slackTo_221 rfl ⟨_, rfl, hP⟩
  · replace hP := hP.2 hc
    refine E_aload_n dX7_slackTo_206 rfl ?_
    refine E_getR (j := 7) dX7_slackTo_207 (show kd 49 = 7 by decide) (by decide) rfl fd_RX7_33 (by decide) ?_
    refine E_iload_n dX7_slackTo_210 rfl ?_
    obtain ⟨hb, hP⟩ := hP
    refine E_iald dX7_slackTo_211 (ar_7_8 (show kd 49 = 7 by decide)).1 (ar_7_8 (show kd 49 = 7 by decide)).2 hb ?_
    refine E_goto 221 dX7_slackTo_212 (by decide) ?_
    exact E_iret dX7_slackTo_221 rfl ⟨_, rfl, hP⟩
theorem dX7_slackFor_0 : decode cX7_slackFor 0 = .ok (.aload_n 0, 1) := by decide +kernel
theorem dX7_slackFor_1 : decode cX7_slackFor 1 = .ok (.iload_n 1, 1) := by decide +kernel
theorem dX7_slackFor_2 : decode cX7_slackFor 2 = .ok (.invokevirtual 149, 3) := by decide +kernel
theorem dX7_slackFor_5 : decode cX7_slackFor 5 = .ok (.ifCond .eq 11, 3) := by decide +kernel
theorem dX7_slackFor_8 : decode cX7_slackFor 8 = .ok (.aload_n 0, 1) := by decide +kernel
theorem dX7_slackFor_9 : decode cX7_slackFor 9 = .ok (.iload_n 1, 1) := by decide +kernel
theorem dX7_slackFor_10 : decode cX7_slackFor 10 = .ok (.invokevirtual 177, 3) := by decide +kernel
theorem dX7_slackFor_13 : decode cX7_slackFor 13 = .ok (.goto 9, 3) := by decide +kernel
theorem dX7_slackFor_16 : decode cX7_slackFor 16 = .ok (.aload_n 0, 1) := by decide +kernel
theorem dX7_slackFor_17 : decode cX7_slackFor 17 = .ok (.ldc 57, 2) := by decide +kernel
theorem dX7_slackFor_19 : decode cX7_slackFor 19 = .ok (.invokevirtual 105, 3) := by decide +kernel
theorem dX7_slackFor_22 : decode cX7_slackFor 22 = .ok (.ireturn, 1) := by decide +kernel
def rmX7_slackFor : Room := { frames := 5, cells := 0, slots := 0, locals := 121 }
abbrev eX7_slackFor := Ev cX7_slackFor 2 (some .int) RX7 rmX7_slackFor
set_option maxRecDepth 20000 in
theorem mt_X7_slackFor (p0 : Int32) (σ : St) (Q : Int32 → St → Prop)  (hP : P_X7_slackFor p0 σ Q) : Mt yX7_slackFor cX7_slackFor 2 (some .int) rmX7_slackFor [.ref (49), .int (p0)] σ (qI Q) := by
  refine Mt.of (k := 0) (ls := [.ref (49), .int (p0)]) (by decide +kernel) rfl (Nat.le_of_ble_eq_true rfl) ?_
  show eX7_slackFor 0 [.ref (49), .int (p0)] [] σ _
  unfold P_X7_slackFor at hP
  refine E_aload_n dX7_slackFor_0 rfl ?_
  refine E_iload_n dX7_slackFor_1 rfl ?_
  refine E_callV (As := [.int (p0)]) (rest := []) dX7_slackFor_2 cl_RX7_149 tw_561 (show kd 49 = 7 by decide) (by decide) rfl tw_562 ⟨rfl, rfl, Nat.le_of_ble_eq_true rfl, Nat.le_of_ble_eq_true rfl⟩ rfl rfl (Nat.le_of_ble_eq_true rfl) (mt_X7_isStand _ _ _  hP) ?_
  intro r0 s0 hq0; obtain ⟨r2, h0, hs0, hP⟩ := hq0; subst h0; rw [hs0]
  show eX7_slackFor 5 [.ref (49), .int (p0)] [.int (bI r2)] σ _
  refine E_ifz_eq 16 dX7_slackFor_5 (by decide) (fun hc => ?_) (fun hc => ?_)
  · replace hP := hP.1 hc
    refine E_aload_n dX7_slackFor_16 rfl ?_
    refine E_ldc (v := (-1000000001)) dX7_slackFor_17 tw_452 ?_
    refine E_callV (As := [.int ((-1000000001))]) (rest := []) dX7_slackFor_19 cl_RX7_105 tw_507 (show kd 49 = 7 by decide) (by decide) rfl tw_508 ⟨rfl, rfl, Nat.le_of_ble_eq_true rfl, Nat.le_of_ble_eq_true rfl⟩ rfl rfl (Nat.le_of_ble_eq_true rfl) (mt_X7_finds _ _ _  hP) ?_
    rintro _ t19 ⟨r19, rfl, hP⟩
    show eX7_slackFor 22 [.ref (49), .int (p0)] [.int (r19)] t19 _
    exact E_iret dX7_slackFor_22 rfl ⟨_, rfl, hP⟩
  · replace hP := hP.2 hc
    refine E_aload_n dX7_slackFor_8 rfl ?_
    refine E_iload_n dX7_slackFor_9 rfl ?_
    refine E_callV (As := [.int (p0)]) (rest := []) dX7_slackFor_10 cl_RX7_177 tw_601 (show kd 49 = 7 by decide) (by decide) rfl tw_602 ⟨rfl, rfl, Nat.le_of_ble_eq_true rfl, Nat.le_of_ble_eq_true rfl⟩ rfl rfl (Nat.le_of_ble_eq_true rfl) (mt_X7_slackTo _ _ _  hP) ?_
    rintro _ t10 ⟨r10, rfl, hP⟩
    show eX7_slackFor 13 [.ref (49), .int (p0)] [.int (r10)] t10 _
    refine E_goto 22 dX7_slackFor_13 (by decide) ?_
    exact E_iret dX7_slackFor_22 rfl ⟨_, rfl, hP⟩
theorem dX7_slackAll_0 : decode cX7_slackAll 0 = .ok (.aload_n 0, 1) := by decide +kernel
theorem dX7_slackAll_1 : decode cX7_slackAll 1 = .ok (.iconst 0, 1) := by decide +kernel
theorem dX7_slackAll_2 : decode cX7_slackAll 2 = .ok (.invokevirtual 177, 3) := by decide +kernel
theorem dX7_slackAll_5 : decode cX7_slackAll 5 = .ok (.ireturn, 1) := by decide +kernel
def rmX7_slackAll : Room := { frames := 5, cells := 0, slots := 0, locals := 121 }
abbrev eX7_slackAll := Ev cX7_slackAll 1 (some .int) RX7 rmX7_slackAll
set_option maxRecDepth 20000 in
theorem mt_X7_slackAll  (σ : St) (Q : Int32 → St → Prop)  (hP : P_X7_slackAll  σ Q) : Mt yX7_slackAll cX7_slackAll 1 (some .int) rmX7_slackAll [.ref (49)] σ (qI Q) := by
  refine Mt.of (k := 0) (ls := [.ref (49)]) (by decide +kernel) rfl (Nat.le_of_ble_eq_true rfl) ?_
  show eX7_slackAll 0 [.ref (49)] [] σ _
  unfold P_X7_slackAll at hP
  refine E_aload_n dX7_slackAll_0 rfl ?_
  refine E_iconst (v := 0) dX7_slackAll_1 (by decide) ?_
  refine E_callV (As := [.int (0)]) (rest := []) dX7_slackAll_2 cl_RX7_177 tw_601 (show kd 49 = 7 by decide) (by decide) rfl tw_602 ⟨rfl, rfl, Nat.le_of_ble_eq_true rfl, Nat.le_of_ble_eq_true rfl⟩ rfl rfl (Nat.le_of_ble_eq_true rfl) (mt_X7_slackTo _ _ _  hP) ?_
  rintro _ t2 ⟨r2, rfl, hP⟩
  show eX7_slackAll 5 [.ref (49)] [.int (r2)] t2 _
  exact E_iret dX7_slackAll_5 rfl ⟨_, rfl, hP⟩
theorem dX7_paidIn_0 : decode cX7_paidIn 0 = .ok (.iconst 0, 1) := by decide +kernel
theorem dX7_paidIn_1 : decode cX7_paidIn 1 = .ok (.istore_n 2, 1) := by decide +kernel
theorem dX7_paidIn_2 : decode cX7_paidIn 2 = .ok (.iconst 0, 1) := by decide +kernel
theorem dX7_paidIn_3 : decode cX7_paidIn 3 = .ok (.istore_n 3, 1) := by decide +kernel
theorem dX7_paidIn_4 : decode cX7_paidIn 4 = .ok (.iload_n 3, 1) := by decide +kernel
theorem dX7_paidIn_5 : decode cX7_paidIn 5 = .ok (.iconst 4, 1) := by decide +kernel
theorem dX7_paidIn_6 : decode cX7_paidIn 6 = .ok (.if_icmp .ge 27, 3) := by decide +kernel
theorem dX7_paidIn_9 : decode cX7_paidIn 9 = .ok (.iload_n 2, 1) := by decide +kernel
theorem dX7_paidIn_10 : decode cX7_paidIn 10 = .ok (.aload_n 0, 1) := by decide +kernel
theorem dX7_paidIn_11 : decode cX7_paidIn 11 = .ok (.getfield 19, 3) := by decide +kernel
theorem dX7_paidIn_14 : decode cX7_paidIn 14 = .ok (.bipush 8, 2) := by decide +kernel
theorem dX7_paidIn_16 : decode cX7_paidIn 16 = .ok (.iload_n 3, 1) := by decide +kernel
theorem dX7_paidIn_17 : decode cX7_paidIn 17 = .ok (.imul, 1) := by decide +kernel
theorem dX7_paidIn_18 : decode cX7_paidIn 18 = .ok (.iload_n 1, 1) := by decide +kernel
theorem dX7_paidIn_19 : decode cX7_paidIn 19 = .ok (.iload_n 3, 1) := by decide +kernel
theorem dX7_paidIn_20 : decode cX7_paidIn 20 = .ok (.invokestatic 77, 3) := by decide +kernel
theorem dX7_paidIn_23 : decode cX7_paidIn 23 = .ok (.iadd, 1) := by decide +kernel
theorem dX7_paidIn_24 : decode cX7_paidIn 24 = .ok (.iaload, 1) := by decide +kernel
theorem dX7_paidIn_25 : decode cX7_paidIn 25 = .ok (.iadd, 1) := by decide +kernel
theorem dX7_paidIn_26 : decode cX7_paidIn 26 = .ok (.istore_n 2, 1) := by decide +kernel
theorem dX7_paidIn_27 : decode cX7_paidIn 27 = .ok (.iinc 3 1, 3) := by decide +kernel
theorem dX7_paidIn_30 : decode cX7_paidIn 30 = .ok (.goto (-26), 3) := by decide +kernel
theorem dX7_paidIn_33 : decode cX7_paidIn 33 = .ok (.iload_n 2, 1) := by decide +kernel
theorem dX7_paidIn_34 : decode cX7_paidIn 34 = .ok (.ireturn, 1) := by decide +kernel
def rmX7_paidIn : Room := { frames := 1, cells := 0, slots := 0, locals := 21 }
abbrev eX7_paidIn := Ev cX7_paidIn 4 (some .int) RX7 rmX7_paidIn
set_option maxRecDepth 20000 in
theorem ev_X7_paidIn_l4 (l1 : Int32)  (K : Int32 → St → Prop) (Q : Int32 → Prop) (σ0 : St) (hK : ∀ k2 s, K k2 s → s = σ0 → eX7_paidIn 33 [un, un, .int (k2), un] [] s (qI fun x s => s = σ0 ∧ Q x)) : ∀ (n : Nat) (l2 : Int32) (l3 : Int32) (σ : St), σ = σ0 → P_X7_paidIn_l4 l1 K Q n l2 l3 σ → eX7_paidIn 4 [.ref (49), .int (l1), .int (l2), .int (l3)] [] σ (qI fun x s => s = σ0 ∧ Q x) := by
  intro n
  induction n with
  | zero => intro l2 l3 σ hs hP; exact hP.elim
  | succ n ih =>
    intro l2 l3 σ hs hP
    subst hs
    rw [P_X7_paidIn_l4] at hP
    refine E_iload_n dX7_paidIn_4 rfl ?_
    refine E_iconst (v := 4) dX7_paidIn_5 (by decide) ?_
    refine E_icmp_ge 33 dX7_paidIn_6 (by decide) (fun hc => ?_) (fun hc => ?_)
    · replace hP := hP.1 hc
      refine E_mask [false, false, true, false] rfl ?_
      exact hK (l2) _ hP rfl
    · replace hP := hP.2 hc
      refine E_iload_n dX7_paidIn_9 rfl ?_
      refine E_aload_n dX7_paidIn_10 rfl ?_
      refine E_getR (j := 3) dX7_paidIn_11 (show kd 49 = 7 by decide) (by decide) rfl fd_RX7_19 (by decide) ?_
      refine E_bipush (v := 8) dX7_paidIn_14 (by decide) ?_
      refine E_iload_n dX7_paidIn_16 rfl ?_
      refine E_imul dX7_paidIn_17 ?_
      refine E_iload_n dX7_paidIn_18 rfl ?_
      refine E_iload_n dX7_paidIn_19 rfl ?_
      refine E_callS (As := [.int (l1), .int (l3)]) (rest := [.int (8 * l3), .ref (53), .int (l2)]) dX7_paidIn_20 cl_RX7_77 tw_474 ⟨rfl, rfl, Nat.le_of_ble_eq_true rfl, Nat.le_of_ble_eq_true rfl⟩ rfl rfl (Nat.le_of_ble_eq_true rfl) (mt_X7_left _ _ _ _  hP) ?_
      intro r0 s0 hq0; obtain ⟨r20, h0, hs0, hP⟩ := hq0; subst h0; rw [hs0]
      show eX7_paidIn 23 [.ref (49), .int (l1), .int (l2), .int (l3)] [.int (r20), .int (8 * l3), .ref (53), .int (l2)] σ _
      refine E_iadd dX7_paidIn_23 ?_
      obtain ⟨hb, hP⟩ := hP
      refine E_iald dX7_paidIn_24 (ar_7_4 (show kd 49 = 7 by decide)).1 (ar_7_4 (show kd 49 = 7 by decide)).2 hb ?_
      refine E_iadd dX7_paidIn_25 ?_
      refine E_istore_n (ls' := [.ref (49), .int (l1), .int (l2 + (gI σ 53 ((8 * l3) + r20).toNatClampNeg)), .int (l3)]) dX7_paidIn_26 (by decide) rfl ?_
      refine E_iinc (ls' := [.ref (49), .int (l1), .int (l2 + (gI σ 53 ((8 * l3) + r20).toNatClampNeg)), .int (l3 + 1)]) dX7_paidIn_27 rfl rfl (by decide) rfl ?_
      refine E_goto 4 dX7_paidIn_30 (by decide) ?_
      exact ih (l2 + (gI σ 53 ((8 * l3) + r20).toNatClampNeg)) (l3 + 1) _ rfl hP
set_option maxRecDepth 20000 in
theorem mt_X7_paidIn (p0 : Int32) (σ : St) (Q : Int32 → Prop)  (hP : P_X7_paidIn p0 σ Q) : Mt yX7_paidIn cX7_paidIn 4 (some .int) rmX7_paidIn [.ref (49), .int (p0)] σ (qI fun x s => s = σ ∧ Q x) := by
  refine Mt.of (k := 2) (ls := [.ref (49), .int (p0), un, un]) (by decide +kernel) rfl (Nat.le_of_ble_eq_true rfl) ?_
  show eX7_paidIn 0 [.ref (49), .int (p0), un, un] [] σ _
  unfold P_X7_paidIn at hP
  refine E_iconst (v := 0) dX7_paidIn_0 (by decide) ?_
  refine E_istore_n (ls' := [.ref (49), .int (p0), .int (0), un]) dX7_paidIn_1 (by decide) rfl ?_
  refine E_iconst (v := 0) dX7_paidIn_2 (by decide) ?_
  refine E_istore_n (ls' := [.ref (49), .int (p0), .int (0), .int (0)]) dX7_paidIn_3 (by decide) rfl ?_
  obtain ⟨m4, hP⟩ := hP
  refine ev_X7_paidIn_l4 (p0)  _ Q σ ?_ m4 _ _ _ rfl hP
  intro k2 t33 hP hs
  rw [hs]
  refine E_iload_n dX7_paidIn_33 rfl ?_
  exact E_iret dX7_paidIn_34 rfl ⟨_, rfl, rfl, hP⟩
theorem dX7_richestNow_0 : decode cX7_richestNow 0 = .ok (.aload_n 0, 1) := by decide +kernel
theorem dX7_richestNow_1 : decode cX7_richestNow 1 = .ok (.invokevirtual 120, 3) := by decide +kernel
theorem dX7_richestNow_4 : decode cX7_richestNow 4 = .ok (.istore_n 2, 1) := by decide +kernel
theorem dX7_richestNow_5 : decode cX7_richestNow 5 = .ok (.iload_n 2, 1) := by decide +kernel
theorem dX7_richestNow_6 : decode cX7_richestNow 6 = .ok (.istore_n 3, 1) := by decide +kernel
theorem dX7_richestNow_7 : decode cX7_richestNow 7 = .ok (.iload_n 2, 1) := by decide +kernel
theorem dX7_richestNow_8 : decode cX7_richestNow 8 = .ok (.istore 4, 2) := by decide +kernel
theorem dX7_richestNow_10 : decode cX7_richestNow 10 = .ok (.iload 4, 2) := by decide +kernel
theorem dX7_richestNow_12 : decode cX7_richestNow 12 = .ok (.ifCond .lt 78, 3) := by decide +kernel
theorem dX7_richestNow_15 : decode cX7_richestNow 15 = .ok (.aload_n 0, 1) := by decide +kernel
theorem dX7_richestNow_16 : decode cX7_richestNow 16 = .ok (.getfield 22, 3) := by decide +kernel
theorem dX7_richestNow_19 : decode cX7_richestNow 19 = .ok (.iload 4, 2) := by decide +kernel
theorem dX7_richestNow_21 : decode cX7_richestNow 21 = .ok (.laload, 1) := by decide +kernel
theorem dX7_richestNow_22 : decode cX7_richestNow 22 = .ok (.lconst 0, 1) := by decide +kernel
theorem dX7_richestNow_23 : decode cX7_richestNow 23 = .ok (.lcmp, 1) := by decide +kernel
theorem dX7_richestNow_24 : decode cX7_richestNow 24 = .ok (.ifCond .le 60, 3) := by decide +kernel
theorem dX7_richestNow_27 : decode cX7_richestNow 27 = .ok (.iload_n 2, 1) := by decide +kernel
theorem dX7_richestNow_28 : decode cX7_richestNow 28 = .ok (.invokestatic 132, 3) := by decide +kernel
theorem dX7_richestNow_31 : decode cX7_richestNow 31 = .ok (.iload 4, 2) := by decide +kernel
theorem dX7_richestNow_33 : decode cX7_richestNow 33 = .ok (.invokestatic 132, 3) := by decide +kernel
theorem dX7_richestNow_36 : decode cX7_richestNow 36 = .ok (.isub, 1) := by decide +kernel
theorem dX7_richestNow_37 : decode cX7_richestNow 37 = .ok (.iload_n 1, 1) := by decide +kernel
theorem dX7_richestNow_38 : decode cX7_richestNow 38 = .ok (.if_icmp .gt 46, 3) := by decide +kernel
theorem dX7_richestNow_41 : decode cX7_richestNow 41 = .ok (.aload_n 0, 1) := by decide +kernel
theorem dX7_richestNow_42 : decode cX7_richestNow 42 = .ok (.iload 4, 2) := by decide +kernel
theorem dX7_richestNow_44 : decode cX7_richestNow 44 = .ok (.invokevirtual 183, 3) := by decide +kernel
theorem dX7_richestNow_47 : decode cX7_richestNow 47 = .ok (.aload_n 0, 1) := by decide +kernel
theorem dX7_richestNow_48 : decode cX7_richestNow 48 = .ok (.iload_n 3, 1) := by decide +kernel
theorem dX7_richestNow_49 : decode cX7_richestNow 49 = .ok (.invokevirtual 183, 3) := by decide +kernel
theorem dX7_richestNow_52 : decode cX7_richestNow 52 = .ok (.isub, 1) := by decide +kernel
theorem dX7_richestNow_53 : decode cX7_richestNow 53 = .ok (.istore 5, 2) := by decide +kernel
theorem dX7_richestNow_55 : decode cX7_richestNow 55 = .ok (.iload 5, 2) := by decide +kernel
theorem dX7_richestNow_57 : decode cX7_richestNow 57 = .ok (.ifCond .gt 20, 3) := by decide +kernel
theorem dX7_richestNow_60 : decode cX7_richestNow 60 = .ok (.iload 5, 2) := by decide +kernel
theorem dX7_richestNow_62 : decode cX7_richestNow 62 = .ok (.ifCond .ne 20, 3) := by decide +kernel
theorem dX7_richestNow_65 : decode cX7_richestNow 65 = .ok (.iload 4, 2) := by decide +kernel
theorem dX7_richestNow_67 : decode cX7_richestNow 67 = .ok (.invokestatic 132, 3) := by decide +kernel
theorem dX7_richestNow_70 : decode cX7_richestNow 70 = .ok (.iload_n 3, 1) := by decide +kernel
theorem dX7_richestNow_71 : decode cX7_richestNow 71 = .ok (.invokestatic 132, 3) := by decide +kernel
theorem dX7_richestNow_74 : decode cX7_richestNow 74 = .ok (.if_icmp .lt 8, 3) := by decide +kernel
theorem dX7_richestNow_77 : decode cX7_richestNow 77 = .ok (.iload 4, 2) := by decide +kernel
theorem dX7_richestNow_79 : decode cX7_richestNow 79 = .ok (.goto 4, 3) := by decide +kernel
theorem dX7_richestNow_82 : decode cX7_richestNow 82 = .ok (.iload_n 3, 1) := by decide +kernel
theorem dX7_richestNow_83 : decode cX7_richestNow 83 = .ok (.istore_n 3, 1) := by decide +kernel
theorem dX7_richestNow_84 : decode cX7_richestNow 84 = .ok (.iinc 4 (-1), 3) := by decide +kernel
theorem dX7_richestNow_87 : decode cX7_richestNow 87 = .ok (.goto (-77), 3) := by decide +kernel
theorem dX7_richestNow_90 : decode cX7_richestNow 90 = .ok (.iload_n 3, 1) := by decide +kernel
theorem dX7_richestNow_91 : decode cX7_richestNow 91 = .ok (.ireturn, 1) := by decide +kernel
def rmX7_richestNow : Room := { frames := 2, cells := 0, slots := 0, locals := 44 }
abbrev eX7_richestNow := Ev cX7_richestNow 6 (some .int) RX7 rmX7_richestNow
set_option maxRecDepth 20000 in
theorem ev_X7_richestNow_l10 (l1 : Int32) (l2 : Int32)  (K : Int32 → St → Prop) (Q : Int32 → Prop) (σ0 : St) (hK : ∀ k3 s, K k3 s → s = σ0 → eX7_richestNow 90 [un, un, un, .int (k3), un, un] [] s (qI fun x s => s = σ0 ∧ Q x)) : ∀ (n : Nat) (l3 : Int32) (l4 : Int32) (σ : St), σ = σ0 → P_X7_richestNow_l10 l1 l2 K Q n l3 l4 σ → eX7_richestNow 10 [.ref (49), .int (l1), .int (l2), .int (l3), .int (l4), un] [] σ (qI fun x s => s = σ0 ∧ Q x) := by
  intro n
  induction n with
  | zero => intro l3 l4 σ hs hP; exact hP.elim
  | succ n ih =>
    intro l3 l4 σ hs hP
    subst hs
    rw [P_X7_richestNow_l10] at hP
    refine E_iload dX7_richestNow_10 rfl ?_
    refine E_if_lt 90 dX7_richestNow_12 (by decide) (fun hc => ?_) (fun hc => ?_)
    · replace hP := hP.1 hc
      refine E_mask [false, false, false, true, false, false] rfl ?_
      exact hK (l3) _ hP rfl
    · replace hP := hP.2 hc
      refine E_aload_n dX7_richestNow_15 rfl ?_
      refine E_getR (j := 4) dX7_richestNow_16 (show kd 49 = 7 by decide) (by decide) rfl fd_RX7_22 (by decide) ?_
      refine E_iload dX7_richestNow_19 rfl ?_
      obtain ⟨hb, hP⟩ := hP
      refine E_lald dX7_richestNow_21 (ar_7_5 (show kd 49 = 7 by decide)).1 (ar_7_5 (show kd 49 = 7 by decide)).2 hb ?_
      refine E_lconst (v := 0) dX7_richestNow_22 (by decide) ?_
      refine E_lcmp dX7_richestNow_23 ?_
      refine E_if_le 84 dX7_richestNow_24 (by decide) (fun hc => ?_) (fun hc => ?_)
      · replace hP := hP.1 hc
        refine E_iinc (ls' := [.ref (49), .int (l1), .int (l2), .int (l3), .int (l4 + (-1)), un]) dX7_richestNow_84 rfl rfl (by decide) rfl ?_
        refine E_goto 10 dX7_richestNow_87 (by decide) ?_
        exact ih (l3) (l4 + (-1)) _ rfl hP
      · replace hP := hP.2 hc
        refine E_iload_n dX7_richestNow_27 rfl ?_
        refine E_callS (As := [.int (l2)]) (rest := []) dX7_richestNow_28 cl_RX7_132 tw_540 ⟨rfl, rfl, Nat.le_of_ble_eq_true rfl, Nat.le_of_ble_eq_true rfl⟩ rfl rfl (Nat.le_of_ble_eq_true rfl) (mt_X7_stones _ _ _  hP) ?_
        intro r0 s0 hq0; obtain ⟨r28, h0, hs0, hP⟩ := hq0; subst h0; rw [hs0]
        show eX7_richestNow 31 [.ref (49), .int (l1), .int (l2), .int (l3), .int (l4), un] [.int (r28)] σ _
        refine E_iload dX7_richestNow_31 rfl ?_
        refine E_callS (As := [.int (l4)]) (rest := [.int (r28)]) dX7_richestNow_33 cl_RX7_132 tw_540 ⟨rfl, rfl, Nat.le_of_ble_eq_true rfl, Nat.le_of_ble_eq_true rfl⟩ rfl rfl (Nat.le_of_ble_eq_true rfl) (mt_X7_stones _ _ _  hP) ?_
        intro r0 s0 hq0; obtain ⟨r33, h0, hs0, hP⟩ := hq0; subst h0; rw [hs0]
        show eX7_richestNow 36 [.ref (49), .int (l1), .int (l2), .int (l3), .int (l4), un] [.int (r33), .int (r28)] σ _
        refine E_isub dX7_richestNow_36 ?_
        refine E_iload_n dX7_richestNow_37 rfl ?_
        refine E_icmp_gt 84 dX7_richestNow_38 (by decide) (fun hc => ?_) (fun hc => ?_)
        · replace hP := hP.1 hc
          refine E_iinc (ls' := [.ref (49), .int (l1), .int (l2), .int (l3), .int (l4 + (-1)), un]) dX7_richestNow_84 rfl rfl (by decide) rfl ?_
          refine E_goto 10 dX7_richestNow_87 (by decide) ?_
          exact ih (l3) (l4 + (-1)) _ rfl hP
        · replace hP := hP.2 hc
          refine E_aload_n dX7_richestNow_41 rfl ?_
          refine E_iload dX7_richestNow_42 rfl ?_
          refine E_callV (As := [.int (l4)]) (rest := []) dX7_richestNow_44 cl_RX7_183 tw_605 (show kd 49 = 7 by decide) (by decide) rfl tw_606 ⟨rfl, rfl, Nat.le_of_ble_eq_true rfl, Nat.le_of_ble_eq_true rfl⟩ rfl rfl (Nat.le_of_ble_eq_true rfl) (mt_X7_paidIn _ _ _  hP) ?_
          intro r0 s0 hq0; obtain ⟨r44, h0, hs0, hP⟩ := hq0; subst h0; rw [hs0]
          show eX7_richestNow 47 [.ref (49), .int (l1), .int (l2), .int (l3), .int (l4), un] [.int (r44)] σ _
          refine E_aload_n dX7_richestNow_47 rfl ?_
          refine E_iload_n dX7_richestNow_48 rfl ?_
          refine E_callV (As := [.int (l3)]) (rest := [.int (r44)]) dX7_richestNow_49 cl_RX7_183 tw_605 (show kd 49 = 7 by decide) (by decide) rfl tw_606 ⟨rfl, rfl, Nat.le_of_ble_eq_true rfl, Nat.le_of_ble_eq_true rfl⟩ rfl rfl (Nat.le_of_ble_eq_true rfl) (mt_X7_paidIn _ _ _  hP) ?_
          intro r0 s0 hq0; obtain ⟨r49, h0, hs0, hP⟩ := hq0; subst h0; rw [hs0]
          show eX7_richestNow 52 [.ref (49), .int (l1), .int (l2), .int (l3), .int (l4), un] [.int (r49), .int (r44)] σ _
          refine E_isub dX7_richestNow_52 ?_
          refine E_istore (ls' := [.ref (49), .int (l1), .int (l2), .int (l3), .int (l4), .int (r44 - r49)]) dX7_richestNow_53 (by decide) rfl ?_
          refine E_iload dX7_richestNow_55 rfl ?_
          refine E_if_gt 77 dX7_richestNow_57 (by decide) (fun hc => ?_) (fun hc => ?_)
          · replace hP := hP.1 hc
            refine E_iload dX7_richestNow_77 rfl ?_
            refine E_goto 83 dX7_richestNow_79 (by decide) ?_
            refine E_istore_n (ls' := [.ref (49), .int (l1), .int (l2), .int (l4), .int (l4), .int (r44 - r49)]) dX7_richestNow_83 (by decide) rfl ?_
            refine E_iinc (ls' := [.ref (49), .int (l1), .int (l2), .int (l4), .int (l4 + (-1)), .int (r44 - r49)]) dX7_richestNow_84 rfl rfl (by decide) rfl ?_
            refine E_goto 10 dX7_richestNow_87 (by decide) ?_
            refine E_mask [true, true, true, true, true, false] rfl ?_
            exact ih (l4) (l4 + (-1)) _ rfl hP
          · replace hP := hP.2 hc
            refine E_iload dX7_richestNow_60 rfl ?_
            refine E_if_ne 82 dX7_richestNow_62 (by decide) (fun hc => ?_) (fun hc => ?_)
            · replace hP := hP.1 hc
              refine E_iload_n dX7_richestNow_82 rfl ?_
              refine E_istore_n (ls' := [.ref (49), .int (l1), .int (l2), .int (l3), .int (l4), .int (r44 - r49)]) dX7_richestNow_83 (by decide) rfl ?_
              refine E_iinc (ls' := [.ref (49), .int (l1), .int (l2), .int (l3), .int (l4 + (-1)), .int (r44 - r49)]) dX7_richestNow_84 rfl rfl (by decide) rfl ?_
              refine E_goto 10 dX7_richestNow_87 (by decide) ?_
              refine E_mask [true, true, true, true, true, false] rfl ?_
              exact ih (l3) (l4 + (-1)) _ rfl hP
            · replace hP := hP.2 hc
              refine E_iload dX7_richestNow_65 rfl ?_
              refine E_callS (As := [.int (l4)]) (rest := []) dX7_richestNow_67 cl_RX7_132 tw_540 ⟨rfl, rfl, Nat.le_of_ble_eq_true rfl, Nat.le_of_ble_eq_true rfl⟩ rfl rfl (Nat.le_of_ble_eq_true rfl) (mt_X7_stones _ _ _  hP) ?_
              intro r0 s0 hq0; obtain ⟨r67, h0, hs0, hP⟩ := hq0; subst h0; rw [hs0]
              show eX7_richestNow 70 [.ref (49), .int (l1), .int (l2), .int (l3), .int (l4), .int (r44 - r49)] [.int (r67)] σ _
              refine E_iload_n dX7_richestNow_70 rfl ?_
              refine E_callS (As := [.int (l3)]) (rest := [.int (r67)]) dX7_richestNow_71 cl_RX7_132 tw_540 ⟨rfl, rfl, Nat.le_of_ble_eq_true rfl, Nat.le_of_ble_eq_true rfl⟩ rfl rfl (Nat.le_of_ble_eq_true rfl) (mt_X7_stones _ _ _  hP) ?_
              intro r0 s0 hq0; obtain ⟨r71, h0, hs0, hP⟩ := hq0; subst h0; rw [hs0]
              show eX7_richestNow 74 [.ref (49), .int (l1), .int (l2), .int (l3), .int (l4), .int (r44 - r49)] [.int (r71), .int (r67)] σ _
              refine E_icmp_lt 82 dX7_richestNow_74 (by decide) (fun hc => ?_) (fun hc => ?_)
              · replace hP := hP.1 hc
                refine E_iload_n dX7_richestNow_82 rfl ?_
                refine E_istore_n (ls' := [.ref (49), .int (l1), .int (l2), .int (l3), .int (l4), .int (r44 - r49)]) dX7_richestNow_83 (by decide) rfl ?_
                refine E_iinc (ls' := [.ref (49), .int (l1), .int (l2), .int (l3), .int (l4 + (-1)), .int (r44 - r49)]) dX7_richestNow_84 rfl rfl (by decide) rfl ?_
                refine E_goto 10 dX7_richestNow_87 (by decide) ?_
                refine E_mask [true, true, true, true, true, false] rfl ?_
                exact ih (l3) (l4 + (-1)) _ rfl hP
              · replace hP := hP.2 hc
                refine E_iload dX7_richestNow_77 rfl ?_
                refine E_goto 83 dX7_richestNow_79 (by decide) ?_
                refine E_istore_n (ls' := [.ref (49), .int (l1), .int (l2), .int (l4), .int (l4), .int (r44 - r49)]) dX7_richestNow_83 (by decide) rfl ?_
                refine E_iinc (ls' := [.ref (49), .int (l1), .int (l2), .int (l4), .int (l4 + (-1)), .int (r44 - r49)]) dX7_richestNow_84 rfl rfl (by decide) rfl ?_
                refine E_goto 10 dX7_richestNow_87 (by decide) ?_
                refine E_mask [true, true, true, true, true, false] rfl ?_
                exact ih (l4) (l4 + (-1)) _ rfl hP
set_option maxRecDepth 20000 in
theorem mt_X7_richestNow (p0 : Int32) (σ : St) (Q : Int32 → Prop)  (hP : P_X7_richestNow p0 σ Q) : Mt yX7_richestNow cX7_richestNow 6 (some .int) rmX7_richestNow [.ref (49), .int (p0)] σ (qI fun x s => s = σ ∧ Q x) := by
  refine Mt.of (k := 4) (ls := [.ref (49), .int (p0), un, un, un, un]) (by decide +kernel) rfl (Nat.le_of_ble_eq_true rfl) ?_
  show eX7_richestNow 0 [.ref (49), .int (p0), un, un, un, un] [] σ _
  unfold P_X7_richestNow at hP
  refine E_aload_n dX7_richestNow_0 rfl ?_
  refine E_callV (As := []) (rest := []) dX7_richestNow_1 cl_RX7_120 tw_523 (show kd 49 = 7 by decide) (by decide) rfl tw_524 ⟨rfl, rfl, Nat.le_of_ble_eq_true rfl, Nat.le_of_ble_eq_true rfl⟩ rfl rfl (Nat.le_of_ble_eq_true rfl) (mt_X7_standNow  _ _  hP) ?_
  intro r0 s0 hq0; obtain ⟨r1, h0, hs0, hP⟩ := hq0; subst h0; rw [hs0]
  show eX7_richestNow 4 [.ref (49), .int (p0), un, un, un, un] [.int (r1)] σ _
  refine E_istore_n (ls' := [.ref (49), .int (p0), .int (r1), un, un, un]) dX7_richestNow_4 (by decide) rfl ?_
  refine E_iload_n dX7_richestNow_5 rfl ?_
  refine E_istore_n (ls' := [.ref (49), .int (p0), .int (r1), .int (r1), un, un]) dX7_richestNow_6 (by decide) rfl ?_
  refine E_iload_n dX7_richestNow_7 rfl ?_
  refine E_istore (ls' := [.ref (49), .int (p0), .int (r1), .int (r1), .int (r1), un]) dX7_richestNow_8 (by decide) rfl ?_
  obtain ⟨m10, hP⟩ := hP
  refine ev_X7_richestNow_l10 (p0) (r1)  _ Q σ ?_ m10 _ _ _ rfl hP
  intro k3 t90 hP hs
  rw [hs]
  refine E_iload_n dX7_richestNow_90 rfl ?_
  exact E_iret dX7_richestNow_91 rfl ⟨_, rfl, rfl, hP⟩
theorem dX7_richest_0 : decode cX7_richest 0 = .ok (.aload_n 0, 1) := by decide +kernel
theorem dX7_richest_1 : decode cX7_richest 1 = .ok (.invokevirtual 158, 3) := by decide +kernel
theorem dX7_richest_4 : decode cX7_richest 4 = .ok (.aload_n 0, 1) := by decide +kernel
theorem dX7_richest_5 : decode cX7_richest 5 = .ok (.iload_n 1, 1) := by decide +kernel
theorem dX7_richest_6 : decode cX7_richest 6 = .ok (.invokevirtual 180, 3) := by decide +kernel
theorem dX7_richest_9 : decode cX7_richest 9 = .ok (.ireturn, 1) := by decide +kernel
def rmX7_richest : Room := { frames := 6, cells := 0, slots := 0, locals := 136 }
abbrev eX7_richest := Ev cX7_richest 2 (some .int) RX7 rmX7_richest
set_option maxRecDepth 20000 in
theorem mt_X7_richest (p0 : Int32) (σ : St) (Q : Int32 → St → Prop)  (hP : P_X7_richest p0 σ Q) : Mt yX7_richest cX7_richest 2 (some .int) rmX7_richest [.ref (49), .int (p0)] σ (qI Q) := by
  refine Mt.of (k := 0) (ls := [.ref (49), .int (p0)]) (by decide +kernel) rfl (Nat.le_of_ble_eq_true rfl) ?_
  show eX7_richest 0 [.ref (49), .int (p0)] [] σ _
  unfold P_X7_richest at hP
  refine E_aload_n dX7_richest_0 rfl ?_
  refine E_callV (As := []) (rest := []) dX7_richest_1 cl_RX7_158 tw_574 (show kd 49 = 7 by decide) (by decide) rfl tw_575 ⟨rfl, rfl, Nat.le_of_ble_eq_true rfl, Nat.le_of_ble_eq_true rfl⟩ rfl rfl (Nat.le_of_ble_eq_true rfl) (mt_X7_findRows  _ _  hP) ?_
  rintro _ t1 ⟨rfl, hP⟩
  show eX7_richest 4 [.ref (49), .int (p0)] [] t1 _
  refine E_aload_n dX7_richest_4 rfl ?_
  refine E_iload_n dX7_richest_5 rfl ?_
  refine E_callV (As := [.int (p0)]) (rest := []) dX7_richest_6 cl_RX7_180 tw_609 (show kd 49 = 7 by decide) (by decide) rfl tw_610 ⟨rfl, rfl, Nat.le_of_ble_eq_true rfl, Nat.le_of_ble_eq_true rfl⟩ rfl rfl (Nat.le_of_ble_eq_true rfl) (mt_X7_richestNow _ _ _  hP) ?_
  intro r0 s0 hq0; obtain ⟨r6, h0, hs0, hP⟩ := hq0; subst h0; rw [hs0]
  show eX7_richest 9 [.ref (49), .int (p0)] [.int (r6)] t1 _
  exact E_iret dX7_richest_9 rfl ⟨_, rfl, hP⟩
theorem dX7_most_0 : decode cX7_most 0 = .ok (.iload_n 1, 1) := by decide +kernel
theorem dX7_most_1 : decode cX7_most 1 = .ok (.iconst 0, 1) := by decide +kernel
theorem dX7_most_2 : decode cX7_most 2 = .ok (.bipush 28, 2) := by decide +kernel
theorem dX7_most_4 : decode cX7_most 4 = .ok (.invokestatic 58, 3) := by decide +kernel
theorem dX7_most_7 : decode cX7_most 7 = .ok (.ifCond .eq 15, 3) := by decide +kernel
theorem dX7_most_10 : decode cX7_most 10 = .ok (.aload_n 0, 1) := by decide +kernel
theorem dX7_most_11 : decode cX7_most 11 = .ok (.aload_n 0, 1) := by decide +kernel
theorem dX7_most_12 : decode cX7_most 12 = .ok (.iload_n 1, 1) := by decide +kernel
theorem dX7_most_13 : decode cX7_most 13 = .ok (.invokevirtual 186, 3) := by decide +kernel
theorem dX7_most_16 : decode cX7_most 16 = .ok (.invokevirtual 183, 3) := by decide +kernel
theorem dX7_most_19 : decode cX7_most 19 = .ok (.goto 9, 3) := by decide +kernel
theorem dX7_most_22 : decode cX7_most 22 = .ok (.aload_n 0, 1) := by decide +kernel
theorem dX7_most_23 : decode cX7_most 23 = .ok (.ldc 57, 2) := by decide +kernel
theorem dX7_most_25 : decode cX7_most 25 = .ok (.invokevirtual 105, 3) := by decide +kernel
theorem dX7_most_28 : decode cX7_most 28 = .ok (.ireturn, 1) := by decide +kernel
def rmX7_most : Room := { frames := 7, cells := 0, slots := 0, locals := 157 }
abbrev eX7_most := Ev cX7_most 2 (some .int) RX7 rmX7_most
set_option maxRecDepth 20000 in
theorem mt_X7_most (p0 : Int32) (σ : St) (Q : Int32 → St → Prop)  (hP : P_X7_most p0 σ Q) : Mt yX7_most cX7_most 2 (some .int) rmX7_most [.ref (49), .int (p0)] σ (qI Q) := by
  refine Mt.of (k := 0) (ls := [.ref (49), .int (p0)]) (by decide +kernel) rfl (Nat.le_of_ble_eq_true rfl) ?_
  show eX7_most 0 [.ref (49), .int (p0)] [] σ _
  unfold P_X7_most at hP
  refine E_iload_n dX7_most_0 rfl ?_
  refine E_iconst (v := 0) dX7_most_1 (by decide) ?_
  refine E_bipush (v := 28) dX7_most_2 (by decide) ?_
  refine E_callS (As := [.int (p0), .int (0), .int (28)]) (rest := []) dX7_most_4 cl_RX7_58 tw_456 ⟨rfl, rfl, Nat.le_of_ble_eq_true rfl, Nat.le_of_ble_eq_true rfl⟩ rfl rfl (Nat.le_of_ble_eq_true rfl) (mt_X7_in _ _ _ _ _  hP) ?_
  intro r0 s0 hq0; obtain ⟨r4, h0, hs0, hP⟩ := hq0; subst h0; rw [hs0]
  show eX7_most 7 [.ref (49), .int (p0)] [.int (bI r4)] σ _
  refine E_ifz_eq 22 dX7_most_7 (by decide) (fun hc => ?_) (fun hc => ?_)
  · replace hP := hP.1 hc
    refine E_aload_n dX7_most_22 rfl ?_
    refine E_ldc (v := (-1000000001)) dX7_most_23 tw_452 ?_
    refine E_callV (As := [.int ((-1000000001))]) (rest := []) dX7_most_25 cl_RX7_105 tw_507 (show kd 49 = 7 by decide) (by decide) rfl tw_508 ⟨rfl, rfl, Nat.le_of_ble_eq_true rfl, Nat.le_of_ble_eq_true rfl⟩ rfl rfl (Nat.le_of_ble_eq_true rfl) (mt_X7_finds _ _ _  hP) ?_
    rintro _ t25 ⟨r25, rfl, hP⟩
    show eX7_most 28 [.ref (49), .int (p0)] [.int (r25)] t25 _
    exact E_iret dX7_most_28 rfl ⟨_, rfl, hP⟩
  · replace hP := hP.2 hc
    refine E_aload_n dX7_most_10 rfl ?_
    refine E_aload_n dX7_most_11 rfl ?_
    refine E_iload_n dX7_most_12 rfl ?_
    refine E_callV (As := [.int (p0)]) (rest := [.ref (49)]) dX7_most_13 cl_RX7_186 tw_613 (show kd 49 = 7 by decide) (by decide) rfl tw_614 ⟨rfl, rfl, Nat.le_of_ble_eq_true rfl, Nat.le_of_ble_eq_true rfl⟩ rfl rfl (Nat.le_of_ble_eq_true rfl) (mt_X7_richest _ _ _  hP) ?_
    rintro _ t13 ⟨r13, rfl, hP⟩
    show eX7_most 16 [.ref (49), .int (p0)] [.int (r13), .ref (49)] t13 _
    refine E_callV (As := [.int (r13)]) (rest := []) dX7_most_16 cl_RX7_183 tw_605 (show kd 49 = 7 by decide) (by decide) rfl tw_606 ⟨rfl, rfl, Nat.le_of_ble_eq_true rfl, Nat.le_of_ble_eq_true rfl⟩ rfl rfl (Nat.le_of_ble_eq_true rfl) (mt_X7_paidIn _ _ _  hP) ?_
    intro r0 s0 hq0; obtain ⟨r16, h0, hs0, hP⟩ := hq0; subst h0; rw [hs0]
    show eX7_most 19 [.ref (49), .int (p0)] [.int (r16)] t13 _
    refine E_goto 28 dX7_most_19 (by decide) ?_
    exact E_iret dX7_most_28 rfl ⟨_, rfl, hP⟩
theorem dX7_where_0 : decode cX7_where 0 = .ok (.iload_n 1, 1) := by decide +kernel
theorem dX7_where_1 : decode cX7_where 1 = .ok (.iconst 0, 1) := by decide +kernel
theorem dX7_where_2 : decode cX7_where 2 = .ok (.bipush 28, 2) := by decide +kernel
theorem dX7_where_4 : decode cX7_where 4 = .ok (.invokestatic 58, 3) := by decide +kernel
theorem dX7_where_7 : decode cX7_where 7 = .ok (.ifCond .eq 11, 3) := by decide +kernel
theorem dX7_where_10 : decode cX7_where 10 = .ok (.aload_n 0, 1) := by decide +kernel
theorem dX7_where_11 : decode cX7_where 11 = .ok (.iload_n 1, 1) := by decide +kernel
theorem dX7_where_12 : decode cX7_where 12 = .ok (.invokevirtual 186, 3) := by decide +kernel
theorem dX7_where_15 : decode cX7_where 15 = .ok (.goto 9, 3) := by decide +kernel
theorem dX7_where_18 : decode cX7_where 18 = .ok (.aload_n 0, 1) := by decide +kernel
theorem dX7_where_19 : decode cX7_where 19 = .ok (.ldc 57, 2) := by decide +kernel
theorem dX7_where_21 : decode cX7_where 21 = .ok (.invokevirtual 105, 3) := by decide +kernel
theorem dX7_where_24 : decode cX7_where 24 = .ok (.ireturn, 1) := by decide +kernel
def rmX7_where : Room := { frames := 7, cells := 0, slots := 0, locals := 157 }
abbrev eX7_where := Ev cX7_where 2 (some .int) RX7 rmX7_where
set_option maxRecDepth 20000 in
theorem mt_X7_where (p0 : Int32) (σ : St) (Q : Int32 → St → Prop)  (hP : P_X7_where p0 σ Q) : Mt yX7_where cX7_where 2 (some .int) rmX7_where [.ref (49), .int (p0)] σ (qI Q) := by
  refine Mt.of (k := 0) (ls := [.ref (49), .int (p0)]) (by decide +kernel) rfl (Nat.le_of_ble_eq_true rfl) ?_
  show eX7_where 0 [.ref (49), .int (p0)] [] σ _
  unfold P_X7_where at hP
  refine E_iload_n dX7_where_0 rfl ?_
  refine E_iconst (v := 0) dX7_where_1 (by decide) ?_
  refine E_bipush (v := 28) dX7_where_2 (by decide) ?_
  refine E_callS (As := [.int (p0), .int (0), .int (28)]) (rest := []) dX7_where_4 cl_RX7_58 tw_456 ⟨rfl, rfl, Nat.le_of_ble_eq_true rfl, Nat.le_of_ble_eq_true rfl⟩ rfl rfl (Nat.le_of_ble_eq_true rfl) (mt_X7_in _ _ _ _ _  hP) ?_
  intro r0 s0 hq0; obtain ⟨r4, h0, hs0, hP⟩ := hq0; subst h0; rw [hs0]
  show eX7_where 7 [.ref (49), .int (p0)] [.int (bI r4)] σ _
  refine E_ifz_eq 18 dX7_where_7 (by decide) (fun hc => ?_) (fun hc => ?_)
  · replace hP := hP.1 hc
    refine E_aload_n dX7_where_18 rfl ?_
    refine E_ldc (v := (-1000000001)) dX7_where_19 tw_452 ?_
    refine E_callV (As := [.int ((-1000000001))]) (rest := []) dX7_where_21 cl_RX7_105 tw_507 (show kd 49 = 7 by decide) (by decide) rfl tw_508 ⟨rfl, rfl, Nat.le_of_ble_eq_true rfl, Nat.le_of_ble_eq_true rfl⟩ rfl rfl (Nat.le_of_ble_eq_true rfl) (mt_X7_finds _ _ _  hP) ?_
    rintro _ t21 ⟨r21, rfl, hP⟩
    show eX7_where 24 [.ref (49), .int (p0)] [.int (r21)] t21 _
    exact E_iret dX7_where_24 rfl ⟨_, rfl, hP⟩
  · replace hP := hP.2 hc
    refine E_aload_n dX7_where_10 rfl ?_
    refine E_iload_n dX7_where_11 rfl ?_
    refine E_callV (As := [.int (p0)]) (rest := []) dX7_where_12 cl_RX7_186 tw_613 (show kd 49 = 7 by decide) (by decide) rfl tw_614 ⟨rfl, rfl, Nat.le_of_ble_eq_true rfl, Nat.le_of_ble_eq_true rfl⟩ rfl rfl (Nat.le_of_ble_eq_true rfl) (mt_X7_richest _ _ _  hP) ?_
    rintro _ t12 ⟨r12, rfl, hP⟩
    show eX7_where 15 [.ref (49), .int (p0)] [.int (r12)] t12 _
    refine E_goto 24 dX7_where_15 (by decide) ?_
    exact E_iret dX7_where_24 rfl ⟨_, rfl, hP⟩
theorem dX7_out_0 : decode cX7_out 0 = .ok (.aload_n 0, 1) := by decide +kernel
theorem dX7_out_1 : decode cX7_out 1 = .ok (.iload_n 1, 1) := by decide +kernel
theorem dX7_out_2 : decode cX7_out 2 = .ok (.iload_n 2, 1) := by decide +kernel
theorem dX7_out_3 : decode cX7_out 3 = .ok (.invokevirtual 116, 3) := by decide +kernel
theorem dX7_out_6 : decode cX7_out 6 = .ok (.ifCond .ne 10, 3) := by decide +kernel
theorem dX7_out_9 : decode cX7_out 9 = .ok (.aload_n 0, 1) := by decide +kernel
theorem dX7_out_10 : decode cX7_out 10 = .ok (.ldc 57, 2) := by decide +kernel
theorem dX7_out_12 : decode cX7_out 12 = .ok (.invokevirtual 105, 3) := by decide +kernel
theorem dX7_out_15 : decode cX7_out 15 = .ok (.ireturn, 1) := by decide +kernel
theorem dX7_out_16 : decode cX7_out 16 = .ok (.aload_n 0, 1) := by decide +kernel
theorem dX7_out_17 : decode cX7_out 17 = .ok (.invokevirtual 158, 3) := by decide +kernel
theorem dX7_out_20 : decode cX7_out 20 = .ok (.aload_n 0, 1) := by decide +kernel
theorem dX7_out_21 : decode cX7_out 21 = .ok (.invokevirtual 120, 3) := by decide +kernel
theorem dX7_out_24 : decode cX7_out 24 = .ok (.istore_n 3, 1) := by decide +kernel
theorem dX7_out_25 : decode cX7_out 25 = .ok (.bipush 29, 2) := by decide +kernel
theorem dX7_out_27 : decode cX7_out 27 = .ok (.istore 4, 2) := by decide +kernel
theorem dX7_out_29 : decode cX7_out 29 = .ok (.iconst 0, 1) := by decide +kernel
theorem dX7_out_30 : decode cX7_out 30 = .ok (.istore 5, 2) := by decide +kernel
theorem dX7_out_32 : decode cX7_out 32 = .ok (.iload 5, 2) := by decide +kernel
theorem dX7_out_34 : decode cX7_out 34 = .ok (.iload_n 3, 1) := by decide +kernel
theorem dX7_out_35 : decode cX7_out 35 = .ok (.if_icmp .gt 65, 3) := by decide +kernel
theorem dX7_out_38 : decode cX7_out 38 = .ok (.iload_n 3, 1) := by decide +kernel
theorem dX7_out_39 : decode cX7_out 39 = .ok (.invokestatic 132, 3) := by decide +kernel
theorem dX7_out_42 : decode cX7_out 42 = .ok (.iload 5, 2) := by decide +kernel
theorem dX7_out_44 : decode cX7_out 44 = .ok (.invokestatic 132, 3) := by decide +kernel
theorem dX7_out_47 : decode cX7_out 47 = .ok (.isub, 1) := by decide +kernel
theorem dX7_out_48 : decode cX7_out 48 = .ok (.istore 6, 2) := by decide +kernel
theorem dX7_out_50 : decode cX7_out 50 = .ok (.aload_n 0, 1) := by decide +kernel
theorem dX7_out_51 : decode cX7_out 51 = .ok (.getfield 22, 3) := by decide +kernel
theorem dX7_out_54 : decode cX7_out 54 = .ok (.iload 5, 2) := by decide +kernel
theorem dX7_out_56 : decode cX7_out 56 = .ok (.laload, 1) := by decide +kernel
theorem dX7_out_57 : decode cX7_out 57 = .ok (.lconst 0, 1) := by decide +kernel
theorem dX7_out_58 : decode cX7_out 58 = .ok (.lcmp, 1) := by decide +kernel
theorem dX7_out_59 : decode cX7_out 59 = .ok (.ifCond .le 31, 3) := by decide +kernel
theorem dX7_out_62 : decode cX7_out 62 = .ok (.iload 5, 2) := by decide +kernel
theorem dX7_out_64 : decode cX7_out 64 = .ok (.iload_n 1, 1) := by decide +kernel
theorem dX7_out_65 : decode cX7_out 65 = .ok (.invokestatic 77, 3) := by decide +kernel
theorem dX7_out_68 : decode cX7_out 68 = .ok (.aload_n 0, 1) := by decide +kernel
theorem dX7_out_69 : decode cX7_out 69 = .ok (.iload_n 1, 1) := by decide +kernel
theorem dX7_out_70 : decode cX7_out 70 = .ok (.invokevirtual 66, 3) := by decide +kernel
theorem dX7_out_73 : decode cX7_out 73 = .ok (.iload_n 2, 1) := by decide +kernel
theorem dX7_out_74 : decode cX7_out 74 = .ok (.isub, 1) := by decide +kernel
theorem dX7_out_75 : decode cX7_out 75 = .ok (.if_icmp .ge 15, 3) := by decide +kernel
theorem dX7_out_78 : decode cX7_out 78 = .ok (.iload 6, 2) := by decide +kernel
theorem dX7_out_80 : decode cX7_out 80 = .ok (.iload 4, 2) := by decide +kernel
theorem dX7_out_82 : decode cX7_out 82 = .ok (.if_icmp .ge 8, 3) := by decide +kernel
theorem dX7_out_85 : decode cX7_out 85 = .ok (.iload 6, 2) := by decide +kernel
theorem dX7_out_87 : decode cX7_out 87 = .ok (.goto 5, 3) := by decide +kernel
theorem dX7_out_90 : decode cX7_out 90 = .ok (.iload 4, 2) := by decide +kernel
theorem dX7_out_92 : decode cX7_out 92 = .ok (.istore 4, 2) := by decide +kernel
theorem dX7_out_94 : decode cX7_out 94 = .ok (.iinc 5 1, 3) := by decide +kernel
theorem dX7_out_97 : decode cX7_out 97 = .ok (.goto (-65), 3) := by decide +kernel
theorem dX7_out_100 : decode cX7_out 100 = .ok (.iload 4, 2) := by decide +kernel
theorem dX7_out_102 : decode cX7_out 102 = .ok (.bipush 28, 2) := by decide +kernel
theorem dX7_out_104 : decode cX7_out 104 = .ok (.if_icmp .le 12, 3) := by decide +kernel
theorem dX7_out_107 : decode cX7_out 107 = .ok (.aload_n 0, 1) := by decide +kernel
theorem dX7_out_108 : decode cX7_out 108 = .ok (.ldc 170, 2) := by decide +kernel
theorem dX7_out_110 : decode cX7_out 110 = .ok (.invokevirtual 105, 3) := by decide +kernel
theorem dX7_out_113 : decode cX7_out 113 = .ok (.goto 5, 3) := by decide +kernel
theorem dX7_out_116 : decode cX7_out 116 = .ok (.iload 4, 2) := by decide +kernel
theorem dX7_out_118 : decode cX7_out 118 = .ok (.ireturn, 1) := by decide +kernel
def rmX7_out : Room := { frames := 6, cells := 0, slots := 0, locals := 136 }
abbrev eX7_out := Ev cX7_out 7 (some .int) RX7 rmX7_out
set_option maxRecDepth 20000 in
theorem ev_X7_out_l32 (l1 : Int32) (l2 : Int32) (l3 : Int32)  (K : Int32 → St → Prop) (Q : Int32 → St → Prop) (hK : ∀ k4 s, K k4 s → eX7_out 100 [.ref (49), un, un, un, .int (k4), un, un] [] s (qI Q)) : ∀ (n : Nat) (l4 : Int32) (l5 : Int32) (σ : St), P_X7_out_l32 l1 l2 l3 K Q n l4 l5 σ → eX7_out 32 [.ref (49), .int (l1), .int (l2), .int (l3), .int (l4), .int (l5), un] [] σ (qI Q) := by
  intro n
  induction n with
  | zero => intro l4 l5 σ hP; exact hP.elim
  | succ n ih =>
    intro l4 l5 σ hP
    rw [P_X7_out_l32] at hP
    refine E_iload dX7_out_32 rfl ?_
    refine E_iload_n dX7_out_34 rfl ?_
    refine E_icmp_gt 100 dX7_out_35 (by decide) (fun hc => ?_) (fun hc => ?_)
    · replace hP := hP.1 hc
      refine E_mask [true, false, false, false, true, false, false] rfl ?_
      exact hK (l4) _ hP
    · replace hP := hP.2 hc
      refine E_iload_n dX7_out_38 rfl ?_
      refine E_callS (As := [.int (l3)]) (rest := []) dX7_out_39 cl_RX7_132 tw_540 ⟨rfl, rfl, Nat.le_of_ble_eq_true rfl, Nat.le_of_ble_eq_true rfl⟩ rfl rfl (Nat.le_of_ble_eq_true rfl) (mt_X7_stones _ _ _  hP) ?_
      intro r0 s0 hq0; obtain ⟨r39, h0, hs0, hP⟩ := hq0; subst h0; rw [hs0]
      show eX7_out 42 [.ref (49), .int (l1), .int (l2), .int (l3), .int (l4), .int (l5), un] [.int (r39)] σ _
      refine E_iload dX7_out_42 rfl ?_
      refine E_callS (As := [.int (l5)]) (rest := [.int (r39)]) dX7_out_44 cl_RX7_132 tw_540 ⟨rfl, rfl, Nat.le_of_ble_eq_true rfl, Nat.le_of_ble_eq_true rfl⟩ rfl rfl (Nat.le_of_ble_eq_true rfl) (mt_X7_stones _ _ _  hP) ?_
      intro r0 s0 hq0; obtain ⟨r44, h0, hs0, hP⟩ := hq0; subst h0; rw [hs0]
      show eX7_out 47 [.ref (49), .int (l1), .int (l2), .int (l3), .int (l4), .int (l5), un] [.int (r44), .int (r39)] σ _
      refine E_isub dX7_out_47 ?_
      refine E_istore (ls' := [.ref (49), .int (l1), .int (l2), .int (l3), .int (l4), .int (l5), .int (r39 - r44)]) dX7_out_48 (by decide) rfl ?_
      refine E_aload_n dX7_out_50 rfl ?_
      refine E_getR (j := 4) dX7_out_51 (show kd 49 = 7 by decide) (by decide) rfl fd_RX7_22 (by decide) ?_
      refine E_iload dX7_out_54 rfl ?_
      obtain ⟨hb, hP⟩ := hP
      refine E_lald dX7_out_56 (ar_7_5 (show kd 49 = 7 by decide)).1 (ar_7_5 (show kd 49 = 7 by decide)).2 hb ?_
      refine E_lconst (v := 0) dX7_out_57 (by decide) ?_
      refine E_lcmp dX7_out_58 ?_
      refine E_if_le 90 dX7_out_59 (by decide) (fun hc => ?_) (fun hc => ?_)
      · replace hP := hP.1 hc
        refine E_iload dX7_out_90 rfl ?_
        refine E_istore (ls' := [.ref (49), .int (l1), .int (l2), .int (l3), .int (l4), .int (l5), .int (r39 - r44)]) dX7_out_92 (by decide) rfl ?_
        refine E_iinc (ls' := [.ref (49), .int (l1), .int (l2), .int (l3), .int (l4), .int (l5 + 1), .int (r39 - r44)]) dX7_out_94 rfl rfl (by decide) rfl ?_
        refine E_goto 32 dX7_out_97 (by decide) ?_
        refine E_mask [true, true, true, true, true, true, false] rfl ?_
        exact ih (l4) (l5 + 1) _ hP
      · replace hP := hP.2 hc
        refine E_iload dX7_out_62 rfl ?_
        refine E_iload_n dX7_out_64 rfl ?_
        refine E_callS (As := [.int (l5), .int (l1)]) (rest := []) dX7_out_65 cl_RX7_77 tw_474 ⟨rfl, rfl, Nat.le_of_ble_eq_true rfl, Nat.le_of_ble_eq_true rfl⟩ rfl rfl (Nat.le_of_ble_eq_true rfl) (mt_X7_left _ _ _ _  hP) ?_
        intro r0 s0 hq0; obtain ⟨r65, h0, hs0, hP⟩ := hq0; subst h0; rw [hs0]
        show eX7_out 68 [.ref (49), .int (l1), .int (l2), .int (l3), .int (l4), .int (l5), .int (r39 - r44)] [.int (r65)] σ _
        refine E_aload_n dX7_out_68 rfl ?_
        refine E_iload_n dX7_out_69 rfl ?_
        refine E_callV (As := [.int (l1)]) (rest := [.int (r65)]) dX7_out_70 cl_RX7_66 tw_460 (show kd 49 = 7 by decide) (by decide) rfl tw_461 ⟨rfl, rfl, Nat.le_of_ble_eq_true rfl, Nat.le_of_ble_eq_true rfl⟩ rfl rfl (Nat.le_of_ble_eq_true rfl) (mt_X7_many _ _ _  hP) ?_
        intro r0 s0 hq0; obtain ⟨r70, h0, hs0, hP⟩ := hq0; subst h0; rw [hs0]
        show eX7_out 73 [.ref (49), .int (l1), .int (l2), .int (l3), .int (l4), .int (l5), .int (r39 - r44)] [.int (r70), .int (r65)] σ _
        refine E_iload_n dX7_out_73 rfl ?_
        refine E_isub dX7_out_74 ?_
        refine E_icmp_ge 90 dX7_out_75 (by decide) (fun hc => ?_) (fun hc => ?_)
        · replace hP := hP.1 hc
          refine E_iload dX7_out_90 rfl ?_
          refine E_istore (ls' := [.ref (49), .int (l1), .int (l2), .int (l3), .int (l4), .int (l5), .int (r39 - r44)]) dX7_out_92 (by decide) rfl ?_
          refine E_iinc (ls' := [.ref (49), .int (l1), .int (l2), .int (l3), .int (l4), .int (l5 + 1), .int (r39 - r44)]) dX7_out_94 rfl rfl (by decide) rfl ?_
          refine E_goto 32 dX7_out_97 (by decide) ?_
          refine E_mask [true, true, true, true, true, true, false] rfl ?_
          exact ih (l4) (l5 + 1) _ hP
        · replace hP := hP.2 hc
          refine E_iload dX7_out_78 rfl ?_
          refine E_iload dX7_out_80 rfl ?_
          refine E_icmp_ge 90 dX7_out_82 (by decide) (fun hc => ?_) (fun hc => ?_)
          · replace hP := hP.1 hc
            refine E_iload dX7_out_90 rfl ?_
            refine E_istore (ls' := [.ref (49), .int (l1), .int (l2), .int (l3), .int (l4), .int (l5), .int (r39 - r44)]) dX7_out_92 (by decide) rfl ?_
            refine E_iinc (ls' := [.ref (49), .int (l1), .int (l2), .int (l3), .int (l4), .int (l5 + 1), .int (r39 - r44)]) dX7_out_94 rfl rfl (by decide) rfl ?_
            refine E_goto 32 dX7_out_97 (by decide) ?_
            refine E_mask [true, true, true, true, true, true, false] rfl ?_
            exact ih (l4) (l5 + 1) _ hP
          · replace hP := hP.2 hc
            refine E_iload dX7_out_85 rfl ?_
            refine E_goto 92 dX7_out_87 (by decide) ?_
            refine E_istore (ls' := [.ref (49), .int (l1), .int (l2), .int (l3), .int (r39 - r44), .int (l5), .int (r39 - r44)]) dX7_out_92 (by decide) rfl ?_
            refine E_iinc (ls' := [.ref (49), .int (l1), .int (l2), .int (l3), .int (r39 - r44), .int (l5 + 1), .int (r39 - r44)]) dX7_out_94 rfl rfl (by decide) rfl ?_
            refine E_goto 32 dX7_out_97 (by decide) ?_
            refine E_mask [true, true, true, true, true, true, false] rfl ?_
            exact ih (r39 - r44) (l5 + 1) _ hP
set_option maxRecDepth 20000 in
theorem mt_X7_out (p0 : Int32) (p1 : Int32) (σ : St) (Q : Int32 → St → Prop)  (hP : P_X7_out p0 p1 σ Q) : Mt yX7_out cX7_out 7 (some .int) rmX7_out [.ref (49), .int (p0), .int (p1)] σ (qI Q) := by
  refine Mt.of (k := 4) (ls := [.ref (49), .int (p0), .int (p1), un, un, un, un]) (by decide +kernel) rfl (Nat.le_of_ble_eq_true rfl) ?_
  show eX7_out 0 [.ref (49), .int (p0), .int (p1), un, un, un, un] [] σ _
  unfold P_X7_out at hP
  refine E_aload_n dX7_out_0 rfl ?_
  refine E_iload_n dX7_out_1 rfl ?_
  refine E_iload_n dX7_out_2 rfl ?_
  refine E_callV (As := [.int (p0), .int (p1)]) (rest := []) dX7_out_3 cl_RX7_116 tw_527 (show kd 49 = 7 by decide) (by decide) rfl tw_528 ⟨rfl, rfl, Nat.le_of_ble_eq_true rfl, Nat.le_of_ble_eq_true rfl⟩ rfl rfl (Nat.le_of_ble_eq_true rfl) (mt_X7_isStone _ _ _ _  hP) ?_
  intro r0 s0 hq0; obtain ⟨r3, h0, hs0, hP⟩ := hq0; subst h0; rw [hs0]
  show eX7_out 6 [.ref (49), .int (p0), .int (p1), un, un, un, un] [.int (bI r3)] σ _
  refine E_ifz_ne 16 dX7_out_6 (by decide) (fun hc => ?_) (fun hc => ?_)
  · replace hP := hP.1 hc
    refine E_aload_n dX7_out_16 rfl ?_
    refine E_callV (As := []) (rest := []) dX7_out_17 cl_RX7_158 tw_574 (show kd 49 = 7 by decide) (by decide) rfl tw_575 ⟨rfl, rfl, Nat.le_of_ble_eq_true rfl, Nat.le_of_ble_eq_true rfl⟩ rfl rfl (Nat.le_of_ble_eq_true rfl) (mt_X7_findRows  _ _  hP) ?_
    rintro _ t17 ⟨rfl, hP⟩
    show eX7_out 20 [.ref (49), .int (p0), .int (p1), un, un, un, un] [] t17 _
    refine E_aload_n dX7_out_20 rfl ?_
    refine E_callV (As := []) (rest := []) dX7_out_21 cl_RX7_120 tw_523 (show kd 49 = 7 by decide) (by decide) rfl tw_524 ⟨rfl, rfl, Nat.le_of_ble_eq_true rfl, Nat.le_of_ble_eq_true rfl⟩ rfl rfl (Nat.le_of_ble_eq_true rfl) (mt_X7_standNow  _ _  hP) ?_
    intro r0 s0 hq0; obtain ⟨r21, h0, hs0, hP⟩ := hq0; subst h0; rw [hs0]
    show eX7_out 24 [.ref (49), .int (p0), .int (p1), un, un, un, un] [.int (r21)] t17 _
    refine E_istore_n (ls' := [.ref (49), .int (p0), .int (p1), .int (r21), un, un, un]) dX7_out_24 (by decide) rfl ?_
    refine E_bipush (v := 29) dX7_out_25 (by decide) ?_
    refine E_istore (ls' := [.ref (49), .int (p0), .int (p1), .int (r21), .int (29), un, un]) dX7_out_27 (by decide) rfl ?_
    refine E_iconst (v := 0) dX7_out_29 (by decide) ?_
    refine E_istore (ls' := [.ref (49), .int (p0), .int (p1), .int (r21), .int (29), .int (0), un]) dX7_out_30 (by decide) rfl ?_
    obtain ⟨m32, hP⟩ := hP
    refine ev_X7_out_l32 (p0) (p1) (r21)  _ Q ?_ m32 _ _ _ hP
    intro k4 t100 hP
    refine E_iload dX7_out_100 rfl ?_
    refine E_bipush (v := 28) dX7_out_102 (by decide) ?_
    refine E_icmp_le 116 dX7_out_104 (by decide) (fun hc => ?_) (fun hc => ?_)
    · replace hP := hP.1 hc
      refine E_iload dX7_out_116 rfl ?_
      exact E_iret dX7_out_118 rfl ⟨_, rfl, hP⟩
    · replace hP := hP.2 hc
      refine E_aload_n dX7_out_107 rfl ?_
      refine E_ldc (v := (-1000000004)) dX7_out_108 tw_585 ?_
      refine E_callV (As := [.int ((-1000000004))]) (rest := []) dX7_out_110 cl_RX7_105 tw_507 (show kd 49 = 7 by decide) (by decide) rfl tw_508 ⟨rfl, rfl, Nat.le_of_ble_eq_true rfl, Nat.le_of_ble_eq_true rfl⟩ rfl rfl (Nat.le_of_ble_eq_true rfl) (mt_X7_finds _ _ _  hP) ?_
      rintro _ t110 ⟨r110, rfl, hP⟩
      show eX7_out 113 [.ref (49), un, un, un, .int (k4), un, un] [.int (r110)] t110 _
      refine E_goto 118 dX7_out_113 (by decide) ?_
      exact E_iret dX7_out_118 rfl ⟨_, rfl, hP⟩
  · replace hP := hP.2 hc
    refine E_aload_n dX7_out_9 rfl ?_
    refine E_ldc (v := (-1000000001)) dX7_out_10 tw_452 ?_
    refine E_callV (As := [.int ((-1000000001))]) (rest := []) dX7_out_12 cl_RX7_105 tw_507 (show kd 49 = 7 by decide) (by decide) rfl tw_508 ⟨rfl, rfl, Nat.le_of_ble_eq_true rfl, Nat.le_of_ble_eq_true rfl⟩ rfl rfl (Nat.le_of_ble_eq_true rfl) (mt_X7_finds _ _ _  hP) ?_
    rintro _ t12 ⟨r12, rfl, hP⟩
    show eX7_out 15 [.ref (49), .int (p0), .int (p1), un, un, un, un] [.int (r12)] t12 _
    exact E_iret dX7_out_15 rfl ⟨_, rfl, hP⟩
theorem dX7_reach_0 : decode cX7_reach 0 = .ok (.iload_n 1, 1) := by decide +kernel
theorem dX7_reach_1 : decode cX7_reach 1 = .ok (.invokestatic 62, 3) := by decide +kernel
theorem dX7_reach_4 : decode cX7_reach 4 = .ok (.ifCond .ne 10, 3) := by decide +kernel
theorem dX7_reach_7 : decode cX7_reach 7 = .ok (.aload_n 0, 1) := by decide +kernel
theorem dX7_reach_8 : decode cX7_reach 8 = .ok (.ldc 57, 2) := by decide +kernel
theorem dX7_reach_10 : decode cX7_reach 10 = .ok (.invokevirtual 105, 3) := by decide +kernel
theorem dX7_reach_13 : decode cX7_reach 13 = .ok (.ireturn, 1) := by decide +kernel
theorem dX7_reach_14 : decode cX7_reach 14 = .ok (.aload_n 0, 1) := by decide +kernel
theorem dX7_reach_15 : decode cX7_reach 15 = .ok (.invokevirtual 158, 3) := by decide +kernel
theorem dX7_reach_18 : decode cX7_reach 18 = .ok (.iconst 0, 1) := by decide +kernel
theorem dX7_reach_19 : decode cX7_reach 19 = .ok (.istore_n 2, 1) := by decide +kernel
theorem dX7_reach_20 : decode cX7_reach 20 = .ok (.iconst 0, 1) := by decide +kernel
theorem dX7_reach_21 : decode cX7_reach 21 = .ok (.istore_n 3, 1) := by decide +kernel
theorem dX7_reach_22 : decode cX7_reach 22 = .ok (.iload_n 3, 1) := by decide +kernel
theorem dX7_reach_23 : decode cX7_reach 23 = .ok (.aload_n 0, 1) := by decide +kernel
theorem dX7_reach_24 : decode cX7_reach 24 = .ok (.invokevirtual 120, 3) := by decide +kernel
theorem dX7_reach_27 : decode cX7_reach 27 = .ok (.if_icmp .gt 46, 3) := by decide +kernel
theorem dX7_reach_30 : decode cX7_reach 30 = .ok (.aload_n 0, 1) := by decide +kernel
theorem dX7_reach_31 : decode cX7_reach 31 = .ok (.iload_n 1, 1) := by decide +kernel
theorem dX7_reach_32 : decode cX7_reach 32 = .ok (.invokevirtual 66, 3) := by decide +kernel
theorem dX7_reach_35 : decode cX7_reach 35 = .ok (.iload_n 3, 1) := by decide +kernel
theorem dX7_reach_36 : decode cX7_reach 36 = .ok (.iload_n 1, 1) := by decide +kernel
theorem dX7_reach_37 : decode cX7_reach 37 = .ok (.invokestatic 77, 3) := by decide +kernel
theorem dX7_reach_40 : decode cX7_reach 40 = .ok (.isub, 1) := by decide +kernel
theorem dX7_reach_41 : decode cX7_reach 41 = .ok (.istore 4, 2) := by decide +kernel
theorem dX7_reach_43 : decode cX7_reach 43 = .ok (.aload_n 0, 1) := by decide +kernel
theorem dX7_reach_44 : decode cX7_reach 44 = .ok (.getfield 22, 3) := by decide +kernel
theorem dX7_reach_47 : decode cX7_reach 47 = .ok (.iload_n 3, 1) := by decide +kernel
theorem dX7_reach_48 : decode cX7_reach 48 = .ok (.laload, 1) := by decide +kernel
theorem dX7_reach_49 : decode cX7_reach 49 = .ok (.lconst 0, 1) := by decide +kernel
theorem dX7_reach_50 : decode cX7_reach 50 = .ok (.lcmp, 1) := by decide +kernel
theorem dX7_reach_51 : decode cX7_reach 51 = .ok (.ifCond .le 14, 3) := by decide +kernel
theorem dX7_reach_54 : decode cX7_reach 54 = .ok (.iload 4, 2) := by decide +kernel
theorem dX7_reach_56 : decode cX7_reach 56 = .ok (.iload_n 2, 1) := by decide +kernel
theorem dX7_reach_57 : decode cX7_reach 57 = .ok (.if_icmp .le 8, 3) := by decide +kernel
theorem dX7_reach_60 : decode cX7_reach 60 = .ok (.iload 4, 2) := by decide +kernel
theorem dX7_reach_62 : decode cX7_reach 62 = .ok (.goto 4, 3) := by decide +kernel
theorem dX7_reach_65 : decode cX7_reach 65 = .ok (.iload_n 2, 1) := by decide +kernel
theorem dX7_reach_66 : decode cX7_reach 66 = .ok (.istore_n 2, 1) := by decide +kernel
theorem dX7_reach_67 : decode cX7_reach 67 = .ok (.iinc 3 1, 3) := by decide +kernel
theorem dX7_reach_70 : decode cX7_reach 70 = .ok (.goto (-48), 3) := by decide +kernel
theorem dX7_reach_73 : decode cX7_reach 73 = .ok (.iload_n 2, 1) := by decide +kernel
theorem dX7_reach_74 : decode cX7_reach 74 = .ok (.ireturn, 1) := by decide +kernel
def rmX7_reach : Room := { frames := 6, cells := 0, slots := 0, locals := 136 }
abbrev eX7_reach := Ev cX7_reach 5 (some .int) RX7 rmX7_reach
set_option maxRecDepth 20000 in
theorem ev_X7_reach_l22 (l1 : Int32)  (K : Int32 → St → Prop) (Q : Int32 → St → Prop) (hK : ∀ k2 s, K k2 s → eX7_reach 73 [un, un, .int (k2), un, un] [] s (qI Q)) : ∀ (n : Nat) (l2 : Int32) (l3 : Int32) (σ : St), P_X7_reach_l22 l1 K Q n l2 l3 σ → eX7_reach 22 [.ref (49), .int (l1), .int (l2), .int (l3), un] [] σ (qI Q) := by
  intro n
  induction n with
  | zero => intro l2 l3 σ hP; exact hP.elim
  | succ n ih =>
    intro l2 l3 σ hP
    rw [P_X7_reach_l22] at hP
    refine E_iload_n dX7_reach_22 rfl ?_
    refine E_aload_n dX7_reach_23 rfl ?_
    refine E_callV (As := []) (rest := [.int (l3)]) dX7_reach_24 cl_RX7_120 tw_523 (show kd 49 = 7 by decide) (by decide) rfl tw_524 ⟨rfl, rfl, Nat.le_of_ble_eq_true rfl, Nat.le_of_ble_eq_true rfl⟩ rfl rfl (Nat.le_of_ble_eq_true rfl) (mt_X7_standNow  _ _  hP) ?_
    intro r0 s0 hq0; obtain ⟨r24, h0, hs0, hP⟩ := hq0; subst h0; rw [hs0]
    show eX7_reach 27 [.ref (49), .int (l1), .int (l2), .int (l3), un] [.int (r24), .int (l3)] σ _
    refine E_icmp_gt 73 dX7_reach_27 (by decide) (fun hc => ?_) (fun hc => ?_)
    · replace hP := hP.1 hc
      refine E_mask [false, false, true, false, false] rfl ?_
      exact hK (l2) _ hP
    · replace hP := hP.2 hc
      refine E_aload_n dX7_reach_30 rfl ?_
      refine E_iload_n dX7_reach_31 rfl ?_
      refine E_callV (As := [.int (l1)]) (rest := []) dX7_reach_32 cl_RX7_66 tw_460 (show kd 49 = 7 by decide) (by decide) rfl tw_461 ⟨rfl, rfl, Nat.le_of_ble_eq_true rfl, Nat.le_of_ble_eq_true rfl⟩ rfl rfl (Nat.le_of_ble_eq_true rfl) (mt_X7_many _ _ _  hP) ?_
      intro r0 s0 hq0; obtain ⟨r32, h0, hs0, hP⟩ := hq0; subst h0; rw [hs0]
      show eX7_reach 35 [.ref (49), .int (l1), .int (l2), .int (l3), un] [.int (r32)] σ _
      refine E_iload_n dX7_reach_35 rfl ?_
      refine E_iload_n dX7_reach_36 rfl ?_
      refine E_callS (As := [.int (l3), .int (l1)]) (rest := [.int (r32)]) dX7_reach_37 cl_RX7_77 tw_474 ⟨rfl, rfl, Nat.le_of_ble_eq_true rfl, Nat.le_of_ble_eq_true rfl⟩ rfl rfl (Nat.le_of_ble_eq_true rfl) (mt_X7_left _ _ _ _  hP) ?_
      intro r0 s0 hq0; obtain ⟨r37, h0, hs0, hP⟩ := hq0; subst h0; rw [hs0]
      show eX7_reach 40 [.ref (49), .int (l1), .int (l2), .int (l3), un] [.int (r37), .int (r32)] σ _
      refine E_isub dX7_reach_40 ?_
      refine E_istore (ls' := [.ref (49), .int (l1), .int (l2), .int (l3), .int (r32 - r37)]) dX7_reach_41 (by decide) rfl ?_
      refine E_aload_n dX7_reach_43 rfl ?_
      refine E_getR (j := 4) dX7_reach_44 (show kd 49 = 7 by decide) (by decide) rfl fd_RX7_22 (by decide) ?_
      refine E_iload_n dX7_reach_47 rfl ?_
      obtain ⟨hb, hP⟩ := hP
      refine E_lald dX7_reach_48 (ar_7_5 (show kd 49 = 7 by decide)).1 (ar_7_5 (show kd 49 = 7 by decide)).2 hb ?_
      refine E_lconst (v := 0) dX7_reach_49 (by decide) ?_
      refine E_lcmp dX7_reach_50 ?_
      refine E_if_le 65 dX7_reach_51 (by decide) (fun hc => ?_) (fun hc => ?_)
      · replace hP := hP.1 hc
        refine E_iload_n dX7_reach_65 rfl ?_
        refine E_istore_n (ls' := [.ref (49), .int (l1), .int (l2), .int (l3), .int (r32 - r37)]) dX7_reach_66 (by decide) rfl ?_
        refine E_iinc (ls' := [.ref (49), .int (l1), .int (l2), .int (l3 + 1), .int (r32 - r37)]) dX7_reach_67 rfl rfl (by decide) rfl ?_
        refine E_goto 22 dX7_reach_70 (by decide) ?_
        refine E_mask [true, true, true, true, false] rfl ?_
        exact ih (l2) (l3 + 1) _ hP
      · replace hP := hP.2 hc
        refine E_iload dX7_reach_54 rfl ?_
        refine E_iload_n dX7_reach_56 rfl ?_
        refine E_icmp_le 65 dX7_reach_57 (by decide) (fun hc => ?_) (fun hc => ?_)
        · replace hP := hP.1 hc
          refine E_iload_n dX7_reach_65 rfl ?_
          refine E_istore_n (ls' := [.ref (49), .int (l1), .int (l2), .int (l3), .int (r32 - r37)]) dX7_reach_66 (by decide) rfl ?_
          refine E_iinc (ls' := [.ref (49), .int (l1), .int (l2), .int (l3 + 1), .int (r32 - r37)]) dX7_reach_67 rfl rfl (by decide) rfl ?_
          refine E_goto 22 dX7_reach_70 (by decide) ?_
          refine E_mask [true, true, true, true, false] rfl ?_
          exact ih (l2) (l3 + 1) _ hP
        · replace hP := hP.2 hc
          refine E_iload dX7_reach_60 rfl ?_
          refine E_goto 66 dX7_reach_62 (by decide) ?_
          refine E_istore_n (ls' := [.ref (49), .int (l1), .int (r32 - r37), .int (l3), .int (r32 - r37)]) dX7_reach_66 (by decide) rfl ?_
          refine E_iinc (ls' := [.ref (49), .int (l1), .int (r32 - r37), .int (l3 + 1), .int (r32 - r37)]) dX7_reach_67 rfl rfl (by decide) rfl ?_
          refine E_goto 22 dX7_reach_70 (by decide) ?_
          refine E_mask [true, true, true, true, false] rfl ?_
          exact ih (r32 - r37) (l3 + 1) _ hP
set_option maxRecDepth 20000 in
theorem mt_X7_reach (p0 : Int32) (σ : St) (Q : Int32 → St → Prop)  (hP : P_X7_reach p0 σ Q) : Mt yX7_reach cX7_reach 5 (some .int) rmX7_reach [.ref (49), .int (p0)] σ (qI Q) := by
  refine Mt.of (k := 3) (ls := [.ref (49), .int (p0), un, un, un]) (by decide +kernel) rfl (Nat.le_of_ble_eq_true rfl) ?_
  show eX7_reach 0 [.ref (49), .int (p0), un, un, un] [] σ _
  unfold P_X7_reach at hP
  refine E_iload_n dX7_reach_0 rfl ?_
  refine E_callS (As := [.int (p0)]) (rest := []) dX7_reach_1 cl_RX7_62 tw_464 ⟨rfl, rfl, Nat.le_of_ble_eq_true rfl, Nat.le_of_ble_eq_true rfl⟩ rfl rfl (Nat.le_of_ble_eq_true rfl) (mt_X7_isWall _ _ _  hP) ?_
  intro r0 s0 hq0; obtain ⟨r1, h0, hs0, hP⟩ := hq0; subst h0; rw [hs0]
  show eX7_reach 4 [.ref (49), .int (p0), un, un, un] [.int (bI r1)] σ _
  refine E_ifz_ne 14 dX7_reach_4 (by decide) (fun hc => ?_) (fun hc => ?_)
  · replace hP := hP.1 hc
    refine E_aload_n dX7_reach_14 rfl ?_
    refine E_callV (As := []) (rest := []) dX7_reach_15 cl_RX7_158 tw_574 (show kd 49 = 7 by decide) (by decide) rfl tw_575 ⟨rfl, rfl, Nat.le_of_ble_eq_true rfl, Nat.le_of_ble_eq_true rfl⟩ rfl rfl (Nat.le_of_ble_eq_true rfl) (mt_X7_findRows  _ _  hP) ?_
    rintro _ t15 ⟨rfl, hP⟩
    show eX7_reach 18 [.ref (49), .int (p0), un, un, un] [] t15 _
    refine E_iconst (v := 0) dX7_reach_18 (by decide) ?_
    refine E_istore_n (ls' := [.ref (49), .int (p0), .int (0), un, un]) dX7_reach_19 (by decide) rfl ?_
    refine E_iconst (v := 0) dX7_reach_20 (by decide) ?_
    refine E_istore_n (ls' := [.ref (49), .int (p0), .int (0), .int (0), un]) dX7_reach_21 (by decide) rfl ?_
    obtain ⟨m22, hP⟩ := hP
    refine ev_X7_reach_l22 (p0)  _ Q ?_ m22 _ _ _ hP
    intro k2 t73 hP
    refine E_iload_n dX7_reach_73 rfl ?_
    exact E_iret dX7_reach_74 rfl ⟨_, rfl, hP⟩
  · replace hP := hP.2 hc
    refine E_aload_n dX7_reach_7 rfl ?_
    refine E_ldc (v := (-1000000001)) dX7_reach_8 tw_452 ?_
    refine E_callV (As := [.int ((-1000000001))]) (rest := []) dX7_reach_10 cl_RX7_105 tw_507 (show kd 49 = 7 by decide) (by decide) rfl tw_508 ⟨rfl, rfl, Nat.le_of_ble_eq_true rfl, Nat.le_of_ble_eq_true rfl⟩ rfl rfl (Nat.le_of_ble_eq_true rfl) (mt_X7_finds _ _ _  hP) ?_
    rintro _ t10 ⟨r10, rfl, hP⟩
    show eX7_reach 13 [.ref (49), .int (p0), un, un, un] [.int (r10)] t10 _
    exact E_iret dX7_reach_13 rfl ⟨_, rfl, hP⟩
theorem dX7_help_0 : decode cX7_help 0 = .ok (.aload_n 0, 1) := by decide +kernel
theorem dX7_help_1 : decode cX7_help 1 = .ok (.invokevirtual 164, 3) := by decide +kernel
theorem dX7_help_4 : decode cX7_help 4 = .ok (.istore_n 1, 1) := by decide +kernel
theorem dX7_help_5 : decode cX7_help 5 = .ok (.iconst (-1), 1) := by decide +kernel
theorem dX7_help_6 : decode cX7_help 6 = .ok (.istore_n 2, 1) := by decide +kernel
theorem dX7_help_7 : decode cX7_help 7 = .ok (.iconst 0, 1) := by decide +kernel
theorem dX7_help_8 : decode cX7_help 8 = .ok (.istore_n 3, 1) := by decide +kernel
theorem dX7_help_9 : decode cX7_help 9 = .ok (.iload_n 3, 1) := by decide +kernel
theorem dX7_help_10 : decode cX7_help 10 = .ok (.iconst 4, 1) := by decide +kernel
theorem dX7_help_11 : decode cX7_help 11 = .ok (.if_icmp .ge 101, 3) := by decide +kernel
theorem dX7_help_14 : decode cX7_help 14 = .ok (.aload_n 0, 1) := by decide +kernel
theorem dX7_help_15 : decode cX7_help 15 = .ok (.getfield 7, 3) := by decide +kernel
theorem dX7_help_18 : decode cX7_help 18 = .ok (.bipush 23, 2) := by decide +kernel
theorem dX7_help_20 : decode cX7_help 20 = .ok (.iload_n 3, 1) := by decide +kernel
theorem dX7_help_21 : decode cX7_help 21 = .ok (.imul, 1) := by decide +kernel
theorem dX7_help_22 : decode cX7_help 22 = .ok (.iconst 1, 1) := by decide +kernel
theorem dX7_help_23 : decode cX7_help 23 = .ok (.iadd, 1) := by decide +kernel
theorem dX7_help_24 : decode cX7_help 24 = .ok (.iaload, 1) := by decide +kernel
theorem dX7_help_25 : decode cX7_help 25 = .ok (.istore 4, 2) := by decide +kernel
theorem dX7_help_27 : decode cX7_help 27 = .ok (.iconst 1, 1) := by decide +kernel
theorem dX7_help_28 : decode cX7_help 28 = .ok (.istore 5, 2) := by decide +kernel
theorem dX7_help_30 : decode cX7_help 30 = .ok (.iload 5, 2) := by decide +kernel
theorem dX7_help_32 : decode cX7_help 32 = .ok (.bipush 20, 2) := by decide +kernel
theorem dX7_help_34 : decode cX7_help 34 = .ok (.if_icmp .gt 59, 3) := by decide +kernel
theorem dX7_help_37 : decode cX7_help 37 = .ok (.aload_n 0, 1) := by decide +kernel
theorem dX7_help_38 : decode cX7_help 38 = .ok (.getfield 7, 3) := by decide +kernel
theorem dX7_help_41 : decode cX7_help 41 = .ok (.bipush 23, 2) := by decide +kernel
theorem dX7_help_43 : decode cX7_help 43 = .ok (.iload_n 3, 1) := by decide +kernel
theorem dX7_help_44 : decode cX7_help 44 = .ok (.imul, 1) := by decide +kernel
theorem dX7_help_45 : decode cX7_help 45 = .ok (.iconst 1, 1) := by decide +kernel
theorem dX7_help_46 : decode cX7_help 46 = .ok (.iadd, 1) := by decide +kernel
theorem dX7_help_47 : decode cX7_help 47 = .ok (.iload 5, 2) := by decide +kernel
theorem dX7_help_49 : decode cX7_help 49 = .ok (.iastore, 1) := by decide +kernel
theorem dX7_help_50 : decode cX7_help 50 = .ok (.aload_n 0, 1) := by decide +kernel
theorem dX7_help_51 : decode cX7_help 51 = .ok (.invokevirtual 161, 3) := by decide +kernel
theorem dX7_help_54 : decode cX7_help 54 = .ok (.istore 6, 2) := by decide +kernel
theorem dX7_help_56 : decode cX7_help 56 = .ok (.iload 6, 2) := by decide +kernel
theorem dX7_help_58 : decode cX7_help 58 = .ok (.iload_n 1, 1) := by decide +kernel
theorem dX7_help_59 : decode cX7_help 59 = .ok (.if_icmp .le 13, 3) := by decide +kernel
theorem dX7_help_62 : decode cX7_help 62 = .ok (.bipush 100, 2) := by decide +kernel
theorem dX7_help_64 : decode cX7_help 64 = .ok (.iload_n 3, 1) := by decide +kernel
theorem dX7_help_65 : decode cX7_help 65 = .ok (.imul, 1) := by decide +kernel
theorem dX7_help_66 : decode cX7_help 66 = .ok (.iload 5, 2) := by decide +kernel
theorem dX7_help_68 : decode cX7_help 68 = .ok (.iadd, 1) := by decide +kernel
theorem dX7_help_69 : decode cX7_help 69 = .ok (.goto 4, 3) := by decide +kernel
theorem dX7_help_72 : decode cX7_help 72 = .ok (.iload_n 2, 1) := by decide +kernel
theorem dX7_help_73 : decode cX7_help 73 = .ok (.istore_n 2, 1) := by decide +kernel
theorem dX7_help_74 : decode cX7_help 74 = .ok (.iload 6, 2) := by decide +kernel
theorem dX7_help_76 : decode cX7_help 76 = .ok (.iload_n 1, 1) := by decide +kernel
theorem dX7_help_77 : decode cX7_help 77 = .ok (.if_icmp .le 8, 3) := by decide +kernel
theorem dX7_help_80 : decode cX7_help 80 = .ok (.iload 6, 2) := by decide +kernel
theorem dX7_help_82 : decode cX7_help 82 = .ok (.goto 4, 3) := by decide +kernel
theorem dX7_help_85 : decode cX7_help 85 = .ok (.iload_n 1, 1) := by decide +kernel
theorem dX7_help_86 : decode cX7_help 86 = .ok (.istore_n 1, 1) := by decide +kernel
theorem dX7_help_87 : decode cX7_help 87 = .ok (.iinc 5 1, 3) := by decide +kernel
theorem dX7_help_90 : decode cX7_help 90 = .ok (.goto (-60), 3) := by decide +kernel
theorem dX7_help_93 : decode cX7_help 93 = .ok (.aload_n 0, 1) := by decide +kernel
theorem dX7_help_94 : decode cX7_help 94 = .ok (.getfield 7, 3) := by decide +kernel
theorem dX7_help_97 : decode cX7_help 97 = .ok (.bipush 23, 2) := by decide +kernel
theorem dX7_help_99 : decode cX7_help 99 = .ok (.iload_n 3, 1) := by decide +kernel
theorem dX7_help_100 : decode cX7_help 100 = .ok (.imul, 1) := by decide +kernel
theorem dX7_help_101 : decode cX7_help 101 = .ok (.iconst 1, 1) := by decide +kernel
theorem dX7_help_102 : decode cX7_help 102 = .ok (.iadd, 1) := by decide +kernel
theorem dX7_help_103 : decode cX7_help 103 = .ok (.iload 4, 2) := by decide +kernel
theorem dX7_help_105 : decode cX7_help 105 = .ok (.iastore, 1) := by decide +kernel
theorem dX7_help_106 : decode cX7_help 106 = .ok (.iinc 3 1, 3) := by decide +kernel
theorem dX7_help_109 : decode cX7_help 109 = .ok (.goto (-100), 3) := by decide +kernel
theorem dX7_help_112 : decode cX7_help 112 = .ok (.iload_n 2, 1) := by decide +kernel
theorem dX7_help_113 : decode cX7_help 113 = .ok (.ifCond .ge 12, 3) := by decide +kernel
theorem dX7_help_116 : decode cX7_help 116 = .ok (.aload_n 0, 1) := by decide +kernel
theorem dX7_help_117 : decode cX7_help 117 = .ok (.ldc 170, 2) := by decide +kernel
theorem dX7_help_119 : decode cX7_help 119 = .ok (.invokevirtual 105, 3) := by decide +kernel
theorem dX7_help_122 : decode cX7_help 122 = .ok (.goto 4, 3) := by decide +kernel
theorem dX7_help_125 : decode cX7_help 125 = .ok (.iload_n 2, 1) := by decide +kernel
theorem dX7_help_126 : decode cX7_help 126 = .ok (.ireturn, 1) := by decide +kernel
def rmX7_help : Room := { frames := 7, cells := 0, slots := 0, locals := 158 }
abbrev eX7_help := Ev cX7_help 7 (some .int) RX7 rmX7_help
set_option maxRecDepth 20000 in
theorem ev_X7_help_l30 (l3 : Int32) (l4 : Int32)  (K : Int32 → Int32 → St → Prop) (Q : Int32 → St → Prop) (hK : ∀ k1 k2 s, K k1 k2 s → eX7_help 93 [.ref (49), .int (k1), .int (k2), .int (l3), .int (l4), un, un] [] s (qI Q)) : ∀ (n : Nat) (l1 : Int32) (l2 : Int32) (l5 : Int32) (σ : St), P_X7_help_l30 l3 l4 K Q n l1 l2 l5 σ → eX7_help 30 [.ref (49), .int (l1), .int (l2), .int (l3), .int (l4), .int (l5), un] [] σ (qI Q) := by
  intro n
  induction n with
  | zero => intro l1 l2 l5 σ hP; exact hP.elim
  | succ n ih =>
    intro l1 l2 l5 σ hP
    rw [P_X7_help_l30] at hP
    refine E_iload dX7_help_30 rfl ?_
    refine E_bipush (v := 20) dX7_help_32 (by decide) ?_
    refine E_icmp_gt 93 dX7_help_34 (by decide) (fun hc => ?_) (fun hc => ?_)
    · replace hP := hP.1 hc
      refine E_mask [true, true, true, true, true, false, false] rfl ?_
      exact hK (l1) (l2) _ hP
    · replace hP := hP.2 hc
      refine E_aload_n dX7_help_37 rfl ?_
      refine E_getR (j := 0) dX7_help_38 (show kd 49 = 7 by decide) (by decide) rfl fd_RX7_7 (by decide) ?_
      refine E_bipush (v := 23) dX7_help_41 (by decide) ?_
      refine E_iload_n dX7_help_43 rfl ?_
      refine E_imul dX7_help_44 ?_
      refine E_iconst (v := 1) dX7_help_45 (by decide) ?_
      refine E_iadd dX7_help_46 ?_
      refine E_iload dX7_help_47 rfl ?_
      obtain ⟨hb, hP⟩ := hP
      refine E_iast dX7_help_49 (ar_7_1 (show kd 49 = 7 by decide)).1 (ar_7_1 (show kd 49 = 7 by decide)).2 hb ?_
      refine E_aload_n dX7_help_50 rfl ?_
      refine E_callV (As := []) (rest := []) dX7_help_51 cl_RX7_161 tw_578 (show kd 49 = 7 by decide) (by decide) rfl tw_579 ⟨rfl, rfl, Nat.le_of_ble_eq_true rfl, Nat.le_of_ble_eq_true rfl⟩ rfl rfl (Nat.le_of_ble_eq_true rfl) (mt_X7_howManyNow  _ _  hP) ?_
      rintro _ t51 ⟨r51, rfl, hP⟩
      show eX7_help 54 [.ref (49), .int (l1), .int (l2), .int (l3), .int (l4), .int (l5), un] [.int (r51)] t51 _
      refine E_istore (ls' := [.ref (49), .int (l1), .int (l2), .int (l3), .int (l4), .int (l5), .int (r51)]) dX7_help_54 (by decide) rfl ?_
      refine E_iload dX7_help_56 rfl ?_
      refine E_iload_n dX7_help_58 rfl ?_
      refine E_icmp_le 72 dX7_help_59 (by decide) (fun hc => ?_) (fun hc => ?_)
      · replace hP := hP.1 hc
        refine E_iload_n dX7_help_72 rfl ?_
        refine E_istore_n (ls' := [.ref (49), .int (l1), .int (l2), .int (l3), .int (l4), .int (l5), .int (r51)]) dX7_help_73 (by decide) rfl ?_
        refine E_iload dX7_help_74 rfl ?_
        refine E_iload_n dX7_help_76 rfl ?_
        refine E_icmp_le 85 dX7_help_77 (by decide) (fun hc => ?_) (fun hc => ?_)
        · replace hP := hP.1 hc
          refine E_iload_n dX7_help_85 rfl ?_
          refine E_istore_n (ls' := [.ref (49), .int (l1), .int (l2), .int (l3), .int (l4), .int (l5), .int (r51)]) dX7_help_86 (by decide) rfl ?_
          refine E_iinc (ls' := [.ref (49), .int (l1), .int (l2), .int (l3), .int (l4), .int (l5 + 1), .int (r51)]) dX7_help_87 rfl rfl (by decide) rfl ?_
          refine E_goto 30 dX7_help_90 (by decide) ?_
          refine E_mask [true, true, true, true, true, true, false] rfl ?_
          exact ih (l1) (l2) (l5 + 1) _ hP
        · replace hP := hP.2 hc
          refine E_iload dX7_help_80 rfl ?_
          refine E_goto 86 dX7_help_82 (by decide) ?_
          refine E_istore_n (ls' := [.ref (49), .int (r51), .int (l2), .int (l3), .int (l4), .int (l5), .int (r51)]) dX7_help_86 (by decide) rfl ?_
          refine E_iinc (ls' := [.ref (49), .int (r51), .int (l2), .int (l3), .int (l4), .int (l5 + 1), .int (r51)]) dX7_help_87 rfl rfl (by decide) rfl ?_
          refine E_goto 30 dX7_help_90 (by decide) ?_
          refine E_mask [true, true, true, true, true, true, false] rfl ?_
          exact ih (r51) (l2) (l5 + 1) _ hP
      · replace hP := hP.2 hc
        refine E_bipush (v := 100) dX7_help_62 (by decide) ?_
        refine E_iload_n dX7_help_64 rfl ?_
        refine E_imul dX7_help_65 ?_
        refine E_iload dX7_help_66 rfl ?_
        refine E_iadd dX7_help_68 ?_
        refine E_goto 73 dX7_help_69 (by decide) ?_
        refine E_istore_n (ls' := [.ref (49), .int (l1), .int ((100 * l3) + l5), .int (l3), .int (l4), .int (l5), .int (r51)]) dX7_help_73 (by decide) rfl ?_
        refine E_iload dX7_help_74 rfl ?_
        refine E_iload_n dX7_help_76 rfl ?_
        refine E_icmp_le 85 dX7_help_77 (by decide) (fun hc => ?_) (fun hc => ?_)
        · replace hP := hP.1 hc
          refine E_iload_n dX7_help_85 rfl ?_
          refine E_istore_n (ls' := [.ref (49), .int (l1), .int ((100 * l3) + l5), .int (l3), .int (l4), .int (l5), .int (r51)]) dX7_help_86 (by decide) rfl ?_
          refine E_iinc (ls' := [.ref (49), .int (l1), .int ((100 * l3) + l5), .int (l3), .int (l4), .int (l5 + 1), .int (r51)]) dX7_help_87 rfl rfl (by decide) rfl ?_
          refine E_goto 30 dX7_help_90 (by decide) ?_
          refine E_mask [true, true, true, true, true, true, false] rfl ?_
          exact ih (l1) ((100 * l3) + l5) (l5 + 1) _ hP
        · replace hP := hP.2 hc
          refine E_iload dX7_help_80 rfl ?_
          refine E_goto 86 dX7_help_82 (by decide) ?_
          refine E_istore_n (ls' := [.ref (49), .int (r51), .int ((100 * l3) + l5), .int (l3), .int (l4), .int (l5), .int (r51)]) dX7_help_86 (by decide) rfl ?_
          refine E_iinc (ls' := [.ref (49), .int (r51), .int ((100 * l3) + l5), .int (l3), .int (l4), .int (l5 + 1), .int (r51)]) dX7_help_87 rfl rfl (by decide) rfl ?_
          refine E_goto 30 dX7_help_90 (by decide) ?_
          refine E_mask [true, true, true, true, true, true, false] rfl ?_
          exact ih (r51) ((100 * l3) + l5) (l5 + 1) _ hP
set_option maxRecDepth 20000 in
theorem ev_X7_help_l9   (K : Int32 → St → Prop) (Q : Int32 → St → Prop) (hK : ∀ k2 s, K k2 s → eX7_help 112 [.ref (49), un, .int (k2), un, un, un, un] [] s (qI Q)) : ∀ (n : Nat) (l1 : Int32) (l2 : Int32) (l3 : Int32) (σ : St), P_X7_help_l9  K Q n l1 l2 l3 σ → eX7_help 9 [.ref (49), .int (l1), .int (l2), .int (l3), un, un, un] [] σ (qI Q) := by
  intro n
  induction n with
  | zero => intro l1 l2 l3 σ hP; exact hP.elim
  | succ n ih =>
    intro l1 l2 l3 σ hP
    rw [P_X7_help_l9] at hP
    refine E_iload_n dX7_help_9 rfl ?_
    refine E_iconst (v := 4) dX7_help_10 (by decide) ?_
    refine E_icmp_ge 112 dX7_help_11 (by decide) (fun hc => ?_) (fun hc => ?_)
    · replace hP := hP.1 hc
      refine E_mask [true, false, true, false, false, false, false] rfl ?_
      exact hK (l2) _ hP
    · replace hP := hP.2 hc
      refine E_aload_n dX7_help_14 rfl ?_
      refine E_getR (j := 0) dX7_help_15 (show kd 49 = 7 by decide) (by decide) rfl fd_RX7_7 (by decide) ?_
      refine E_bipush (v := 23) dX7_help_18 (by decide) ?_
      refine E_iload_n dX7_help_20 rfl ?_
      refine E_imul dX7_help_21 ?_
      refine E_iconst (v := 1) dX7_help_22 (by decide) ?_
      refine E_iadd dX7_help_23 ?_
      obtain ⟨hb, hP⟩ := hP
      refine E_iald dX7_help_24 (ar_7_1 (show kd 49 = 7 by decide)).1 (ar_7_1 (show kd 49 = 7 by decide)).2 hb ?_
      refine E_istore (ls' := [.ref (49), .int (l1), .int (l2), .int (l3), .int (gI σ 50 ((23 * l3) + 1).toNatClampNeg), un, un]) dX7_help_25 (by decide) rfl ?_
      refine E_iconst (v := 1) dX7_help_27 (by decide) ?_
      refine E_istore (ls' := [.ref (49), .int (l1), .int (l2), .int (l3), .int (gI σ 50 ((23 * l3) + 1).toNatClampNeg), .int (1), un]) dX7_help_28 (by decide) rfl ?_
      obtain ⟨m30, hP⟩ := hP
      refine ev_X7_help_l30 (l3) (gI σ 50 ((23 * l3) + 1).toNatClampNeg)  _ Q ?_ m30 _ _ _ _ hP
      intro k1 k2 t93 hP
      refine E_aload_n dX7_help_93 rfl ?_
      refine E_getR (j := 0) dX7_help_94 (show kd 49 = 7 by decide) (by decide) rfl fd_RX7_7 (by decide) ?_
      refine E_bipush (v := 23) dX7_help_97 (by decide) ?_
      refine E_iload_n dX7_help_99 rfl ?_
      refine E_imul dX7_help_100 ?_
      refine E_iconst (v := 1) dX7_help_101 (by decide) ?_
      refine E_iadd dX7_help_102 ?_
      refine E_iload dX7_help_103 rfl ?_
      obtain ⟨hb, hP⟩ := hP
      refine E_iast dX7_help_105 (ar_7_1 (show kd 49 = 7 by decide)).1 (ar_7_1 (show kd 49 = 7 by decide)).2 hb ?_
      refine E_iinc (ls' := [.ref (49), .int (k1), .int (k2), .int (l3 + 1), .int (gI σ 50 ((23 * l3) + 1).toNatClampNeg), un, un]) dX7_help_106 rfl rfl (by decide) rfl ?_
      refine E_goto 9 dX7_help_109 (by decide) ?_
      refine E_mask [true, true, true, true, false, false, false] rfl ?_
      exact ih (k1) (k2) (l3 + 1) _ hP
set_option maxRecDepth 20000 in
theorem mt_X7_help  (σ : St) (Q : Int32 → St → Prop)  (hP : P_X7_help  σ Q) : Mt yX7_help cX7_help 7 (some .int) rmX7_help [.ref (49)] σ (qI Q) := by
  refine Mt.of (k := 6) (ls := [.ref (49), un, un, un, un, un, un]) (by decide +kernel) rfl (Nat.le_of_ble_eq_true rfl) ?_
  show eX7_help 0 [.ref (49), un, un, un, un, un, un] [] σ _
  unfold P_X7_help at hP
  refine E_aload_n dX7_help_0 rfl ?_
  refine E_callV (As := []) (rest := []) dX7_help_1 cl_RX7_164 tw_582 (show kd 49 = 7 by decide) (by decide) rfl tw_583 ⟨rfl, rfl, Nat.le_of_ble_eq_true rfl, Nat.le_of_ble_eq_true rfl⟩ rfl rfl (Nat.le_of_ble_eq_true rfl) (mt_X7_howMany  _ _  hP) ?_
  rintro _ t1 ⟨r1, rfl, hP⟩
  show eX7_help 4 [.ref (49), un, un, un, un, un, un] [.int (r1)] t1 _
  refine E_istore_n (ls' := [.ref (49), .int (r1), un, un, un, un, un]) dX7_help_4 (by decide) rfl ?_
  refine E_iconst (v := (-1)) dX7_help_5 (by decide) ?_
  refine E_istore_n (ls' := [.ref (49), .int (r1), .int ((-1)), un, un, un, un]) dX7_help_6 (by decide) rfl ?_
  refine E_iconst (v := 0) dX7_help_7 (by decide) ?_
  refine E_istore_n (ls' := [.ref (49), .int (r1), .int ((-1)), .int (0), un, un, un]) dX7_help_8 (by decide) rfl ?_
  obtain ⟨m9, hP⟩ := hP
  refine ev_X7_help_l9   _ Q ?_ m9 _ _ _ _ hP
  intro k2 t112 hP
  refine E_iload_n dX7_help_112 rfl ?_
  refine E_if_ge 125 dX7_help_113 (by decide) (fun hc => ?_) (fun hc => ?_)
  · replace hP := hP.1 hc
    refine E_iload_n dX7_help_125 rfl ?_
    exact E_iret dX7_help_126 rfl ⟨_, rfl, hP⟩
  · replace hP := hP.2 hc
    refine E_aload_n dX7_help_116 rfl ?_
    refine E_ldc (v := (-1000000004)) dX7_help_117 tw_585 ?_
    refine E_callV (As := [.int ((-1000000004))]) (rest := []) dX7_help_119 cl_RX7_105 tw_507 (show kd 49 = 7 by decide) (by decide) rfl tw_508 ⟨rfl, rfl, Nat.le_of_ble_eq_true rfl, Nat.le_of_ble_eq_true rfl⟩ rfl rfl (Nat.le_of_ble_eq_true rfl) (mt_X7_finds _ _ _  hP) ?_
    rintro _ t119 ⟨r119, rfl, hP⟩
    show eX7_help 122 [.ref (49), un, .int (k2), un, un, un, un] [.int (r119)] t119 _
    refine E_goto 126 dX7_help_122 (by decide) ?_
    exact E_iret dX7_help_126 rfl ⟨_, rfl, hP⟩
