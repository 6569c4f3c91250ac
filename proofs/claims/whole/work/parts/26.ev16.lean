theorem dX7_read_0 : decode cX7_read 0 = .ok (.iload_n 1, 1) := by decide +kernel
theorem dX7_read_1 : decode cX7_read 1 = .ok (.invokestatic 295, 3) := by decide +kernel
theorem dX7_read_4 : decode cX7_read 4 = .ok (.ifCond .ne 11, 3) := by decide +kernel
theorem dX7_read_7 : decode cX7_read 7 = .ok (.aload_n 0, 1) := by decide +kernel
theorem dX7_read_8 : decode cX7_read 8 = .ok (.ldc 57, 2) := by decide +kernel
theorem dX7_read_10 : decode cX7_read 10 = .ok (.invokevirtual 105, 3) := by decide +kernel
theorem dX7_read_13 : decode cX7_read 13 = .ok (.i2l, 1) := by decide +kernel
theorem dX7_read_14 : decode cX7_read 14 = .ok (.lreturn, 1) := by decide +kernel
theorem dX7_read_15 : decode cX7_read 15 = .ok (.aload_n 0, 1) := by decide +kernel
theorem dX7_read_16 : decode cX7_read 16 = .ok (.getfield 39, 3) := by decide +kernel
theorem dX7_read_19 : decode cX7_read 19 = .ok (.iload_n 1, 1) := by decide +kernel
theorem dX7_read_20 : decode cX7_read 20 = .ok (.iaload, 1) := by decide +kernel
theorem dX7_read_21 : decode cX7_read 21 = .ok (.ifCond .ne 12, 3) := by decide +kernel
theorem dX7_read_24 : decode cX7_read 24 = .ok (.aload_n 0, 1) := by decide +kernel
theorem dX7_read_25 : decode cX7_read 25 = .ok (.ldc_w 299, 3) := by decide +kernel
theorem dX7_read_28 : decode cX7_read 28 = .ok (.invokevirtual 105, 3) := by decide +kernel
theorem dX7_read_31 : decode cX7_read 31 = .ok (.i2l, 1) := by decide +kernel
theorem dX7_read_32 : decode cX7_read 32 = .ok (.lreturn, 1) := by decide +kernel
theorem dX7_read_33 : decode cX7_read 33 = .ok (.aload_n 0, 1) := by decide +kernel
theorem dX7_read_34 : decode cX7_read 34 = .ok (.getfield 42, 3) := by decide +kernel
theorem dX7_read_37 : decode cX7_read 37 = .ok (.iload_n 1, 1) := by decide +kernel
theorem dX7_read_38 : decode cX7_read 38 = .ok (.iaload, 1) := by decide +kernel
theorem dX7_read_39 : decode cX7_read 39 = .ok (.istore_n 2, 1) := by decide +kernel
theorem dX7_read_40 : decode cX7_read 40 = .ok (.iload_n 2, 1) := by decide +kernel
theorem dX7_read_41 : decode cX7_read 41 = .ok (.bipush 28, 2) := by decide +kernel
theorem dX7_read_43 : decode cX7_read 43 = .ok (.if_icmp .le 12, 3) := by decide +kernel
theorem dX7_read_46 : decode cX7_read 46 = .ok (.aload_n 0, 1) := by decide +kernel
theorem dX7_read_47 : decode cX7_read 47 = .ok (.ldc_w 298, 3) := by decide +kernel
theorem dX7_read_50 : decode cX7_read 50 = .ok (.invokevirtual 105, 3) := by decide +kernel
theorem dX7_read_53 : decode cX7_read 53 = .ok (.i2l, 1) := by decide +kernel
theorem dX7_read_54 : decode cX7_read 54 = .ok (.lreturn, 1) := by decide +kernel
theorem dX7_read_55 : decode cX7_read 55 = .ok (.aload_n 0, 1) := by decide +kernel
theorem dX7_read_56 : decode cX7_read 56 = .ok (.invokevirtual 113, 3) := by decide +kernel
theorem dX7_read_59 : decode cX7_read 59 = .ok (.aload_n 0, 1) := by decide +kernel
theorem dX7_read_60 : decode cX7_read 60 = .ok (.invokevirtual 120, 3) := by decide +kernel
theorem dX7_read_63 : decode cX7_read 63 = .ok (.istore_n 3, 1) := by decide +kernel
theorem dX7_read_64 : decode cX7_read 64 = .ok (.iconst 0, 1) := by decide +kernel
theorem dX7_read_65 : decode cX7_read 65 = .ok (.istore 4, 2) := by decide +kernel
theorem dX7_read_67 : decode cX7_read 67 = .ok (.iload 4, 2) := by decide +kernel
theorem dX7_read_69 : decode cX7_read 69 = .ok (.iload_n 3, 1) := by decide +kernel
theorem dX7_read_70 : decode cX7_read 70 = .ok (.if_icmp .gt 17, 3) := by decide +kernel
theorem dX7_read_73 : decode cX7_read 73 = .ok (.aload_n 0, 1) := by decide +kernel
theorem dX7_read_74 : decode cX7_read 74 = .ok (.getfield 22, 3) := by decide +kernel
theorem dX7_read_77 : decode cX7_read 77 = .ok (.iload 4, 2) := by decide +kernel
theorem dX7_read_79 : decode cX7_read 79 = .ok (.lconst 0, 1) := by decide +kernel
theorem dX7_read_80 : decode cX7_read 80 = .ok (.lastore, 1) := by decide +kernel
theorem dX7_read_81 : decode cX7_read 81 = .ok (.iinc 4 1, 3) := by decide +kernel
theorem dX7_read_84 : decode cX7_read 84 = .ok (.goto (-17), 3) := by decide +kernel
theorem dX7_read_87 : decode cX7_read 87 = .ok (.aload_n 0, 1) := by decide +kernel
theorem dX7_read_88 : decode cX7_read 88 = .ok (.getfield 22, 3) := by decide +kernel
theorem dX7_read_91 : decode cX7_read 91 = .ok (.iload_n 3, 1) := by decide +kernel
theorem dX7_read_92 : decode cX7_read 92 = .ok (.lconst 1, 1) := by decide +kernel
theorem dX7_read_93 : decode cX7_read 93 = .ok (.lastore, 1) := by decide +kernel
theorem dX7_read_94 : decode cX7_read 94 = .ok (.lconst 0, 1) := by decide +kernel
theorem dX7_read_95 : decode cX7_read 95 = .ok (.lstore 4, 2) := by decide +kernel
theorem dX7_read_97 : decode cX7_read 97 = .ok (.iload_n 3, 1) := by decide +kernel
theorem dX7_read_98 : decode cX7_read 98 = .ok (.istore 6, 2) := by decide +kernel
theorem dX7_read_100 : decode cX7_read 100 = .ok (.iload 6, 2) := by decide +kernel
theorem dX7_read_102 : decode cX7_read 102 = .ok (.ifCond .lt 148, 3) := by decide +kernel
theorem dX7_read_105 : decode cX7_read 105 = .ok (.iload_n 3, 1) := by decide +kernel
theorem dX7_read_106 : decode cX7_read 106 = .ok (.invokestatic 132, 3) := by decide +kernel
theorem dX7_read_109 : decode cX7_read 109 = .ok (.iload 6, 2) := by decide +kernel
theorem dX7_read_111 : decode cX7_read 111 = .ok (.invokestatic 132, 3) := by decide +kernel
theorem dX7_read_114 : decode cX7_read 114 = .ok (.isub, 1) := by decide +kernel
theorem dX7_read_115 : decode cX7_read 115 = .ok (.istore 7, 2) := by decide +kernel
theorem dX7_read_117 : decode cX7_read 117 = .ok (.lload 4, 2) := by decide +kernel
theorem dX7_read_119 : decode cX7_read 119 = .ok (.iload 7, 2) := by decide +kernel
theorem dX7_read_121 : decode cX7_read 121 = .ok (.iload_n 2, 1) := by decide +kernel
theorem dX7_read_122 : decode cX7_read 122 = .ok (.if_icmp .ne 13, 3) := by decide +kernel
theorem dX7_read_125 : decode cX7_read 125 = .ok (.aload_n 0, 1) := by decide +kernel
theorem dX7_read_126 : decode cX7_read 126 = .ok (.getfield 22, 3) := by decide +kernel
theorem dX7_read_129 : decode cX7_read 129 = .ok (.iload 6, 2) := by decide +kernel
theorem dX7_read_131 : decode cX7_read 131 = .ok (.laload, 1) := by decide +kernel
theorem dX7_read_132 : decode cX7_read 132 = .ok (.goto 4, 3) := by decide +kernel
theorem dX7_read_135 : decode cX7_read 135 = .ok (.lconst 0, 1) := by decide +kernel
theorem dX7_read_136 : decode cX7_read 136 = .ok (.ladd, 1) := by decide +kernel
theorem dX7_read_137 : decode cX7_read 137 = .ok (.lstore 4, 2) := by decide +kernel
theorem dX7_read_139 : decode cX7_read 139 = .ok (.iconst 0, 1) := by decide +kernel
theorem dX7_read_140 : decode cX7_read 140 = .ok (.istore 8, 2) := by decide +kernel
theorem dX7_read_142 : decode cX7_read 142 = .ok (.iload 8, 2) := by decide +kernel
theorem dX7_read_144 : decode cX7_read 144 = .ok (.iconst 4, 1) := by decide +kernel
theorem dX7_read_145 : decode cX7_read 145 = .ok (.if_icmp .ge 99, 3) := by decide +kernel
theorem dX7_read_148 : decode cX7_read 148 = .ok (.iload 7, 2) := by decide +kernel
theorem dX7_read_150 : decode cX7_read 150 = .ok (.iload_n 2, 1) := by decide +kernel
theorem dX7_read_151 : decode cX7_read 151 = .ok (.if_icmp .ge 93, 3) := by decide +kernel
theorem dX7_read_154 : decode cX7_read 154 = .ok (.aload_n 0, 1) := by decide +kernel
theorem dX7_read_155 : decode cX7_read 155 = .ok (.getfield 22, 3) := by decide +kernel
theorem dX7_read_158 : decode cX7_read 158 = .ok (.iload 6, 2) := by decide +kernel
theorem dX7_read_160 : decode cX7_read 160 = .ok (.laload, 1) := by decide +kernel
theorem dX7_read_161 : decode cX7_read 161 = .ok (.lconst 0, 1) := by decide +kernel
theorem dX7_read_162 : decode cX7_read 162 = .ok (.lcmp, 1) := by decide +kernel
theorem dX7_read_163 : decode cX7_read 163 = .ok (.ifCond .le 81, 3) := by decide +kernel
theorem dX7_read_166 : decode cX7_read 166 = .ok (.aload_n 0, 1) := by decide +kernel
theorem dX7_read_167 : decode cX7_read 167 = .ok (.iload 6, 2) := by decide +kernel
theorem dX7_read_169 : decode cX7_read 169 = .ok (.iload 8, 2) := by decide +kernel
theorem dX7_read_171 : decode cX7_read 171 = .ok (.invokevirtual 139, 3) := by decide +kernel
theorem dX7_read_174 : decode cX7_read 174 = .ok (.ifCond .eq 64, 3) := by decide +kernel
theorem dX7_read_177 : decode cX7_read 177 = .ok (.aload_n 0, 1) := by decide +kernel
theorem dX7_read_178 : decode cX7_read 178 = .ok (.iload 8, 2) := by decide +kernel
theorem dX7_read_180 : decode cX7_read 180 = .ok (.aload_n 0, 1) := by decide +kernel
theorem dX7_read_181 : decode cX7_read 181 = .ok (.iload 8, 2) := by decide +kernel
theorem dX7_read_183 : decode cX7_read 183 = .ok (.invokevirtual 66, 3) := by decide +kernel
theorem dX7_read_186 : decode cX7_read 186 = .ok (.iload 6, 2) := by decide +kernel
theorem dX7_read_188 : decode cX7_read 188 = .ok (.iload 8, 2) := by decide +kernel
theorem dX7_read_190 : decode cX7_read 190 = .ok (.invokestatic 77, 3) := by decide +kernel
theorem dX7_read_193 : decode cX7_read 193 = .ok (.isub, 1) := by decide +kernel
theorem dX7_read_194 : decode cX7_read 194 = .ok (.invokevirtual 84, 3) := by decide +kernel
theorem dX7_read_197 : decode cX7_read 197 = .ok (.i2l, 1) := by decide +kernel
theorem dX7_read_198 : decode cX7_read 198 = .ok (.aload_n 0, 1) := by decide +kernel
theorem dX7_read_199 : decode cX7_read 199 = .ok (.getfield 45, 3) := by decide +kernel
theorem dX7_read_202 : decode cX7_read 202 = .ok (.bipush 40, 2) := by decide +kernel
theorem dX7_read_204 : decode cX7_read 204 = .ok (.iload_n 1, 1) := by decide +kernel
theorem dX7_read_205 : decode cX7_read 205 = .ok (.imul, 1) := by decide +kernel
theorem dX7_read_206 : decode cX7_read 206 = .ok (.iload 7, 2) := by decide +kernel
theorem dX7_read_208 : decode cX7_read 208 = .ok (.iadd, 1) := by decide +kernel
theorem dX7_read_209 : decode cX7_read 209 = .ok (.laload, 1) := by decide +kernel
theorem dX7_read_210 : decode cX7_read 210 = .ok (.lcmp, 1) := by decide +kernel
theorem dX7_read_211 : decode cX7_read 211 = .ok (.ifCond .ne 27, 3) := by decide +kernel
theorem dX7_read_214 : decode cX7_read 214 = .ok (.aload_n 0, 1) := by decide +kernel
theorem dX7_read_215 : decode cX7_read 215 = .ok (.getfield 22, 3) := by decide +kernel
theorem dX7_read_218 : decode cX7_read 218 = .ok (.iload 6, 2) := by decide +kernel
theorem dX7_read_220 : decode cX7_read 220 = .ok (.iconst 1, 1) := by decide +kernel
theorem dX7_read_221 : decode cX7_read 221 = .ok (.iconst 3, 1) := by decide +kernel
theorem dX7_read_222 : decode cX7_read 222 = .ok (.iload 8, 2) := by decide +kernel
theorem dX7_read_224 : decode cX7_read 224 = .ok (.imul, 1) := by decide +kernel
theorem dX7_read_225 : decode cX7_read 225 = .ok (.ishl, 1) := by decide +kernel
theorem dX7_read_226 : decode cX7_read 226 = .ok (.isub, 1) := by decide +kernel
theorem dX7_read_227 : decode cX7_read 227 = .ok (.dup2, 1) := by decide +kernel
theorem dX7_read_228 : decode cX7_read 228 = .ok (.laload, 1) := by decide +kernel
theorem dX7_read_229 : decode cX7_read 229 = .ok (.aload_n 0, 1) := by decide +kernel
theorem dX7_read_230 : decode cX7_read 230 = .ok (.getfield 22, 3) := by decide +kernel
theorem dX7_read_233 : decode cX7_read 233 = .ok (.iload 6, 2) := by decide +kernel
theorem dX7_read_235 : decode cX7_read 235 = .ok (.laload, 1) := by decide +kernel
theorem dX7_read_236 : decode cX7_read 236 = .ok (.ladd, 1) := by decide +kernel
theorem dX7_read_237 : decode cX7_read 237 = .ok (.lastore, 1) := by decide +kernel
theorem dX7_read_238 : decode cX7_read 238 = .ok (.iinc 8 1, 3) := by decide +kernel
theorem dX7_read_241 : decode cX7_read 241 = .ok (.goto (-99), 3) := by decide +kernel
theorem dX7_read_244 : decode cX7_read 244 = .ok (.iinc 6 (-1), 3) := by decide +kernel
theorem dX7_read_247 : decode cX7_read 247 = .ok (.goto (-147), 3) := by decide +kernel
theorem dX7_read_250 : decode cX7_read 250 = .ok (.lload 4, 2) := by decide +kernel
theorem dX7_read_252 : decode cX7_read 252 = .ok (.lreturn, 1) := by decide +kernel
def rmX7_read : Room := { frames := 5, cells := 0, slots := 0, locals := 112 }
abbrev eX7_read := Ev cX7_read 9 (some .long) RX7 rmX7_read
set_option maxRecDepth 20000 in
theorem ev_X7_read_l67 (l1 : Int32) (l2 : Int32) (l3 : Int32)  (K : St → Prop) (Q : Int64 → St → Prop) (hK : ∀  s, K  s → eX7_read 87 [.ref (49), .int (l1), .int (l2), .int (l3), un, un, un, un, un] [] s (qL Q)) : ∀ (n : Nat) (l4 : Int32) (σ : St), P_X7_read_l67 l1 l2 l3 K Q n l4 σ → eX7_read 67 [.ref (49), .int (l1), .int (l2), .int (l3), .int (l4), un, un, un, un] [] σ (qL Q) := by
  intro n
  induction n with
  | zero => intro l4 σ hP; exact hP.elim
  | succ n ih =>
    intro l4 σ hP
    rw [P_X7_read_l67] at hP
    refine E_iload dX7_read_67 rfl ?_
    refine E_iload_n dX7_read_69 rfl ?_
    refine E_icmp_gt 87 dX7_read_70 (by decide) (fun hc => ?_) (fun hc => ?_)
    · replace hP := hP.1 hc
      refine E_mask [true, true, true, true, false, false, false, false, false] rfl ?_
      exact hK  _ hP
    · replace hP := hP.2 hc
      refine E_aload_n dX7_read_73 rfl ?_
      refine E_getR (j := 4) dX7_read_74 (show kd 49 = 7 by decide) (by decide) rfl fd_RX7_22 (by decide) ?_
      refine E_iload dX7_read_77 rfl ?_
      refine E_lconst (v := 0) dX7_read_79 (by decide) ?_
      obtain ⟨hb, hP⟩ := hP
      refine E_last dX7_read_80 (ar_7_5 (show kd 49 = 7 by decide)).1 (ar_7_5 (show kd 49 = 7 by decide)).2 hb ?_
      refine E_iinc (ls' := [.ref (49), .int (l1), .int (l2), .int (l3), .int (l4 + 1), un, un, un, un]) dX7_read_81 rfl rfl (by decide) rfl ?_
      refine E_goto 67 dX7_read_84 (by decide) ?_
      exact ih (l4 + 1) _ hP
set_option maxRecDepth 20000 in
theorem ev_X7_read_l142 (l1 : Int32) (l2 : Int32) (l3 : Int32) (l4 : Int64) (l6 : Int32) (l7 : Int32)  (K : St → Prop) (Q : Int64 → St → Prop) (hK : ∀  s, K  s → eX7_read 244 [.ref (49), .int (l1), .int (l2), .int (l3), .long (l4), un, .int (l6), un, un] [] s (qL Q)) : ∀ (n : Nat) (l8 : Int32) (σ : St), P_X7_read_l142 l1 l2 l3 l4 l6 l7 K Q n l8 σ → eX7_read 142 [.ref (49), .int (l1), .int (l2), .int (l3), .long (l4), un, .int (l6), .int (l7), .int (l8)] [] σ (qL Q) := by
  intro n
  induction n with
  | zero => intro l8 σ hP; exact hP.elim
  | succ n ih =>
    intro l8 σ hP
    rw [P_X7_read_l142] at hP
    refine E_iload dX7_read_142 rfl ?_
    refine E_iconst (v := 4) dX7_read_144 (by decide) ?_
    refine E_icmp_ge 244 dX7_read_145 (by decide) (fun hc => ?_) (fun hc => ?_)
    · replace hP := hP.1 hc
      refine E_mask [true, true, true, true, true, false, true, false, false] rfl ?_
      exact hK  _ hP
    · replace hP := hP.2 hc
      refine E_iload dX7_read_148 rfl ?_
      refine E_iload_n dX7_read_150 rfl ?_
      refine E_icmp_ge 244 dX7_read_151 (by decide) (fun hc => ?_) (fun hc => ?_)
      · replace hP := hP.1 hc
        refine E_mask [true, true, true, true, true, false, true, false, false] rfl ?_
        exact hK  _ hP
      · replace hP := hP.2 hc
        refine E_aload_n dX7_read_154 rfl ?_
        refine E_getR (j := 4) dX7_read_155 (show kd 49 = 7 by decide) (by decide) rfl fd_RX7_22 (by decide) ?_
        refine E_iload dX7_read_158 rfl ?_
        obtain ⟨hb, hP⟩ := hP
        refine E_lald dX7_read_160 (ar_7_5 (show kd 49 = 7 by decide)).1 (ar_7_5 (show kd 49 = 7 by decide)).2 hb ?_
        refine E_lconst (v := 0) dX7_read_161 (by decide) ?_
        refine E_lcmp dX7_read_162 ?_
        refine E_if_le 244 dX7_read_163 (by decide) (fun hc => ?_) (fun hc => ?_)
        · replace hP := hP.1 hc
          refine E_mask [true, true, true, true, true, false, true, false, false] rfl ?_
          exact hK  _ hP
        · replace hP := hP.2 hc
          refine E_aload_n dX7_read_166 rfl ?_
          refine E_iload dX7_read_167 rfl ?_
          refine E_iload dX7_read_169 rfl ?_
          refine E_callV (As := [.int (l6), .int (l8)]) (rest := []) dX7_read_171 cl_RX7_139 tw_548 (show kd 49 = 7 by decide) (by decide) rfl tw_549 ⟨rfl, rfl, Nat.le_of_ble_eq_true rfl, Nat.le_of_ble_eq_true rfl⟩ rfl rfl (Nat.le_of_ble_eq_true rfl) (mt_X7_canPull _ _ _ _  hP) ?_
          intro r0 s0 hq0; obtain ⟨r171, h0, hs0, hP⟩ := hq0; subst h0; rw [hs0]
          show eX7_read 174 [.ref (49), .int (l1), .int (l2), .int (l3), .long (l4), un, .int (l6), .int (l7), .int (l8)] [.int (bI r171)] σ _
          refine E_ifz_eq 238 dX7_read_174 (by decide) (fun hc => ?_) (fun hc => ?_)
          · replace hP := hP.1 hc
            refine E_iinc (ls' := [.ref (49), .int (l1), .int (l2), .int (l3), .long (l4), un, .int (l6), .int (l7), .int (l8 + 1)]) dX7_read_238 rfl rfl (by decide) rfl ?_
            refine E_goto 142 dX7_read_241 (by decide) ?_
            exact ih (l8 + 1) _ hP
          · replace hP := hP.2 hc
            refine E_aload_n dX7_read_177 rfl ?_
            refine E_iload dX7_read_178 rfl ?_
            refine E_aload_n dX7_read_180 rfl ?_
            refine E_iload dX7_read_181 rfl ?_
            refine E_callV (As := [.int (l8)]) (rest := [.int (l8), .ref (49)]) dX7_read_183 cl_RX7_66 tw_460 (show kd 49 = 7 by decide) (by decide) rfl tw_461 ⟨rfl, rfl, Nat.le_of_ble_eq_true rfl, Nat.le_of_ble_eq_true rfl⟩ rfl rfl (Nat.le_of_ble_eq_true rfl) (mt_X7_many _ _ _  hP) ?_
            intro r0 s0 hq0; obtain ⟨r183, h0, hs0, hP⟩ := hq0; subst h0; rw [hs0]
            show eX7_read 186 [.ref (49), .int (l1), .int (l2), .int (l3), .long (l4), un, .int (l6), .int (l7), .int (l8)] [.int (r183), .int (l8), .ref (49)] σ _
            refine E_iload dX7_read_186 rfl ?_
            refine E_iload dX7_read_188 rfl ?_
            refine E_callS (As := [.int (l6), .int (l8)]) (rest := [.int (r183), .int (l8), .ref (49)]) dX7_read_190 cl_RX7_77 tw_474 ⟨rfl, rfl, Nat.le_of_ble_eq_true rfl, Nat.le_of_ble_eq_true rfl⟩ rfl rfl (Nat.le_of_ble_eq_true rfl) (mt_X7_left _ _ _ _  hP) ?_
            intro r0 s0 hq0; obtain ⟨r190, h0, hs0, hP⟩ := hq0; subst h0; rw [hs0]
            show eX7_read 193 [.ref (49), .int (l1), .int (l2), .int (l3), .long (l4), un, .int (l6), .int (l7), .int (l8)] [.int (r190), .int (r183), .int (l8), .ref (49)] σ _
            refine E_isub dX7_read_193 ?_
            refine E_callV (As := [.int (l8), .int (r183 - r190)]) (rest := []) dX7_read_194 cl_RX7_84 tw_483 (show kd 49 = 7 by decide) (by decide) rfl tw_484 ⟨rfl, rfl, Nat.le_of_ble_eq_true rfl, Nat.le_of_ble_eq_true rfl⟩ rfl rfl (Nat.le_of_ble_eq_true rfl) (mt_X7_coin _ _ _ _  hP) ?_
            intro r0 s0 hq0; obtain ⟨r194, h0, hs0, hP⟩ := hq0; subst h0; rw [hs0]
            show eX7_read 197 [.ref (49), .int (l1), .int (l2), .int (l3), .long (l4), un, .int (l6), .int (l7), .int (l8)] [.int (r194)] σ _
            refine E_i2l dX7_read_197 ?_
            refine E_aload_n dX7_read_198 rfl ?_
            refine E_getR (j := 18) dX7_read_199 (show kd 49 = 7 by decide) (by decide) rfl fd_RX7_45 (by decide) ?_
            refine E_bipush (v := 40) dX7_read_202 (by decide) ?_
            refine E_iload_n dX7_read_204 rfl ?_
            refine E_imul dX7_read_205 ?_
            refine E_iload dX7_read_206 rfl ?_
            refine E_iadd dX7_read_208 ?_
            obtain ⟨hb, hP⟩ := hP
            refine E_lald dX7_read_209 (ar_7_12 (show kd 49 = 7 by decide)).1 (ar_7_12 (show kd 49 = 7 by decide)).2 hb ?_
            refine E_lcmp dX7_read_210 ?_
            refine E_if_ne 238 dX7_read_211 (by decide) (fun hc => ?_) (fun hc => ?_)
            · replace hP := hP.1 hc
              refine E_iinc (ls' := [.ref (49), .int (l1), .int (l2), .int (l3), .long (l4), un, .int (l6), .int (l7), .int (l8 + 1)]) dX7_read_238 rfl rfl (by decide) rfl ?_
              refine E_goto 142 dX7_read_241 (by decide) ?_
              exact ih (l8 + 1) _ hP
            · replace hP := hP.2 hc
              refine E_aload_n dX7_read_214 rfl ?_
              refine E_getR (j := 4) dX7_read_215 (show kd 49 = 7 by decide) (by decide) rfl fd_RX7_22 (by decide) ?_
              refine E_iload dX7_read_218 rfl ?_
              refine E_iconst (v := 1) dX7_read_220 (by decide) ?_
              refine E_iconst (v := 3) dX7_read_221 (by decide) ?_
              refine E_iload dX7_read_222 rfl ?_
              refine E_imul dX7_read_224 ?_
              refine E_ishl dX7_read_225 ?_
              refine E_isub dX7_read_226 ?_
              refine E_dup2 dX7_read_227 rfl rfl ?_
              obtain ⟨hb, hP⟩ := hP
              refine E_lald dX7_read_228 (ar_7_5 (show kd 49 = 7 by decide)).1 (ar_7_5 (show kd 49 = 7 by decide)).2 hb ?_
              refine E_aload_n dX7_read_229 rfl ?_
              refine E_getR (j := 4) dX7_read_230 (show kd 49 = 7 by decide) (by decide) rfl fd_RX7_22 (by decide) ?_
              refine E_iload dX7_read_233 rfl ?_
              obtain ⟨hb, hP⟩ := hP
              refine E_lald dX7_read_235 (ar_7_5 (show kd 49 = 7 by decide)).1 (ar_7_5 (show kd 49 = 7 by decide)).2 hb ?_
              refine E_ladd dX7_read_236 ?_
              obtain ⟨hb, hP⟩ := hP
              refine E_last dX7_read_237 (ar_7_5 (show kd 49 = 7 by decide)).1 (ar_7_5 (show kd 49 = 7 by decide)).2 hb ?_
              refine E_iinc (ls' := [.ref (49), .int (l1), .int (l2), .int (l3), .long (l4), un, .int (l6), .int (l7), .int (l8 + 1)]) dX7_read_238 rfl rfl (by decide) rfl ?_
              refine E_goto 142 dX7_read_241 (by decide) ?_
              exact ih (l8 + 1) _ hP
set_option maxRecDepth 20000 in
theorem ev_X7_read_l100 (l1 : Int32) (l2 : Int32) (l3 : Int32)  (K : Int64 → St → Prop) (Q : Int64 → St → Prop) (hK : ∀ k4 s, K k4 s → eX7_read 250 [un, un, un, un, .long (k4), un, un, un, un] [] s (qL Q)) : ∀ (n : Nat) (l4 : Int64) (l6 : Int32) (σ : St), P_X7_read_l100 l1 l2 l3 K Q n l4 l6 σ → eX7_read 100 [.ref (49), .int (l1), .int (l2), .int (l3), .long (l4), un, .int (l6), un, un] [] σ (qL Q) := by
  intro n
  induction n with
  | zero => intro l4 l6 σ hP; exact hP.elim
  | succ n ih =>
    intro l4 l6 σ hP
    rw [P_X7_read_l100] at hP
    refine E_iload dX7_read_100 rfl ?_
    refine E_if_lt 250 dX7_read_102 (by decide) (fun hc => ?_) (fun hc => ?_)
    · replace hP := hP.1 hc
      refine E_mask [false, false, false, false, true, false, false, false, false] rfl ?_
      exact hK (l4) _ hP
    · replace hP := hP.2 hc
      refine E_iload_n dX7_read_105 rfl ?_
      refine E_callS (As := [.int (l3)]) (rest := []) dX7_read_106 cl_RX7_132 tw_540 ⟨rfl, rfl, Nat.le_of_ble_eq_true rfl, Nat.le_of_ble_eq_true rfl⟩ rfl rfl (Nat.le_of_ble_eq_true rfl) (mt_X7_stones _ _ _  hP) ?_
      intro r0 s0 hq0; obtain ⟨r106, h0, hs0, hP⟩ := hq0; subst h0; rw [hs0]
      show eX7_read 109 [.ref (49), .int (l1), .int (l2), .int (l3), .long (l4), un, .int (l6), un, un] [.int (r106)] σ _
      refine E_iload dX7_read_109 rfl ?_
      refine E_callS (As := [.int (l6)]) (rest := [.int (r106)]) dX7_read_111 cl_RX7_132 tw_540 ⟨rfl, rfl, Nat.le_of_ble_eq_true rfl, Nat.le_of_ble_eq_true rfl⟩ rfl rfl (Nat.le_of_ble_eq_true rfl) (mt_X7_stones _ _ _  hP) ?_
      intro r0 s0 hq0; obtain ⟨r111, h0, hs0, hP⟩ := hq0; subst h0; rw [hs0]
      show eX7_read 114 [.ref (49), .int (l1), .int (l2), .int (l3), .long (l4), un, .int (l6), un, un] [.int (r111), .int (r106)] σ _
      refine E_isub dX7_read_114 ?_
      refine E_istore (ls' := [.ref (49), .int (l1), .int (l2), .int (l3), .long (l4), un, .int (l6), .int (r106 - r111), un]) dX7_read_115 (by decide) rfl ?_
      refine E_lload dX7_read_117 rfl ?_
      refine E_iload dX7_read_119 rfl ?_
      refine E_iload_n dX7_read_121 rfl ?_
      refine E_icmp_ne 135 dX7_read_122 (by decide) (fun hc => ?_) (fun hc => ?_)
      · replace hP := hP.1 hc
        refine E_lconst (v := 0) dX7_read_135 (by decide) ?_
        refine E_ladd dX7_read_136 ?_
        refine E_lstore (ls' := [.ref (49), .int (l1), .int (l2), .int (l3), .long (l4 + 0), un, .int (l6), .int (r106 - r111), un]) dX7_read_137 (by decide) rfl ?_
        refine E_iconst (v := 0) dX7_read_139 (by decide) ?_
        refine E_istore (ls' := [.ref (49), .int (l1), .int (l2), .int (l3), .long (l4 + 0), un, .int (l6), .int (r106 - r111), .int (0)]) dX7_read_140 (by decide) rfl ?_
        obtain ⟨m142, hP⟩ := hP
        refine ev_X7_read_l142 (l1) (l2) (l3) (l4 + 0) (l6) (r106 - r111)  _ Q ?_ m142 _ _ hP
        intro  t244 hP
        refine E_iinc (ls' := [.ref (49), .int (l1), .int (l2), .int (l3), .long (l4 + 0), un, .int (l6 + (-1)), un, un]) dX7_read_244 rfl rfl (by decide) rfl ?_
        refine E_goto 100 dX7_read_247 (by decide) ?_
        exact ih (l4 + 0) (l6 + (-1)) _ hP
      · replace hP := hP.2 hc
        refine E_aload_n dX7_read_125 rfl ?_
        refine E_getR (j := 4) dX7_read_126 (show kd 49 = 7 by decide) (by decide) rfl fd_RX7_22 (by decide) ?_
        refine E_iload dX7_read_129 rfl ?_
        obtain ⟨hb, hP⟩ := hP
        refine E_lald dX7_read_131 (ar_7_5 (show kd 49 = 7 by decide)).1 (ar_7_5 (show kd 49 = 7 by decide)).2 hb ?_
        refine E_goto 136 dX7_read_132 (by decide) ?_
        refine E_ladd dX7_read_136 ?_
        refine E_lstore (ls' := [.ref (49), .int (l1), .int (l2), .int (l3), .long (l4 + (gL σ 54 l6.toNatClampNeg)), un, .int (l6), .int (r106 - r111), un]) dX7_read_137 (by decide) rfl ?_
        refine E_iconst (v := 0) dX7_read_139 (by decide) ?_
        refine E_istore (ls' := [.ref (49), .int (l1), .int (l2), .int (l3), .long (l4 + (gL σ 54 l6.toNatClampNeg)), un, .int (l6), .int (r106 - r111), .int (0)]) dX7_read_140 (by decide) rfl ?_
        obtain ⟨m142, hP⟩ := hP
        refine ev_X7_read_l142 (l1) (l2) (l3) (l4 + (gL σ 54 l6.toNatClampNeg)) (l6) (r106 - r111)  _ Q ?_ m142 _ _ hP
        intro  t244 hP
        refine E_iinc (ls' := [.ref (49), .int (l1), .int (l2), .int (l3), .long (l4 + (gL σ 54 l6.toNatClampNeg)), un, .int (l6 + (-1)), un, un]) dX7_read_244 rfl rfl (by decide) rfl ?_
        refine E_goto 100 dX7_read_247 (by decide) ?_
        exact ih (l4 + (gL σ 54 l6.toNatClampNeg)) (l6 + (-1)) _ hP
set_option maxRecDepth 20000 in
theorem mt_X7_read (p0 : Int32) (σ : St) (Q : Int64 → St → Prop)  (hP : P_X7_read p0 σ Q) : Mt yX7_read cX7_read 9 (some .long) rmX7_read [.ref (49), .int (p0)] σ (qL Q) := by
  refine Mt.of (k := 7) (ls := [.ref (49), .int (p0), un, un, un, un, un, un, un]) (by decide +kernel) rfl (Nat.le_of_ble_eq_true rfl) ?_
  show eX7_read 0 [.ref (49), .int (p0), un, un, un, un, un, un, un] [] σ _
  unfold P_X7_read at hP
  refine E_iload_n dX7_read_0 rfl ?_
  refine E_callS (As := [.int (p0)]) (rest := []) dX7_read_1 cl_RX7_295 tw_705 ⟨rfl, rfl, Nat.le_of_ble_eq_true rfl, Nat.le_of_ble_eq_true rfl⟩ rfl rfl (Nat.le_of_ble_eq_true rfl) (mt_X7_isSheet _ _ _  hP) ?_
  intro r0 s0 hq0; obtain ⟨r1, h0, hs0, hP⟩ := hq0; subst h0; rw [hs0]
  show eX7_read 4 [.ref (49), .int (p0), un, un, un, un, un, un, un] [.int (bI r1)] σ _
  refine E_ifz_ne 15 dX7_read_4 (by decide) (fun hc => ?_) (fun hc => ?_)
  · replace hP := hP.1 hc
    refine E_aload_n dX7_read_15 rfl ?_
    refine E_getR (j := 16) dX7_read_16 (show kd 49 = 7 by decide) (by decide) rfl fd_RX7_39 (by decide) ?_
    refine E_iload_n dX7_read_19 rfl ?_
    obtain ⟨hb, hP⟩ := hP
    refine E_iald dX7_read_20 (ar_7_10 (show kd 49 = 7 by decide)).1 (ar_7_10 (show kd 49 = 7 by decide)).2 hb ?_
    refine E_if_ne 33 dX7_read_21 (by decide) (fun hc => ?_) (fun hc => ?_)
    · replace hP := hP.1 hc
      refine E_aload_n dX7_read_33 rfl ?_
      refine E_getR (j := 17) dX7_read_34 (show kd 49 = 7 by decide) (by decide) rfl fd_RX7_42 (by decide) ?_
      refine E_iload_n dX7_read_37 rfl ?_
      obtain ⟨hb, hP⟩ := hP
      refine E_iald dX7_read_38 (ar_7_11 (show kd 49 = 7 by decide)).1 (ar_7_11 (show kd 49 = 7 by decide)).2 hb ?_
      refine E_istore_n (ls' := [.ref (49), .int (p0), .int (gI σ 60 p0.toNatClampNeg), un, un, un, un, un, un]) dX7_read_39 (by decide) rfl ?_
      refine E_iload_n dX7_read_40 rfl ?_
      refine E_bipush (v := 28) dX7_read_41 (by decide) ?_
      refine E_icmp_le 55 dX7_read_43 (by decide) (fun hc => ?_) (fun hc => ?_)
      · replace hP := hP.1 hc
        refine E_aload_n dX7_read_55 rfl ?_
        refine E_callV (As := []) (rest := []) dX7_read_56 cl_RX7_113 tw_519 (show kd 49 = 7 by decide) (by decide) rfl tw_520 ⟨rfl, rfl, Nat.le_of_ble_eq_true rfl, Nat.le_of_ble_eq_true rfl⟩ rfl rfl (Nat.le_of_ble_eq_true rfl) (mt_X7_findTops  _ _  hP) ?_
        rintro _ t56 ⟨rfl, hP⟩
        show eX7_read 59 [.ref (49), .int (p0), .int (gI σ 60 p0.toNatClampNeg), un, un, un, un, un, un] [] t56 _
        refine E_aload_n dX7_read_59 rfl ?_
        refine E_callV (As := []) (rest := []) dX7_read_60 cl_RX7_120 tw_523 (show kd 49 = 7 by decide) (by decide) rfl tw_524 ⟨rfl, rfl, Nat.le_of_ble_eq_true rfl, Nat.le_of_ble_eq_true rfl⟩ rfl rfl (Nat.le_of_ble_eq_true rfl) (mt_X7_standNow  _ _  hP) ?_
        intro r0 s0 hq0; obtain ⟨r60, h0, hs0, hP⟩ := hq0; subst h0; rw [hs0]
        show eX7_read 63 [.ref (49), .int (p0), .int (gI σ 60 p0.toNatClampNeg), un, un, un, un, un, un] [.int (r60)] t56 _
        refine E_istore_n (ls' := [.ref (49), .int (p0), .int (gI σ 60 p0.toNatClampNeg), .int (r60), un, un, un, un, un]) dX7_read_63 (by decide) rfl ?_
        refine E_iconst (v := 0) dX7_read_64 (by decide) ?_
        refine E_istore (ls' := [.ref (49), .int (p0), .int (gI σ 60 p0.toNatClampNeg), .int (r60), .int (0), un, un, un, un]) dX7_read_65 (by decide) rfl ?_
        obtain ⟨m67, hP⟩ := hP
        refine ev_X7_read_l67 (p0) (gI σ 60 p0.toNatClampNeg) (r60)  _ Q ?_ m67 _ _ hP
        intro  t87 hP
        refine E_aload_n dX7_read_87 rfl ?_
        refine E_getR (j := 4) dX7_read_88 (show kd 49 = 7 by decide) (by decide) rfl fd_RX7_22 (by decide) ?_
        refine E_iload_n dX7_read_91 rfl ?_
        refine E_lconst (v := 1) dX7_read_92 (by decide) ?_
        obtain ⟨hb, hP⟩ := hP
        refine E_last dX7_read_93 (ar_7_5 (show kd 49 = 7 by decide)).1 (ar_7_5 (show kd 49 = 7 by decide)).2 hb ?_
        refine E_lconst (v := 0) dX7_read_94 (by decide) ?_
        refine E_lstore (ls' := [.ref (49), .int (p0), .int (gI σ 60 p0.toNatClampNeg), .int (r60), .long (0), un, un, un, un]) dX7_read_95 (by decide) rfl ?_
        refine E_iload_n dX7_read_97 rfl ?_
        refine E_istore (ls' := [.ref (49), .int (p0), .int (gI σ 60 p0.toNatClampNeg), .int (r60), .long (0), un, .int (r60), un, un]) dX7_read_98 (by decide) rfl ?_
        obtain ⟨m100, hP⟩ := hP
        refine ev_X7_read_l100 (p0) (gI σ 60 p0.toNatClampNeg) (r60)  _ Q ?_ m100 _ _ _ hP
        intro k4 t250 hP
        refine E_lload dX7_read_250 rfl ?_
        exact E_lret dX7_read_252 rfl ⟨_, rfl, hP⟩
      · replace hP := hP.2 hc
        refine E_aload_n dX7_read_46 rfl ?_
        refine E_ldcw (v := (-1000000007)) dX7_read_47 tw_702 ?_
        refine E_callV (As := [.int ((-1000000007))]) (rest := []) dX7_read_50 cl_RX7_105 tw_507 (show kd 49 = 7 by decide) (by decide) rfl tw_508 ⟨rfl, rfl, Nat.le_of_ble_eq_true rfl, Nat.le_of_ble_eq_true rfl⟩ rfl rfl (Nat.le_of_ble_eq_true rfl) (mt_X7_finds _ _ _  hP) ?_
        rintro _ t50 ⟨r50, rfl, hP⟩
        show eX7_read 53 [.ref (49), .int (p0), .int (gI σ 60 p0.toNatClampNeg), un, un, un, un, un, un] [.int (r50)] t50 _
        refine E_i2l dX7_read_53 ?_
        exact E_lret dX7_read_54 rfl ⟨_, rfl, hP⟩
    · replace hP := hP.2 hc
      refine E_aload_n dX7_read_24 rfl ?_
      refine E_ldcw (v := (-1000000006)) dX7_read_25 tw_709 ?_
      refine E_callV (As := [.int ((-1000000006))]) (rest := []) dX7_read_28 cl_RX7_105 tw_507 (show kd 49 = 7 by decide) (by decide) rfl tw_508 ⟨rfl, rfl, Nat.le_of_ble_eq_true rfl, Nat.le_of_ble_eq_true rfl⟩ rfl rfl (Nat.le_of_ble_eq_true rfl) (mt_X7_finds _ _ _  hP) ?_
      rintro _ t28 ⟨r28, rfl, hP⟩
      show eX7_read 31 [.ref (49), .int (p0), un, un, un, un, un, un, un] [.int (r28)] t28 _
      refine E_i2l dX7_read_31 ?_
      exact E_lret dX7_read_32 rfl ⟨_, rfl, hP⟩
  · replace hP := hP.2 hc
    refine E_aload_n dX7_read_7 rfl ?_
    refine E_ldc (v := (-1000000001)) dX7_read_8 tw_452 ?_
    refine E_callV (As := [.int ((-1000000001))]) (rest := []) dX7_read_10 cl_RX7_105 tw_507 (show kd 49 = 7 by decide) (by decide) rfl tw_508 ⟨rfl, rfl, Nat.le_of_ble_eq_true rfl, Nat.le_of_ble_eq_true rfl⟩ rfl rfl (Nat.le_of_ble_eq_true rfl) (mt_X7_finds _ _ _  hP) ?_
    rintro _ t10 ⟨r10, rfl, hP⟩
    show eX7_read 13 [.ref (49), .int (p0), un, un, un, un, un, un, un] [.int (r10)] t10 _
    refine E_i2l dX7_read_13 ?_
    exact E_lret dX7_read_14 rfl ⟨_, rfl, hP⟩
theorem dX7_image_0 : decode cX7_image 0 = .ok (.aload_n 0, 1) := by decide +kernel
theorem dX7_image_1 : decode cX7_image 1 = .ok (.iconst 1, 1) := by decide +kernel
theorem dX7_image_2 : decode cX7_image 2 = .ok (.aload_n 0, 1) := by decide +kernel
theorem dX7_image_3 : decode cX7_image 3 = .ok (.getfield 51, 3) := by decide +kernel
theorem dX7_image_6 : decode cX7_image 6 = .ok (.invokevirtual 288, 3) := by decide +kernel
theorem dX7_image_9 : decode cX7_image 9 = .ok (.aload_n 0, 1) := by decide +kernel
theorem dX7_image_10 : decode cX7_image 10 = .ok (.iconst 1, 1) := by decide +kernel
theorem dX7_image_11 : decode cX7_image 11 = .ok (.putfield 309, 3) := by decide +kernel
theorem dX7_image_14 : decode cX7_image 14 = .ok (.iconst 1, 1) := by decide +kernel
theorem dX7_image_15 : decode cX7_image 15 = .ok (.ireturn, 1) := by decide +kernel
def rmX7_image : Room := { frames := 1, cells := 0, slots := 0, locals := 23 }
abbrev eX7_image := Ev cX7_image 1 (some .int) RX7 rmX7_image
set_option maxRecDepth 20000 in
theorem mt_X7_image  (σ : St) (Q : Int32 → St → Prop)  (hP : P_X7_image  σ Q) : Mt yX7_image cX7_image 1 (some .int) rmX7_image [.ref (49)] σ (qI Q) := by
  refine Mt.of (k := 0) (ls := [.ref (49)]) (by decide +kernel) rfl (Nat.le_of_ble_eq_true rfl) ?_
  show eX7_image 0 [.ref (49)] [] σ _
  unfold P_X7_image at hP
  refine E_aload_n dX7_image_0 rfl ?_
  refine E_iconst (v := 1) dX7_image_1 (by decide) ?_
  refine E_aload_n dX7_image_2 rfl ?_
  refine E_getR (j := 20) dX7_image_3 (show kd 49 = 7 by decide) (by decide) rfl fd_RX7_51 (by decide) ?_
  refine E_callV (As := [.int (bI true), .ref (63)]) (rest := []) dX7_image_6 cl_RX7_288 tw_697 (show kd 49 = 7 by decide) (by decide) rfl tw_698 ⟨rfl, rfl, Nat.le_of_ble_eq_true rfl, Nat.le_of_ble_eq_true rfl⟩ rfl rfl (Nat.le_of_ble_eq_true rfl) (mt_X7_moveAll _ _ _ _ (ar_7_14 (show kd 49 = 7 by decide)).1 hP) ?_
  rintro _ t6 ⟨rfl, hP⟩
  show eX7_image 9 [.ref (49)] [] t6 _
  refine E_aload_n dX7_image_9 rfl ?_
  refine E_iconst (v := 1) dX7_image_10 (by decide) ?_
  refine E_putZ (j := 22) dX7_image_11 (show kd 49 = 7 by decide) (by decide) rfl fd_RX7_309 fp_7_22 (Or.inr rfl) ?_
  refine E_iconst (v := 1) dX7_image_14 (by decide) ?_
  exact E_iret dX7_image_15 rfl ⟨_, rfl, hP⟩
theorem dX7_undo_0 : decode cX7_undo 0 = .ok (.aload_n 0, 1) := by decide +kernel
theorem dX7_undo_1 : decode cX7_undo 1 = .ok (.getfield 309, 3) := by decide +kernel
theorem dX7_undo_4 : decode cX7_undo 4 = .ok (.ifCond .ne 10, 3) := by decide +kernel
theorem dX7_undo_7 : decode cX7_undo 7 = .ok (.aload_n 0, 1) := by decide +kernel
theorem dX7_undo_8 : decode cX7_undo 8 = .ok (.ldc 170, 2) := by decide +kernel
theorem dX7_undo_10 : decode cX7_undo 10 = .ok (.invokevirtual 105, 3) := by decide +kernel
theorem dX7_undo_13 : decode cX7_undo 13 = .ok (.ireturn, 1) := by decide +kernel
theorem dX7_undo_14 : decode cX7_undo 14 = .ok (.aload_n 0, 1) := by decide +kernel
theorem dX7_undo_15 : decode cX7_undo 15 = .ok (.iconst 0, 1) := by decide +kernel
theorem dX7_undo_16 : decode cX7_undo 16 = .ok (.aload_n 0, 1) := by decide +kernel
theorem dX7_undo_17 : decode cX7_undo 17 = .ok (.getfield 51, 3) := by decide +kernel
theorem dX7_undo_20 : decode cX7_undo 20 = .ok (.invokevirtual 288, 3) := by decide +kernel
theorem dX7_undo_23 : decode cX7_undo 23 = .ok (.aload_n 0, 1) := by decide +kernel
theorem dX7_undo_24 : decode cX7_undo 24 = .ok (.invokevirtual 120, 3) := by decide +kernel
theorem dX7_undo_27 : decode cX7_undo 27 = .ok (.invokestatic 132, 3) := by decide +kernel
theorem dX7_undo_30 : decode cX7_undo 30 = .ok (.ireturn, 1) := by decide +kernel
def rmX7_undo : Room := { frames := 2, cells := 0, slots := 0, locals := 43 }
abbrev eX7_undo := Ev cX7_undo 1 (some .int) RX7 rmX7_undo
set_option maxRecDepth 20000 in
theorem mt_X7_undo  (σ : St) (Q : Int32 → St → Prop)  (hP : P_X7_undo  σ Q) : Mt yX7_undo cX7_undo 1 (some .int) rmX7_undo [.ref (49)] σ (qI Q) := by
  refine Mt.of (k := 0) (ls := [.ref (49)]) (by decide +kernel) rfl (Nat.le_of_ble_eq_true rfl) ?_
  show eX7_undo 0 [.ref (49)] [] σ _
  unfold P_X7_undo at hP
  refine E_aload_n dX7_undo_0 rfl ?_
  refine E_getZ (j := 22) dX7_undo_1 (show kd 49 = 7 by decide) (by decide) rfl fd_RX7_309 ?_
  refine E_if_ne 14 dX7_undo_4 (by decide) (fun hc => ?_) (fun hc => ?_)
  · replace hP := hP.1 hc
    refine E_aload_n dX7_undo_14 rfl ?_
    refine E_iconst (v := 0) dX7_undo_15 (by decide) ?_
    refine E_aload_n dX7_undo_16 rfl ?_
    refine E_getR (j := 20) dX7_undo_17 (show kd 49 = 7 by decide) (by decide) rfl fd_RX7_51 (by decide) ?_
    refine E_callV (As := [.int (bI false), .ref (63)]) (rest := []) dX7_undo_20 cl_RX7_288 tw_697 (show kd 49 = 7 by decide) (by decide) rfl tw_698 ⟨rfl, rfl, Nat.le_of_ble_eq_true rfl, Nat.le_of_ble_eq_true rfl⟩ rfl rfl (Nat.le_of_ble_eq_true rfl) (mt_X7_moveAll _ _ _ _ (ar_7_14 (show kd 49 = 7 by decide)).1 hP) ?_
    rintro _ t20 ⟨rfl, hP⟩
    show eX7_undo 23 [.ref (49)] [] t20 _
    refine E_aload_n dX7_undo_23 rfl ?_
    refine E_callV (As := []) (rest := []) dX7_undo_24 cl_RX7_120 tw_523 (show kd 49 = 7 by decide) (by decide) rfl tw_524 ⟨rfl, rfl, Nat.le_of_ble_eq_true rfl, Nat.le_of_ble_eq_true rfl⟩ rfl rfl (Nat.le_of_ble_eq_true rfl) (mt_X7_standNow  _ _  hP) ?_
    intro r0 s0 hq0; obtain ⟨r24, h0, hs0, hP⟩ := hq0; subst h0; rw [hs0]
    show eX7_undo 27 [.ref (49)] [.int (r24)] t20 _
    refine E_callS (As := [.int (r24)]) (rest := []) dX7_undo_27 cl_RX7_132 tw_540 ⟨rfl, rfl, Nat.le_of_ble_eq_true rfl, Nat.le_of_ble_eq_true rfl⟩ rfl rfl (Nat.le_of_ble_eq_true rfl) (mt_X7_stones _ _ _  hP) ?_
    intro r0 s0 hq0; obtain ⟨r27, h0, hs0, hP⟩ := hq0; subst h0; rw [hs0]
    show eX7_undo 30 [.ref (49)] [.int (r27)] t20 _
    exact E_iret dX7_undo_30 rfl ⟨_, rfl, hP⟩
  · replace hP := hP.2 hc
    refine E_aload_n dX7_undo_7 rfl ?_
    refine E_ldc (v := (-1000000004)) dX7_undo_8 tw_585 ?_
    refine E_callV (As := [.int ((-1000000004))]) (rest := []) dX7_undo_10 cl_RX7_105 tw_507 (show kd 49 = 7 by decide) (by decide) rfl tw_508 ⟨rfl, rfl, Nat.le_of_ble_eq_true rfl, Nat.le_of_ble_eq_true rfl⟩ rfl rfl (Nat.le_of_ble_eq_true rfl) (mt_X7_finds _ _ _  hP) ?_
    rintro _ t10 ⟨r10, rfl, hP⟩
    show eX7_undo 13 [.ref (49)] [.int (r10)] t10 _
    exact E_iret dX7_undo_13 rfl ⟨_, rfl, hP⟩
theorem dX7_tear_0 : decode cX7_tear 0 = .ok (.aload_n 0, 1) := by decide +kernel
theorem dX7_tear_1 : decode cX7_tear 1 = .ok (.getfield 309, 3) := by decide +kernel
theorem dX7_tear_4 : decode cX7_tear 4 = .ok (.ifCond .eq 7, 3) := by decide +kernel
theorem dX7_tear_7 : decode cX7_tear 7 = .ok (.iconst 1, 1) := by decide +kernel
theorem dX7_tear_8 : decode cX7_tear 8 = .ok (.goto 4, 3) := by decide +kernel
theorem dX7_tear_11 : decode cX7_tear 11 = .ok (.iconst 0, 1) := by decide +kernel
theorem dX7_tear_12 : decode cX7_tear 12 = .ok (.istore_n 1, 1) := by decide +kernel
theorem dX7_tear_13 : decode cX7_tear 13 = .ok (.aload_n 0, 1) := by decide +kernel
theorem dX7_tear_14 : decode cX7_tear 14 = .ok (.iconst 0, 1) := by decide +kernel
theorem dX7_tear_15 : decode cX7_tear 15 = .ok (.putfield 309, 3) := by decide +kernel
theorem dX7_tear_18 : decode cX7_tear 18 = .ok (.iload_n 1, 1) := by decide +kernel
theorem dX7_tear_19 : decode cX7_tear 19 = .ok (.ireturn, 1) := by decide +kernel
def rmX7_tear : Room := { frames := 0, cells := 0, slots := 0, locals := 0 }
abbrev eX7_tear := Ev cX7_tear 2 (some .int) RX7 rmX7_tear
set_option maxRecDepth 20000 in
theorem mt_X7_tear  (σ : St) (Q : Int32 → St → Prop)  (hP : P_X7_tear  σ Q) : Mt yX7_tear cX7_tear 2 (some .int) rmX7_tear [.ref (49)] σ (qI Q) := by
  refine Mt.of (k := 1) (ls := [.ref (49), un]) (by decide +kernel) rfl (Nat.le_of_ble_eq_true rfl) ?_
  show eX7_tear 0 [.ref (49), un] [] σ _
  unfold P_X7_tear at hP
  refine E_aload_n dX7_tear_0 rfl ?_
  refine E_getZ (j := 22) dX7_tear_1 (show kd 49 = 7 by decide) (by decide) rfl fd_RX7_309 ?_
  refine E_if_eq 11 dX7_tear_4 (by decide) (fun hc => ?_) (fun hc => ?_)
  · replace hP := hP.1 hc
    refine E_iconst (v := 0) dX7_tear_11 (by decide) ?_
    refine E_istore_n (ls' := [.ref (49), .int (0)]) dX7_tear_12 (by decide) rfl ?_
    refine E_aload_n dX7_tear_13 rfl ?_
    refine E_iconst (v := 0) dX7_tear_14 (by decide) ?_
    refine E_putZ (j := 22) dX7_tear_15 (show kd 49 = 7 by decide) (by decide) rfl fd_RX7_309 fp_7_22 (Or.inl rfl) ?_
    refine E_iload_n dX7_tear_18 rfl ?_
    exact E_iret dX7_tear_19 rfl ⟨_, rfl, hP⟩
  · replace hP := hP.2 hc
    refine E_iconst (v := 1) dX7_tear_7 (by decide) ?_
    refine E_goto 12 dX7_tear_8 (by decide) ?_
    refine E_istore_n (ls' := [.ref (49), .int (1)]) dX7_tear_12 (by decide) rfl ?_
    refine E_aload_n dX7_tear_13 rfl ?_
    refine E_iconst (v := 0) dX7_tear_14 (by decide) ?_
    refine E_putZ (j := 22) dX7_tear_15 (show kd 49 = 7 by decide) (by decide) rfl fd_RX7_309 fp_7_22 (Or.inl rfl) ?_
    refine E_iload_n dX7_tear_18 rfl ?_
    exact E_iret dX7_tear_19 rfl ⟨_, rfl, hP⟩
theorem dX7_count_0 : decode cX7_count 0 = .ok (.iload_n 1, 1) := by decide +kernel
theorem dX7_count_1 : decode cX7_count 1 = .ok (.tableswitch 59 0 3 #[31, 39, 44, 49], 31) := by decide +kernel
theorem dX7_count_32 : decode cX7_count 32 = .ok (.aload_n 0, 1) := by decide +kernel
theorem dX7_count_33 : decode cX7_count 33 = .ok (.invokevirtual 120, 3) := by decide +kernel
theorem dX7_count_36 : decode cX7_count 36 = .ok (.invokestatic 132, 3) := by decide +kernel
theorem dX7_count_39 : decode cX7_count 39 = .ok (.ireturn, 1) := by decide +kernel
theorem dX7_count_40 : decode cX7_count 40 = .ok (.aload_n 0, 1) := by decide +kernel
theorem dX7_count_41 : decode cX7_count 41 = .ok (.getfield 189, 3) := by decide +kernel
theorem dX7_count_44 : decode cX7_count 44 = .ok (.ireturn, 1) := by decide +kernel
theorem dX7_count_45 : decode cX7_count 45 = .ok (.aload_n 0, 1) := by decide +kernel
theorem dX7_count_46 : decode cX7_count 46 = .ok (.invokevirtual 129, 3) := by decide +kernel
theorem dX7_count_49 : decode cX7_count 49 = .ok (.ireturn, 1) := by decide +kernel
theorem dX7_count_50 : decode cX7_count 50 = .ok (.aload_n 0, 1) := by decide +kernel
theorem dX7_count_51 : decode cX7_count 51 = .ok (.invokevirtual 113, 3) := by decide +kernel
theorem dX7_count_54 : decode cX7_count 54 = .ok (.aload_n 0, 1) := by decide +kernel
theorem dX7_count_55 : decode cX7_count 55 = .ok (.iconst 0, 1) := by decide +kernel
theorem dX7_count_56 : decode cX7_count 56 = .ok (.invokevirtual 183, 3) := by decide +kernel
theorem dX7_count_59 : decode cX7_count 59 = .ok (.ireturn, 1) := by decide +kernel
theorem dX7_count_60 : decode cX7_count 60 = .ok (.aload_n 0, 1) := by decide +kernel
theorem dX7_count_61 : decode cX7_count 61 = .ok (.ldc 57, 2) := by decide +kernel
theorem dX7_count_63 : decode cX7_count 63 = .ok (.invokevirtual 105, 3) := by decide +kernel
theorem dX7_count_66 : decode cX7_count 66 = .ok (.ireturn, 1) := by decide +kernel
def rmX7_count : Room := { frames := 5, cells := 0, slots := 0, locals := 115 }
abbrev eX7_count := Ev cX7_count 2 (some .int) RX7 rmX7_count
set_option maxRecDepth 20000 in
theorem mt_X7_count (p0 : Int32) (σ : St) (Q : Int32 → St → Prop)  (hP : P_X7_count p0 σ Q) : Mt yX7_count cX7_count 2 (some .int) rmX7_count [.ref (49), .int (p0)] σ (qI Q) := by
  refine Mt.of (k := 0) (ls := [.ref (49), .int (p0)]) (by decide +kernel) rfl (Nat.le_of_ble_eq_true rfl) ?_
  show eX7_count 0 [.ref (49), .int (p0)] [] σ _
  unfold P_X7_count at hP
  refine E_iload_n dX7_count_0 rfl ?_
  refine E_tsw [(0, 32), (1, 40), (2, 45), (3, 50)] 60 dX7_count_1 (by decide) (by decide) (by decide +kernel) (by decide +kernel) (List.forall_mem_cons.mpr ⟨fun hc => ?_, (List.forall_mem_cons.mpr ⟨fun hc => ?_, (List.forall_mem_cons.mpr ⟨fun hc => ?_, (List.forall_mem_cons.mpr ⟨fun hc => ?_, (fun q hq => absurd hq List.not_mem_nil)⟩)⟩)⟩)⟩) (fun hc => ?_)
  · replace hP := hP.1 hc
    refine E_aload_n dX7_count_32 rfl ?_
    refine E_callV (As := []) (rest := []) dX7_count_33 cl_RX7_120 tw_523 (show kd 49 = 7 by decide) (by decide) rfl tw_524 ⟨rfl, rfl, Nat.le_of_ble_eq_true rfl, Nat.le_of_ble_eq_true rfl⟩ rfl rfl (Nat.le_of_ble_eq_true rfl) (mt_X7_standNow  _ _  hP) ?_
    intro r0 s0 hq0; obtain ⟨r33, h0, hs0, hP⟩ := hq0; subst h0; rw [hs0]
    show eX7_count 36 [.ref (49), .int (p0)] [.int (r33)] σ _
    refine E_callS (As := [.int (r33)]) (rest := []) dX7_count_36 cl_RX7_132 tw_540 ⟨rfl, rfl, Nat.le_of_ble_eq_true rfl, Nat.le_of_ble_eq_true rfl⟩ rfl rfl (Nat.le_of_ble_eq_true rfl) (mt_X7_stones _ _ _  hP) ?_
    intro r0 s0 hq0; obtain ⟨r36, h0, hs0, hP⟩ := hq0; subst h0; rw [hs0]
    show eX7_count 39 [.ref (49), .int (p0)] [.int (r36)] σ _
    exact E_iret dX7_count_39 rfl ⟨_, rfl, hP⟩
  · replace hP := hP.2.1 hc
    refine E_aload_n dX7_count_40 rfl ?_
    refine E_getI (j := 9) dX7_count_41 (show kd 49 = 7 by decide) (by decide) rfl fd_RX7_189 ?_
    exact E_iret dX7_count_44 rfl ⟨_, rfl, hP⟩
  · replace hP := hP.2.2.1 hc
    refine E_aload_n dX7_count_45 rfl ?_
    refine E_callV (As := []) (rest := []) dX7_count_46 cl_RX7_129 tw_535 (show kd 49 = 7 by decide) (by decide) rfl tw_536 ⟨rfl, rfl, Nat.le_of_ble_eq_true rfl, Nat.le_of_ble_eq_true rfl⟩ rfl rfl (Nat.le_of_ble_eq_true rfl) (mt_X7_allTops  _ _  hP) ?_
    rintro _ t46 ⟨r46, rfl, hP⟩
    show eX7_count 49 [.ref (49), .int (p0)] [.int (r46)] t46 _
    exact E_iret dX7_count_49 rfl ⟨_, rfl, hP⟩
  · replace hP := hP.2.2.2.1 hc
    refine E_aload_n dX7_count_50 rfl ?_
    refine E_callV (As := []) (rest := []) dX7_count_51 cl_RX7_113 tw_519 (show kd 49 = 7 by decide) (by decide) rfl tw_520 ⟨rfl, rfl, Nat.le_of_ble_eq_true rfl, Nat.le_of_ble_eq_true rfl⟩ rfl rfl (Nat.le_of_ble_eq_true rfl) (mt_X7_findTops  _ _  hP) ?_
    rintro _ t51 ⟨rfl, hP⟩
    show eX7_count 54 [.ref (49), .int (p0)] [] t51 _
    refine E_aload_n dX7_count_54 rfl ?_
    refine E_iconst (v := 0) dX7_count_55 (by decide) ?_
    refine E_callV (As := [.int (0)]) (rest := []) dX7_count_56 cl_RX7_183 tw_605 (show kd 49 = 7 by decide) (by decide) rfl tw_606 ⟨rfl, rfl, Nat.le_of_ble_eq_true rfl, Nat.le_of_ble_eq_true rfl⟩ rfl rfl (Nat.le_of_ble_eq_true rfl) (mt_X7_paidIn _ _ _  hP) ?_
    intro r0 s0 hq0; obtain ⟨r56, h0, hs0, hP⟩ := hq0; subst h0; rw [hs0]
    show eX7_count 59 [.ref (49), .int (p0)] [.int (r56)] t51 _
    exact E_iret dX7_count_59 rfl ⟨_, rfl, hP⟩
  · replace hP := hP.2.2.2.2 ⟨hc (0, 32) (List.mem_of_getElem? (i := 0) rfl), hc (1, 40) (List.mem_of_getElem? (i := 1) rfl), hc (2, 45) (List.mem_of_getElem? (i := 2) rfl), hc (3, 50) (List.mem_of_getElem? (i := 3) rfl)⟩
    refine E_aload_n dX7_count_60 rfl ?_
    refine E_ldc (v := (-1000000001)) dX7_count_61 tw_452 ?_
    refine E_callV (As := [.int ((-1000000001))]) (rest := []) dX7_count_63 cl_RX7_105 tw_507 (show kd 49 = 7 by decide) (by decide) rfl tw_508 ⟨rfl, rfl, Nat.le_of_ble_eq_true rfl, Nat.le_of_ble_eq_true rfl⟩ rfl rfl (Nat.le_of_ble_eq_true rfl) (mt_X7_finds _ _ _  hP) ?_
    rintro _ t63 ⟨r63, rfl, hP⟩
    show eX7_count 66 [.ref (49), .int (p0)] [.int (r63)] t63 _
    exact E_iret dX7_count_66 rfl ⟨_, rfl, hP⟩
theorem dX7_status_0 : decode cX7_status 0 = .ok (.iload_n 1, 1) := by decide +kernel
theorem dX7_status_1 : decode cX7_status 1 = .ok (.iconst (-1), 1) := by decide +kernel
theorem dX7_status_2 : decode cX7_status 2 = .ok (.bipush 6, 2) := by decide +kernel
theorem dX7_status_4 : decode cX7_status 4 = .ok (.invokestatic 58, 3) := by decide +kernel
theorem dX7_status_7 : decode cX7_status 7 = .ok (.ifCond .ne 10, 3) := by decide +kernel
theorem dX7_status_10 : decode cX7_status 10 = .ok (.aload_n 0, 1) := by decide +kernel
theorem dX7_status_11 : decode cX7_status 11 = .ok (.ldc 57, 2) := by decide +kernel
theorem dX7_status_13 : decode cX7_status 13 = .ok (.invokevirtual 105, 3) := by decide +kernel
theorem dX7_status_16 : decode cX7_status 16 = .ok (.ireturn, 1) := by decide +kernel
theorem dX7_status_17 : decode cX7_status 17 = .ok (.iconst 0, 1) := by decide +kernel
theorem dX7_status_18 : decode cX7_status 18 = .ok (.istore_n 2, 1) := by decide +kernel
theorem dX7_status_19 : decode cX7_status 19 = .ok (.iconst 0, 1) := by decide +kernel
theorem dX7_status_20 : decode cX7_status 20 = .ok (.istore_n 3, 1) := by decide +kernel
theorem dX7_status_21 : decode cX7_status 21 = .ok (.iload_n 3, 1) := by decide +kernel
theorem dX7_status_22 : decode cX7_status 22 = .ok (.bipush 7, 2) := by decide +kernel
theorem dX7_status_24 : decode cX7_status 24 = .ok (.if_icmp .ge 18, 3) := by decide +kernel
theorem dX7_status_27 : decode cX7_status 27 = .ok (.iload_n 2, 1) := by decide +kernel
theorem dX7_status_28 : decode cX7_status 28 = .ok (.aload_n 0, 1) := by decide +kernel
theorem dX7_status_29 : decode cX7_status 29 = .ok (.getfield 13, 3) := by decide +kernel
theorem dX7_status_32 : decode cX7_status 32 = .ok (.iload_n 3, 1) := by decide +kernel
theorem dX7_status_33 : decode cX7_status 33 = .ok (.iaload, 1) := by decide +kernel
theorem dX7_status_34 : decode cX7_status 34 = .ok (.iadd, 1) := by decide +kernel
theorem dX7_status_35 : decode cX7_status 35 = .ok (.istore_n 2, 1) := by decide +kernel
theorem dX7_status_36 : decode cX7_status 36 = .ok (.iinc 3 1, 3) := by decide +kernel
theorem dX7_status_39 : decode cX7_status 39 = .ok (.goto (-18), 3) := by decide +kernel
theorem dX7_status_42 : decode cX7_status 42 = .ok (.iload_n 1, 1) := by decide +kernel
theorem dX7_status_43 : decode cX7_status 43 = .ok (.ifCond .ge 7, 3) := by decide +kernel
theorem dX7_status_46 : decode cX7_status 46 = .ok (.iload_n 2, 1) := by decide +kernel
theorem dX7_status_47 : decode cX7_status 47 = .ok (.goto 17, 3) := by decide +kernel
theorem dX7_status_50 : decode cX7_status 50 = .ok (.aload_n 0, 1) := by decide +kernel
theorem dX7_status_51 : decode cX7_status 51 = .ok (.getfield 13, 3) := by decide +kernel
theorem dX7_status_54 : decode cX7_status 54 = .ok (.iload_n 1, 1) := by decide +kernel
theorem dX7_status_55 : decode cX7_status 55 = .ok (.ifCond .ge 7, 3) := by decide +kernel
theorem dX7_status_58 : decode cX7_status 58 = .ok (.iconst 0, 1) := by decide +kernel
theorem dX7_status_59 : decode cX7_status 59 = .ok (.goto 4, 3) := by decide +kernel
theorem dX7_status_62 : decode cX7_status 62 = .ok (.iload_n 1, 1) := by decide +kernel
theorem dX7_status_63 : decode cX7_status 63 = .ok (.iaload, 1) := by decide +kernel
theorem dX7_status_64 : decode cX7_status 64 = .ok (.ireturn, 1) := by decide +kernel
def rmX7_status : Room := { frames := 1, cells := 0, slots := 0, locals := 22 }
abbrev eX7_status := Ev cX7_status 4 (some .int) RX7 rmX7_status
set_option maxRecDepth 20000 in
theorem ev_X7_status_l21 (l1 : Int32)  (K : Int32 → St → Prop) (Q : Int32 → St → Prop) (hK : ∀ k2 s, K k2 s → eX7_status 42 [.ref (49), .int (l1), .int (k2), un] [] s (qI Q)) : ∀ (n : Nat) (l2 : Int32) (l3 : Int32) (σ : St), P_X7_status_l21 l1 K Q n l2 l3 σ → eX7_status 21 [.ref (49), .int (l1), .int (l2), .int (l3)] [] σ (qI Q) := by
  intro n
  induction n with
  | zero => intro l2 l3 σ hP; exact hP.elim
  | succ n ih =>
    intro l2 l3 σ hP
    rw [P_X7_status_l21] at hP
    refine E_iload_n dX7_status_21 rfl ?_
    refine E_bipush (v := 7) dX7_status_22 (by decide) ?_
    refine E_icmp_ge 42 dX7_status_24 (by decide) (fun hc => ?_) (fun hc => ?_)
    · replace hP := hP.1 hc
      refine E_mask [true, true, true, false] rfl ?_
      exact hK (l2) _ hP
    · replace hP := hP.2 hc
      refine E_iload_n dX7_status_27 rfl ?_
      refine E_aload_n dX7_status_28 rfl ?_
      refine E_getR (j := 1) dX7_status_29 (show kd 49 = 7 by decide) (by decide) rfl fd_RX7_13 (by decide) ?_
      refine E_iload_n dX7_status_32 rfl ?_
      obtain ⟨hb, hP⟩ := hP
      refine E_iald dX7_status_33 (ar_7_2 (show kd 49 = 7 by decide)).1 (ar_7_2 (show kd 49 = 7 by decide)).2 hb ?_
      refine E_iadd dX7_status_34 ?_
      refine E_istore_n (ls' := [.ref (49), .int (l1), .int (l2 + (gI σ 51 l3.toNatClampNeg)), .int (l3)]) dX7_status_35 (by decide) rfl ?_
      refine E_iinc (ls' := [.ref (49), .int (l1), .int (l2 + (gI σ 51 l3.toNatClampNeg)), .int (l3 + 1)]) dX7_status_36 rfl rfl (by decide) rfl ?_
      refine E_goto 21 dX7_status_39 (by decide) ?_
      exact ih (l2 + (gI σ 51 l3.toNatClampNeg)) (l3 + 1) _ hP
set_option maxRecDepth 20000 in
theorem mt_X7_status (p0 : Int32) (σ : St) (Q : Int32 → St → Prop)  (hP : P_X7_status p0 σ Q) : Mt yX7_status cX7_status 4 (some .int) rmX7_status [.ref (49), .int (p0)] σ (qI Q) := by
  refine Mt.of (k := 2) (ls := [.ref (49), .int (p0), un, un]) (by decide +kernel) rfl (Nat.le_of_ble_eq_true rfl) ?_
  show eX7_status 0 [.ref (49), .int (p0), un, un] [] σ _
  unfold P_X7_status at hP
  refine E_iload_n dX7_status_0 rfl ?_
  refine E_iconst (v := (-1)) dX7_status_1 (by decide) ?_
  refine E_bipush (v := 6) dX7_status_2 (by decide) ?_
  refine E_callS (As := [.int (p0), .int ((-1)), .int (6)]) (rest := []) dX7_status_4 cl_RX7_58 tw_456 ⟨rfl, rfl, Nat.le_of_ble_eq_true rfl, Nat.le_of_ble_eq_true rfl⟩ rfl rfl (Nat.le_of_ble_eq_true rfl) (mt_X7_in _ _ _ _ _  hP) ?_
  intro r0 s0 hq0; obtain ⟨r4, h0, hs0, hP⟩ := hq0; subst h0; rw [hs0]
  show eX7_status 7 [.ref (49), .int (p0), un, un] [.int (bI r4)] σ _
  refine E_ifz_ne 17 dX7_status_7 (by decide) (fun hc => ?_) (fun hc => ?_)
  · replace hP := hP.1 hc
    refine E_iconst (v := 0) dX7_status_17 (by decide) ?_
    refine E_istore_n (ls' := [.ref (49), .int (p0), .int (0), un]) dX7_status_18 (by decide) rfl ?_
    refine E_iconst (v := 0) dX7_status_19 (by decide) ?_
    refine E_istore_n (ls' := [.ref (49), .int (p0), .int (0), .int (0)]) dX7_status_20 (by decide) rfl ?_
    obtain ⟨m21, hP⟩ := hP
    refine ev_X7_status_l21 (p0)  _ Q ?_ m21 _ _ _ hP
    intro k2 t42 hP
    refine E_iload_n dX7_status_42 rfl ?_
    refine E_if_ge 50 dX7_status_43 (by decide) (fun hc => ?_) (fun hc => ?_)
    · replace hP := hP.1 hc
      refine E_aload_n dX7_status_50 rfl ?_
      refine E_getR (j := 1) dX7_status_51 (show kd 49 = 7 by decide) (by decide) rfl fd_RX7_13 (by decide) ?_
      refine E_iload_n dX7_status_54 rfl ?_
      refine E_if_ge 62 dX7_status_55 (by decide) (fun hc => ?_) (fun hc => ?_)
      · replace hP := hP.1 hc
        refine E_iload_n dX7_status_62 rfl ?_
        obtain ⟨hb, hP⟩ := hP
        refine E_iald dX7_status_63 (ar_7_2 (show kd 49 = 7 by decide)).1 (ar_7_2 (show kd 49 = 7 by decide)).2 hb ?_
        exact E_iret dX7_status_64 rfl ⟨_, rfl, hP⟩
      · replace hP := hP.2 hc
        refine E_iconst (v := 0) dX7_status_58 (by decide) ?_
        refine E_goto 63 dX7_status_59 (by decide) ?_
        refine E_iald dX7_status_63 (ar_7_2 (show kd 49 = 7 by decide)).1 (ar_7_2 (show kd 49 = 7 by decide)).2 (vp_c (by decide)) ?_
        exact E_iret dX7_status_64 rfl ⟨_, rfl, hP⟩
    · replace hP := hP.2 hc
      refine E_iload_n dX7_status_46 rfl ?_
      refine E_goto 64 dX7_status_47 (by decide) ?_
      exact E_iret dX7_status_64 rfl ⟨_, rfl, hP⟩
  · replace hP := hP.2 hc
    refine E_aload_n dX7_status_10 rfl ?_
    refine E_ldc (v := (-1000000001)) dX7_status_11 tw_452 ?_
    refine E_callV (As := [.int ((-1000000001))]) (rest := []) dX7_status_13 cl_RX7_105 tw_507 (show kd 49 = 7 by decide) (by decide) rfl tw_508 ⟨rfl, rfl, Nat.le_of_ble_eq_true rfl, Nat.le_of_ble_eq_true rfl⟩ rfl rfl (Nat.le_of_ble_eq_true rfl) (mt_X7_finds _ _ _  hP) ?_
    rintro _ t13 ⟨r13, rfl, hP⟩
    show eX7_status 16 [.ref (49), .int (p0), un, un] [.int (r13)] t13 _
    exact E_iret dX7_status_16 rfl ⟨_, rfl, hP⟩
