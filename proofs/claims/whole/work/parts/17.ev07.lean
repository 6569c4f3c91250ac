theorem dX6_feed_0 : decode cX6_feed 0 = .ok (.iload_n 2, 1) := by decide +kernel
theorem dX6_feed_1 : decode cX6_feed 1 = .ok (.iconst 1, 1) := by decide +kernel
theorem dX6_feed_2 : decode cX6_feed 2 = .ok (.iconst 4, 1) := by decide +kernel
theorem dX6_feed_3 : decode cX6_feed 3 = .ok (.invokestatic 116, 3) := by decide +kernel
theorem dX6_feed_6 : decode cX6_feed 6 = .ok (.ifCond .ne 10, 3) := by decide +kernel
theorem dX6_feed_9 : decode cX6_feed 9 = .ok (.aload_n 0, 1) := by decide +kernel
theorem dX6_feed_10 : decode cX6_feed 10 = .ok (.ldc 64, 2) := by decide +kernel
theorem dX6_feed_12 : decode cX6_feed 12 = .ok (.invokevirtual 65, 3) := by decide +kernel
theorem dX6_feed_15 : decode cX6_feed 15 = .ok (.ireturn, 1) := by decide +kernel
theorem dX6_feed_16 : decode cX6_feed 16 = .ok (.aload_n 0, 1) := by decide +kernel
theorem dX6_feed_17 : decode cX6_feed 17 = .ok (.getfield 39, 3) := by decide +kernel
theorem dX6_feed_20 : decode cX6_feed 20 = .ok (.getfield 219, 3) := by decide +kernel
theorem dX6_feed_23 : decode cX6_feed 23 = .ok (.getfield 223, 3) := by decide +kernel
theorem dX6_feed_26 : decode cX6_feed 26 = .ok (.iload_n 2, 1) := by decide +kernel
theorem dX6_feed_27 : decode cX6_feed 27 = .ok (.iadd, 1) := by decide +kernel
theorem dX6_feed_28 : decode cX6_feed 28 = .ok (.bipush 120, 2) := by decide +kernel
theorem dX6_feed_30 : decode cX6_feed 30 = .ok (.if_icmp .le 10, 3) := by decide +kernel
theorem dX6_feed_33 : decode cX6_feed 33 = .ok (.aload_n 0, 1) := by decide +kernel
theorem dX6_feed_34 : decode cX6_feed 34 = .ok (.ldc 72, 2) := by decide +kernel
theorem dX6_feed_36 : decode cX6_feed 36 = .ok (.invokevirtual 65, 3) := by decide +kernel
theorem dX6_feed_39 : decode cX6_feed 39 = .ok (.ireturn, 1) := by decide +kernel
theorem dX6_feed_40 : decode cX6_feed 40 = .ok (.iload_n 2, 1) := by decide +kernel
theorem dX6_feed_41 : decode cX6_feed 41 = .ok (.iconst 1, 1) := by decide +kernel
theorem dX6_feed_42 : decode cX6_feed 42 = .ok (.isub, 1) := by decide +kernel
theorem dX6_feed_43 : decode cX6_feed 43 = .ok (.istore_n 3, 1) := by decide +kernel
theorem dX6_feed_44 : decode cX6_feed 44 = .ok (.iload_n 3, 1) := by decide +kernel
theorem dX6_feed_45 : decode cX6_feed 45 = .ok (.ifCond .lt 29, 3) := by decide +kernel
theorem dX6_feed_48 : decode cX6_feed 48 = .ok (.aload_n 0, 1) := by decide +kernel
theorem dX6_feed_49 : decode cX6_feed 49 = .ok (.getfield 39, 3) := by decide +kernel
theorem dX6_feed_52 : decode cX6_feed 52 = .ok (.getfield 219, 3) := by decide +kernel
theorem dX6_feed_55 : decode cX6_feed 55 = .ok (.iload_n 1, 1) := by decide +kernel
theorem dX6_feed_56 : decode cX6_feed 56 = .ok (.bipush 8, 2) := by decide +kernel
theorem dX6_feed_58 : decode cX6_feed 58 = .ok (.iload_n 3, 1) := by decide +kernel
theorem dX6_feed_59 : decode cX6_feed 59 = .ok (.imul, 1) := by decide +kernel
theorem dX6_feed_60 : decode cX6_feed 60 = .ok (.ishr, 1) := by decide +kernel
theorem dX6_feed_61 : decode cX6_feed 61 = .ok (.sipush 255, 3) := by decide +kernel
theorem dX6_feed_64 : decode cX6_feed 64 = .ok (.iand, 1) := by decide +kernel
theorem dX6_feed_65 : decode cX6_feed 65 = .ok (.invokevirtual 228, 3) := by decide +kernel
theorem dX6_feed_68 : decode cX6_feed 68 = .ok (.iinc 3 (-1), 3) := by decide +kernel
theorem dX6_feed_71 : decode cX6_feed 71 = .ok (.goto (-27), 3) := by decide +kernel
theorem dX6_feed_74 : decode cX6_feed 74 = .ok (.aload_n 0, 1) := by decide +kernel
theorem dX6_feed_75 : decode cX6_feed 75 = .ok (.getfield 39, 3) := by decide +kernel
theorem dX6_feed_78 : decode cX6_feed 78 = .ok (.getfield 219, 3) := by decide +kernel
theorem dX6_feed_81 : decode cX6_feed 81 = .ok (.getfield 223, 3) := by decide +kernel
theorem dX6_feed_84 : decode cX6_feed 84 = .ok (.ireturn, 1) := by decide +kernel
def rmX6_feed : Room := { frames := 2, cells := 0, slots := 0, locals := 44 }
abbrev eX6_feed := Ev cX6_feed 4 (some .int) RX6 rmX6_feed
set_option maxRecDepth 20000 in
theorem ev_X6_feed_l44 (l1 : Int32)  (K : St → Prop) (Q : Int32 → St → Prop) (hK : ∀  s, K  s → eX6_feed 74 [.ref (0), un, un, un] [] s (qI Q)) : ∀ (n : Nat) (l3 : Int32) (σ : St), P_X6_feed_l44 l1 K Q n l3 σ → eX6_feed 44 [.ref (0), .int (l1), un, .int (l3)] [] σ (qI Q) := by
  intro n
  induction n with
  | zero => intro l3 σ hP; exact hP.elim
  | succ n ih =>
    intro l3 σ hP
    rw [P_X6_feed_l44] at hP
    refine E_iload_n dX6_feed_44 rfl ?_
    refine E_if_lt 74 dX6_feed_45 (by decide) (fun hc => ?_) (fun hc => ?_)
    · replace hP := hP.1 hc
      refine E_mask [true, false, false, false] rfl ?_
      exact hK  _ hP
    · replace hP := hP.2 hc
      refine E_aload_n dX6_feed_48 rfl ?_
      refine E_getR (j := 5) dX6_feed_49 (show kd 0 = 6 by decide) (by decide) rfl fd_RX6_39 (by decide) ?_
      refine E_getR (j := 0) dX6_feed_52 (ar_6_26 (show kd 0 = 6 by decide)).1 (by decide) rfl fd_RX6_219 (by decide) ?_
      refine E_iload_n dX6_feed_55 rfl ?_
      refine E_bipush (v := 8) dX6_feed_56 (by decide) ?_
      refine E_iload_n dX6_feed_58 rfl ?_
      refine E_imul dX6_feed_59 ?_
      refine E_ishr dX6_feed_60 ?_
      refine E_sipush (v := 255) dX6_feed_61 (by decide) ?_
      refine E_iand dX6_feed_64 ?_
      refine E_callV (As := [.int ((l1 >>> ((8 * l3) &&& 31)) &&& 255)]) (rest := []) dX6_feed_65 cl_RX6_228 tw_403 (ar_5_1 (ar_6_26 (show kd 0 = 6 by decide)).1).1 (by decide) rfl tw_404 ⟨rfl, rfl, Nat.le_of_ble_eq_true rfl, Nat.le_of_ble_eq_true rfl⟩ rfl rfl (Nat.le_of_ble_eq_true rfl) (mt_X4_append _ _ _  hP) ?_
      rintro _ t65 ⟨rfl, hP⟩
      show eX6_feed 68 [.ref (0), .int (l1), un, .int (l3)] [] t65 _
      refine E_iinc (ls' := [.ref (0), .int (l1), un, .int (l3 + (-1))]) dX6_feed_68 rfl rfl (by decide) rfl ?_
      refine E_goto 44 dX6_feed_71 (by decide) ?_
      exact ih (l3 + (-1)) _ hP
set_option maxRecDepth 20000 in
theorem mt_X6_feed (p0 : Int32) (p1 : Int32) (σ : St) (Q : Int32 → St → Prop)  (hP : P_X6_feed p0 p1 σ Q) : Mt yX6_feed cX6_feed 4 (some .int) rmX6_feed [.ref (0), .int (p0), .int (p1)] σ (qI Q) := by
  refine Mt.of (k := 1) (ls := [.ref (0), .int (p0), .int (p1), un]) (by decide +kernel) rfl (Nat.le_of_ble_eq_true rfl) ?_
  show eX6_feed 0 [.ref (0), .int (p0), .int (p1), un] [] σ _
  unfold P_X6_feed at hP
  refine E_iload_n dX6_feed_0 rfl ?_
  refine E_iconst (v := 1) dX6_feed_1 (by decide) ?_
  refine E_iconst (v := 4) dX6_feed_2 (by decide) ?_
  refine E_callS (As := [.int (p1), .int (1), .int (4)]) (rest := []) dX6_feed_3 cl_RX6_116 tw_143 ⟨rfl, rfl, Nat.le_of_ble_eq_true rfl, Nat.le_of_ble_eq_true rfl⟩ rfl rfl (Nat.le_of_ble_eq_true rfl) (mt_X6_isWithin _ _ _ _ _  hP) ?_
  intro r0 s0 hq0; obtain ⟨r3, h0, hs0, hP⟩ := hq0; subst h0; rw [hs0]
  show eX6_feed 6 [.ref (0), .int (p0), .int (p1), un] [.int (bI r3)] σ _
  refine E_ifz_ne 16 dX6_feed_6 (by decide) (fun hc => ?_) (fun hc => ?_)
  · replace hP := hP.1 hc
    refine E_aload_n dX6_feed_16 rfl ?_
    refine E_getR (j := 5) dX6_feed_17 (show kd 0 = 6 by decide) (by decide) rfl fd_RX6_39 (by decide) ?_
    refine E_getR (j := 0) dX6_feed_20 (ar_6_26 (show kd 0 = 6 by decide)).1 (by decide) rfl fd_RX6_219 (by decide) ?_
    refine E_getI (j := 1) dX6_feed_23 (ar_5_1 (ar_6_26 (show kd 0 = 6 by decide)).1).1 (by decide) rfl fd_RX6_223 ?_
    refine E_iload_n dX6_feed_26 rfl ?_
    refine E_iadd dX6_feed_27 ?_
    refine E_bipush (v := 120) dX6_feed_28 (by decide) ?_
    refine E_icmp_le 40 dX6_feed_30 (by decide) (fun hc => ?_) (fun hc => ?_)
    · replace hP := hP.1 hc
      refine E_iload_n dX6_feed_40 rfl ?_
      refine E_iconst (v := 1) dX6_feed_41 (by decide) ?_
      refine E_isub dX6_feed_42 ?_
      refine E_istore_n (ls' := [.ref (0), .int (p0), .int (p1), .int (p1 - 1)]) dX6_feed_43 (by decide) rfl ?_
      refine E_mask [true, true, false, true] rfl ?_
      obtain ⟨m44, hP⟩ := hP
      refine ev_X6_feed_l44 (p0)  _ Q ?_ m44 _ _ hP
      intro  t74 hP
      refine E_aload_n dX6_feed_74 rfl ?_
      refine E_getR (j := 5) dX6_feed_75 (show kd 0 = 6 by decide) (by decide) rfl fd_RX6_39 (by decide) ?_
      refine E_getR (j := 0) dX6_feed_78 (ar_6_26 (show kd 0 = 6 by decide)).1 (by decide) rfl fd_RX6_219 (by decide) ?_
      refine E_getI (j := 1) dX6_feed_81 (ar_5_1 (ar_6_26 (show kd 0 = 6 by decide)).1).1 (by decide) rfl fd_RX6_223 ?_
      exact E_iret dX6_feed_84 rfl ⟨_, rfl, hP⟩
    · replace hP := hP.2 hc
      refine E_aload_n dX6_feed_33 rfl ?_
      refine E_ldc (v := (-1000000002)) dX6_feed_34 tw_284 ?_
      refine E_callV (As := [.int ((-1000000002))]) (rest := []) dX6_feed_36 cl_RX6_65 tw_279 (show kd 0 = 6 by decide) (by decide) rfl tw_280 ⟨rfl, rfl, Nat.le_of_ble_eq_true rfl, Nat.le_of_ble_eq_true rfl⟩ rfl rfl (Nat.le_of_ble_eq_true rfl) (mt_X6_finding _ _ _  hP) ?_
      rintro _ t36 ⟨r36, rfl, hP⟩
      show eX6_feed 39 [.ref (0), .int (p0), .int (p1), un] [.int (r36)] t36 _
      exact E_iret dX6_feed_39 rfl ⟨_, rfl, hP⟩
  · replace hP := hP.2 hc
    refine E_aload_n dX6_feed_9 rfl ?_
    refine E_ldc (v := (-1000000001)) dX6_feed_10 tw_274 ?_
    refine E_callV (As := [.int ((-1000000001))]) (rest := []) dX6_feed_12 cl_RX6_65 tw_279 (show kd 0 = 6 by decide) (by decide) rfl tw_280 ⟨rfl, rfl, Nat.le_of_ble_eq_true rfl, Nat.le_of_ble_eq_true rfl⟩ rfl rfl (Nat.le_of_ble_eq_true rfl) (mt_X6_finding _ _ _  hP) ?_
    rintro _ t12 ⟨r12, rfl, hP⟩
    show eX6_feed 15 [.ref (0), .int (p0), .int (p1), un] [.int (r12)] t12 _
    exact E_iret dX6_feed_15 rfl ⟨_, rfl, hP⟩
theorem dX6_wipe_0 : decode cX6_wipe 0 = .ok (.aload_n 0, 1) := by decide +kernel
theorem dX6_wipe_1 : decode cX6_wipe 1 = .ok (.getfield 39, 3) := by decide +kernel
theorem dX6_wipe_4 : decode cX6_wipe 4 = .ok (.getfield 219, 3) := by decide +kernel
theorem dX6_wipe_7 : decode cX6_wipe 7 = .ok (.getfield 223, 3) := by decide +kernel
theorem dX6_wipe_10 : decode cX6_wipe 10 = .ok (.istore_n 1, 1) := by decide +kernel
theorem dX6_wipe_11 : decode cX6_wipe 11 = .ok (.aload_n 0, 1) := by decide +kernel
theorem dX6_wipe_12 : decode cX6_wipe 12 = .ok (.getfield 39, 3) := by decide +kernel
theorem dX6_wipe_15 : decode cX6_wipe 15 = .ok (.getfield 219, 3) := by decide +kernel
theorem dX6_wipe_18 : decode cX6_wipe 18 = .ok (.iconst 0, 1) := by decide +kernel
theorem dX6_wipe_19 : decode cX6_wipe 19 = .ok (.putfield 223, 3) := by decide +kernel
theorem dX6_wipe_22 : decode cX6_wipe 22 = .ok (.iload_n 1, 1) := by decide +kernel
theorem dX6_wipe_23 : decode cX6_wipe 23 = .ok (.ireturn, 1) := by decide +kernel
def rmX6_wipe : Room := { frames := 0, cells := 0, slots := 0, locals := 0 }
abbrev eX6_wipe := Ev cX6_wipe 2 (some .int) RX6 rmX6_wipe
set_option maxRecDepth 20000 in
theorem mt_X6_wipe  (σ : St) (Q : Int32 → St → Prop)  (hP : P_X6_wipe  σ Q) : Mt yX6_wipe cX6_wipe 2 (some .int) rmX6_wipe [.ref (0)] σ (qI Q) := by
  refine Mt.of (k := 1) (ls := [.ref (0), un]) (by decide +kernel) rfl (Nat.le_of_ble_eq_true rfl) ?_
  show eX6_wipe 0 [.ref (0), un] [] σ _
  unfold P_X6_wipe at hP
  refine E_aload_n dX6_wipe_0 rfl ?_
  refine E_getR (j := 5) dX6_wipe_1 (show kd 0 = 6 by decide) (by decide) rfl fd_RX6_39 (by decide) ?_
  refine E_getR (j := 0) dX6_wipe_4 (ar_6_26 (show kd 0 = 6 by decide)).1 (by decide) rfl fd_RX6_219 (by decide) ?_
  refine E_getI (j := 1) dX6_wipe_7 (ar_5_1 (ar_6_26 (show kd 0 = 6 by decide)).1).1 (by decide) rfl fd_RX6_223 ?_
  refine E_istore_n (ls' := [.ref (0), .int (gI σ 27 1)]) dX6_wipe_10 (by decide) rfl ?_
  refine E_aload_n dX6_wipe_11 rfl ?_
  refine E_getR (j := 5) dX6_wipe_12 (show kd 0 = 6 by decide) (by decide) rfl fd_RX6_39 (by decide) ?_
  refine E_getR (j := 0) dX6_wipe_15 (ar_6_26 (show kd 0 = 6 by decide)).1 (by decide) rfl fd_RX6_219 (by decide) ?_
  refine E_iconst (v := 0) dX6_wipe_18 (by decide) ?_
  refine E_putI (j := 1) dX6_wipe_19 (ar_5_1 (ar_6_26 (show kd 0 = 6 by decide)).1).1 (by decide) rfl fd_RX6_223 fp_4_1 ?_
  refine E_iload_n dX6_wipe_22 rfl ?_
  exact E_iret dX6_wipe_23 rfl ⟨_, rfl, hP⟩
theorem dX6_house_0 : decode cX6_house 0 = .ok (.aload_n 0, 1) := by decide +kernel
theorem dX6_house_1 : decode cX6_house 1 = .ok (.getfield 39, 3) := by decide +kernel
theorem dX6_house_4 : decode cX6_house 4 = .ok (.aload_n 0, 1) := by decide +kernel
theorem dX6_house_5 : decode cX6_house 5 = .ok (.getfield 12, 3) := by decide +kernel
theorem dX6_house_8 : decode cX6_house 8 = .ok (.invokevirtual 231, 3) := by decide +kernel
theorem dX6_house_11 : decode cX6_house 11 = .ok (.istore_n 1, 1) := by decide +kernel
theorem dX6_house_12 : decode cX6_house 12 = .ok (.iload_n 1, 1) := by decide +kernel
theorem dX6_house_13 : decode cX6_house 13 = .ok (.ifCond .lt 17, 3) := by decide +kernel
theorem dX6_house_16 : decode cX6_house 16 = .ok (.aload_n 0, 1) := by decide +kernel
theorem dX6_house_17 : decode cX6_house 17 = .ok (.getfield 12, 3) := by decide +kernel
theorem dX6_house_20 : decode cX6_house 20 = .ok (.aload_n 0, 1) := by decide +kernel
theorem dX6_house_21 : decode cX6_house 21 = .ok (.getfield 39, 3) := by decide +kernel
theorem dX6_house_24 : decode cX6_house 24 = .ok (.getfield 234, 3) := by decide +kernel
theorem dX6_house_27 : decode cX6_house 27 = .ok (.invokevirtual 216, 3) := by decide +kernel
theorem dX6_house_30 : decode cX6_house 30 = .ok (.aload_n 0, 1) := by decide +kernel
theorem dX6_house_31 : decode cX6_house 31 = .ok (.getfield 39, 3) := by decide +kernel
theorem dX6_house_34 : decode cX6_house 34 = .ok (.getfield 219, 3) := by decide +kernel
theorem dX6_house_37 : decode cX6_house 37 = .ok (.iconst 0, 1) := by decide +kernel
theorem dX6_house_38 : decode cX6_house 38 = .ok (.putfield 223, 3) := by decide +kernel
theorem dX6_house_41 : decode cX6_house 41 = .ok (.iload_n 1, 1) := by decide +kernel
theorem dX6_house_42 : decode cX6_house 42 = .ok (.ireturn, 1) := by decide +kernel
def rmX6_house : Room := { frames := 8, cells := 0, slots := 0, locals := 174 }
abbrev eX6_house := Ev cX6_house 2 (some .int) RX6 rmX6_house
set_option maxRecDepth 20000 in
theorem mt_X6_house  (σ : St) (Q : Int32 → St → Prop)  (hP : P_X6_house  σ Q) : Mt yX6_house cX6_house 2 (some .int) rmX6_house [.ref (0)] σ (qI Q) := by
  refine Mt.of (k := 1) (ls := [.ref (0), un]) (by decide +kernel) rfl (Nat.le_of_ble_eq_true rfl) ?_
  show eX6_house 0 [.ref (0), un] [] σ _
  unfold P_X6_house at hP
  refine E_aload_n dX6_house_0 rfl ?_
  refine E_getR (j := 5) dX6_house_1 (show kd 0 = 6 by decide) (by decide) rfl fd_RX6_39 (by decide) ?_
  refine E_aload_n dX6_house_4 rfl ?_
  refine E_getR (j := 0) dX6_house_5 (show kd 0 = 6 by decide) (by decide) rfl fd_RX6_12 (by decide) ?_
  refine E_callV (As := [.ref (1)]) (rest := []) dX6_house_8 cl_RX6_231 tw_408 (ar_6_26 (show kd 0 = 6 by decide)).1 (by decide) rfl tw_409 ⟨rfl, rfl, Nat.le_of_ble_eq_true rfl, Nat.le_of_ble_eq_true rfl⟩ rfl rfl (Nat.le_of_ble_eq_true rfl) (mt_X5_tell _ _ _ (ar_6_1 (show kd 0 = 6 by decide)).1 hP) ?_
  rintro _ t8 ⟨r8, rfl, hP⟩
  show eX6_house 11 [.ref (0), un] [.int (r8)] t8 _
  refine E_istore_n (ls' := [.ref (0), .int (r8)]) dX6_house_11 (by decide) rfl ?_
  refine E_iload_n dX6_house_12 rfl ?_
  refine E_if_lt 30 dX6_house_13 (by decide) (fun hc => ?_) (fun hc => ?_)
  · replace hP := hP.1 hc
    refine E_aload_n dX6_house_30 rfl ?_
    refine E_getR (j := 5) dX6_house_31 (show kd 0 = 6 by decide) (by decide) rfl fd_RX6_39 (by decide) ?_
    refine E_getR (j := 0) dX6_house_34 (ar_6_26 (show kd 0 = 6 by decide)).1 (by decide) rfl fd_RX6_219 (by decide) ?_
    refine E_iconst (v := 0) dX6_house_37 (by decide) ?_
    refine E_putI (j := 1) dX6_house_38 (ar_5_1 (ar_6_26 (show kd 0 = 6 by decide)).1).1 (by decide) rfl fd_RX6_223 fp_4_1 ?_
    refine E_iload_n dX6_house_41 rfl ?_
    exact E_iret dX6_house_42 rfl ⟨_, rfl, hP⟩
  · replace hP := hP.2 hc
    refine E_aload_n dX6_house_16 rfl ?_
    refine E_getR (j := 0) dX6_house_17 (show kd 0 = 6 by decide) (by decide) rfl fd_RX6_12 (by decide) ?_
    refine E_aload_n dX6_house_20 rfl ?_
    refine E_getR (j := 5) dX6_house_21 (show kd 0 = 6 by decide) (by decide) rfl fd_RX6_39 (by decide) ?_
    refine E_getR (j := 1) dX6_house_24 (ar_6_26 (show kd 0 = 6 by decide)).1 (by decide) rfl fd_RX6_234 (by decide) ?_
    refine E_callV (As := [.ref (29)]) (rest := []) dX6_house_27 cl_RX6_216 tw_272 (ar_6_1 (show kd 0 = 6 by decide)).1 (by decide) rfl tw_273 ⟨rfl, rfl, Nat.le_of_ble_eq_true rfl, Nat.le_of_ble_eq_true rfl⟩ rfl rfl (Nat.le_of_ble_eq_true rfl) (mt_X0_becomeLike _ _ _ _ (ar_6_1 (show kd 0 = 6 by decide)).1 (ar_5_3 (ar_6_26 (show kd 0 = 6 by decide)).1).1 hP) ?_
    rintro _ t27 ⟨rfl, hP⟩
    show eX6_house 30 [.ref (0), .int (r8)] [] t27 _
    refine E_aload_n dX6_house_30 rfl ?_
    refine E_getR (j := 5) dX6_house_31 (show kd 0 = 6 by decide) (by decide) rfl fd_RX6_39 (by decide) ?_
    refine E_getR (j := 0) dX6_house_34 (ar_6_26 (show kd 0 = 6 by decide)).1 (by decide) rfl fd_RX6_219 (by decide) ?_
    refine E_iconst (v := 0) dX6_house_37 (by decide) ?_
    refine E_putI (j := 1) dX6_house_38 (ar_5_1 (ar_6_26 (show kd 0 = 6 by decide)).1).1 (by decide) rfl fd_RX6_223 fp_4_1 ?_
    refine E_iload_n dX6_house_41 rfl ?_
    exact E_iret dX6_house_42 rfl ⟨_, rfl, hP⟩
theorem dX6_isSheet_0 : decode cX6_isSheet 0 = .ok (.iload_n 0, 1) := by decide +kernel
theorem dX6_isSheet_1 : decode cX6_isSheet 1 = .ok (.iconst 0, 1) := by decide +kernel
theorem dX6_isSheet_2 : decode cX6_isSheet 2 = .ok (.iconst 3, 1) := by decide +kernel
theorem dX6_isSheet_3 : decode cX6_isSheet 3 = .ok (.invokestatic 116, 3) := by decide +kernel
theorem dX6_isSheet_6 : decode cX6_isSheet 6 = .ok (.ireturn, 1) := by decide +kernel
def rmX6_isSheet : Room := { frames := 1, cells := 0, slots := 0, locals := 22 }
abbrev eX6_isSheet := Ev cX6_isSheet 1 (some .boolean) RX6 rmX6_isSheet
set_option maxRecDepth 20000 in
theorem mt_X6_isSheet (p0 : Int32) (σ : St) (Q : Bool → Prop)  (hP : P_X6_isSheet p0 σ Q) : Mt yX6_isSheet cX6_isSheet 1 (some .boolean) rmX6_isSheet [.int (p0)] σ (qB fun x s => s = σ ∧ Q x) := by
  refine Mt.of (k := 0) (ls := [.int (p0)]) (by decide +kernel) rfl (Nat.le_of_ble_eq_true rfl) ?_
  show eX6_isSheet 0 [.int (p0)] [] σ _
  unfold P_X6_isSheet at hP
  refine E_iload_n dX6_isSheet_0 rfl ?_
  refine E_iconst (v := 0) dX6_isSheet_1 (by decide) ?_
  refine E_iconst (v := 3) dX6_isSheet_2 (by decide) ?_
  refine E_callS (As := [.int (p0), .int (0), .int (3)]) (rest := []) dX6_isSheet_3 cl_RX6_116 tw_143 ⟨rfl, rfl, Nat.le_of_ble_eq_true rfl, Nat.le_of_ble_eq_true rfl⟩ rfl rfl (Nat.le_of_ble_eq_true rfl) (mt_X6_isWithin _ _ _ _ _  hP) ?_
  intro r0 s0 hq0; obtain ⟨r3, h0, hs0, hP⟩ := hq0; subst h0; rw [hs0]
  show eX6_isSheet 6 [.int (p0)] [.int (bI r3)] σ _
  exact E_nret dX6_isSheet_6 rfl (nar_b r3) ⟨r3, rfl, rfl, hP⟩
theorem dX6_isWidth_0 : decode cX6_isWidth 0 = .ok (.iload_n 0, 1) := by decide +kernel
theorem dX6_isWidth_1 : decode cX6_isWidth 1 = .ok (.ifCond .eq 21, 3) := by decide +kernel
theorem dX6_isWidth_4 : decode cX6_isWidth 4 = .ok (.iload_n 0, 1) := by decide +kernel
theorem dX6_isWidth_5 : decode cX6_isWidth 5 = .ok (.bipush 8, 2) := by decide +kernel
theorem dX6_isWidth_7 : decode cX6_isWidth 7 = .ok (.if_icmp .eq 15, 3) := by decide +kernel
theorem dX6_isWidth_10 : decode cX6_isWidth 10 = .ok (.iload_n 0, 1) := by decide +kernel
theorem dX6_isWidth_11 : decode cX6_isWidth 11 = .ok (.bipush 16, 2) := by decide +kernel
theorem dX6_isWidth_13 : decode cX6_isWidth 13 = .ok (.if_icmp .eq 9, 3) := by decide +kernel
theorem dX6_isWidth_16 : decode cX6_isWidth 16 = .ok (.iload_n 0, 1) := by decide +kernel
theorem dX6_isWidth_17 : decode cX6_isWidth 17 = .ok (.bipush 64, 2) := by decide +kernel
theorem dX6_isWidth_19 : decode cX6_isWidth 19 = .ok (.if_icmp .ne 7, 3) := by decide +kernel
theorem dX6_isWidth_22 : decode cX6_isWidth 22 = .ok (.iconst 1, 1) := by decide +kernel
theorem dX6_isWidth_23 : decode cX6_isWidth 23 = .ok (.goto 4, 3) := by decide +kernel
theorem dX6_isWidth_26 : decode cX6_isWidth 26 = .ok (.iconst 0, 1) := by decide +kernel
theorem dX6_isWidth_27 : decode cX6_isWidth 27 = .ok (.ireturn, 1) := by decide +kernel
def rmX6_isWidth : Room := { frames := 0, cells := 0, slots := 0, locals := 0 }
abbrev eX6_isWidth := Ev cX6_isWidth 1 (some .boolean) RX6 rmX6_isWidth
set_option maxRecDepth 20000 in
theorem mt_X6_isWidth (p0 : Int32) (σ : St) (Q : Bool → Prop)  (hP : P_X6_isWidth p0 σ Q) : Mt yX6_isWidth cX6_isWidth 1 (some .boolean) rmX6_isWidth [.int (p0)] σ (qB fun x s => s = σ ∧ Q x) := by
  refine Mt.of (k := 0) (ls := [.int (p0)]) (by decide +kernel) rfl (Nat.le_of_ble_eq_true rfl) ?_
  show eX6_isWidth 0 [.int (p0)] [] σ _
  unfold P_X6_isWidth at hP
  refine E_iload_n dX6_isWidth_0 rfl ?_
  refine E_if_eq 22 dX6_isWidth_1 (by decide) (fun hc => ?_) (fun hc => ?_)
  · replace hP := hP.1 hc
    refine E_iconst (v := 1) dX6_isWidth_22 (by decide) ?_
    refine E_goto 27 dX6_isWidth_23 (by decide) ?_
    exact E_nret dX6_isWidth_27 rfl (nar_b true) ⟨true, rfl, rfl, hP⟩
  · replace hP := hP.2 hc
    refine E_iload_n dX6_isWidth_4 rfl ?_
    refine E_bipush (v := 8) dX6_isWidth_5 (by decide) ?_
    refine E_icmp_eq 22 dX6_isWidth_7 (by decide) (fun hc => ?_) (fun hc => ?_)
    · replace hP := hP.1 hc
      refine E_iconst (v := 1) dX6_isWidth_22 (by decide) ?_
      refine E_goto 27 dX6_isWidth_23 (by decide) ?_
      exact E_nret dX6_isWidth_27 rfl (nar_b true) ⟨true, rfl, rfl, hP⟩
    · replace hP := hP.2 hc
      refine E_iload_n dX6_isWidth_10 rfl ?_
      refine E_bipush (v := 16) dX6_isWidth_11 (by decide) ?_
      refine E_icmp_eq 22 dX6_isWidth_13 (by decide) (fun hc => ?_) (fun hc => ?_)
      · replace hP := hP.1 hc
        refine E_iconst (v := 1) dX6_isWidth_22 (by decide) ?_
        refine E_goto 27 dX6_isWidth_23 (by decide) ?_
        exact E_nret dX6_isWidth_27 rfl (nar_b true) ⟨true, rfl, rfl, hP⟩
      · replace hP := hP.2 hc
        refine E_iload_n dX6_isWidth_16 rfl ?_
        refine E_bipush (v := 64) dX6_isWidth_17 (by decide) ?_
        refine E_icmp_ne 26 dX6_isWidth_19 (by decide) (fun hc => ?_) (fun hc => ?_)
        · replace hP := hP.1 hc
          refine E_iconst (v := 0) dX6_isWidth_26 (by decide) ?_
          exact E_nret dX6_isWidth_27 rfl (nar_b false) ⟨false, rfl, rfl, hP⟩
        · replace hP := hP.2 hc
          refine E_iconst (v := 1) dX6_isWidth_22 (by decide) ?_
          refine E_goto 27 dX6_isWidth_23 (by decide) ?_
          exact E_nret dX6_isWidth_27 rfl (nar_b true) ⟨true, rfl, rfl, hP⟩
theorem dX6_sheet_0 : decode cX6_sheet 0 = .ok (.iload_n 1, 1) := by decide +kernel
theorem dX6_sheet_1 : decode cX6_sheet 1 = .ok (.invokestatic 237, 3) := by decide +kernel
theorem dX6_sheet_4 : decode cX6_sheet 4 = .ok (.ifCond .eq 10, 3) := by decide +kernel
theorem dX6_sheet_7 : decode cX6_sheet 7 = .ok (.iload_n 2, 1) := by decide +kernel
theorem dX6_sheet_8 : decode cX6_sheet 8 = .ok (.invokestatic 240, 3) := by decide +kernel
theorem dX6_sheet_11 : decode cX6_sheet 11 = .ok (.ifCond .ne 10, 3) := by decide +kernel
theorem dX6_sheet_14 : decode cX6_sheet 14 = .ok (.aload_n 0, 1) := by decide +kernel
theorem dX6_sheet_15 : decode cX6_sheet 15 = .ok (.ldc 64, 2) := by decide +kernel
theorem dX6_sheet_17 : decode cX6_sheet 17 = .ok (.invokevirtual 65, 3) := by decide +kernel
theorem dX6_sheet_20 : decode cX6_sheet 20 = .ok (.ireturn, 1) := by decide +kernel
theorem dX6_sheet_21 : decode cX6_sheet 21 = .ok (.iload_n 3, 1) := by decide +kernel
theorem dX6_sheet_22 : decode cX6_sheet 22 = .ok (.ifCond .ge 10, 3) := by decide +kernel
theorem dX6_sheet_25 : decode cX6_sheet 25 = .ok (.aload_n 0, 1) := by decide +kernel
theorem dX6_sheet_26 : decode cX6_sheet 26 = .ok (.ldc 243, 2) := by decide +kernel
theorem dX6_sheet_28 : decode cX6_sheet 28 = .ok (.invokevirtual 65, 3) := by decide +kernel
theorem dX6_sheet_31 : decode cX6_sheet 31 = .ok (.ireturn, 1) := by decide +kernel
theorem dX6_sheet_32 : decode cX6_sheet 32 = .ok (.iload_n 3, 1) := by decide +kernel
theorem dX6_sheet_33 : decode cX6_sheet 33 = .ok (.bipush 40, 2) := by decide +kernel
theorem dX6_sheet_35 : decode cX6_sheet 35 = .ok (.if_icmp .le 10, 3) := by decide +kernel
theorem dX6_sheet_38 : decode cX6_sheet 38 = .ok (.aload_n 0, 1) := by decide +kernel
theorem dX6_sheet_39 : decode cX6_sheet 39 = .ok (.ldc 64, 2) := by decide +kernel
theorem dX6_sheet_41 : decode cX6_sheet 41 = .ok (.invokevirtual 65, 3) := by decide +kernel
theorem dX6_sheet_44 : decode cX6_sheet 44 = .ok (.ireturn, 1) := by decide +kernel
theorem dX6_sheet_45 : decode cX6_sheet 45 = .ok (.aload_n 0, 1) := by decide +kernel
theorem dX6_sheet_46 : decode cX6_sheet 46 = .ok (.getfield 45, 3) := by decide +kernel
theorem dX6_sheet_49 : decode cX6_sheet 49 = .ok (.iload_n 1, 1) := by decide +kernel
theorem dX6_sheet_50 : decode cX6_sheet 50 = .ok (.aaload, 1) := by decide +kernel
theorem dX6_sheet_51 : decode cX6_sheet 51 = .ok (.iload_n 2, 1) := by decide +kernel
theorem dX6_sheet_52 : decode cX6_sheet 52 = .ok (.iload_n 3, 1) := by decide +kernel
theorem dX6_sheet_53 : decode cX6_sheet 53 = .ok (.invokevirtual 244, 3) := by decide +kernel
theorem dX6_sheet_56 : decode cX6_sheet 56 = .ok (.aload_n 0, 1) := by decide +kernel
theorem dX6_sheet_57 : decode cX6_sheet 57 = .ok (.getfield 45, 3) := by decide +kernel
theorem dX6_sheet_60 : decode cX6_sheet 60 = .ok (.iload_n 1, 1) := by decide +kernel
theorem dX6_sheet_61 : decode cX6_sheet 61 = .ok (.aaload, 1) := by decide +kernel
theorem dX6_sheet_62 : decode cX6_sheet 62 = .ok (.getfield 248, 3) := by decide +kernel
theorem dX6_sheet_65 : decode cX6_sheet 65 = .ok (.ireturn, 1) := by decide +kernel
def rmX6_sheet : Room := { frames := 2, cells := 0, slots := 0, locals := 46 }
abbrev eX6_sheet := Ev cX6_sheet 4 (some .int) RX6 rmX6_sheet
set_option maxRecDepth 20000 in
theorem mt_X6_sheet (p0 : Int32) (p1 : Int32) (p2 : Int32) (σ : St) (Q : Int32 → St → Prop)  (hP : P_X6_sheet p0 p1 p2 σ Q) : Mt yX6_sheet cX6_sheet 4 (some .int) rmX6_sheet [.ref (0), .int (p0), .int (p1), .int (p2)] σ (qI Q) := by
  refine Mt.of (k := 0) (ls := [.ref (0), .int (p0), .int (p1), .int (p2)]) (by decide +kernel) rfl (Nat.le_of_ble_eq_true rfl) ?_
  show eX6_sheet 0 [.ref (0), .int (p0), .int (p1), .int (p2)] [] σ _
  unfold P_X6_sheet at hP
  refine E_iload_n dX6_sheet_0 rfl ?_
  refine E_callS (As := [.int (p0)]) (rest := []) dX6_sheet_1 cl_RX6_237 tw_422 ⟨rfl, rfl, Nat.le_of_ble_eq_true rfl, Nat.le_of_ble_eq_true rfl⟩ rfl rfl (Nat.le_of_ble_eq_true rfl) (mt_X6_isSheet _ _ _  hP) ?_
  intro r0 s0 hq0; obtain ⟨r1, h0, hs0, hP⟩ := hq0; subst h0; rw [hs0]
  show eX6_sheet 4 [.ref (0), .int (p0), .int (p1), .int (p2)] [.int (bI r1)] σ _
  refine E_ifz_eq 14 dX6_sheet_4 (by decide) (fun hc => ?_) (fun hc => ?_)
  · replace hP := hP.1 hc
    refine E_aload_n dX6_sheet_14 rfl ?_
    refine E_ldc (v := (-1000000001)) dX6_sheet_15 tw_274 ?_
    refine E_callV (As := [.int ((-1000000001))]) (rest := []) dX6_sheet_17 cl_RX6_65 tw_279 (show kd 0 = 6 by decide) (by decide) rfl tw_280 ⟨rfl, rfl, Nat.le_of_ble_eq_true rfl, Nat.le_of_ble_eq_true rfl⟩ rfl rfl (Nat.le_of_ble_eq_true rfl) (mt_X6_finding _ _ _  hP) ?_
    rintro _ t17 ⟨r17, rfl, hP⟩
    show eX6_sheet 20 [.ref (0), .int (p0), .int (p1), .int (p2)] [.int (r17)] t17 _
    exact E_iret dX6_sheet_20 rfl ⟨_, rfl, hP⟩
  · replace hP := hP.2 hc
    refine E_iload_n dX6_sheet_7 rfl ?_
    refine E_callS (As := [.int (p1)]) (rest := []) dX6_sheet_8 cl_RX6_240 tw_419 ⟨rfl, rfl, Nat.le_of_ble_eq_true rfl, Nat.le_of_ble_eq_true rfl⟩ rfl rfl (Nat.le_of_ble_eq_true rfl) (mt_X6_isWidth _ _ _  hP) ?_
    intro r0 s0 hq0; obtain ⟨r8, h0, hs0, hP⟩ := hq0; subst h0; rw [hs0]
    show eX6_sheet 11 [.ref (0), .int (p0), .int (p1), .int (p2)] [.int (bI r8)] σ _
    refine E_ifz_ne 21 dX6_sheet_11 (by decide) (fun hc => ?_) (fun hc => ?_)
    · replace hP := hP.1 hc
      refine E_iload_n dX6_sheet_21 rfl ?_
      refine E_if_ge 32 dX6_sheet_22 (by decide) (fun hc => ?_) (fun hc => ?_)
      · replace hP := hP.1 hc
        refine E_iload_n dX6_sheet_32 rfl ?_
        refine E_bipush (v := 40) dX6_sheet_33 (by decide) ?_
        refine E_icmp_le 45 dX6_sheet_35 (by decide) (fun hc => ?_) (fun hc => ?_)
        · replace hP := hP.1 hc
          refine E_aload_n dX6_sheet_45 rfl ?_
          refine E_getR (j := 6) dX6_sheet_46 (show kd 0 = 6 by decide) (by decide) rfl fd_RX6_45 (by decide) ?_
          refine E_iload_n dX6_sheet_49 rfl ?_
          obtain ⟨hb50, hP⟩ := hP
          refine E_aald dX6_sheet_50 (ar_6_39 (show kd 0 = 6 by decide)).1 (ar_6_39 (show kd 0 = 6 by decide)).2 hb50 (by decide) ?_
          refine E_iload_n dX6_sheet_51 rfl ?_
          refine E_iload_n dX6_sheet_52 rfl ?_
          refine E_callV (As := [.int (p1), .int (p2)]) (rest := []) dX6_sheet_53 cl_RX6_244 tw_414 (sh_at (ar_6_39 (show kd 0 = 6 by decide)).1 hb50) (by decide) rfl tw_415 ⟨rfl, rfl, Nat.le_of_ble_eq_true rfl, Nat.le_of_ble_eq_true rfl⟩ rfl rfl (Nat.le_of_ble_eq_true rfl) (mt_X2_layOut _ _ _ _ _ (sh_at (ar_6_39 (show kd 0 = 6 by decide)).1 hb50) hP) ?_
          rintro _ t53 ⟨rfl, hP⟩
          show eX6_sheet 56 [.ref (0), .int (p0), .int (p1), .int (p2)] [] t53 _
          refine E_aload_n dX6_sheet_56 rfl ?_
          refine E_getR (j := 6) dX6_sheet_57 (show kd 0 = 6 by decide) (by decide) rfl fd_RX6_45 (by decide) ?_
          refine E_iload_n dX6_sheet_60 rfl ?_
          obtain ⟨hb61, hP⟩ := hP
          refine E_aald dX6_sheet_61 (ar_6_39 (show kd 0 = 6 by decide)).1 (ar_6_39 (show kd 0 = 6 by decide)).2 hb61 (by decide) ?_
          refine E_getI (j := 2) dX6_sheet_62 (sh_at (ar_6_39 (show kd 0 = 6 by decide)).1 hb61) (by decide) rfl fd_RX6_248 ?_
          exact E_iret dX6_sheet_65 rfl ⟨_, rfl, hP⟩
        · replace hP := hP.2 hc
          refine E_aload_n dX6_sheet_38 rfl ?_
          refine E_ldc (v := (-1000000001)) dX6_sheet_39 tw_274 ?_
          refine E_callV (As := [.int ((-1000000001))]) (rest := []) dX6_sheet_41 cl_RX6_65 tw_279 (show kd 0 = 6 by decide) (by decide) rfl tw_280 ⟨rfl, rfl, Nat.le_of_ble_eq_true rfl, Nat.le_of_ble_eq_true rfl⟩ rfl rfl (Nat.le_of_ble_eq_true rfl) (mt_X6_finding _ _ _  hP) ?_
          rintro _ t41 ⟨r41, rfl, hP⟩
          show eX6_sheet 44 [.ref (0), .int (p0), .int (p1), .int (p2)] [.int (r41)] t41 _
          exact E_iret dX6_sheet_44 rfl ⟨_, rfl, hP⟩
      · replace hP := hP.2 hc
        refine E_aload_n dX6_sheet_25 rfl ?_
        refine E_ldc (v := (-1000000007)) dX6_sheet_26 tw_416 ?_
        refine E_callV (As := [.int ((-1000000007))]) (rest := []) dX6_sheet_28 cl_RX6_65 tw_279 (show kd 0 = 6 by decide) (by decide) rfl tw_280 ⟨rfl, rfl, Nat.le_of_ble_eq_true rfl, Nat.le_of_ble_eq_true rfl⟩ rfl rfl (Nat.le_of_ble_eq_true rfl) (mt_X6_finding _ _ _  hP) ?_
        rintro _ t28 ⟨r28, rfl, hP⟩
        show eX6_sheet 31 [.ref (0), .int (p0), .int (p1), .int (p2)] [.int (r28)] t28 _
        exact E_iret dX6_sheet_31 rfl ⟨_, rfl, hP⟩
    · replace hP := hP.2 hc
      refine E_aload_n dX6_sheet_14 rfl ?_
      refine E_ldc (v := (-1000000001)) dX6_sheet_15 tw_274 ?_
      refine E_callV (As := [.int ((-1000000001))]) (rest := []) dX6_sheet_17 cl_RX6_65 tw_279 (show kd 0 = 6 by decide) (by decide) rfl tw_280 ⟨rfl, rfl, Nat.le_of_ble_eq_true rfl, Nat.le_of_ble_eq_true rfl⟩ rfl rfl (Nat.le_of_ble_eq_true rfl) (mt_X6_finding _ _ _  hP) ?_
      rintro _ t17 ⟨r17, rfl, hP⟩
      show eX6_sheet 20 [.ref (0), .int (p0), .int (p1), .int (p2)] [.int (r17)] t17 _
      exact E_iret dX6_sheet_20 rfl ⟨_, rfl, hP⟩
theorem dX6_sheetFinding_0 : decode cX6_sheetFinding 0 = .ok (.iload_n 1, 1) := by decide +kernel
theorem dX6_sheetFinding_1 : decode cX6_sheetFinding 1 = .ok (.invokestatic 237, 3) := by decide +kernel
theorem dX6_sheetFinding_4 : decode cX6_sheetFinding 4 = .ok (.ifCond .ne 6, 3) := by decide +kernel
theorem dX6_sheetFinding_7 : decode cX6_sheetFinding 7 = .ok (.ldc 64, 2) := by decide +kernel
theorem dX6_sheetFinding_9 : decode cX6_sheetFinding 9 = .ok (.ireturn, 1) := by decide +kernel
theorem dX6_sheetFinding_10 : decode cX6_sheetFinding 10 = .ok (.aload_n 0, 1) := by decide +kernel
theorem dX6_sheetFinding_11 : decode cX6_sheetFinding 11 = .ok (.getfield 45, 3) := by decide +kernel
theorem dX6_sheetFinding_14 : decode cX6_sheetFinding 14 = .ok (.iload_n 1, 1) := by decide +kernel
theorem dX6_sheetFinding_15 : decode cX6_sheetFinding 15 = .ok (.aaload, 1) := by decide +kernel
theorem dX6_sheetFinding_16 : decode cX6_sheetFinding 16 = .ok (.getfield 260, 3) := by decide +kernel
theorem dX6_sheetFinding_19 : decode cX6_sheetFinding 19 = .ok (.ifCond .ne 9, 3) := by decide +kernel
theorem dX6_sheetFinding_22 : decode cX6_sheetFinding 22 = .ok (.ldc_w 263, 3) := by decide +kernel
theorem dX6_sheetFinding_25 : decode cX6_sheetFinding 25 = .ok (.goto 4, 3) := by decide +kernel
theorem dX6_sheetFinding_28 : decode cX6_sheetFinding 28 = .ok (.iconst 0, 1) := by decide +kernel
theorem dX6_sheetFinding_29 : decode cX6_sheetFinding 29 = .ok (.ireturn, 1) := by decide +kernel
def rmX6_sheetFinding : Room := { frames := 2, cells := 0, slots := 0, locals := 42 }
abbrev eX6_sheetFinding := Ev cX6_sheetFinding 2 (some .int) RX6 rmX6_sheetFinding
set_option maxRecDepth 20000 in
theorem mt_X6_sheetFinding (p0 : Int32) (σ : St) (Q : Int32 → Prop)  (hP : P_X6_sheetFinding p0 σ Q) : Mt yX6_sheetFinding cX6_sheetFinding 2 (some .int) rmX6_sheetFinding [.ref (0), .int (p0)] σ (qI fun x s => s = σ ∧ Q x) := by
  refine Mt.of (k := 0) (ls := [.ref (0), .int (p0)]) (by decide +kernel) rfl (Nat.le_of_ble_eq_true rfl) ?_
  show eX6_sheetFinding 0 [.ref (0), .int (p0)] [] σ _
  unfold P_X6_sheetFinding at hP
  refine E_iload_n dX6_sheetFinding_0 rfl ?_
  refine E_callS (As := [.int (p0)]) (rest := []) dX6_sheetFinding_1 cl_RX6_237 tw_422 ⟨rfl, rfl, Nat.le_of_ble_eq_true rfl, Nat.le_of_ble_eq_true rfl⟩ rfl rfl (Nat.le_of_ble_eq_true rfl) (mt_X6_isSheet _ _ _  hP) ?_
  intro r0 s0 hq0; obtain ⟨r1, h0, hs0, hP⟩ := hq0; subst h0; rw [hs0]
  show eX6_sheetFinding 4 [.ref (0), .int (p0)] [.int (bI r1)] σ _
  refine E_ifz_ne 10 dX6_sheetFinding_4 (by decide) (fun hc => ?_) (fun hc => ?_)
  · replace hP := hP.1 hc
    refine E_aload_n dX6_sheetFinding_10 rfl ?_
    refine E_getR (j := 6) dX6_sheetFinding_11 (show kd 0 = 6 by decide) (by decide) rfl fd_RX6_45 (by decide) ?_
    refine E_iload_n dX6_sheetFinding_14 rfl ?_
    obtain ⟨hb15, hP⟩ := hP
    refine E_aald dX6_sheetFinding_15 (ar_6_39 (show kd 0 = 6 by decide)).1 (ar_6_39 (show kd 0 = 6 by decide)).2 hb15 (by decide) ?_
    refine E_getI (j := 1) dX6_sheetFinding_16 (sh_at (ar_6_39 (show kd 0 = 6 by decide)).1 hb15) (by decide) rfl fd_RX6_260 ?_
    refine E_if_ne 28 dX6_sheetFinding_19 (by decide) (fun hc => ?_) (fun hc => ?_)
    · replace hP := hP.1 hc
      refine E_iconst (v := 0) dX6_sheetFinding_28 (by decide) ?_
      exact E_iret dX6_sheetFinding_29 rfl ⟨_, rfl, rfl, hP⟩
    · replace hP := hP.2 hc
      refine E_ldcw (v := (-1000000006)) dX6_sheetFinding_22 tw_424 ?_
      refine E_goto 29 dX6_sheetFinding_25 (by decide) ?_
      exact E_iret dX6_sheetFinding_29 rfl ⟨_, rfl, rfl, hP⟩
  · replace hP := hP.2 hc
    refine E_ldc (v := (-1000000001)) dX6_sheetFinding_7 tw_274 ?_
    exact E_iret dX6_sheetFinding_9 rfl ⟨_, rfl, rfl, hP⟩
theorem dX6_write_0 : decode cX6_write 0 = .ok (.aload_n 0, 1) := by decide +kernel
theorem dX6_write_1 : decode cX6_write 1 = .ok (.iload_n 1, 1) := by decide +kernel
theorem dX6_write_2 : decode cX6_write 2 = .ok (.invokevirtual 251, 3) := by decide +kernel
theorem dX6_write_5 : decode cX6_write 5 = .ok (.istore 5, 2) := by decide +kernel
theorem dX6_write_7 : decode cX6_write 7 = .ok (.iload 5, 2) := by decide +kernel
theorem dX6_write_9 : decode cX6_write 9 = .ok (.ifCond .eq 11, 3) := by decide +kernel
theorem dX6_write_12 : decode cX6_write 12 = .ok (.aload_n 0, 1) := by decide +kernel
theorem dX6_write_13 : decode cX6_write 13 = .ok (.iload 5, 2) := by decide +kernel
theorem dX6_write_15 : decode cX6_write 15 = .ok (.invokevirtual 65, 3) := by decide +kernel
theorem dX6_write_18 : decode cX6_write 18 = .ok (.i2l, 1) := by decide +kernel
theorem dX6_write_19 : decode cX6_write 19 = .ok (.lreturn, 1) := by decide +kernel
theorem dX6_write_20 : decode cX6_write 20 = .ok (.aload_n 0, 1) := by decide +kernel
theorem dX6_write_21 : decode cX6_write 21 = .ok (.getfield 45, 3) := by decide +kernel
theorem dX6_write_24 : decode cX6_write 24 = .ok (.iload_n 1, 1) := by decide +kernel
theorem dX6_write_25 : decode cX6_write 25 = .ok (.aaload, 1) := by decide +kernel
theorem dX6_write_26 : decode cX6_write 26 = .ok (.astore 6, 2) := by decide +kernel
theorem dX6_write_28 : decode cX6_write 28 = .ok (.iload_n 2, 1) := by decide +kernel
theorem dX6_write_29 : decode cX6_write 29 = .ok (.iconst 0, 1) := by decide +kernel
theorem dX6_write_30 : decode cX6_write 30 = .ok (.aload 6, 2) := by decide +kernel
theorem dX6_write_32 : decode cX6_write 32 = .ok (.getfield 248, 3) := by decide +kernel
theorem dX6_write_35 : decode cX6_write 35 = .ok (.iconst 1, 1) := by decide +kernel
theorem dX6_write_36 : decode cX6_write 36 = .ok (.isub, 1) := by decide +kernel
theorem dX6_write_37 : decode cX6_write 37 = .ok (.invokestatic 116, 3) := by decide +kernel
theorem dX6_write_40 : decode cX6_write 40 = .ok (.ifCond .ne 11, 3) := by decide +kernel
theorem dX6_write_43 : decode cX6_write 43 = .ok (.aload_n 0, 1) := by decide +kernel
theorem dX6_write_44 : decode cX6_write 44 = .ok (.ldc 64, 2) := by decide +kernel
theorem dX6_write_46 : decode cX6_write 46 = .ok (.invokevirtual 65, 3) := by decide +kernel
theorem dX6_write_49 : decode cX6_write 49 = .ok (.i2l, 1) := by decide +kernel
theorem dX6_write_50 : decode cX6_write 50 = .ok (.lreturn, 1) := by decide +kernel
theorem dX6_write_51 : decode cX6_write 51 = .ok (.aload 6, 2) := by decide +kernel
theorem dX6_write_53 : decode cX6_write 53 = .ok (.getfield 254, 3) := by decide +kernel
theorem dX6_write_56 : decode cX6_write 56 = .ok (.iload_n 2, 1) := by decide +kernel
theorem dX6_write_57 : decode cX6_write 57 = .ok (.laload, 1) := by decide +kernel
theorem dX6_write_58 : decode cX6_write 58 = .ok (.lstore 7, 2) := by decide +kernel
theorem dX6_write_60 : decode cX6_write 60 = .ok (.aload 6, 2) := by decide +kernel
theorem dX6_write_62 : decode cX6_write 62 = .ok (.iload_n 2, 1) := by decide +kernel
theorem dX6_write_63 : decode cX6_write 63 = .ok (.lload_n 3, 1) := by decide +kernel
theorem dX6_write_64 : decode cX6_write 64 = .ok (.invokevirtual 257, 3) := by decide +kernel
theorem dX6_write_67 : decode cX6_write 67 = .ok (.lload 7, 2) := by decide +kernel
theorem dX6_write_69 : decode cX6_write 69 = .ok (.lreturn, 1) := by decide +kernel
def rmX6_write : Room := { frames := 3, cells := 0, slots := 0, locals := 63 }
abbrev eX6_write := Ev cX6_write 9 (some .long) RX6 rmX6_write
set_option maxRecDepth 20000 in
theorem mt_X6_write (p0 : Int32) (p1 : Int32) (p2 : Int64) (σ : St) (Q : Int64 → St → Prop)  (hP : P_X6_write p0 p1 p2 σ Q) : Mt yX6_write cX6_write 9 (some .long) rmX6_write [.ref (0), .int (p0), .int (p1), .long (p2)] σ (qL Q) := by
  refine Mt.of (k := 4) (ls := [.ref (0), .int (p0), .int (p1), .long (p2), un, un, un, un, un]) (by decide +kernel) rfl (Nat.le_of_ble_eq_true rfl) ?_
  show eX6_write 0 [.ref (0), .int (p0), .int (p1), .long (p2), un, un, un, un, un] [] σ _
  unfold P_X6_write at hP
  refine E_aload_n dX6_write_0 rfl ?_
  refine E_iload_n dX6_write_1 rfl ?_
  refine E_callV (As := [.int (p0)]) (rest := []) dX6_write_2 cl_RX6_251 tw_432 (show kd 0 = 6 by decide) (by decide) rfl tw_433 ⟨rfl, rfl, Nat.le_of_ble_eq_true rfl, Nat.le_of_ble_eq_true rfl⟩ rfl rfl (Nat.le_of_ble_eq_true rfl) (mt_X6_sheetFinding _ _ _  hP) ?_
  intro r0 s0 hq0; obtain ⟨r2, h0, hs0, hP⟩ := hq0; subst h0; rw [hs0]
  show eX6_write 5 [.ref (0), .int (p0), .int (p1), .long (p2), un, un, un, un, un] [.int (r2)] σ _
  refine E_istore (ls' := [.ref (0), .int (p0), .int (p1), .long (p2), un, .int (r2), un, un, un]) dX6_write_5 (by decide) rfl ?_
  refine E_iload dX6_write_7 rfl ?_
  refine E_if_eq 20 dX6_write_9 (by decide) (fun hc => ?_) (fun hc => ?_)
  · replace hP := hP.1 hc
    refine E_aload_n dX6_write_20 rfl ?_
    refine E_getR (j := 6) dX6_write_21 (show kd 0 = 6 by decide) (by decide) rfl fd_RX6_45 (by decide) ?_
    refine E_iload_n dX6_write_24 rfl ?_
    obtain ⟨hb25, hP⟩ := hP
    refine E_aald dX6_write_25 (ar_6_39 (show kd 0 = 6 by decide)).1 (ar_6_39 (show kd 0 = 6 by decide)).2 hb25 (by decide) ?_
    refine E_astore (ls' := [.ref (0), .int (p0), .int (p1), .long (p2), un, .int (r2), .ref (41 + 2 * p0.toNatClampNeg), un, un]) dX6_write_26 (by decide) (ne999 (sh_at (ar_6_39 (show kd 0 = 6 by decide)).1 hb25) (by decide)) rfl ?_
    refine E_iload_n dX6_write_28 rfl ?_
    refine E_iconst (v := 0) dX6_write_29 (by decide) ?_
    refine E_aload dX6_write_30 rfl ?_
    refine E_getI (j := 2) dX6_write_32 (sh_at (ar_6_39 (show kd 0 = 6 by decide)).1 hb25) (by decide) rfl fd_RX6_248 ?_
    refine E_iconst (v := 1) dX6_write_35 (by decide) ?_
    refine E_isub dX6_write_36 ?_
    refine E_callS (As := [.int (p1), .int (0), .int ((gI σ (41 + 2 * p0.toNatClampNeg) 2) - 1)]) (rest := []) dX6_write_37 cl_RX6_116 tw_143 ⟨rfl, rfl, Nat.le_of_ble_eq_true rfl, Nat.le_of_ble_eq_true rfl⟩ rfl rfl (Nat.le_of_ble_eq_true rfl) (mt_X6_isWithin _ _ _ _ _  hP) ?_
    intro r0 s0 hq0; obtain ⟨r37, h0, hs0, hP⟩ := hq0; subst h0; rw [hs0]
    show eX6_write 40 [.ref (0), .int (p0), .int (p1), .long (p2), un, .int (r2), .ref (41 + 2 * p0.toNatClampNeg), un, un] [.int (bI r37)] σ _
    refine E_ifz_ne 51 dX6_write_40 (by decide) (fun hc => ?_) (fun hc => ?_)
    · replace hP := hP.1 hc
      refine E_aload dX6_write_51 rfl ?_
      refine E_getR (j := 0) dX6_write_53 (sh_at (ar_6_39 (show kd 0 = 6 by decide)).1 hb25) (by decide) rfl fd_RX6_254 (by decide) ?_
      refine E_iload_n dX6_write_56 rfl ?_
      obtain ⟨hb, hP⟩ := hP
      refine E_lald dX6_write_57 (ar_2_1 (sh_at (ar_6_39 (show kd 0 = 6 by decide)).1 hb25)).1 (ar_2_1 (sh_at (ar_6_39 (show kd 0 = 6 by decide)).1 hb25)).2 hb ?_
      refine E_lstore (ls' := [.ref (0), .int (p0), .int (p1), .long (p2), un, .int (r2), .ref (41 + 2 * p0.toNatClampNeg), .long (gL σ (41 + 2 * p0.toNatClampNeg + 1) p1.toNatClampNeg), un]) dX6_write_58 (by decide) rfl ?_
      refine E_aload dX6_write_60 rfl ?_
      refine E_iload_n dX6_write_62 rfl ?_
      refine E_lload_n dX6_write_63 rfl ?_
      refine E_callV (As := [.int (p1), .long (p2)]) (rest := []) dX6_write_64 cl_RX6_257 tw_428 (sh_at (ar_6_39 (show kd 0 = 6 by decide)).1 hb25) (by decide) rfl tw_429 ⟨rfl, rfl, Nat.le_of_ble_eq_true rfl, Nat.le_of_ble_eq_true rfl⟩ rfl rfl (Nat.le_of_ble_eq_true rfl) (mt_X2_put _ _ _ _ _ (sh_at (ar_6_39 (show kd 0 = 6 by decide)).1 hb25) hP) ?_
      rintro _ t64 ⟨rfl, hP⟩
      show eX6_write 67 [.ref (0), .int (p0), .int (p1), .long (p2), un, .int (r2), .ref (41 + 2 * p0.toNatClampNeg), .long (gL σ (41 + 2 * p0.toNatClampNeg + 1) p1.toNatClampNeg), un] [] t64 _
      refine E_lload dX6_write_67 rfl ?_
      exact E_lret dX6_write_69 rfl ⟨_, rfl, hP⟩
    · replace hP := hP.2 hc
      refine E_aload_n dX6_write_43 rfl ?_
      refine E_ldc (v := (-1000000001)) dX6_write_44 tw_274 ?_
      refine E_callV (As := [.int ((-1000000001))]) (rest := []) dX6_write_46 cl_RX6_65 tw_279 (show kd 0 = 6 by decide) (by decide) rfl tw_280 ⟨rfl, rfl, Nat.le_of_ble_eq_true rfl, Nat.le_of_ble_eq_true rfl⟩ rfl rfl (Nat.le_of_ble_eq_true rfl) (mt_X6_finding _ _ _  hP) ?_
      rintro _ t46 ⟨r46, rfl, hP⟩
      show eX6_write 49 [.ref (0), .int (p0), .int (p1), .long (p2), un, .int (r2), .ref (41 + 2 * p0.toNatClampNeg), un, un] [.int (r46)] t46 _
      refine E_i2l dX6_write_49 ?_
      exact E_lret dX6_write_50 rfl ⟨_, rfl, hP⟩
  · replace hP := hP.2 hc
    refine E_aload_n dX6_write_12 rfl ?_
    refine E_iload dX6_write_13 rfl ?_
    refine E_callV (As := [.int (r2)]) (rest := []) dX6_write_15 cl_RX6_65 tw_279 (show kd 0 = 6 by decide) (by decide) rfl tw_280 ⟨rfl, rfl, Nat.le_of_ble_eq_true rfl, Nat.le_of_ble_eq_true rfl⟩ rfl rfl (Nat.le_of_ble_eq_true rfl) (mt_X6_finding _ _ _  hP) ?_
    rintro _ t15 ⟨r15, rfl, hP⟩
    show eX6_write 18 [.ref (0), .int (p0), .int (p1), .long (p2), un, .int (r2), un, un, un] [.int (r15)] t15 _
    refine E_i2l dX6_write_18 ?_
    exact E_lret dX6_write_19 rfl ⟨_, rfl, hP⟩
theorem dX6_copy_0 : decode cX6_copy 0 = .ok (.iload_n 1, 1) := by decide +kernel
theorem dX6_copy_1 : decode cX6_copy 1 = .ok (.invokestatic 237, 3) := by decide +kernel
theorem dX6_copy_4 : decode cX6_copy 4 = .ok (.ifCond .eq 10, 3) := by decide +kernel
theorem dX6_copy_7 : decode cX6_copy 7 = .ok (.iload_n 3, 1) := by decide +kernel
theorem dX6_copy_8 : decode cX6_copy 8 = .ok (.invokestatic 237, 3) := by decide +kernel
theorem dX6_copy_11 : decode cX6_copy 11 = .ok (.ifCond .ne 10, 3) := by decide +kernel
theorem dX6_copy_14 : decode cX6_copy 14 = .ok (.aload_n 0, 1) := by decide +kernel
theorem dX6_copy_15 : decode cX6_copy 15 = .ok (.ldc 64, 2) := by decide +kernel
theorem dX6_copy_17 : decode cX6_copy 17 = .ok (.invokevirtual 65, 3) := by decide +kernel
theorem dX6_copy_20 : decode cX6_copy 20 = .ok (.ireturn, 1) := by decide +kernel
theorem dX6_copy_21 : decode cX6_copy 21 = .ok (.aload_n 0, 1) := by decide +kernel
theorem dX6_copy_22 : decode cX6_copy 22 = .ok (.getfield 45, 3) := by decide +kernel
theorem dX6_copy_25 : decode cX6_copy 25 = .ok (.iload_n 1, 1) := by decide +kernel
theorem dX6_copy_26 : decode cX6_copy 26 = .ok (.aaload, 1) := by decide +kernel
theorem dX6_copy_27 : decode cX6_copy 27 = .ok (.astore 6, 2) := by decide +kernel
theorem dX6_copy_29 : decode cX6_copy 29 = .ok (.aload_n 0, 1) := by decide +kernel
theorem dX6_copy_30 : decode cX6_copy 30 = .ok (.getfield 45, 3) := by decide +kernel
theorem dX6_copy_33 : decode cX6_copy 33 = .ok (.iload_n 3, 1) := by decide +kernel
theorem dX6_copy_34 : decode cX6_copy 34 = .ok (.aaload, 1) := by decide +kernel
theorem dX6_copy_35 : decode cX6_copy 35 = .ok (.astore 7, 2) := by decide +kernel
theorem dX6_copy_37 : decode cX6_copy 37 = .ok (.aload 6, 2) := by decide +kernel
theorem dX6_copy_39 : decode cX6_copy 39 = .ok (.getfield 260, 3) := by decide +kernel
theorem dX6_copy_42 : decode cX6_copy 42 = .ok (.ifCond .eq 11, 3) := by decide +kernel
theorem dX6_copy_45 : decode cX6_copy 45 = .ok (.aload 7, 2) := by decide +kernel
theorem dX6_copy_47 : decode cX6_copy 47 = .ok (.getfield 260, 3) := by decide +kernel
theorem dX6_copy_50 : decode cX6_copy 50 = .ok (.ifCond .ne 11, 3) := by decide +kernel
theorem dX6_copy_53 : decode cX6_copy 53 = .ok (.aload_n 0, 1) := by decide +kernel
theorem dX6_copy_54 : decode cX6_copy 54 = .ok (.ldc_w 263, 3) := by decide +kernel
theorem dX6_copy_57 : decode cX6_copy 57 = .ok (.invokevirtual 65, 3) := by decide +kernel
theorem dX6_copy_60 : decode cX6_copy 60 = .ok (.ireturn, 1) := by decide +kernel
theorem dX6_copy_61 : decode cX6_copy 61 = .ok (.aload 6, 2) := by decide +kernel
theorem dX6_copy_63 : decode cX6_copy 63 = .ok (.getfield 260, 3) := by decide +kernel
theorem dX6_copy_66 : decode cX6_copy 66 = .ok (.aload 7, 2) := by decide +kernel
theorem dX6_copy_68 : decode cX6_copy 68 = .ok (.getfield 260, 3) := by decide +kernel
theorem dX6_copy_71 : decode cX6_copy 71 = .ok (.if_icmp .eq 10, 3) := by decide +kernel
theorem dX6_copy_74 : decode cX6_copy 74 = .ok (.aload_n 0, 1) := by decide +kernel
theorem dX6_copy_75 : decode cX6_copy 75 = .ok (.ldc 123, 2) := by decide +kernel
theorem dX6_copy_77 : decode cX6_copy 77 = .ok (.invokevirtual 65, 3) := by decide +kernel
theorem dX6_copy_80 : decode cX6_copy 80 = .ok (.ireturn, 1) := by decide +kernel
theorem dX6_copy_81 : decode cX6_copy 81 = .ok (.aload 6, 2) := by decide +kernel
theorem dX6_copy_83 : decode cX6_copy 83 = .ok (.iload_n 2, 1) := by decide +kernel
theorem dX6_copy_84 : decode cX6_copy 84 = .ok (.iload 5, 2) := by decide +kernel
theorem dX6_copy_86 : decode cX6_copy 86 = .ok (.invokevirtual 264, 3) := by decide +kernel
theorem dX6_copy_89 : decode cX6_copy 89 = .ok (.ifCond .eq 15, 3) := by decide +kernel
theorem dX6_copy_92 : decode cX6_copy 92 = .ok (.aload 7, 2) := by decide +kernel
theorem dX6_copy_94 : decode cX6_copy 94 = .ok (.iload 4, 2) := by decide +kernel
theorem dX6_copy_96 : decode cX6_copy 96 = .ok (.iload 5, 2) := by decide +kernel
theorem dX6_copy_98 : decode cX6_copy 98 = .ok (.invokevirtual 264, 3) := by decide +kernel
theorem dX6_copy_101 : decode cX6_copy 101 = .ok (.ifCond .ne 10, 3) := by decide +kernel
theorem dX6_copy_104 : decode cX6_copy 104 = .ok (.aload_n 0, 1) := by decide +kernel
theorem dX6_copy_105 : decode cX6_copy 105 = .ok (.ldc 64, 2) := by decide +kernel
theorem dX6_copy_107 : decode cX6_copy 107 = .ok (.invokevirtual 65, 3) := by decide +kernel
theorem dX6_copy_110 : decode cX6_copy 110 = .ok (.ireturn, 1) := by decide +kernel
theorem dX6_copy_111 : decode cX6_copy 111 = .ok (.aload 6, 2) := by decide +kernel
theorem dX6_copy_113 : decode cX6_copy 113 = .ok (.getfield 254, 3) := by decide +kernel
theorem dX6_copy_116 : decode cX6_copy 116 = .ok (.iload_n 2, 1) := by decide +kernel
theorem dX6_copy_117 : decode cX6_copy 117 = .ok (.aload 7, 2) := by decide +kernel
theorem dX6_copy_119 : decode cX6_copy 119 = .ok (.getfield 254, 3) := by decide +kernel
theorem dX6_copy_122 : decode cX6_copy 122 = .ok (.iload 4, 2) := by decide +kernel
theorem dX6_copy_124 : decode cX6_copy 124 = .ok (.iload 5, 2) := by decide +kernel
theorem dX6_copy_126 : decode cX6_copy 126 = .ok (.invokestatic 267, 3) := by decide +kernel
theorem dX6_copy_129 : decode cX6_copy 129 = .ok (.iload 5, 2) := by decide +kernel
theorem dX6_copy_131 : decode cX6_copy 131 = .ok (.ireturn, 1) := by decide +kernel
def rmX6_copy : Room := { frames := 2, cells := 0, slots := 0, locals := 44 }
abbrev eX6_copy := Ev cX6_copy 8 (some .int) RX6 rmX6_copy
set_option maxRecDepth 20000 in
theorem mt_X6_copy (p0 : Int32) (p1 : Int32) (p2 : Int32) (p3 : Int32) (p4 : Int32) (σ : St) (Q : Int32 → St → Prop)  (hP : P_X6_copy p0 p1 p2 p3 p4 σ Q) : Mt yX6_copy cX6_copy 8 (some .int) rmX6_copy [.ref (0), .int (p0), .int (p1), .int (p2), .int (p3), .int (p4)] σ (qI Q) := by
  refine Mt.of (k := 2) (ls := [.ref (0), .int (p0), .int (p1), .int (p2), .int (p3), .int (p4), un, un]) (by decide +kernel) rfl (Nat.le_of_ble_eq_true rfl) ?_
  show eX6_copy 0 [.ref (0), .int (p0), .int (p1), .int (p2), .int (p3), .int (p4), un, un] [] σ _
  unfold P_X6_copy at hP
  refine E_iload_n dX6_copy_0 rfl ?_
  refine E_callS (As := [.int (p0)]) (rest := []) dX6_copy_1 cl_RX6_237 tw_422 ⟨rfl, rfl, Nat.le_of_ble_eq_true rfl, Nat.le_of_ble_eq_true rfl⟩ rfl rfl (Nat.le_of_ble_eq_true rfl) (mt_X6_isSheet _ _ _  hP) ?_
  intro r0 s0 hq0; obtain ⟨r1, h0, hs0, hP⟩ := hq0; subst h0; rw [hs0]
  show eX6_copy 4 [.ref (0), .int (p0), .int (p1), .int (p2), .int (p3), .int (p4), un, un] [.int (bI r1)] σ _
  refine E_ifz_eq 14 dX6_copy_4 (by decide) (fun hc => ?_) (fun hc => ?_)
  · replace hP := hP.1 hc
    refine E_aload_n dX6_copy_14 rfl ?_
    refine E_ldc (v := (-1000000001)) dX6_copy_15 tw_274 ?_
    refine E_callV (As := [.int ((-1000000001))]) (rest := []) dX6_copy_17 cl_RX6_65 tw_279 (show kd 0 = 6 by decide) (by decide) rfl tw_280 ⟨rfl, rfl, Nat.le_of_ble_eq_true rfl, Nat.le_of_ble_eq_true rfl⟩ rfl rfl (Nat.le_of_ble_eq_true rfl) (mt_X6_finding _ _ _  hP) ?_
    rintro _ t17 ⟨r17, rfl, hP⟩
    show eX6_copy 20 [.ref (0), .int (p0), .int (p1), .int (p2), .int (p3), .int (p4), un, un] [.int (r17)] t17 _
    exact E_iret dX6_copy_20 rfl ⟨_, rfl, hP⟩
  · replace hP := hP.2 hc
    refine E_iload_n dX6_copy_7 rfl ?_
    refine E_callS (As := [.int (p2)]) (rest := []) dX6_copy_8 cl_RX6_237 tw_422 ⟨rfl, rfl, Nat.le_of_ble_eq_true rfl, Nat.le_of_ble_eq_true rfl⟩ rfl rfl (Nat.le_of_ble_eq_true rfl) (mt_X6_isSheet _ _ _  hP) ?_
    intro r0 s0 hq0; obtain ⟨r8, h0, hs0, hP⟩ := hq0; subst h0; rw [hs0]
    show eX6_copy 11 [.ref (0), .int (p0), .int (p1), .int (p2), .int (p3), .int (p4), un, un] [.int (bI r8)] σ _
    refine E_ifz_ne 21 dX6_copy_11 (by decide) (fun hc => ?_) (fun hc => ?_)
    · replace hP := hP.1 hc
      refine E_aload_n dX6_copy_21 rfl ?_
      refine E_getR (j := 6) dX6_copy_22 (show kd 0 = 6 by decide) (by decide) rfl fd_RX6_45 (by decide) ?_
      refine E_iload_n dX6_copy_25 rfl ?_
      obtain ⟨hb26, hP⟩ := hP
      refine E_aald dX6_copy_26 (ar_6_39 (show kd 0 = 6 by decide)).1 (ar_6_39 (show kd 0 = 6 by decide)).2 hb26 (by decide) ?_
      refine E_astore (ls' := [.ref (0), .int (p0), .int (p1), .int (p2), .int (p3), .int (p4), .ref (41 + 2 * p0.toNatClampNeg), un]) dX6_copy_27 (by decide) (ne999 (sh_at (ar_6_39 (show kd 0 = 6 by decide)).1 hb26) (by decide)) rfl ?_
      refine E_aload_n dX6_copy_29 rfl ?_
      refine E_getR (j := 6) dX6_copy_30 (show kd 0 = 6 by decide) (by decide) rfl fd_RX6_45 (by decide) ?_
      refine E_iload_n dX6_copy_33 rfl ?_
      obtain ⟨hb34, hP⟩ := hP
      refine E_aald dX6_copy_34 (ar_6_39 (show kd 0 = 6 by decide)).1 (ar_6_39 (show kd 0 = 6 by decide)).2 hb34 (by decide) ?_
      refine E_astore (ls' := [.ref (0), .int (p0), .int (p1), .int (p2), .int (p3), .int (p4), .ref (41 + 2 * p0.toNatClampNeg), .ref (41 + 2 * p2.toNatClampNeg)]) dX6_copy_35 (by decide) (ne999 (sh_at (ar_6_39 (show kd 0 = 6 by decide)).1 hb34) (by decide)) rfl ?_
      refine E_aload dX6_copy_37 rfl ?_
      refine E_getI (j := 1) dX6_copy_39 (sh_at (ar_6_39 (show kd 0 = 6 by decide)).1 hb26) (by decide) rfl fd_RX6_260 ?_
      refine E_if_eq 53 dX6_copy_42 (by decide) (fun hc => ?_) (fun hc => ?_)
      · replace hP := hP.1 hc
        refine E_aload_n dX6_copy_53 rfl ?_
        refine E_ldcw (v := (-1000000006)) dX6_copy_54 tw_424 ?_
        refine E_callV (As := [.int ((-1000000006))]) (rest := []) dX6_copy_57 cl_RX6_65 tw_279 (show kd 0 = 6 by decide) (by decide) rfl tw_280 ⟨rfl, rfl, Nat.le_of_ble_eq_true rfl, Nat.le_of_ble_eq_true rfl⟩ rfl rfl (Nat.le_of_ble_eq_true rfl) (mt_X6_finding _ _ _  hP) ?_
        rintro _ t57 ⟨r57, rfl, hP⟩
        show eX6_copy 60 [.ref (0), .int (p0), .int (p1), .int (p2), .int (p3), .int (p4), .ref (41 + 2 * p0.toNatClampNeg), .ref (41 + 2 * p2.toNatClampNeg)] [.int (r57)] t57 _
        exact E_iret dX6_copy_60 rfl ⟨_, rfl, hP⟩
      · replace hP := hP.2 hc
        refine E_aload dX6_copy_45 rfl ?_
        refine E_getI (j := 1) dX6_copy_47 (sh_at (ar_6_39 (show kd 0 = 6 by decide)).1 hb34) (by decide) rfl fd_RX6_260 ?_
        refine E_if_ne 61 dX6_copy_50 (by decide) (fun hc => ?_) (fun hc => ?_)
        · replace hP := hP.1 hc
          refine E_aload dX6_copy_61 rfl ?_
          refine E_getI (j := 1) dX6_copy_63 (sh_at (ar_6_39 (show kd 0 = 6 by decide)).1 hb26) (by decide) rfl fd_RX6_260 ?_
          refine E_aload dX6_copy_66 rfl ?_
          refine E_getI (j := 1) dX6_copy_68 (sh_at (ar_6_39 (show kd 0 = 6 by decide)).1 hb34) (by decide) rfl fd_RX6_260 ?_
          refine E_icmp_eq 81 dX6_copy_71 (by decide) (fun hc => ?_) (fun hc => ?_)
          · replace hP := hP.1 hc
            refine E_aload dX6_copy_81 rfl ?_
            refine E_iload_n dX6_copy_83 rfl ?_
            refine E_iload dX6_copy_84 rfl ?_
            refine E_callV (As := [.int (p1), .int (p4)]) (rest := []) dX6_copy_86 cl_RX6_264 tw_437 (sh_at (ar_6_39 (show kd 0 = 6 by decide)).1 hb26) (by decide) rfl tw_438 ⟨rfl, rfl, Nat.le_of_ble_eq_true rfl, Nat.le_of_ble_eq_true rfl⟩ rfl rfl (Nat.le_of_ble_eq_true rfl) (mt_X2_hasPart _ _ _ _ _ (sh_at (ar_6_39 (show kd 0 = 6 by decide)).1 hb26) hP) ?_
            intro r0 s0 hq0; obtain ⟨r86, h0, hs0, hP⟩ := hq0; subst h0; rw [hs0]
            show eX6_copy 89 [.ref (0), .int (p0), .int (p1), .int (p2), .int (p3), .int (p4), .ref (41 + 2 * p0.toNatClampNeg), .ref (41 + 2 * p2.toNatClampNeg)] [.int (bI r86)] σ _
            refine E_ifz_eq 104 dX6_copy_89 (by decide) (fun hc => ?_) (fun hc => ?_)
            · replace hP := hP.1 hc
              refine E_aload_n dX6_copy_104 rfl ?_
              refine E_ldc (v := (-1000000001)) dX6_copy_105 tw_274 ?_
              refine E_callV (As := [.int ((-1000000001))]) (rest := []) dX6_copy_107 cl_RX6_65 tw_279 (show kd 0 = 6 by decide) (by decide) rfl tw_280 ⟨rfl, rfl, Nat.le_of_ble_eq_true rfl, Nat.le_of_ble_eq_true rfl⟩ rfl rfl (Nat.le_of_ble_eq_true rfl) (mt_X6_finding _ _ _  hP) ?_
              rintro _ t107 ⟨r107, rfl, hP⟩
              show eX6_copy 110 [.ref (0), .int (p0), .int (p1), .int (p2), .int (p3), .int (p4), .ref (41 + 2 * p0.toNatClampNeg), .ref (41 + 2 * p2.toNatClampNeg)] [.int (r107)] t107 _
              exact E_iret dX6_copy_110 rfl ⟨_, rfl, hP⟩
            · replace hP := hP.2 hc
              refine E_aload dX6_copy_92 rfl ?_
              refine E_iload dX6_copy_94 rfl ?_
              refine E_iload dX6_copy_96 rfl ?_
              refine E_callV (As := [.int (p3), .int (p4)]) (rest := []) dX6_copy_98 cl_RX6_264 tw_437 (sh_at (ar_6_39 (show kd 0 = 6 by decide)).1 hb34) (by decide) rfl tw_438 ⟨rfl, rfl, Nat.le_of_ble_eq_true rfl, Nat.le_of_ble_eq_true rfl⟩ rfl rfl (Nat.le_of_ble_eq_true rfl) (mt_X2_hasPart _ _ _ _ _ (sh_at (ar_6_39 (show kd 0 = 6 by decide)).1 hb34) hP) ?_
              intro r0 s0 hq0; obtain ⟨r98, h0, hs0, hP⟩ := hq0; subst h0; rw [hs0]
              show eX6_copy 101 [.ref (0), .int (p0), .int (p1), .int (p2), .int (p3), .int (p4), .ref (41 + 2 * p0.toNatClampNeg), .ref (41 + 2 * p2.toNatClampNeg)] [.int (bI r98)] σ _
              refine E_ifz_ne 111 dX6_copy_101 (by decide) (fun hc => ?_) (fun hc => ?_)
              · replace hP := hP.1 hc
                refine E_aload dX6_copy_111 rfl ?_
                refine E_getR (j := 0) dX6_copy_113 (sh_at (ar_6_39 (show kd 0 = 6 by decide)).1 hb26) (by decide) rfl fd_RX6_254 (by decide) ?_
                refine E_iload_n dX6_copy_116 rfl ?_
                refine E_aload dX6_copy_117 rfl ?_
                refine E_getR (j := 0) dX6_copy_119 (sh_at (ar_6_39 (show kd 0 = 6 by decide)).1 hb34) (by decide) rfl fd_RX6_254 (by decide) ?_
                refine E_iload dX6_copy_122 rfl ?_
                refine E_iload dX6_copy_124 rfl ?_
                obtain ⟨hb, hP⟩ := hP
                refine E_cpL dX6_copy_126 tw_434 tw_10 tw_11 tw_12 (ar_2_1 (sh_at (ar_6_39 (show kd 0 = 6 by decide)).1 hb26)).1 (ar_2_1 (sh_at (ar_6_39 (show kd 0 = 6 by decide)).1 hb26)).2 (ar_2_1 (sh_at (ar_6_39 (show kd 0 = 6 by decide)).1 hb34)).1 (ar_2_1 (sh_at (ar_6_39 (show kd 0 = 6 by decide)).1 hb34)).2 ⟨Nat.le_of_ble_eq_true rfl, Nat.le_of_ble_eq_true rfl⟩ hb.1 hb.2.1 hb.2.2.1 hb.2.2.2.1 hb.2.2.2.2 ?_
                refine E_iload dX6_copy_129 rfl ?_
                exact E_iret dX6_copy_131 rfl ⟨_, rfl, hP⟩
              · replace hP := hP.2 hc
                refine E_aload_n dX6_copy_104 rfl ?_
                refine E_ldc (v := (-1000000001)) dX6_copy_105 tw_274 ?_
                refine E_callV (As := [.int ((-1000000001))]) (rest := []) dX6_copy_107 cl_RX6_65 tw_279 (show kd 0 = 6 by decide) (by decide) rfl tw_280 ⟨rfl, rfl, Nat.le_of_ble_eq_true rfl, Nat.le_of_ble_eq_true rfl⟩ rfl rfl (Nat.le_of_ble_eq_true rfl) (mt_X6_finding _ _ _  hP) ?_
                rintro _ t107 ⟨r107, rfl, hP⟩
                show eX6_copy 110 [.ref (0), .int (p0), .int (p1), .int (p2), .int (p3), .int (p4), .ref (41 + 2 * p0.toNatClampNeg), .ref (41 + 2 * p2.toNatClampNeg)] [.int (r107)] t107 _
                exact E_iret dX6_copy_110 rfl ⟨_, rfl, hP⟩
          · replace hP := hP.2 hc
            refine E_aload_n dX6_copy_74 rfl ?_
            refine E_ldc (v := (-1000000003)) dX6_copy_75 tw_321 ?_
            refine E_callV (As := [.int ((-1000000003))]) (rest := []) dX6_copy_77 cl_RX6_65 tw_279 (show kd 0 = 6 by decide) (by decide) rfl tw_280 ⟨rfl, rfl, Nat.le_of_ble_eq_true rfl, Nat.le_of_ble_eq_true rfl⟩ rfl rfl (Nat.le_of_ble_eq_true rfl) (mt_X6_finding _ _ _  hP) ?_
            rintro _ t77 ⟨r77, rfl, hP⟩
            show eX6_copy 80 [.ref (0), .int (p0), .int (p1), .int (p2), .int (p3), .int (p4), .ref (41 + 2 * p0.toNatClampNeg), .ref (41 + 2 * p2.toNatClampNeg)] [.int (r77)] t77 _
            exact E_iret dX6_copy_80 rfl ⟨_, rfl, hP⟩
        · replace hP := hP.2 hc
          refine E_aload_n dX6_copy_53 rfl ?_
          refine E_ldcw (v := (-1000000006)) dX6_copy_54 tw_424 ?_
          refine E_callV (As := [.int ((-1000000006))]) (rest := []) dX6_copy_57 cl_RX6_65 tw_279 (show kd 0 = 6 by decide) (by decide) rfl tw_280 ⟨rfl, rfl, Nat.le_of_ble_eq_true rfl, Nat.le_of_ble_eq_true rfl⟩ rfl rfl (Nat.le_of_ble_eq_true rfl) (mt_X6_finding _ _ _  hP) ?_
          rintro _ t57 ⟨r57, rfl, hP⟩
          show eX6_copy 60 [.ref (0), .int (p0), .int (p1), .int (p2), .int (p3), .int (p4), .ref (41 + 2 * p0.toNatClampNeg), .ref (41 + 2 * p2.toNatClampNeg)] [.int (r57)] t57 _
          exact E_iret dX6_copy_60 rfl ⟨_, rfl, hP⟩
    · replace hP := hP.2 hc
      refine E_aload_n dX6_copy_14 rfl ?_
      refine E_ldc (v := (-1000000001)) dX6_copy_15 tw_274 ?_
      refine E_callV (As := [.int ((-1000000001))]) (rest := []) dX6_copy_17 cl_RX6_65 tw_279 (show kd 0 = 6 by decide) (by decide) rfl tw_280 ⟨rfl, rfl, Nat.le_of_ble_eq_true rfl, Nat.le_of_ble_eq_true rfl⟩ rfl rfl (Nat.le_of_ble_eq_true rfl) (mt_X6_finding _ _ _  hP) ?_
      rintro _ t17 ⟨r17, rfl, hP⟩
      show eX6_copy 20 [.ref (0), .int (p0), .int (p1), .int (p2), .int (p3), .int (p4), un, un] [.int (r17)] t17 _
      exact E_iret dX6_copy_20 rfl ⟨_, rfl, hP⟩
theorem dX6_lays_0 : decode cX6_lays 0 = .ok (.aload_n 0, 1) := by decide +kernel
theorem dX6_lays_1 : decode cX6_lays 1 = .ok (.iload_n 1, 1) := by decide +kernel
theorem dX6_lays_2 : decode cX6_lays 2 = .ok (.invokevirtual 251, 3) := by decide +kernel
theorem dX6_lays_5 : decode cX6_lays 5 = .ok (.istore_n 2, 1) := by decide +kernel
theorem dX6_lays_6 : decode cX6_lays 6 = .ok (.iload_n 2, 1) := by decide +kernel
theorem dX6_lays_7 : decode cX6_lays 7 = .ok (.ifCond .eq 9, 3) := by decide +kernel
theorem dX6_lays_10 : decode cX6_lays 10 = .ok (.aload_n 0, 1) := by decide +kernel
theorem dX6_lays_11 : decode cX6_lays 11 = .ok (.iload_n 2, 1) := by decide +kernel
theorem dX6_lays_12 : decode cX6_lays 12 = .ok (.invokevirtual 65, 3) := by decide +kernel
theorem dX6_lays_15 : decode cX6_lays 15 = .ok (.ireturn, 1) := by decide +kernel
theorem dX6_lays_16 : decode cX6_lays 16 = .ok (.aload_n 0, 1) := by decide +kernel
theorem dX6_lays_17 : decode cX6_lays 17 = .ok (.getfield 45, 3) := by decide +kernel
theorem dX6_lays_20 : decode cX6_lays 20 = .ok (.iload_n 1, 1) := by decide +kernel
theorem dX6_lays_21 : decode cX6_lays 21 = .ok (.aaload, 1) := by decide +kernel
theorem dX6_lays_22 : decode cX6_lays 22 = .ok (.astore_n 3, 1) := by decide +kernel
theorem dX6_lays_23 : decode cX6_lays 23 = .ok (.iconst 0, 1) := by decide +kernel
theorem dX6_lays_24 : decode cX6_lays 24 = .ok (.istore 4, 2) := by decide +kernel
theorem dX6_lays_26 : decode cX6_lays 26 = .ok (.iload 4, 2) := by decide +kernel
theorem dX6_lays_28 : decode cX6_lays 28 = .ok (.aload_n 3, 1) := by decide +kernel
theorem dX6_lays_29 : decode cX6_lays 29 = .ok (.getfield 248, 3) := by decide +kernel
theorem dX6_lays_32 : decode cX6_lays 32 = .ok (.if_icmp .ge 81, 3) := by decide +kernel
theorem dX6_lays_35 : decode cX6_lays 35 = .ok (.aload_n 3, 1) := by decide +kernel
theorem dX6_lays_36 : decode cX6_lays 36 = .ok (.getfield 254, 3) := by decide +kernel
theorem dX6_lays_39 : decode cX6_lays 39 = .ok (.iload 4, 2) := by decide +kernel
theorem dX6_lays_41 : decode cX6_lays 41 = .ok (.laload, 1) := by decide +kernel
theorem dX6_lays_42 : decode cX6_lays 42 = .ok (.lstore 5, 2) := by decide +kernel
theorem dX6_lays_44 : decode cX6_lays 44 = .ok (.lload 5, 2) := by decide +kernel
theorem dX6_lays_46 : decode cX6_lays 46 = .ok (.lconst 0, 1) := by decide +kernel
theorem dX6_lays_47 : decode cX6_lays 47 = .ok (.lcmp, 1) := by decide +kernel
theorem dX6_lays_48 : decode cX6_lays 48 = .ok (.ifCond .lt 12, 3) := by decide +kernel
theorem dX6_lays_51 : decode cX6_lays 51 = .ok (.lload 5, 2) := by decide +kernel
theorem dX6_lays_53 : decode cX6_lays 53 = .ok (.ldc2_w 273, 3) := by decide +kernel
theorem dX6_lays_56 : decode cX6_lays 56 = .ok (.lcmp, 1) := by decide +kernel
theorem dX6_lays_57 : decode cX6_lays 57 = .ok (.ifCond .lt 6, 3) := by decide +kernel
theorem dX6_lays_60 : decode cX6_lays 60 = .ok (.iload 4, 2) := by decide +kernel
theorem dX6_lays_62 : decode cX6_lays 62 = .ok (.ireturn, 1) := by decide +kernel
theorem dX6_lays_63 : decode cX6_lays 63 = .ok (.aload_n 0, 1) := by decide +kernel
theorem dX6_lays_64 : decode cX6_lays 64 = .ok (.getfield 25, 3) := by decide +kernel
theorem dX6_lays_67 : decode cX6_lays 67 = .ok (.aload_n 0, 1) := by decide +kernel
theorem dX6_lays_68 : decode cX6_lays 68 = .ok (.getfield 12, 3) := by decide +kernel
theorem dX6_lays_71 : decode cX6_lays 71 = .ok (.invokevirtual 152, 3) := by decide +kernel
theorem dX6_lays_74 : decode cX6_lays 74 = .ok (.aload_n 0, 1) := by decide +kernel
theorem dX6_lays_75 : decode cX6_lays 75 = .ok (.getfield 25, 3) := by decide +kernel
theorem dX6_lays_78 : decode cX6_lays 78 = .ok (.aload_n 0, 1) := by decide +kernel
theorem dX6_lays_79 : decode cX6_lays 79 = .ok (.getfield 25, 3) := by decide +kernel
theorem dX6_lays_82 : decode cX6_lays 82 = .ok (.getfield 156, 3) := by decide +kernel
theorem dX6_lays_85 : decode cX6_lays 85 = .ok (.lload 5, 2) := by decide +kernel
theorem dX6_lays_87 : decode cX6_lays 87 = .ok (.l2i, 1) := by decide +kernel
theorem dX6_lays_88 : decode cX6_lays 88 = .ok (.invokevirtual 162, 3) := by decide +kernel
theorem dX6_lays_91 : decode cX6_lays 91 = .ok (.ifCond .ne 6, 3) := by decide +kernel
theorem dX6_lays_94 : decode cX6_lays 94 = .ok (.iload 4, 2) := by decide +kernel
theorem dX6_lays_96 : decode cX6_lays 96 = .ok (.ireturn, 1) := by decide +kernel
theorem dX6_lays_97 : decode cX6_lays 97 = .ok (.aload_n 0, 1) := by decide +kernel
theorem dX6_lays_98 : decode cX6_lays 98 = .ok (.getfield 12, 3) := by decide +kernel
theorem dX6_lays_101 : decode cX6_lays 101 = .ok (.lload 5, 2) := by decide +kernel
theorem dX6_lays_103 : decode cX6_lays 103 = .ok (.l2i, 1) := by decide +kernel
theorem dX6_lays_104 : decode cX6_lays 104 = .ok (.invokevirtual 165, 3) := by decide +kernel
theorem dX6_lays_107 : decode cX6_lays 107 = .ok (.iinc 4 1, 3) := by decide +kernel
theorem dX6_lays_110 : decode cX6_lays 110 = .ok (.goto (-84), 3) := by decide +kernel
theorem dX6_lays_113 : decode cX6_lays 113 = .ok (.aload_n 3, 1) := by decide +kernel
theorem dX6_lays_114 : decode cX6_lays 114 = .ok (.getfield 248, 3) := by decide +kernel
theorem dX6_lays_117 : decode cX6_lays 117 = .ok (.ireturn, 1) := by decide +kernel
def rmX6_lays : Room := { frames := 3, cells := 0, slots := 0, locals := 75 }
abbrev eX6_lays := Ev cX6_lays 7 (some .int) RX6 rmX6_lays
set_option maxRecDepth 20000 in
theorem ev_X6_lays_l26 (l3 : Nat) (o_l3 : kd (l3) = 2) (K : St → Prop) (Q : Int32 → St → Prop) (hK : ∀  s, K  s → eX6_lays 113 [un, un, un, .ref (l3), un, un, un] [] s (qI Q)) : ∀ (n : Nat) (l4 : Int32) (σ : St), P_X6_lays_l26 l3 K Q n l4 σ → eX6_lays 26 [.ref (0), un, un, .ref (l3), .int (l4), un, un] [] σ (qI Q) := by
  intro n
  induction n with
  | zero => intro l4 σ hP; exact hP.elim
  | succ n ih =>
    intro l4 σ hP
    rw [P_X6_lays_l26] at hP
    refine E_iload dX6_lays_26 rfl ?_
    refine E_aload_n dX6_lays_28 rfl ?_
    refine E_getI (j := 2) dX6_lays_29 o_l3 (by decide) rfl fd_RX6_248 ?_
    refine E_icmp_ge 113 dX6_lays_32 (by decide) (fun hc => ?_) (fun hc => ?_)
    · replace hP := hP.1 hc
      refine E_mask [false, false, false, true, false, false, false] rfl ?_
      exact hK  _ hP
    · replace hP := hP.2 hc
      refine E_aload_n dX6_lays_35 rfl ?_
      refine E_getR (j := 0) dX6_lays_36 o_l3 (by decide) rfl fd_RX6_254 (by decide) ?_
      refine E_iload dX6_lays_39 rfl ?_
      obtain ⟨hb, hP⟩ := hP
      refine E_lald dX6_lays_41 (ar_2_1 o_l3).1 (ar_2_1 o_l3).2 hb ?_
      refine E_lstore (ls' := [.ref (0), un, un, .ref (l3), .int (l4), .long (gL σ (l3 + 1) l4.toNatClampNeg), un]) dX6_lays_42 (by decide) rfl ?_
      refine E_lload dX6_lays_44 rfl ?_
      refine E_lconst (v := 0) dX6_lays_46 (by decide) ?_
      refine E_lcmp dX6_lays_47 ?_
      refine E_if_lt 60 dX6_lays_48 (by decide) (fun hc => ?_) (fun hc => ?_)
      · replace hP := hP.1 hc
        refine E_iload dX6_lays_60 rfl ?_
        exact E_iret dX6_lays_62 rfl ⟨_, rfl, hP⟩
      · replace hP := hP.2 hc
        refine E_lload dX6_lays_51 rfl ?_
        refine E_ldc2 (v := 4) dX6_lays_53 tw_439 ?_
        refine E_lcmp dX6_lays_56 ?_
        refine E_if_lt 63 dX6_lays_57 (by decide) (fun hc => ?_) (fun hc => ?_)
        · replace hP := hP.1 hc
          refine E_aload_n dX6_lays_63 rfl ?_
          refine E_getR (j := 3) dX6_lays_64 (show kd 0 = 6 by decide) (by decide) rfl fd_RX6_25 (by decide) ?_
          refine E_aload_n dX6_lays_67 rfl ?_
          refine E_getR (j := 0) dX6_lays_68 (show kd 0 = 6 by decide) (by decide) rfl fd_RX6_12 (by decide) ?_
          refine E_callV (As := [.ref (1)]) (rest := []) dX6_lays_71 cl_RX6_152 tw_228 (ar_6_19 (show kd 0 = 6 by decide)).1 (by decide) rfl tw_229 ⟨rfl, rfl, Nat.le_of_ble_eq_true rfl, Nat.le_of_ble_eq_true rfl⟩ rfl rfl (Nat.le_of_ble_eq_true rfl) (mt_X3_measure _ _ _ _ (ar_6_19 (show kd 0 = 6 by decide)).1 (ar_6_1 (show kd 0 = 6 by decide)).1 hP) ?_
          rintro _ t71 ⟨rfl, hP⟩
          show eX6_lays 74 [.ref (0), un, un, .ref (l3), .int (l4), .long (gL σ (l3 + 1) l4.toNatClampNeg), un] [] t71 _
          refine E_aload_n dX6_lays_74 rfl ?_
          refine E_getR (j := 3) dX6_lays_75 (show kd 0 = 6 by decide) (by decide) rfl fd_RX6_25 (by decide) ?_
          refine E_aload_n dX6_lays_78 rfl ?_
          refine E_getR (j := 3) dX6_lays_79 (show kd 0 = 6 by decide) (by decide) rfl fd_RX6_25 (by decide) ?_
          refine E_getI (j := 3) dX6_lays_82 (ar_6_19 (show kd 0 = 6 by decide)).1 (by decide) rfl fd_RX6_156 ?_
          refine E_lload dX6_lays_85 rfl ?_
          refine E_l2i dX6_lays_87 ?_
          refine E_callV (As := [.int (gI t71 19 3), .int ((gL σ (l3 + 1) l4.toNatClampNeg : Int64).toInt32)]) (rest := []) dX6_lays_88 cl_RX6_162 tw_105 (ar_6_19 (show kd 0 = 6 by decide)).1 (by decide) rfl tw_106 ⟨rfl, rfl, Nat.le_of_ble_eq_true rfl, Nat.le_of_ble_eq_true rfl⟩ rfl rfl (Nat.le_of_ble_eq_true rfl) (mt_X3_canPullAt _ _ _ _ _ (ar_6_19 (show kd 0 = 6 by decide)).1 hP) ?_
          intro r0 s0 hq0; obtain ⟨r88, h0, hs0, hP⟩ := hq0; subst h0; rw [hs0]
          show eX6_lays 91 [.ref (0), un, un, .ref (l3), .int (l4), .long (gL σ (l3 + 1) l4.toNatClampNeg), un] [.int (bI r88)] t71 _
          refine E_ifz_ne 97 dX6_lays_91 (by decide) (fun hc => ?_) (fun hc => ?_)
          · replace hP := hP.1 hc
            refine E_aload_n dX6_lays_97 rfl ?_
            refine E_getR (j := 0) dX6_lays_98 (show kd 0 = 6 by decide) (by decide) rfl fd_RX6_12 (by decide) ?_
            refine E_lload dX6_lays_101 rfl ?_
            refine E_l2i dX6_lays_103 ?_
            refine E_callV (As := [.int ((gL σ (l3 + 1) l4.toNatClampNeg : Int64).toInt32)]) (rest := []) dX6_lays_104 cl_RX6_165 tw_223 (ar_6_1 (show kd 0 = 6 by decide)).1 (by decide) rfl tw_224 ⟨rfl, rfl, Nat.le_of_ble_eq_true rfl, Nat.le_of_ble_eq_true rfl⟩ rfl rfl (Nat.le_of_ble_eq_true rfl) (mt_X0_takeLowest _ _ _ _ (ar_6_1 (show kd 0 = 6 by decide)).1 hP) ?_
            rintro _ t104 ⟨rfl, hP⟩
            show eX6_lays 107 [.ref (0), un, un, .ref (l3), .int (l4), .long (gL σ (l3 + 1) l4.toNatClampNeg), un] [] t104 _
            refine E_iinc (ls' := [.ref (0), un, un, .ref (l3), .int (l4 + 1), .long (gL σ (l3 + 1) l4.toNatClampNeg), un]) dX6_lays_107 rfl rfl (by decide) rfl ?_
            refine E_goto 26 dX6_lays_110 (by decide) ?_
            refine E_mask [true, false, false, true, true, false, false] rfl ?_
            exact ih (l4 + 1) _ hP
          · replace hP := hP.2 hc
            refine E_iload dX6_lays_94 rfl ?_
            exact E_iret dX6_lays_96 rfl ⟨_, rfl, hP⟩
        · replace hP := hP.2 hc
          refine E_iload dX6_lays_60 rfl ?_
          exact E_iret dX6_lays_62 rfl ⟨_, rfl, hP⟩
set_option maxRecDepth 20000 in
theorem mt_X6_lays (p0 : Int32) (σ : St) (Q : Int32 → St → Prop)  (hP : P_X6_lays p0 σ Q) : Mt yX6_lays cX6_lays 7 (some .int) rmX6_lays [.ref (0), .int (p0)] σ (qI Q) := by
  refine Mt.of (k := 5) (ls := [.ref (0), .int (p0), un, un, un, un, un]) (by decide +kernel) rfl (Nat.le_of_ble_eq_true rfl) ?_
  show eX6_lays 0 [.ref (0), .int (p0), un, un, un, un, un] [] σ _
  unfold P_X6_lays at hP
  refine E_aload_n dX6_lays_0 rfl ?_
  refine E_iload_n dX6_lays_1 rfl ?_
  refine E_callV (As := [.int (p0)]) (rest := []) dX6_lays_2 cl_RX6_251 tw_432 (show kd 0 = 6 by decide) (by decide) rfl tw_433 ⟨rfl, rfl, Nat.le_of_ble_eq_true rfl, Nat.le_of_ble_eq_true rfl⟩ rfl rfl (Nat.le_of_ble_eq_true rfl) (mt_X6_sheetFinding _ _ _  hP) ?_
  intro r0 s0 hq0; obtain ⟨r2, h0, hs0, hP⟩ := hq0; subst h0; rw [hs0]
  show eX6_lays 5 [.ref (0), .int (p0), un, un, un, un, un] [.int (r2)] σ _
  refine E_istore_n (ls' := [.ref (0), .int (p0), .int (r2), un, un, un, un]) dX6_lays_5 (by decide) rfl ?_
  refine E_iload_n dX6_lays_6 rfl ?_
  refine E_if_eq 16 dX6_lays_7 (by decide) (fun hc => ?_) (fun hc => ?_)
  · replace hP := hP.1 hc
    refine E_aload_n dX6_lays_16 rfl ?_
    refine E_getR (j := 6) dX6_lays_17 (show kd 0 = 6 by decide) (by decide) rfl fd_RX6_45 (by decide) ?_
    refine E_iload_n dX6_lays_20 rfl ?_
    obtain ⟨hb21, hP⟩ := hP
    refine E_aald dX6_lays_21 (ar_6_39 (show kd 0 = 6 by decide)).1 (ar_6_39 (show kd 0 = 6 by decide)).2 hb21 (by decide) ?_
    refine E_astore_n (ls' := [.ref (0), .int (p0), .int (r2), .ref (41 + 2 * p0.toNatClampNeg), un, un, un]) dX6_lays_22 (by decide) (ne999 (sh_at (ar_6_39 (show kd 0 = 6 by decide)).1 hb21) (by decide)) rfl ?_
    refine E_iconst (v := 0) dX6_lays_23 (by decide) ?_
    refine E_istore (ls' := [.ref (0), .int (p0), .int (r2), .ref (41 + 2 * p0.toNatClampNeg), .int (0), un, un]) dX6_lays_24 (by decide) rfl ?_
    refine E_mask [true, false, false, true, true, false, false] rfl ?_
    obtain ⟨m26, hP⟩ := hP
    refine ev_X6_lays_l26 (41 + 2 * p0.toNatClampNeg) (sh_at (ar_6_39 (show kd 0 = 6 by decide)).1 hb21) _ Q ?_ m26 _ _ hP
    intro  t113 hP
    refine E_aload_n dX6_lays_113 rfl ?_
    refine E_getI (j := 2) dX6_lays_114 (sh_at (ar_6_39 (show kd 0 = 6 by decide)).1 hb21) (by decide) rfl fd_RX6_248 ?_
    exact E_iret dX6_lays_117 rfl ⟨_, rfl, hP⟩
  · replace hP := hP.2 hc
    refine E_aload_n dX6_lays_10 rfl ?_
    refine E_iload_n dX6_lays_11 rfl ?_
    refine E_callV (As := [.int (r2)]) (rest := []) dX6_lays_12 cl_RX6_65 tw_279 (show kd 0 = 6 by decide) (by decide) rfl tw_280 ⟨rfl, rfl, Nat.le_of_ble_eq_true rfl, Nat.le_of_ble_eq_true rfl⟩ rfl rfl (Nat.le_of_ble_eq_true rfl) (mt_X6_finding _ _ _  hP) ?_
    rintro _ t12 ⟨r12, rfl, hP⟩
    show eX6_lays 15 [.ref (0), .int (p0), .int (r2), un, un, un, un] [.int (r12)] t12 _
    exact E_iret dX6_lays_15 rfl ⟨_, rfl, hP⟩
theorem dX6_book_0 : decode cX6_book 0 = .ok (.aload_n 0, 1) := by decide +kernel
theorem dX6_book_1 : decode cX6_book 1 = .ok (.iload_n 1, 1) := by decide +kernel
theorem dX6_book_2 : decode cX6_book 2 = .ok (.invokevirtual 251, 3) := by decide +kernel
theorem dX6_book_5 : decode cX6_book 5 = .ok (.istore_n 2, 1) := by decide +kernel
theorem dX6_book_6 : decode cX6_book 6 = .ok (.iload_n 2, 1) := by decide +kernel
theorem dX6_book_7 : decode cX6_book 7 = .ok (.ifCond .eq 9, 3) := by decide +kernel
theorem dX6_book_10 : decode cX6_book 10 = .ok (.aload_n 0, 1) := by decide +kernel
theorem dX6_book_11 : decode cX6_book 11 = .ok (.iload_n 2, 1) := by decide +kernel
theorem dX6_book_12 : decode cX6_book 12 = .ok (.invokevirtual 65, 3) := by decide +kernel
theorem dX6_book_15 : decode cX6_book 15 = .ok (.ireturn, 1) := by decide +kernel
theorem dX6_book_16 : decode cX6_book 16 = .ok (.aload_n 0, 1) := by decide +kernel
theorem dX6_book_17 : decode cX6_book 17 = .ok (.getfield 45, 3) := by decide +kernel
theorem dX6_book_20 : decode cX6_book 20 = .ok (.iload_n 1, 1) := by decide +kernel
theorem dX6_book_21 : decode cX6_book 21 = .ok (.aaload, 1) := by decide +kernel
theorem dX6_book_22 : decode cX6_book 22 = .ok (.astore_n 3, 1) := by decide +kernel
theorem dX6_book_23 : decode cX6_book 23 = .ok (.aload_n 3, 1) := by decide +kernel
theorem dX6_book_24 : decode cX6_book 24 = .ok (.getfield 248, 3) := by decide +kernel
theorem dX6_book_27 : decode cX6_book 27 = .ok (.bipush 29, 2) := by decide +kernel
theorem dX6_book_29 : decode cX6_book 29 = .ok (.invokestatic 275, 3) := by decide +kernel
theorem dX6_book_32 : decode cX6_book 32 = .ok (.istore 4, 2) := by decide +kernel
theorem dX6_book_34 : decode cX6_book 34 = .ok (.aload_n 0, 1) := by decide +kernel
theorem dX6_book_35 : decode cX6_book 35 = .ok (.aload_n 0, 1) := by decide +kernel
theorem dX6_book_36 : decode cX6_book 36 = .ok (.getfield 12, 3) := by decide +kernel
theorem dX6_book_39 : decode cX6_book 39 = .ok (.invokevirtual 176, 3) := by decide +kernel
theorem dX6_book_42 : decode cX6_book 42 = .ok (.pop, 1) := by decide +kernel
theorem dX6_book_43 : decode cX6_book 43 = .ok (.aload_n 0, 1) := by decide +kernel
theorem dX6_book_44 : decode cX6_book 44 = .ok (.getfield 32, 3) := by decide +kernel
theorem dX6_book_47 : decode cX6_book 47 = .ok (.aload_n 0, 1) := by decide +kernel
theorem dX6_book_48 : decode cX6_book 48 = .ok (.getfield 25, 3) := by decide +kernel
theorem dX6_book_51 : decode cX6_book 51 = .ok (.invokevirtual 280, 3) := by decide +kernel
theorem dX6_book_54 : decode cX6_book 54 = .ok (.iconst 0, 1) := by decide +kernel
theorem dX6_book_55 : decode cX6_book 55 = .ok (.istore 5, 2) := by decide +kernel
theorem dX6_book_57 : decode cX6_book 57 = .ok (.iload 5, 2) := by decide +kernel
theorem dX6_book_59 : decode cX6_book 59 = .ok (.iload 4, 2) := by decide +kernel
theorem dX6_book_61 : decode cX6_book 61 = .ok (.if_icmp .ge 36, 3) := by decide +kernel
theorem dX6_book_64 : decode cX6_book 64 = .ok (.aload_n 3, 1) := by decide +kernel
theorem dX6_book_65 : decode cX6_book 65 = .ok (.iload 5, 2) := by decide +kernel
theorem dX6_book_67 : decode cX6_book 67 = .ok (.aload_n 0, 1) := by decide +kernel
theorem dX6_book_68 : decode cX6_book 68 = .ok (.getfield 25, 3) := by decide +kernel
theorem dX6_book_71 : decode cX6_book 71 = .ok (.aload_n 0, 1) := by decide +kernel
theorem dX6_book_72 : decode cX6_book 72 = .ok (.getfield 32, 3) := by decide +kernel
theorem dX6_book_75 : decode cX6_book 75 = .ok (.aload_n 0, 1) := by decide +kernel
theorem dX6_book_76 : decode cX6_book 76 = .ok (.getfield 25, 3) := by decide +kernel
theorem dX6_book_79 : decode cX6_book 79 = .ok (.iload 5, 2) := by decide +kernel
theorem dX6_book_81 : decode cX6_book 81 = .ok (.invokevirtual 284, 3) := by decide +kernel
theorem dX6_book_84 : decode cX6_book 84 = .ok (.invokevirtual 206, 3) := by decide +kernel
theorem dX6_book_87 : decode cX6_book 87 = .ok (.i2l, 1) := by decide +kernel
theorem dX6_book_88 : decode cX6_book 88 = .ok (.invokevirtual 257, 3) := by decide +kernel
theorem dX6_book_91 : decode cX6_book 91 = .ok (.iinc 5 1, 3) := by decide +kernel
theorem dX6_book_94 : decode cX6_book 94 = .ok (.goto (-37), 3) := by decide +kernel
theorem dX6_book_97 : decode cX6_book 97 = .ok (.iload 4, 2) := by decide +kernel
theorem dX6_book_99 : decode cX6_book 99 = .ok (.ireturn, 1) := by decide +kernel
def rmX6_book : Room := { frames := 5, cells := 0, slots := 0, locals := 108 }
abbrev eX6_book := Ev cX6_book 6 (some .int) RX6 rmX6_book
set_option maxRecDepth 20000 in
theorem ev_X6_book_l57 (l3 : Nat) (l4 : Int32) (o_l3 : kd (l3) = 2) (K : St → Prop) (Q : Int32 → St → Prop) (hK : ∀  s, K  s → eX6_book 97 [un, un, un, un, .int (l4), un] [] s (qI Q)) : ∀ (n : Nat) (l5 : Int32) (σ : St), P_X6_book_l57 l3 l4 K Q n l5 σ → eX6_book 57 [.ref (0), un, un, .ref (l3), .int (l4), .int (l5)] [] σ (qI Q) := by
  intro n
  induction n with
  | zero => intro l5 σ hP; exact hP.elim
  | succ n ih =>
    intro l5 σ hP
    rw [P_X6_book_l57] at hP
    refine E_iload dX6_book_57 rfl ?_
    refine E_iload dX6_book_59 rfl ?_
    refine E_icmp_ge 97 dX6_book_61 (by decide) (fun hc => ?_) (fun hc => ?_)
    · replace hP := hP.1 hc
      refine E_mask [false, false, false, false, true, false] rfl ?_
      exact hK  _ hP
    · replace hP := hP.2 hc
      refine E_aload_n dX6_book_64 rfl ?_
      refine E_iload dX6_book_65 rfl ?_
      refine E_aload_n dX6_book_67 rfl ?_
      refine E_getR (j := 3) dX6_book_68 (show kd 0 = 6 by decide) (by decide) rfl fd_RX6_25 (by decide) ?_
      refine E_aload_n dX6_book_71 rfl ?_
      refine E_getR (j := 4) dX6_book_72 (show kd 0 = 6 by decide) (by decide) rfl fd_RX6_32 (by decide) ?_
      refine E_aload_n dX6_book_75 rfl ?_
      refine E_getR (j := 3) dX6_book_76 (show kd 0 = 6 by decide) (by decide) rfl fd_RX6_25 (by decide) ?_
      refine E_iload dX6_book_79 rfl ?_
      refine E_callV (As := [.ref (19), .int (l5)]) (rest := [.ref (19), .int (l5), .ref (l3)]) dX6_book_81 cl_RX6_284 tw_379 (ar_6_23 (show kd 0 = 6 by decide)).1 (by decide) rfl tw_380 ⟨rfl, rfl, Nat.le_of_ble_eq_true rfl, Nat.le_of_ble_eq_true rfl⟩ rfl rfl (Nat.le_of_ble_eq_true rfl) (mt_X1_bestUpTo _ _ _ _ (ar_6_19 (show kd 0 = 6 by decide)).1 hP) ?_
      intro r0 s0 hq0; obtain ⟨r81, h0, hs0, hP⟩ := hq0; subst h0; rw [hs0]
      show eX6_book 84 [.ref (0), un, un, .ref (l3), .int (l4), .int (l5)] [.int (r81), .ref (19), .int (l5), .ref (l3)] σ _
      refine E_callV (As := [.int (r81)]) (rest := [.int (l5), .ref (l3)]) dX6_book_84 cl_RX6_206 tw_121 (ar_6_19 (show kd 0 = 6 by decide)).1 (by decide) rfl tw_122 ⟨rfl, rfl, Nat.le_of_ble_eq_true rfl, Nat.le_of_ble_eq_true rfl⟩ rfl rfl (Nat.le_of_ble_eq_true rfl) (mt_X3_coinAt _ _ _ _ (ar_6_19 (show kd 0 = 6 by decide)).1 hP) ?_
      intro r0 s0 hq0; obtain ⟨r84, h0, hs0, hP⟩ := hq0; subst h0; rw [hs0]
      show eX6_book 87 [.ref (0), un, un, .ref (l3), .int (l4), .int (l5)] [.int (r84), .int (l5), .ref (l3)] σ _
      refine E_i2l dX6_book_87 ?_
      refine E_callV (As := [.int (l5), .long ((r84 : Int32).toInt64)]) (rest := []) dX6_book_88 cl_RX6_257 tw_428 o_l3 (by decide) rfl tw_429 ⟨rfl, rfl, Nat.le_of_ble_eq_true rfl, Nat.le_of_ble_eq_true rfl⟩ rfl rfl (Nat.le_of_ble_eq_true rfl) (mt_X2_put _ _ _ _ _ o_l3 hP) ?_
      rintro _ t88 ⟨rfl, hP⟩
      show eX6_book 91 [.ref (0), un, un, .ref (l3), .int (l4), .int (l5)] [] t88 _
      refine E_iinc (ls' := [.ref (0), un, un, .ref (l3), .int (l4), .int (l5 + 1)]) dX6_book_91 rfl rfl (by decide) rfl ?_
      refine E_goto 57 dX6_book_94 (by decide) ?_
      exact ih (l5 + 1) _ hP
set_option maxRecDepth 20000 in
theorem mt_X6_book (p0 : Int32) (σ : St) (Q : Int32 → St → Prop)  (hP : P_X6_book p0 σ Q) : Mt yX6_book cX6_book 6 (some .int) rmX6_book [.ref (0), .int (p0)] σ (qI Q) := by
  refine Mt.of (k := 4) (ls := [.ref (0), .int (p0), un, un, un, un]) (by decide +kernel) rfl (Nat.le_of_ble_eq_true rfl) ?_
  show eX6_book 0 [.ref (0), .int (p0), un, un, un, un] [] σ _
  unfold P_X6_book at hP
  refine E_aload_n dX6_book_0 rfl ?_
  refine E_iload_n dX6_book_1 rfl ?_
  refine E_callV (As := [.int (p0)]) (rest := []) dX6_book_2 cl_RX6_251 tw_432 (show kd 0 = 6 by decide) (by decide) rfl tw_433 ⟨rfl, rfl, Nat.le_of_ble_eq_true rfl, Nat.le_of_ble_eq_true rfl⟩ rfl rfl (Nat.le_of_ble_eq_true rfl) (mt_X6_sheetFinding _ _ _  hP) ?_
  intro r0 s0 hq0; obtain ⟨r2, h0, hs0, hP⟩ := hq0; subst h0; rw [hs0]
  show eX6_book 5 [.ref (0), .int (p0), un, un, un, un] [.int (r2)] σ _
  refine E_istore_n (ls' := [.ref (0), .int (p0), .int (r2), un, un, un]) dX6_book_5 (by decide) rfl ?_
  refine E_iload_n dX6_book_6 rfl ?_
  refine E_if_eq 16 dX6_book_7 (by decide) (fun hc => ?_) (fun hc => ?_)
  · replace hP := hP.1 hc
    refine E_aload_n dX6_book_16 rfl ?_
    refine E_getR (j := 6) dX6_book_17 (show kd 0 = 6 by decide) (by decide) rfl fd_RX6_45 (by decide) ?_
    refine E_iload_n dX6_book_20 rfl ?_
    obtain ⟨hb21, hP⟩ := hP
    refine E_aald dX6_book_21 (ar_6_39 (show kd 0 = 6 by decide)).1 (ar_6_39 (show kd 0 = 6 by decide)).2 hb21 (by decide) ?_
    refine E_astore_n (ls' := [.ref (0), .int (p0), .int (r2), .ref (41 + 2 * p0.toNatClampNeg), un, un]) dX6_book_22 (by decide) (ne999 (sh_at (ar_6_39 (show kd 0 = 6 by decide)).1 hb21) (by decide)) rfl ?_
    refine E_aload_n dX6_book_23 rfl ?_
    refine E_getI (j := 2) dX6_book_24 (sh_at (ar_6_39 (show kd 0 = 6 by decide)).1 hb21) (by decide) rfl fd_RX6_248 ?_
    refine E_bipush (v := 29) dX6_book_27 (by decide) ?_
    refine E_min dX6_book_29 tw_440 tw_19 tw_20 tw_21 ⟨Nat.le_of_ble_eq_true rfl, Nat.le_of_ble_eq_true rfl⟩ ?_
    refine E_istore (ls' := [.ref (0), .int (p0), .int (r2), .ref (41 + 2 * p0.toNatClampNeg), .int (mnI (gI σ (41 + 2 * p0.toNatClampNeg) 2) 29), un]) dX6_book_32 (by decide) rfl ?_
    refine E_aload_n dX6_book_34 rfl ?_
    refine E_aload_n dX6_book_35 rfl ?_
    refine E_getR (j := 0) dX6_book_36 (show kd 0 = 6 by decide) (by decide) rfl fd_RX6_12 (by decide) ?_
    refine E_callV (As := [.ref (1)]) (rest := []) dX6_book_39 cl_RX6_176 tw_351 (show kd 0 = 6 by decide) (by decide) rfl tw_352 ⟨rfl, rfl, Nat.le_of_ble_eq_true rfl, Nat.le_of_ble_eq_true rfl⟩ rfl rfl (Nat.le_of_ble_eq_true rfl) (mt_X6_standsOf _ _ _ (ar_6_1 (show kd 0 = 6 by decide)).1 hP) ?_
    rintro _ t39 ⟨r39, rfl, hP⟩
    show eX6_book 42 [.ref (0), .int (p0), .int (r2), .ref (41 + 2 * p0.toNatClampNeg), .int (mnI (gI σ (41 + 2 * p0.toNatClampNeg) 2) 29), un] [.int (r39)] t39 _
    refine E_pop dX6_book_42 rfl ?_
    refine E_aload_n dX6_book_43 rfl ?_
    refine E_getR (j := 4) dX6_book_44 (show kd 0 = 6 by decide) (by decide) rfl fd_RX6_32 (by decide) ?_
    refine E_aload_n dX6_book_47 rfl ?_
    refine E_getR (j := 3) dX6_book_48 (show kd 0 = 6 by decide) (by decide) rfl fd_RX6_25 (by decide) ?_
    refine E_callV (As := [.ref (19)]) (rest := []) dX6_book_51 cl_RX6_280 tw_383 (ar_6_23 (show kd 0 = 6 by decide)).1 (by decide) rfl tw_384 ⟨rfl, rfl, Nat.le_of_ble_eq_true rfl, Nat.le_of_ble_eq_true rfl⟩ rfl rfl (Nat.le_of_ble_eq_true rfl) (mt_X1_rank _ _ _ (ar_6_19 (show kd 0 = 6 by decide)).1 hP) ?_
    rintro _ t51 ⟨rfl, hP⟩
    show eX6_book 54 [.ref (0), .int (p0), .int (r2), .ref (41 + 2 * p0.toNatClampNeg), .int (mnI (gI σ (41 + 2 * p0.toNatClampNeg) 2) 29), un] [] t51 _
    refine E_iconst (v := 0) dX6_book_54 (by decide) ?_
    refine E_istore (ls' := [.ref (0), .int (p0), .int (r2), .ref (41 + 2 * p0.toNatClampNeg), .int (mnI (gI σ (41 + 2 * p0.toNatClampNeg) 2) 29), .int (0)]) dX6_book_55 (by decide) rfl ?_
    refine E_mask [true, false, false, true, true, true] rfl ?_
    obtain ⟨m57, hP⟩ := hP
    refine ev_X6_book_l57 (41 + 2 * p0.toNatClampNeg) (mnI (gI σ (41 + 2 * p0.toNatClampNeg) 2) 29) (sh_at (ar_6_39 (show kd 0 = 6 by decide)).1 hb21) _ Q ?_ m57 _ _ hP
    intro  t97 hP
    refine E_iload dX6_book_97 rfl ?_
    exact E_iret dX6_book_99 rfl ⟨_, rfl, hP⟩
  · replace hP := hP.2 hc
    refine E_aload_n dX6_book_10 rfl ?_
    refine E_iload_n dX6_book_11 rfl ?_
    refine E_callV (As := [.int (r2)]) (rest := []) dX6_book_12 cl_RX6_65 tw_279 (show kd 0 = 6 by decide) (by decide) rfl tw_280 ⟨rfl, rfl, Nat.le_of_ble_eq_true rfl, Nat.le_of_ble_eq_true rfl⟩ rfl rfl (Nat.le_of_ble_eq_true rfl) (mt_X6_finding _ _ _  hP) ?_
    rintro _ t12 ⟨r12, rfl, hP⟩
    show eX6_book 15 [.ref (0), .int (p0), .int (r2), un, un, un] [.int (r12)] t12 _
    exact E_iret dX6_book_15 rfl ⟨_, rfl, hP⟩
theorem dX6_read_0 : decode cX6_read 0 = .ok (.aload_n 0, 1) := by decide +kernel
theorem dX6_read_1 : decode cX6_read 1 = .ok (.iload_n 1, 1) := by decide +kernel
theorem dX6_read_2 : decode cX6_read 2 = .ok (.invokevirtual 251, 3) := by decide +kernel
theorem dX6_read_5 : decode cX6_read 5 = .ok (.istore_n 2, 1) := by decide +kernel
theorem dX6_read_6 : decode cX6_read 6 = .ok (.iload_n 2, 1) := by decide +kernel
theorem dX6_read_7 : decode cX6_read 7 = .ok (.ifCond .eq 10, 3) := by decide +kernel
theorem dX6_read_10 : decode cX6_read 10 = .ok (.aload_n 0, 1) := by decide +kernel
theorem dX6_read_11 : decode cX6_read 11 = .ok (.iload_n 2, 1) := by decide +kernel
theorem dX6_read_12 : decode cX6_read 12 = .ok (.invokevirtual 65, 3) := by decide +kernel
theorem dX6_read_15 : decode cX6_read 15 = .ok (.i2l, 1) := by decide +kernel
theorem dX6_read_16 : decode cX6_read 16 = .ok (.lreturn, 1) := by decide +kernel
theorem dX6_read_17 : decode cX6_read 17 = .ok (.aload_n 0, 1) := by decide +kernel
theorem dX6_read_18 : decode cX6_read 18 = .ok (.getfield 45, 3) := by decide +kernel
theorem dX6_read_21 : decode cX6_read 21 = .ok (.iload_n 1, 1) := by decide +kernel
theorem dX6_read_22 : decode cX6_read 22 = .ok (.aaload, 1) := by decide +kernel
theorem dX6_read_23 : decode cX6_read 23 = .ok (.astore_n 3, 1) := by decide +kernel
theorem dX6_read_24 : decode cX6_read 24 = .ok (.aload_n 3, 1) := by decide +kernel
theorem dX6_read_25 : decode cX6_read 25 = .ok (.getfield 248, 3) := by decide +kernel
theorem dX6_read_28 : decode cX6_read 28 = .ok (.bipush 28, 2) := by decide +kernel
theorem dX6_read_30 : decode cX6_read 30 = .ok (.if_icmp .le 11, 3) := by decide +kernel
theorem dX6_read_33 : decode cX6_read 33 = .ok (.aload_n 0, 1) := by decide +kernel
theorem dX6_read_34 : decode cX6_read 34 = .ok (.ldc 243, 2) := by decide +kernel
theorem dX6_read_36 : decode cX6_read 36 = .ok (.invokevirtual 65, 3) := by decide +kernel
theorem dX6_read_39 : decode cX6_read 39 = .ok (.i2l, 1) := by decide +kernel
theorem dX6_read_40 : decode cX6_read 40 = .ok (.lreturn, 1) := by decide +kernel
theorem dX6_read_41 : decode cX6_read 41 = .ok (.aload_n 0, 1) := by decide +kernel
theorem dX6_read_42 : decode cX6_read 42 = .ok (.getfield 25, 3) := by decide +kernel
theorem dX6_read_45 : decode cX6_read 45 = .ok (.aload_n 0, 1) := by decide +kernel
theorem dX6_read_46 : decode cX6_read 46 = .ok (.getfield 12, 3) := by decide +kernel
theorem dX6_read_49 : decode cX6_read 49 = .ok (.invokevirtual 152, 3) := by decide +kernel
theorem dX6_read_52 : decode cX6_read 52 = .ok (.aload_n 0, 1) := by decide +kernel
theorem dX6_read_53 : decode cX6_read 53 = .ok (.getfield 32, 3) := by decide +kernel
theorem dX6_read_56 : decode cX6_read 56 = .ok (.aload_n 0, 1) := by decide +kernel
theorem dX6_read_57 : decode cX6_read 57 = .ok (.getfield 25, 3) := by decide +kernel
theorem dX6_read_60 : decode cX6_read 60 = .ok (.aload_n 3, 1) := by decide +kernel
theorem dX6_read_61 : decode cX6_read 61 = .ok (.invokevirtual 287, 3) := by decide +kernel
theorem dX6_read_64 : decode cX6_read 64 = .ok (.pop, 1) := by decide +kernel
theorem dX6_read_65 : decode cX6_read 65 = .ok (.aload_n 0, 1) := by decide +kernel
theorem dX6_read_66 : decode cX6_read 66 = .ok (.getfield 32, 3) := by decide +kernel
theorem dX6_read_69 : decode cX6_read 69 = .ok (.aload_n 0, 1) := by decide +kernel
theorem dX6_read_70 : decode cX6_read 70 = .ok (.getfield 25, 3) := by decide +kernel
theorem dX6_read_73 : decode cX6_read 73 = .ok (.aload_n 3, 1) := by decide +kernel
theorem dX6_read_74 : decode cX6_read 74 = .ok (.getfield 248, 3) := by decide +kernel
theorem dX6_read_77 : decode cX6_read 77 = .ok (.invokevirtual 291, 3) := by decide +kernel
theorem dX6_read_80 : decode cX6_read 80 = .ok (.lreturn, 1) := by decide +kernel
def rmX6_read : Room := { frames := 4, cells := 0, slots := 0, locals := 87 }
abbrev eX6_read := Ev cX6_read 4 (some .long) RX6 rmX6_read
set_option maxRecDepth 20000 in
theorem mt_X6_read (p0 : Int32) (σ : St) (Q : Int64 → St → Prop)  (hP : P_X6_read p0 σ Q) : Mt yX6_read cX6_read 4 (some .long) rmX6_read [.ref (0), .int (p0)] σ (qL Q) := by
  refine Mt.of (k := 2) (ls := [.ref (0), .int (p0), un, un]) (by decide +kernel) rfl (Nat.le_of_ble_eq_true rfl) ?_
  show eX6_read 0 [.ref (0), .int (p0), un, un] [] σ _
  unfold P_X6_read at hP
  refine E_aload_n dX6_read_0 rfl ?_
  refine E_iload_n dX6_read_1 rfl ?_
  refine E_callV (As := [.int (p0)]) (rest := []) dX6_read_2 cl_RX6_251 tw_432 (show kd 0 = 6 by decide) (by decide) rfl tw_433 ⟨rfl, rfl, Nat.le_of_ble_eq_true rfl, Nat.le_of_ble_eq_true rfl⟩ rfl rfl (Nat.le_of_ble_eq_true rfl) (mt_X6_sheetFinding _ _ _  hP) ?_
  intro r0 s0 hq0; obtain ⟨r2, h0, hs0, hP⟩ := hq0; subst h0; rw [hs0]
  show eX6_read 5 [.ref (0), .int (p0), un, un] [.int (r2)] σ _
  refine E_istore_n (ls' := [.ref (0), .int (p0), .int (r2), un]) dX6_read_5 (by decide) rfl ?_
  refine E_iload_n dX6_read_6 rfl ?_
  refine E_if_eq 17 dX6_read_7 (by decide) (fun hc => ?_) (fun hc => ?_)
  · replace hP := hP.1 hc
    refine E_aload_n dX6_read_17 rfl ?_
    refine E_getR (j := 6) dX6_read_18 (show kd 0 = 6 by decide) (by decide) rfl fd_RX6_45 (by decide) ?_
    refine E_iload_n dX6_read_21 rfl ?_
    obtain ⟨hb22, hP⟩ := hP
    refine E_aald dX6_read_22 (ar_6_39 (show kd 0 = 6 by decide)).1 (ar_6_39 (show kd 0 = 6 by decide)).2 hb22 (by decide) ?_
    refine E_astore_n (ls' := [.ref (0), .int (p0), .int (r2), .ref (41 + 2 * p0.toNatClampNeg)]) dX6_read_23 (by decide) (ne999 (sh_at (ar_6_39 (show kd 0 = 6 by decide)).1 hb22) (by decide)) rfl ?_
    refine E_aload_n dX6_read_24 rfl ?_
    refine E_getI (j := 2) dX6_read_25 (sh_at (ar_6_39 (show kd 0 = 6 by decide)).1 hb22) (by decide) rfl fd_RX6_248 ?_
    refine E_bipush (v := 28) dX6_read_28 (by decide) ?_
    refine E_icmp_le 41 dX6_read_30 (by decide) (fun hc => ?_) (fun hc => ?_)
    · replace hP := hP.1 hc
      refine E_aload_n dX6_read_41 rfl ?_
      refine E_getR (j := 3) dX6_read_42 (show kd 0 = 6 by decide) (by decide) rfl fd_RX6_25 (by decide) ?_
      refine E_aload_n dX6_read_45 rfl ?_
      refine E_getR (j := 0) dX6_read_46 (show kd 0 = 6 by decide) (by decide) rfl fd_RX6_12 (by decide) ?_
      refine E_callV (As := [.ref (1)]) (rest := []) dX6_read_49 cl_RX6_152 tw_228 (ar_6_19 (show kd 0 = 6 by decide)).1 (by decide) rfl tw_229 ⟨rfl, rfl, Nat.le_of_ble_eq_true rfl, Nat.le_of_ble_eq_true rfl⟩ rfl rfl (Nat.le_of_ble_eq_true rfl) (mt_X3_measure _ _ _ _ (ar_6_19 (show kd 0 = 6 by decide)).1 (ar_6_1 (show kd 0 = 6 by decide)).1 hP) ?_
      rintro _ t49 ⟨rfl, hP⟩
      show eX6_read 52 [.ref (0), .int (p0), .int (r2), .ref (41 + 2 * p0.toNatClampNeg)] [] t49 _
      refine E_aload_n dX6_read_52 rfl ?_
      refine E_getR (j := 4) dX6_read_53 (show kd 0 = 6 by decide) (by decide) rfl fd_RX6_32 (by decide) ?_
      refine E_aload_n dX6_read_56 rfl ?_
      refine E_getR (j := 3) dX6_read_57 (show kd 0 = 6 by decide) (by decide) rfl fd_RX6_25 (by decide) ?_
      refine E_aload_n dX6_read_60 rfl ?_
      refine E_callV (As := [.ref (19), .ref (41 + 2 * p0.toNatClampNeg)]) (rest := []) dX6_read_61 cl_RX6_287 tw_346 (ar_6_23 (show kd 0 = 6 by decide)).1 (by decide) rfl tw_347 ⟨rfl, rfl, Nat.le_of_ble_eq_true rfl, Nat.le_of_ble_eq_true rfl⟩ rfl rfl (Nat.le_of_ble_eq_true rfl) (mt_X1_fill _ _ _ _ (ar_6_19 (show kd 0 = 6 by decide)).1 (fun _ => (sh_at (ar_6_39 (show kd 0 = 6 by decide)).1 hb22)) hP) ?_
      rintro _ t61 ⟨r61, rfl, hP⟩
      show eX6_read 64 [.ref (0), .int (p0), .int (r2), .ref (41 + 2 * p0.toNatClampNeg)] [.int (r61)] t61 _
      refine E_pop dX6_read_64 rfl ?_
      refine E_aload_n dX6_read_65 rfl ?_
      refine E_getR (j := 4) dX6_read_66 (show kd 0 = 6 by decide) (by decide) rfl fd_RX6_32 (by decide) ?_
      refine E_aload_n dX6_read_69 rfl ?_
      refine E_getR (j := 3) dX6_read_70 (show kd 0 = 6 by decide) (by decide) rfl fd_RX6_25 (by decide) ?_
      refine E_aload_n dX6_read_73 rfl ?_
      refine E_getI (j := 2) dX6_read_74 (sh_at (ar_6_39 (show kd 0 = 6 by decide)).1 hb22) (by decide) rfl fd_RX6_248 ?_
      refine E_callV (As := [.ref (19), .int (gI t61 (41 + 2 * p0.toNatClampNeg) 2)]) (rest := []) dX6_read_77 cl_RX6_291 tw_443 (ar_6_23 (show kd 0 = 6 by decide)).1 (by decide) rfl tw_444 ⟨rfl, rfl, Nat.le_of_ble_eq_true rfl, Nat.le_of_ble_eq_true rfl⟩ rfl rfl (Nat.le_of_ble_eq_true rfl) (mt_X1_waysBy _ _ _ _ (ar_6_19 (show kd 0 = 6 by decide)).1 hP) ?_
      intro r0 s0 hq0; obtain ⟨r77, h0, hs0, hP⟩ := hq0; subst h0; rw [hs0]
      show eX6_read 80 [.ref (0), .int (p0), .int (r2), .ref (41 + 2 * p0.toNatClampNeg)] [.long (r77)] t61 _
      exact E_lret dX6_read_80 rfl ⟨_, rfl, hP⟩
    · replace hP := hP.2 hc
      refine E_aload_n dX6_read_33 rfl ?_
      refine E_ldc (v := (-1000000007)) dX6_read_34 tw_416 ?_
      refine E_callV (As := [.int ((-1000000007))]) (rest := []) dX6_read_36 cl_RX6_65 tw_279 (show kd 0 = 6 by decide) (by decide) rfl tw_280 ⟨rfl, rfl, Nat.le_of_ble_eq_true rfl, Nat.le_of_ble_eq_true rfl⟩ rfl rfl (Nat.le_of_ble_eq_true rfl) (mt_X6_finding _ _ _  hP) ?_
      rintro _ t36 ⟨r36, rfl, hP⟩
      show eX6_read 39 [.ref (0), .int (p0), .int (r2), .ref (41 + 2 * p0.toNatClampNeg)] [.int (r36)] t36 _
      refine E_i2l dX6_read_39 ?_
      exact E_lret dX6_read_40 rfl ⟨_, rfl, hP⟩
  · replace hP := hP.2 hc
    refine E_aload_n dX6_read_10 rfl ?_
    refine E_iload_n dX6_read_11 rfl ?_
    refine E_callV (As := [.int (r2)]) (rest := []) dX6_read_12 cl_RX6_65 tw_279 (show kd 0 = 6 by decide) (by decide) rfl tw_280 ⟨rfl, rfl, Nat.le_of_ble_eq_true rfl, Nat.le_of_ble_eq_true rfl⟩ rfl rfl (Nat.le_of_ble_eq_true rfl) (mt_X6_finding _ _ _  hP) ?_
    rintro _ t12 ⟨r12, rfl, hP⟩
    show eX6_read 15 [.ref (0), .int (p0), .int (r2), un] [.int (r12)] t12 _
    refine E_i2l dX6_read_15 ?_
    exact E_lret dX6_read_16 rfl ⟨_, rfl, hP⟩
theorem dX6_image_0 : decode cX6_image 0 = .ok (.aload_n 0, 1) := by decide +kernel
theorem dX6_image_1 : decode cX6_image 1 = .ok (.getfield 16, 3) := by decide +kernel
theorem dX6_image_4 : decode cX6_image 4 = .ok (.aload_n 0, 1) := by decide +kernel
theorem dX6_image_5 : decode cX6_image 5 = .ok (.getfield 12, 3) := by decide +kernel
theorem dX6_image_8 : decode cX6_image 8 = .ok (.invokevirtual 216, 3) := by decide +kernel
theorem dX6_image_11 : decode cX6_image 11 = .ok (.aload_n 0, 1) := by decide +kernel
theorem dX6_image_12 : decode cX6_image 12 = .ok (.iconst 1, 1) := by decide +kernel
theorem dX6_image_13 : decode cX6_image 13 = .ok (.putfield 295, 3) := by decide +kernel
theorem dX6_image_16 : decode cX6_image 16 = .ok (.iconst 1, 1) := by decide +kernel
theorem dX6_image_17 : decode cX6_image 17 = .ok (.ireturn, 1) := by decide +kernel
def rmX6_image : Room := { frames := 2, cells := 0, slots := 0, locals := 47 }
abbrev eX6_image := Ev cX6_image 1 (some .int) RX6 rmX6_image
set_option maxRecDepth 20000 in
theorem mt_X6_image  (σ : St) (Q : Int32 → St → Prop)  (hP : P_X6_image  σ Q) : Mt yX6_image cX6_image 1 (some .int) rmX6_image [.ref (0)] σ (qI Q) := by
  refine Mt.of (k := 0) (ls := [.ref (0)]) (by decide +kernel) rfl (Nat.le_of_ble_eq_true rfl) ?_
  show eX6_image 0 [.ref (0)] [] σ _
  unfold P_X6_image at hP
  refine E_aload_n dX6_image_0 rfl ?_
  refine E_getR (j := 1) dX6_image_1 (show kd 0 = 6 by decide) (by decide) rfl fd_RX6_16 (by decide) ?_
  refine E_aload_n dX6_image_4 rfl ?_
  refine E_getR (j := 0) dX6_image_5 (show kd 0 = 6 by decide) (by decide) rfl fd_RX6_12 (by decide) ?_
  refine E_callV (As := [.ref (1)]) (rest := []) dX6_image_8 cl_RX6_216 tw_272 (ar_6_7 (show kd 0 = 6 by decide)).1 (by decide) rfl tw_273 ⟨rfl, rfl, Nat.le_of_ble_eq_true rfl, Nat.le_of_ble_eq_true rfl⟩ rfl rfl (Nat.le_of_ble_eq_true rfl) (mt_X0_becomeLike _ _ _ _ (ar_6_7 (show kd 0 = 6 by decide)).1 (ar_6_1 (show kd 0 = 6 by decide)).1 hP) ?_
  rintro _ t8 ⟨rfl, hP⟩
  show eX6_image 11 [.ref (0)] [] t8 _
  refine E_aload_n dX6_image_11 rfl ?_
  refine E_iconst (v := 1) dX6_image_12 (by decide) ?_
  refine E_putZ (j := 8) dX6_image_13 (show kd 0 = 6 by decide) (by decide) rfl fd_RX6_295 fp_6_8 (Or.inr rfl) ?_
  refine E_iconst (v := 1) dX6_image_16 (by decide) ?_
  exact E_iret dX6_image_17 rfl ⟨_, rfl, hP⟩
theorem dX6_undo_0 : decode cX6_undo 0 = .ok (.aload_n 0, 1) := by decide +kernel
theorem dX6_undo_1 : decode cX6_undo 1 = .ok (.getfield 295, 3) := by decide +kernel
theorem dX6_undo_4 : decode cX6_undo 4 = .ok (.ifCond .ne 10, 3) := by decide +kernel
theorem dX6_undo_7 : decode cX6_undo 7 = .ok (.aload_n 0, 1) := by decide +kernel
theorem dX6_undo_8 : decode cX6_undo 8 = .ok (.ldc 196, 2) := by decide +kernel
theorem dX6_undo_10 : decode cX6_undo 10 = .ok (.invokevirtual 65, 3) := by decide +kernel
theorem dX6_undo_13 : decode cX6_undo 13 = .ok (.ireturn, 1) := by decide +kernel
theorem dX6_undo_14 : decode cX6_undo 14 = .ok (.aload_n 0, 1) := by decide +kernel
theorem dX6_undo_15 : decode cX6_undo 15 = .ok (.getfield 12, 3) := by decide +kernel
theorem dX6_undo_18 : decode cX6_undo 18 = .ok (.aload_n 0, 1) := by decide +kernel
theorem dX6_undo_19 : decode cX6_undo 19 = .ok (.getfield 16, 3) := by decide +kernel
theorem dX6_undo_22 : decode cX6_undo 22 = .ok (.invokevirtual 216, 3) := by decide +kernel
theorem dX6_undo_25 : decode cX6_undo 25 = .ok (.aload_n 0, 1) := by decide +kernel
theorem dX6_undo_26 : decode cX6_undo 26 = .ok (.getfield 12, 3) := by decide +kernel
theorem dX6_undo_29 : decode cX6_undo 29 = .ok (.invokevirtual 146, 3) := by decide +kernel
theorem dX6_undo_32 : decode cX6_undo 32 = .ok (.ireturn, 1) := by decide +kernel
def rmX6_undo : Room := { frames := 3, cells := 0, slots := 0, locals := 62 }
abbrev eX6_undo := Ev cX6_undo 1 (some .int) RX6 rmX6_undo
set_option maxRecDepth 20000 in
theorem mt_X6_undo  (σ : St) (Q : Int32 → St → Prop)  (hP : P_X6_undo  σ Q) : Mt yX6_undo cX6_undo 1 (some .int) rmX6_undo [.ref (0)] σ (qI Q) := by
  refine Mt.of (k := 0) (ls := [.ref (0)]) (by decide +kernel) rfl (Nat.le_of_ble_eq_true rfl) ?_
  show eX6_undo 0 [.ref (0)] [] σ _
  unfold P_X6_undo at hP
  refine E_aload_n dX6_undo_0 rfl ?_
  refine E_getZ (j := 8) dX6_undo_1 (show kd 0 = 6 by decide) (by decide) rfl fd_RX6_295 ?_
  refine E_if_ne 14 dX6_undo_4 (by decide) (fun hc => ?_) (fun hc => ?_)
  · replace hP := hP.1 hc
    refine E_aload_n dX6_undo_14 rfl ?_
    refine E_getR (j := 0) dX6_undo_15 (show kd 0 = 6 by decide) (by decide) rfl fd_RX6_12 (by decide) ?_
    refine E_aload_n dX6_undo_18 rfl ?_
    refine E_getR (j := 1) dX6_undo_19 (show kd 0 = 6 by decide) (by decide) rfl fd_RX6_16 (by decide) ?_
    refine E_callV (As := [.ref (7)]) (rest := []) dX6_undo_22 cl_RX6_216 tw_272 (ar_6_1 (show kd 0 = 6 by decide)).1 (by decide) rfl tw_273 ⟨rfl, rfl, Nat.le_of_ble_eq_true rfl, Nat.le_of_ble_eq_true rfl⟩ rfl rfl (Nat.le_of_ble_eq_true rfl) (mt_X0_becomeLike _ _ _ _ (ar_6_1 (show kd 0 = 6 by decide)).1 (ar_6_7 (show kd 0 = 6 by decide)).1 hP) ?_
    rintro _ t22 ⟨rfl, hP⟩
    show eX6_undo 25 [.ref (0)] [] t22 _
    refine E_aload_n dX6_undo_25 rfl ?_
    refine E_getR (j := 0) dX6_undo_26 (show kd 0 = 6 by decide) (by decide) rfl fd_RX6_12 (by decide) ?_
    refine E_callV (As := []) (rest := []) dX6_undo_29 cl_RX6_146 tw_337 (ar_6_1 (show kd 0 = 6 by decide)).1 (by decide) rfl tw_338 ⟨rfl, rfl, Nat.le_of_ble_eq_true rfl, Nat.le_of_ble_eq_true rfl⟩ rfl rfl (Nat.le_of_ble_eq_true rfl) (mt_X0_allStones _ _ _ (ar_6_1 (show kd 0 = 6 by decide)).1 hP) ?_
    intro r0 s0 hq0; obtain ⟨r29, h0, hs0, hP⟩ := hq0; subst h0; rw [hs0]
    show eX6_undo 32 [.ref (0)] [.int (r29)] t22 _
    exact E_iret dX6_undo_32 rfl ⟨_, rfl, hP⟩
  · replace hP := hP.2 hc
    refine E_aload_n dX6_undo_7 rfl ?_
    refine E_ldc (v := (-1000000004)) dX6_undo_8 tw_366 ?_
    refine E_callV (As := [.int ((-1000000004))]) (rest := []) dX6_undo_10 cl_RX6_65 tw_279 (show kd 0 = 6 by decide) (by decide) rfl tw_280 ⟨rfl, rfl, Nat.le_of_ble_eq_true rfl, Nat.le_of_ble_eq_true rfl⟩ rfl rfl (Nat.le_of_ble_eq_true rfl) (mt_X6_finding _ _ _  hP) ?_
    rintro _ t10 ⟨r10, rfl, hP⟩
    show eX6_undo 13 [.ref (0)] [.int (r10)] t10 _
    exact E_iret dX6_undo_13 rfl ⟨_, rfl, hP⟩
theorem dX6_tear_0 : decode cX6_tear 0 = .ok (.aload_n 0, 1) := by decide +kernel
theorem dX6_tear_1 : decode cX6_tear 1 = .ok (.getfield 295, 3) := by decide +kernel
theorem dX6_tear_4 : decode cX6_tear 4 = .ok (.invokestatic 112, 3) := by decide +kernel
theorem dX6_tear_7 : decode cX6_tear 7 = .ok (.istore_n 1, 1) := by decide +kernel
theorem dX6_tear_8 : decode cX6_tear 8 = .ok (.aload_n 0, 1) := by decide +kernel
theorem dX6_tear_9 : decode cX6_tear 9 = .ok (.iconst 0, 1) := by decide +kernel
theorem dX6_tear_10 : decode cX6_tear 10 = .ok (.putfield 295, 3) := by decide +kernel
theorem dX6_tear_13 : decode cX6_tear 13 = .ok (.iload_n 1, 1) := by decide +kernel
theorem dX6_tear_14 : decode cX6_tear 14 = .ok (.ireturn, 1) := by decide +kernel
def rmX6_tear : Room := { frames := 1, cells := 0, slots := 0, locals := 20 }
abbrev eX6_tear := Ev cX6_tear 2 (some .int) RX6 rmX6_tear
set_option maxRecDepth 20000 in
theorem mt_X6_tear  (σ : St) (Q : Int32 → St → Prop)  (hP : P_X6_tear  σ Q) : Mt yX6_tear cX6_tear 2 (some .int) rmX6_tear [.ref (0)] σ (qI Q) := by
  refine Mt.of (k := 1) (ls := [.ref (0), un]) (by decide +kernel) rfl (Nat.le_of_ble_eq_true rfl) ?_
  show eX6_tear 0 [.ref (0), un] [] σ _
  unfold P_X6_tear at hP
  refine E_aload_n dX6_tear_0 rfl ?_
  refine E_getZ (j := 8) dX6_tear_1 (show kd 0 = 6 by decide) (by decide) rfl fd_RX6_295 ?_
  obtain ⟨hb, hP⟩ := hP
  refine E_toB hb ?_
  refine E_callS (As := [.int (bI (nz (gI σ 0 8)))]) (rest := []) dX6_tear_4 cl_RX6_112 tw_311 ⟨rfl, rfl, Nat.le_of_ble_eq_true rfl, Nat.le_of_ble_eq_true rfl⟩ rfl rfl (Nat.le_of_ble_eq_true rfl) (mt_X6_asNumber _ _ _  hP) ?_
  intro r0 s0 hq0; obtain ⟨r4, h0, hs0, hP⟩ := hq0; subst h0; rw [hs0]
  show eX6_tear 7 [.ref (0), un] [.int (r4)] σ _
  refine E_istore_n (ls' := [.ref (0), .int (r4)]) dX6_tear_7 (by decide) rfl ?_
  refine E_aload_n dX6_tear_8 rfl ?_
  refine E_iconst (v := 0) dX6_tear_9 (by decide) ?_
  refine E_putZ (j := 8) dX6_tear_10 (show kd 0 = 6 by decide) (by decide) rfl fd_RX6_295 fp_6_8 (Or.inl rfl) ?_
  refine E_iload_n dX6_tear_13 rfl ?_
  exact E_iret dX6_tear_14 rfl ⟨_, rfl, hP⟩
