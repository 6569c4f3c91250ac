theorem dX7_beam_0 : decode cX7_beam 0 = .ok (.iload_n 1, 1) := by decide +kernel
theorem dX7_beam_1 : decode cX7_beam 1 = .ok (.iconst 0, 1) := by decide +kernel
theorem dX7_beam_2 : decode cX7_beam 2 = .ok (.iconst 2, 1) := by decide +kernel
theorem dX7_beam_3 : decode cX7_beam 3 = .ok (.invokestatic 58, 3) := by decide +kernel
theorem dX7_beam_6 : decode cX7_beam 6 = .ok (.ifCond .ne 10, 3) := by decide +kernel
theorem dX7_beam_9 : decode cX7_beam 9 = .ok (.aload_n 0, 1) := by decide +kernel
theorem dX7_beam_10 : decode cX7_beam 10 = .ok (.ldc 57, 2) := by decide +kernel
theorem dX7_beam_12 : decode cX7_beam 12 = .ok (.invokevirtual 105, 3) := by decide +kernel
theorem dX7_beam_15 : decode cX7_beam 15 = .ok (.ireturn, 1) := by decide +kernel
theorem dX7_beam_16 : decode cX7_beam 16 = .ok (.aload_n 0, 1) := by decide +kernel
theorem dX7_beam_17 : decode cX7_beam 17 = .ok (.iload_n 1, 1) := by decide +kernel
theorem dX7_beam_18 : decode cX7_beam 18 = .ok (.invokevirtual 90, 3) := by decide +kernel
theorem dX7_beam_21 : decode cX7_beam 21 = .ok (.istore_n 3, 1) := by decide +kernel
theorem dX7_beam_22 : decode cX7_beam 22 = .ok (.aload_n 0, 1) := by decide +kernel
theorem dX7_beam_23 : decode cX7_beam 23 = .ok (.getfield 7, 3) := by decide +kernel
theorem dX7_beam_26 : decode cX7_beam 26 = .ok (.bipush 92, 2) := by decide +kernel
theorem dX7_beam_28 : decode cX7_beam 28 = .ok (.iload_n 2, 1) := by decide +kernel
theorem dX7_beam_29 : decode cX7_beam 29 = .ok (.ifCond .eq 17, 3) := by decide +kernel
theorem dX7_beam_32 : decode cX7_beam 32 = .ok (.aload_n 0, 1) := by decide +kernel
theorem dX7_beam_33 : decode cX7_beam 33 = .ok (.getfield 7, 3) := by decide +kernel
theorem dX7_beam_36 : decode cX7_beam 36 = .ok (.bipush 92, 2) := by decide +kernel
theorem dX7_beam_38 : decode cX7_beam 38 = .ok (.iaload, 1) := by decide +kernel
theorem dX7_beam_39 : decode cX7_beam 39 = .ok (.iconst 1, 1) := by decide +kernel
theorem dX7_beam_40 : decode cX7_beam 40 = .ok (.iload_n 1, 1) := by decide +kernel
theorem dX7_beam_41 : decode cX7_beam 41 = .ok (.ishl, 1) := by decide +kernel
theorem dX7_beam_42 : decode cX7_beam 42 = .ok (.ior, 1) := by decide +kernel
theorem dX7_beam_43 : decode cX7_beam 43 = .ok (.goto 16, 3) := by decide +kernel
theorem dX7_beam_46 : decode cX7_beam 46 = .ok (.aload_n 0, 1) := by decide +kernel
theorem dX7_beam_47 : decode cX7_beam 47 = .ok (.getfield 7, 3) := by decide +kernel
theorem dX7_beam_50 : decode cX7_beam 50 = .ok (.bipush 92, 2) := by decide +kernel
theorem dX7_beam_52 : decode cX7_beam 52 = .ok (.iaload, 1) := by decide +kernel
theorem dX7_beam_53 : decode cX7_beam 53 = .ok (.iconst 1, 1) := by decide +kernel
theorem dX7_beam_54 : decode cX7_beam 54 = .ok (.iload_n 1, 1) := by decide +kernel
theorem dX7_beam_55 : decode cX7_beam 55 = .ok (.ishl, 1) := by decide +kernel
theorem dX7_beam_56 : decode cX7_beam 56 = .ok (.iconst (-1), 1) := by decide +kernel
theorem dX7_beam_57 : decode cX7_beam 57 = .ok (.ixor, 1) := by decide +kernel
theorem dX7_beam_58 : decode cX7_beam 58 = .ok (.iand, 1) := by decide +kernel
theorem dX7_beam_59 : decode cX7_beam 59 = .ok (.iastore, 1) := by decide +kernel
theorem dX7_beam_60 : decode cX7_beam 60 = .ok (.iload_n 3, 1) := by decide +kernel
theorem dX7_beam_61 : decode cX7_beam 61 = .ok (.iload_n 2, 1) := by decide +kernel
theorem dX7_beam_62 : decode cX7_beam 62 = .ok (.if_icmp .ne 7, 3) := by decide +kernel
theorem dX7_beam_65 : decode cX7_beam 65 = .ok (.iconst 0, 1) := by decide +kernel
theorem dX7_beam_66 : decode cX7_beam 66 = .ok (.goto 4, 3) := by decide +kernel
theorem dX7_beam_69 : decode cX7_beam 69 = .ok (.iconst 1, 1) := by decide +kernel
theorem dX7_beam_70 : decode cX7_beam 70 = .ok (.ireturn, 1) := by decide +kernel
def rmX7_beam : Room := { frames := 1, cells := 0, slots := 0, locals := 22 }
abbrev eX7_beam := Ev cX7_beam 4 (some .int) RX7 rmX7_beam
set_option maxRecDepth 20000 in
theorem mt_X7_beam (p0 : Int32) (p1 : Bool) (σ : St) (Q : Int32 → St → Prop)  (hP : P_X7_beam p0 p1 σ Q) : Mt yX7_beam cX7_beam 4 (some .int) rmX7_beam [.ref (49), .int (p0), .int (bI p1)] σ (qI Q) := by
  refine Mt.of (k := 1) (ls := [.ref (49), .int (p0), .int (bI p1), un]) (by decide +kernel) rfl (Nat.le_of_ble_eq_true rfl) ?_
  show eX7_beam 0 [.ref (49), .int (p0), .int (bI p1), un] [] σ _
  unfold P_X7_beam at hP
  refine E_iload_n dX7_beam_0 rfl ?_
  refine E_iconst (v := 0) dX7_beam_1 (by decide) ?_
  refine E_iconst (v := 2) dX7_beam_2 (by decide) ?_
  refine E_callS (As := [.int (p0), .int (0), .int (2)]) (rest := []) dX7_beam_3 cl_RX7_58 tw_456 ⟨rfl, rfl, Nat.le_of_ble_eq_true rfl, Nat.le_of_ble_eq_true rfl⟩ rfl rfl (Nat.le_of_ble_eq_true rfl) (mt_X7_in _ _ _ _ _  hP) ?_
  intro r0 s0 hq0; obtain ⟨r3, h0, hs0, hP⟩ := hq0; subst h0; rw [hs0]
  show eX7_beam 6 [.ref (49), .int (p0), .int (bI p1), un] [.int (bI r3)] σ _
  refine E_ifz_ne 16 dX7_beam_6 (by decide) (fun hc => ?_) (fun hc => ?_)
  · replace hP := hP.1 hc
    refine E_aload_n dX7_beam_16 rfl ?_
    refine E_iload_n dX7_beam_17 rfl ?_
    refine E_callV (As := [.int (p0)]) (rest := []) dX7_beam_18 cl_RX7_90 tw_495 (show kd 49 = 7 by decide) (by decide) rfl tw_496 ⟨rfl, rfl, Nat.le_of_ble_eq_true rfl, Nat.le_of_ble_eq_true rfl⟩ rfl rfl (Nat.le_of_ble_eq_true rfl) (mt_X7_lies _ _ _  hP) ?_
    intro r0 s0 hq0; obtain ⟨r18, h0, hs0, hP⟩ := hq0; subst h0; rw [hs0]
    show eX7_beam 21 [.ref (49), .int (p0), .int (bI p1), un] [.int (bI r18)] σ _
    refine E_istore_n (ls' := [.ref (49), .int (p0), .int (bI p1), .int (bI r18)]) dX7_beam_21 (by decide) rfl ?_
    refine E_aload_n dX7_beam_22 rfl ?_
    refine E_getR (j := 0) dX7_beam_23 (show kd 49 = 7 by decide) (by decide) rfl fd_RX7_7 (by decide) ?_
    refine E_bipush (v := 92) dX7_beam_26 (by decide) ?_
    refine E_iload_n dX7_beam_28 rfl ?_
    refine E_ifz_eq 46 dX7_beam_29 (by decide) (fun hc => ?_) (fun hc => ?_)
    · replace hP := hP.1 hc
      refine E_aload_n dX7_beam_46 rfl ?_
      refine E_getR (j := 0) dX7_beam_47 (show kd 49 = 7 by decide) (by decide) rfl fd_RX7_7 (by decide) ?_
      refine E_bipush (v := 92) dX7_beam_50 (by decide) ?_
      refine E_iald dX7_beam_52 (ar_7_1 (show kd 49 = 7 by decide)).1 (ar_7_1 (show kd 49 = 7 by decide)).2 (vp_c (by decide)) ?_
      refine E_iconst (v := 1) dX7_beam_53 (by decide) ?_
      refine E_iload_n dX7_beam_54 rfl ?_
      refine E_ishl dX7_beam_55 ?_
      refine E_iconst (v := (-1)) dX7_beam_56 (by decide) ?_
      refine E_ixor dX7_beam_57 ?_
      refine E_iand dX7_beam_58 ?_
      refine E_iast dX7_beam_59 (ar_7_1 (show kd 49 = 7 by decide)).1 (ar_7_1 (show kd 49 = 7 by decide)).2 (vp_c (by decide)) ?_
      refine E_iload_n dX7_beam_60 rfl ?_
      refine E_iload_n dX7_beam_61 rfl ?_
      refine E_icmp_ne 69 dX7_beam_62 (by decide) (fun hc => ?_) (fun hc => ?_)
      · replace hP := hP.1 hc
        refine E_iconst (v := 1) dX7_beam_69 (by decide) ?_
        exact E_iret dX7_beam_70 rfl ⟨_, rfl, hP⟩
      · replace hP := hP.2 hc
        refine E_iconst (v := 0) dX7_beam_65 (by decide) ?_
        refine E_goto 70 dX7_beam_66 (by decide) ?_
        exact E_iret dX7_beam_70 rfl ⟨_, rfl, hP⟩
    · replace hP := hP.2 hc
      refine E_aload_n dX7_beam_32 rfl ?_
      refine E_getR (j := 0) dX7_beam_33 (show kd 49 = 7 by decide) (by decide) rfl fd_RX7_7 (by decide) ?_
      refine E_bipush (v := 92) dX7_beam_36 (by decide) ?_
      refine E_iald dX7_beam_38 (ar_7_1 (show kd 49 = 7 by decide)).1 (ar_7_1 (show kd 49 = 7 by decide)).2 (vp_c (by decide)) ?_
      refine E_iconst (v := 1) dX7_beam_39 (by decide) ?_
      refine E_iload_n dX7_beam_40 rfl ?_
      refine E_ishl dX7_beam_41 ?_
      refine E_ior dX7_beam_42 ?_
      refine E_goto 59 dX7_beam_43 (by decide) ?_
      refine E_iast dX7_beam_59 (ar_7_1 (show kd 49 = 7 by decide)).1 (ar_7_1 (show kd 49 = 7 by decide)).2 (vp_c (by decide)) ?_
      refine E_iload_n dX7_beam_60 rfl ?_
      refine E_iload_n dX7_beam_61 rfl ?_
      refine E_icmp_ne 69 dX7_beam_62 (by decide) (fun hc => ?_) (fun hc => ?_)
      · replace hP := hP.1 hc
        refine E_iconst (v := 1) dX7_beam_69 (by decide) ?_
        exact E_iret dX7_beam_70 rfl ⟨_, rfl, hP⟩
      · replace hP := hP.2 hc
        refine E_iconst (v := 0) dX7_beam_65 (by decide) ?_
        refine E_goto 70 dX7_beam_66 (by decide) ?_
        exact E_iret dX7_beam_70 rfl ⟨_, rfl, hP⟩
  · replace hP := hP.2 hc
    refine E_aload_n dX7_beam_9 rfl ?_
    refine E_ldc (v := (-1000000001)) dX7_beam_10 tw_452 ?_
    refine E_callV (As := [.int ((-1000000001))]) (rest := []) dX7_beam_12 cl_RX7_105 tw_507 (show kd 49 = 7 by decide) (by decide) rfl tw_508 ⟨rfl, rfl, Nat.le_of_ble_eq_true rfl, Nat.le_of_ble_eq_true rfl⟩ rfl rfl (Nat.le_of_ble_eq_true rfl) (mt_X7_finds _ _ _  hP) ?_
    rintro _ t12 ⟨r12, rfl, hP⟩
    show eX7_beam 15 [.ref (49), .int (p0), .int (bI p1), un] [.int (r12)] t12 _
    exact E_iret dX7_beam_15 rfl ⟨_, rfl, hP⟩
theorem dX7_allTops_0 : decode cX7_allTops 0 = .ok (.aload_n 0, 1) := by decide +kernel
theorem dX7_allTops_1 : decode cX7_allTops 1 = .ok (.invokevirtual 113, 3) := by decide +kernel
theorem dX7_allTops_4 : decode cX7_allTops 4 = .ok (.iconst 0, 1) := by decide +kernel
theorem dX7_allTops_5 : decode cX7_allTops 5 = .ok (.istore_n 1, 1) := by decide +kernel
theorem dX7_allTops_6 : decode cX7_allTops 6 = .ok (.iconst 0, 1) := by decide +kernel
theorem dX7_allTops_7 : decode cX7_allTops 7 = .ok (.istore_n 2, 1) := by decide +kernel
theorem dX7_allTops_8 : decode cX7_allTops 8 = .ok (.iload_n 2, 1) := by decide +kernel
theorem dX7_allTops_9 : decode cX7_allTops 9 = .ok (.iconst 4, 1) := by decide +kernel
theorem dX7_allTops_10 : decode cX7_allTops 10 = .ok (.if_icmp .ge 27, 3) := by decide +kernel
theorem dX7_allTops_13 : decode cX7_allTops 13 = .ok (.iload_n 1, 1) := by decide +kernel
theorem dX7_allTops_14 : decode cX7_allTops 14 = .ok (.aload_n 0, 1) := by decide +kernel
theorem dX7_allTops_15 : decode cX7_allTops 15 = .ok (.getfield 16, 3) := by decide +kernel
theorem dX7_allTops_18 : decode cX7_allTops 18 = .ok (.bipush 8, 2) := by decide +kernel
theorem dX7_allTops_20 : decode cX7_allTops 20 = .ok (.iload_n 2, 1) := by decide +kernel
theorem dX7_allTops_21 : decode cX7_allTops 21 = .ok (.imul, 1) := by decide +kernel
theorem dX7_allTops_22 : decode cX7_allTops 22 = .ok (.aload_n 0, 1) := by decide +kernel
theorem dX7_allTops_23 : decode cX7_allTops 23 = .ok (.iload_n 2, 1) := by decide +kernel
theorem dX7_allTops_24 : decode cX7_allTops 24 = .ok (.invokevirtual 66, 3) := by decide +kernel
theorem dX7_allTops_27 : decode cX7_allTops 27 = .ok (.iadd, 1) := by decide +kernel
theorem dX7_allTops_28 : decode cX7_allTops 28 = .ok (.iaload, 1) := by decide +kernel
theorem dX7_allTops_29 : decode cX7_allTops 29 = .ok (.iadd, 1) := by decide +kernel
theorem dX7_allTops_30 : decode cX7_allTops 30 = .ok (.istore_n 1, 1) := by decide +kernel
theorem dX7_allTops_31 : decode cX7_allTops 31 = .ok (.iinc 2 1, 3) := by decide +kernel
theorem dX7_allTops_34 : decode cX7_allTops 34 = .ok (.goto (-26), 3) := by decide +kernel
theorem dX7_allTops_37 : decode cX7_allTops 37 = .ok (.iload_n 1, 1) := by decide +kernel
theorem dX7_allTops_38 : decode cX7_allTops 38 = .ok (.ireturn, 1) := by decide +kernel
def rmX7_allTops : Room := { frames := 4, cells := 0, slots := 0, locals := 93 }
abbrev eX7_allTops := Ev cX7_allTops 3 (some .int) RX7 rmX7_allTops
set_option maxRecDepth 20000 in
theorem ev_X7_allTops_l8   (K : Int32 → St → Prop) (Q : Int32 → St → Prop) (hK : ∀ k1 s, K k1 s → eX7_allTops 37 [un, .int (k1), un] [] s (qI Q)) : ∀ (n : Nat) (l1 : Int32) (l2 : Int32) (σ : St), P_X7_allTops_l8  K Q n l1 l2 σ → eX7_allTops 8 [.ref (49), .int (l1), .int (l2)] [] σ (qI Q) := by
  intro n
  induction n with
  | zero => intro l1 l2 σ hP; exact hP.elim
  | succ n ih =>
    intro l1 l2 σ hP
    rw [P_X7_allTops_l8] at hP
    refine E_iload_n dX7_allTops_8 rfl ?_
    refine E_iconst (v := 4) dX7_allTops_9 (by decide) ?_
    refine E_icmp_ge 37 dX7_allTops_10 (by decide) (fun hc => ?_) (fun hc => ?_)
    · replace hP := hP.1 hc
      refine E_mask [false, true, false] rfl ?_
      exact hK (l1) _ hP
    · replace hP := hP.2 hc
      refine E_iload_n dX7_allTops_13 rfl ?_
      refine E_aload_n dX7_allTops_14 rfl ?_
      refine E_getR (j := 2) dX7_allTops_15 (show kd 49 = 7 by decide) (by decide) rfl fd_RX7_16 (by decide) ?_
      refine E_bipush (v := 8) dX7_allTops_18 (by decide) ?_
      refine E_iload_n dX7_allTops_20 rfl ?_
      refine E_imul dX7_allTops_21 ?_
      refine E_aload_n dX7_allTops_22 rfl ?_
      refine E_iload_n dX7_allTops_23 rfl ?_
      refine E_callV (As := [.int (l2)]) (rest := [.int (8 * l2), .ref (52), .int (l1)]) dX7_allTops_24 cl_RX7_66 tw_460 (show kd 49 = 7 by decide) (by decide) rfl tw_461 ⟨rfl, rfl, Nat.le_of_ble_eq_true rfl, Nat.le_of_ble_eq_true rfl⟩ rfl rfl (Nat.le_of_ble_eq_true rfl) (mt_X7_many _ _ _  hP) ?_
      intro r0 s0 hq0; obtain ⟨r24, h0, hs0, hP⟩ := hq0; subst h0; rw [hs0]
      show eX7_allTops 27 [.ref (49), .int (l1), .int (l2)] [.int (r24), .int (8 * l2), .ref (52), .int (l1)] σ _
      refine E_iadd dX7_allTops_27 ?_
      obtain ⟨hb, hP⟩ := hP
      refine E_iald dX7_allTops_28 (ar_7_3 (show kd 49 = 7 by decide)).1 (ar_7_3 (show kd 49 = 7 by decide)).2 hb ?_
      refine E_iadd dX7_allTops_29 ?_
      refine E_istore_n (ls' := [.ref (49), .int (l1 + (gI σ 52 ((8 * l2) + r24).toNatClampNeg)), .int (l2)]) dX7_allTops_30 (by decide) rfl ?_
      refine E_iinc (ls' := [.ref (49), .int (l1 + (gI σ 52 ((8 * l2) + r24).toNatClampNeg)), .int (l2 + 1)]) dX7_allTops_31 rfl rfl (by decide) rfl ?_
      refine E_goto 8 dX7_allTops_34 (by decide) ?_
      exact ih (l1 + (gI σ 52 ((8 * l2) + r24).toNatClampNeg)) (l2 + 1) _ hP
set_option maxRecDepth 20000 in
theorem mt_X7_allTops  (σ : St) (Q : Int32 → St → Prop)  (hP : P_X7_allTops  σ Q) : Mt yX7_allTops cX7_allTops 3 (some .int) rmX7_allTops [.ref (49)] σ (qI Q) := by
  refine Mt.of (k := 2) (ls := [.ref (49), un, un]) (by decide +kernel) rfl (Nat.le_of_ble_eq_true rfl) ?_
  show eX7_allTops 0 [.ref (49), un, un] [] σ _
  unfold P_X7_allTops at hP
  refine E_aload_n dX7_allTops_0 rfl ?_
  refine E_callV (As := []) (rest := []) dX7_allTops_1 cl_RX7_113 tw_519 (show kd 49 = 7 by decide) (by decide) rfl tw_520 ⟨rfl, rfl, Nat.le_of_ble_eq_true rfl, Nat.le_of_ble_eq_true rfl⟩ rfl rfl (Nat.le_of_ble_eq_true rfl) (mt_X7_findTops  _ _  hP) ?_
  rintro _ t1 ⟨rfl, hP⟩
  show eX7_allTops 4 [.ref (49), un, un] [] t1 _
  refine E_iconst (v := 0) dX7_allTops_4 (by decide) ?_
  refine E_istore_n (ls' := [.ref (49), .int (0), un]) dX7_allTops_5 (by decide) rfl ?_
  refine E_iconst (v := 0) dX7_allTops_6 (by decide) ?_
  refine E_istore_n (ls' := [.ref (49), .int (0), .int (0)]) dX7_allTops_7 (by decide) rfl ?_
  obtain ⟨m8, hP⟩ := hP
  refine ev_X7_allTops_l8   _ Q ?_ m8 _ _ _ hP
  intro k1 t37 hP
  refine E_iload_n dX7_allTops_37 rfl ?_
  exact E_iret dX7_allTops_38 rfl ⟨_, rfl, hP⟩
theorem dX7_nights_0 : decode cX7_nights 0 = .ok (.iload_n 1, 1) := by decide +kernel
theorem dX7_nights_1 : decode cX7_nights 1 = .ok (.iconst 1, 1) := by decide +kernel
theorem dX7_nights_2 : decode cX7_nights 2 = .ok (.bipush 99, 2) := by decide +kernel
theorem dX7_nights_4 : decode cX7_nights 4 = .ok (.invokestatic 58, 3) := by decide +kernel
theorem dX7_nights_7 : decode cX7_nights 7 = .ok (.ifCond .ne 10, 3) := by decide +kernel
theorem dX7_nights_10 : decode cX7_nights 10 = .ok (.aload_n 0, 1) := by decide +kernel
theorem dX7_nights_11 : decode cX7_nights 11 = .ok (.ldc 57, 2) := by decide +kernel
theorem dX7_nights_13 : decode cX7_nights 13 = .ok (.invokevirtual 105, 3) := by decide +kernel
theorem dX7_nights_16 : decode cX7_nights 16 = .ok (.ireturn, 1) := by decide +kernel
theorem dX7_nights_17 : decode cX7_nights 17 = .ok (.aload_n 0, 1) := by decide +kernel
theorem dX7_nights_18 : decode cX7_nights 18 = .ok (.getfield 7, 3) := by decide +kernel
theorem dX7_nights_21 : decode cX7_nights 21 = .ok (.bipush 94, 2) := by decide +kernel
theorem dX7_nights_23 : decode cX7_nights 23 = .ok (.iaload, 1) := by decide +kernel
theorem dX7_nights_24 : decode cX7_nights 24 = .ok (.iload_n 1, 1) := by decide +kernel
theorem dX7_nights_25 : decode cX7_nights 25 = .ok (.iadd, 1) := by decide +kernel
theorem dX7_nights_26 : decode cX7_nights 26 = .ok (.sipush 999, 3) := by decide +kernel
theorem dX7_nights_29 : decode cX7_nights 29 = .ok (.if_icmp .le 10, 3) := by decide +kernel
theorem dX7_nights_32 : decode cX7_nights 32 = .ok (.aload_n 0, 1) := by decide +kernel
theorem dX7_nights_33 : decode cX7_nights 33 = .ok (.ldc 128, 2) := by decide +kernel
theorem dX7_nights_35 : decode cX7_nights 35 = .ok (.invokevirtual 105, 3) := by decide +kernel
theorem dX7_nights_38 : decode cX7_nights 38 = .ok (.ireturn, 1) := by decide +kernel
theorem dX7_nights_39 : decode cX7_nights 39 = .ok (.aload_n 0, 1) := by decide +kernel
theorem dX7_nights_40 : decode cX7_nights 40 = .ok (.invokevirtual 129, 3) := by decide +kernel
theorem dX7_nights_43 : decode cX7_nights 43 = .ok (.istore_n 2, 1) := by decide +kernel
theorem dX7_nights_44 : decode cX7_nights 44 = .ok (.aload_n 0, 1) := by decide +kernel
theorem dX7_nights_45 : decode cX7_nights 45 = .ok (.getfield 7, 3) := by decide +kernel
theorem dX7_nights_48 : decode cX7_nights 48 = .ok (.bipush 94, 2) := by decide +kernel
theorem dX7_nights_50 : decode cX7_nights 50 = .ok (.dup2, 1) := by decide +kernel
theorem dX7_nights_51 : decode cX7_nights 51 = .ok (.iaload, 1) := by decide +kernel
theorem dX7_nights_52 : decode cX7_nights 52 = .ok (.iload_n 1, 1) := by decide +kernel
theorem dX7_nights_53 : decode cX7_nights 53 = .ok (.iadd, 1) := by decide +kernel
theorem dX7_nights_54 : decode cX7_nights 54 = .ok (.iastore, 1) := by decide +kernel
theorem dX7_nights_55 : decode cX7_nights 55 = .ok (.iload_n 2, 1) := by decide +kernel
theorem dX7_nights_56 : decode cX7_nights 56 = .ok (.aload_n 0, 1) := by decide +kernel
theorem dX7_nights_57 : decode cX7_nights 57 = .ok (.invokevirtual 129, 3) := by decide +kernel
theorem dX7_nights_60 : decode cX7_nights 60 = .ok (.isub, 1) := by decide +kernel
theorem dX7_nights_61 : decode cX7_nights 61 = .ok (.ireturn, 1) := by decide +kernel
def rmX7_nights : Room := { frames := 5, cells := 0, slots := 0, locals := 115 }
abbrev eX7_nights := Ev cX7_nights 3 (some .int) RX7 rmX7_nights
set_option maxRecDepth 20000 in
theorem mt_X7_nights (p0 : Int32) (σ : St) (Q : Int32 → St → Prop)  (hP : P_X7_nights p0 σ Q) : Mt yX7_nights cX7_nights 3 (some .int) rmX7_nights [.ref (49), .int (p0)] σ (qI Q) := by
  refine Mt.of (k := 1) (ls := [.ref (49), .int (p0), un]) (by decide +kernel) rfl (Nat.le_of_ble_eq_true rfl) ?_
  show eX7_nights 0 [.ref (49), .int (p0), un] [] σ _
  unfold P_X7_nights at hP
  refine E_iload_n dX7_nights_0 rfl ?_
  refine E_iconst (v := 1) dX7_nights_1 (by decide) ?_
  refine E_bipush (v := 99) dX7_nights_2 (by decide) ?_
  refine E_callS (As := [.int (p0), .int (1), .int (99)]) (rest := []) dX7_nights_4 cl_RX7_58 tw_456 ⟨rfl, rfl, Nat.le_of_ble_eq_true rfl, Nat.le_of_ble_eq_true rfl⟩ rfl rfl (Nat.le_of_ble_eq_true rfl) (mt_X7_in _ _ _ _ _  hP) ?_
  intro r0 s0 hq0; obtain ⟨r4, h0, hs0, hP⟩ := hq0; subst h0; rw [hs0]
  show eX7_nights 7 [.ref (49), .int (p0), un] [.int (bI r4)] σ _
  refine E_ifz_ne 17 dX7_nights_7 (by decide) (fun hc => ?_) (fun hc => ?_)
  · replace hP := hP.1 hc
    refine E_aload_n dX7_nights_17 rfl ?_
    refine E_getR (j := 0) dX7_nights_18 (show kd 49 = 7 by decide) (by decide) rfl fd_RX7_7 (by decide) ?_
    refine E_bipush (v := 94) dX7_nights_21 (by decide) ?_
    refine E_iald dX7_nights_23 (ar_7_1 (show kd 49 = 7 by decide)).1 (ar_7_1 (show kd 49 = 7 by decide)).2 (vp_c (by decide)) ?_
    refine E_iload_n dX7_nights_24 rfl ?_
    refine E_iadd dX7_nights_25 ?_
    refine E_sipush (v := 999) dX7_nights_26 (by decide) ?_
    refine E_icmp_le 39 dX7_nights_29 (by decide) (fun hc => ?_) (fun hc => ?_)
    · replace hP := hP.1 hc
      refine E_aload_n dX7_nights_39 rfl ?_
      refine E_callV (As := []) (rest := []) dX7_nights_40 cl_RX7_129 tw_535 (show kd 49 = 7 by decide) (by decide) rfl tw_536 ⟨rfl, rfl, Nat.le_of_ble_eq_true rfl, Nat.le_of_ble_eq_true rfl⟩ rfl rfl (Nat.le_of_ble_eq_true rfl) (mt_X7_allTops  _ _  hP) ?_
      rintro _ t40 ⟨r40, rfl, hP⟩
      show eX7_nights 43 [.ref (49), .int (p0), un] [.int (r40)] t40 _
      refine E_istore_n (ls' := [.ref (49), .int (p0), .int (r40)]) dX7_nights_43 (by decide) rfl ?_
      refine E_aload_n dX7_nights_44 rfl ?_
      refine E_getR (j := 0) dX7_nights_45 (show kd 49 = 7 by decide) (by decide) rfl fd_RX7_7 (by decide) ?_
      refine E_bipush (v := 94) dX7_nights_48 (by decide) ?_
      refine E_dup2 dX7_nights_50 rfl rfl ?_
      refine E_iald dX7_nights_51 (ar_7_1 (show kd 49 = 7 by decide)).1 (ar_7_1 (show kd 49 = 7 by decide)).2 (vp_c (by decide)) ?_
      refine E_iload_n dX7_nights_52 rfl ?_
      refine E_iadd dX7_nights_53 ?_
      refine E_iast dX7_nights_54 (ar_7_1 (show kd 49 = 7 by decide)).1 (ar_7_1 (show kd 49 = 7 by decide)).2 (vp_c (by decide)) ?_
      refine E_iload_n dX7_nights_55 rfl ?_
      refine E_aload_n dX7_nights_56 rfl ?_
      refine E_callV (As := []) (rest := [.int (r40)]) dX7_nights_57 cl_RX7_129 tw_535 (show kd 49 = 7 by decide) (by decide) rfl tw_536 ⟨rfl, rfl, Nat.le_of_ble_eq_true rfl, Nat.le_of_ble_eq_true rfl⟩ rfl rfl (Nat.le_of_ble_eq_true rfl) (mt_X7_allTops  _ _  hP) ?_
      rintro _ t57 ⟨r57, rfl, hP⟩
      show eX7_nights 60 [.ref (49), .int (p0), .int (r40)] [.int (r57), .int (r40)] t57 _
      refine E_isub dX7_nights_60 ?_
      exact E_iret dX7_nights_61 rfl ⟨_, rfl, hP⟩
    · replace hP := hP.2 hc
      refine E_aload_n dX7_nights_32 rfl ?_
      refine E_ldc (v := (-1000000005)) dX7_nights_33 tw_537 ?_
      refine E_callV (As := [.int ((-1000000005))]) (rest := []) dX7_nights_35 cl_RX7_105 tw_507 (show kd 49 = 7 by decide) (by decide) rfl tw_508 ⟨rfl, rfl, Nat.le_of_ble_eq_true rfl, Nat.le_of_ble_eq_true rfl⟩ rfl rfl (Nat.le_of_ble_eq_true rfl) (mt_X7_finds _ _ _  hP) ?_
      rintro _ t35 ⟨r35, rfl, hP⟩
      show eX7_nights 38 [.ref (49), .int (p0), un] [.int (r35)] t35 _
      exact E_iret dX7_nights_38 rfl ⟨_, rfl, hP⟩
  · replace hP := hP.2 hc
    refine E_aload_n dX7_nights_10 rfl ?_
    refine E_ldc (v := (-1000000001)) dX7_nights_11 tw_452 ?_
    refine E_callV (As := [.int ((-1000000001))]) (rest := []) dX7_nights_13 cl_RX7_105 tw_507 (show kd 49 = 7 by decide) (by decide) rfl tw_508 ⟨rfl, rfl, Nat.le_of_ble_eq_true rfl, Nat.le_of_ble_eq_true rfl⟩ rfl rfl (Nat.le_of_ble_eq_true rfl) (mt_X7_finds _ _ _  hP) ?_
    rintro _ t13 ⟨r13, rfl, hP⟩
    show eX7_nights 16 [.ref (49), .int (p0), un] [.int (r13)] t13 _
    exact E_iret dX7_nights_16 rfl ⟨_, rfl, hP⟩
theorem dX7_mostUnlike_0 : decode cX7_mostUnlike 0 = .ok (.aload_n 0, 1) := by decide +kernel
theorem dX7_mostUnlike_1 : decode cX7_mostUnlike 1 = .ok (.invokevirtual 113, 3) := by decide +kernel
theorem dX7_mostUnlike_4 : decode cX7_mostUnlike 4 = .ok (.iconst 0, 1) := by decide +kernel
theorem dX7_mostUnlike_5 : decode cX7_mostUnlike 5 = .ok (.istore_n 1, 1) := by decide +kernel
theorem dX7_mostUnlike_6 : decode cX7_mostUnlike 6 = .ok (.iconst 0, 1) := by decide +kernel
theorem dX7_mostUnlike_7 : decode cX7_mostUnlike 7 = .ok (.istore_n 2, 1) := by decide +kernel
theorem dX7_mostUnlike_8 : decode cX7_mostUnlike 8 = .ok (.iload_n 2, 1) := by decide +kernel
theorem dX7_mostUnlike_9 : decode cX7_mostUnlike 9 = .ok (.iconst 3, 1) := by decide +kernel
theorem dX7_mostUnlike_10 : decode cX7_mostUnlike 10 = .ok (.if_icmp .ge 42, 3) := by decide +kernel
theorem dX7_mostUnlike_13 : decode cX7_mostUnlike 13 = .ok (.aload_n 0, 1) := by decide +kernel
theorem dX7_mostUnlike_14 : decode cX7_mostUnlike 14 = .ok (.iload_n 2, 1) := by decide +kernel
theorem dX7_mostUnlike_15 : decode cX7_mostUnlike 15 = .ok (.invokevirtual 90, 3) := by decide +kernel
theorem dX7_mostUnlike_18 : decode cX7_mostUnlike 18 = .ok (.ifCond .eq 15, 3) := by decide +kernel
theorem dX7_mostUnlike_21 : decode cX7_mostUnlike 21 = .ok (.aload_n 0, 1) := by decide +kernel
theorem dX7_mostUnlike_22 : decode cX7_mostUnlike 22 = .ok (.aload_n 0, 1) := by decide +kernel
theorem dX7_mostUnlike_23 : decode cX7_mostUnlike 23 = .ok (.invokevirtual 120, 3) := by decide +kernel
theorem dX7_mostUnlike_26 : decode cX7_mostUnlike 26 = .ok (.iload_n 2, 1) := by decide +kernel
theorem dX7_mostUnlike_27 : decode cX7_mostUnlike 27 = .ok (.invokevirtual 93, 3) := by decide +kernel
theorem dX7_mostUnlike_30 : decode cX7_mostUnlike 30 = .ok (.goto 4, 3) := by decide +kernel
theorem dX7_mostUnlike_33 : decode cX7_mostUnlike 33 = .ok (.iconst 0, 1) := by decide +kernel
theorem dX7_mostUnlike_34 : decode cX7_mostUnlike 34 = .ok (.istore_n 3, 1) := by decide +kernel
theorem dX7_mostUnlike_35 : decode cX7_mostUnlike 35 = .ok (.iload_n 3, 1) := by decide +kernel
theorem dX7_mostUnlike_36 : decode cX7_mostUnlike 36 = .ok (.iload_n 1, 1) := by decide +kernel
theorem dX7_mostUnlike_37 : decode cX7_mostUnlike 37 = .ok (.if_icmp .le 7, 3) := by decide +kernel
theorem dX7_mostUnlike_40 : decode cX7_mostUnlike 40 = .ok (.iload_n 3, 1) := by decide +kernel
theorem dX7_mostUnlike_41 : decode cX7_mostUnlike 41 = .ok (.goto 4, 3) := by decide +kernel
theorem dX7_mostUnlike_44 : decode cX7_mostUnlike 44 = .ok (.iload_n 1, 1) := by decide +kernel
theorem dX7_mostUnlike_45 : decode cX7_mostUnlike 45 = .ok (.istore_n 1, 1) := by decide +kernel
theorem dX7_mostUnlike_46 : decode cX7_mostUnlike 46 = .ok (.iinc 2 1, 3) := by decide +kernel
theorem dX7_mostUnlike_49 : decode cX7_mostUnlike 49 = .ok (.goto (-41), 3) := by decide +kernel
theorem dX7_mostUnlike_52 : decode cX7_mostUnlike 52 = .ok (.iload_n 1, 1) := by decide +kernel
theorem dX7_mostUnlike_53 : decode cX7_mostUnlike 53 = .ok (.ireturn, 1) := by decide +kernel
def rmX7_mostUnlike : Room := { frames := 4, cells := 0, slots := 0, locals := 93 }
abbrev eX7_mostUnlike := Ev cX7_mostUnlike 4 (some .int) RX7 rmX7_mostUnlike
set_option maxRecDepth 20000 in
theorem ev_X7_mostUnlike_l8   (K : Int32 → St → Prop) (Q : Int32 → St → Prop) (hK : ∀ k1 s, K k1 s → eX7_mostUnlike 52 [un, .int (k1), un, un] [] s (qI Q)) : ∀ (n : Nat) (l1 : Int32) (l2 : Int32) (σ : St), P_X7_mostUnlike_l8  K Q n l1 l2 σ → eX7_mostUnlike 8 [.ref (49), .int (l1), .int (l2), un] [] σ (qI Q) := by
  intro n
  induction n with
  | zero => intro l1 l2 σ hP; exact hP.elim
  | succ n ih =>
    intro l1 l2 σ hP
    rw [P_X7_mostUnlike_l8] at hP
    refine E_iload_n dX7_mostUnlike_8 rfl ?_
    refine E_iconst (v := 3) dX7_mostUnlike_9 (by decide) ?_
    refine E_icmp_ge 52 dX7_mostUnlike_10 (by decide) (fun hc => ?_) (fun hc => ?_)
    · replace hP := hP.1 hc
      refine E_mask [false, true, false, false] rfl ?_
      exact hK (l1) _ hP
    · replace hP := hP.2 hc
      refine E_aload_n dX7_mostUnlike_13 rfl ?_
      refine E_iload_n dX7_mostUnlike_14 rfl ?_
      refine E_callV (As := [.int (l2)]) (rest := []) dX7_mostUnlike_15 cl_RX7_90 tw_495 (show kd 49 = 7 by decide) (by decide) rfl tw_496 ⟨rfl, rfl, Nat.le_of_ble_eq_true rfl, Nat.le_of_ble_eq_true rfl⟩ rfl rfl (Nat.le_of_ble_eq_true rfl) (mt_X7_lies _ _ _  hP) ?_
      intro r0 s0 hq0; obtain ⟨r15, h0, hs0, hP⟩ := hq0; subst h0; rw [hs0]
      show eX7_mostUnlike 18 [.ref (49), .int (l1), .int (l2), un] [.int (bI r15)] σ _
      refine E_ifz_eq 33 dX7_mostUnlike_18 (by decide) (fun hc => ?_) (fun hc => ?_)
      · replace hP := hP.1 hc
        refine E_iconst (v := 0) dX7_mostUnlike_33 (by decide) ?_
        refine E_istore_n (ls' := [.ref (49), .int (l1), .int (l2), .int (0)]) dX7_mostUnlike_34 (by decide) rfl ?_
        refine E_iload_n dX7_mostUnlike_35 rfl ?_
        refine E_iload_n dX7_mostUnlike_36 rfl ?_
        refine E_icmp_le 44 dX7_mostUnlike_37 (by decide) (fun hc => ?_) (fun hc => ?_)
        · replace hP := hP.1 hc
          refine E_iload_n dX7_mostUnlike_44 rfl ?_
          refine E_istore_n (ls' := [.ref (49), .int (l1), .int (l2), .int (0)]) dX7_mostUnlike_45 (by decide) rfl ?_
          refine E_iinc (ls' := [.ref (49), .int (l1), .int (l2 + 1), .int (0)]) dX7_mostUnlike_46 rfl rfl (by decide) rfl ?_
          refine E_goto 8 dX7_mostUnlike_49 (by decide) ?_
          refine E_mask [true, true, true, false] rfl ?_
          exact ih (l1) (l2 + 1) _ hP
        · replace hP := hP.2 hc
          refine E_iload_n dX7_mostUnlike_40 rfl ?_
          refine E_goto 45 dX7_mostUnlike_41 (by decide) ?_
          refine E_istore_n (ls' := [.ref (49), .int (0), .int (l2), .int (0)]) dX7_mostUnlike_45 (by decide) rfl ?_
          refine E_iinc (ls' := [.ref (49), .int (0), .int (l2 + 1), .int (0)]) dX7_mostUnlike_46 rfl rfl (by decide) rfl ?_
          refine E_goto 8 dX7_mostUnlike_49 (by decide) ?_
          refine E_mask [true, true, true, false] rfl ?_
          exact ih (0) (l2 + 1) _ hP
      · replace hP := hP.2 hc
        refine E_aload_n dX7_mostUnlike_21 rfl ?_
        refine E_aload_n dX7_mostUnlike_22 rfl ?_
        refine E_callV (As := []) (rest := [.ref (49)]) dX7_mostUnlike_23 cl_RX7_120 tw_523 (show kd 49 = 7 by decide) (by decide) rfl tw_524 ⟨rfl, rfl, Nat.le_of_ble_eq_true rfl, Nat.le_of_ble_eq_true rfl⟩ rfl rfl (Nat.le_of_ble_eq_true rfl) (mt_X7_standNow  _ _  hP) ?_
        intro r0 s0 hq0; obtain ⟨r23, h0, hs0, hP⟩ := hq0; subst h0; rw [hs0]
        show eX7_mostUnlike 26 [.ref (49), .int (l1), .int (l2), un] [.int (r23), .ref (49)] σ _
        refine E_iload_n dX7_mostUnlike_26 rfl ?_
        refine E_callV (As := [.int (r23), .int (l2)]) (rest := []) dX7_mostUnlike_27 cl_RX7_93 tw_491 (show kd 49 = 7 by decide) (by decide) rfl tw_492 ⟨rfl, rfl, Nat.le_of_ble_eq_true rfl, Nat.le_of_ble_eq_true rfl⟩ rfl rfl (Nat.le_of_ble_eq_true rfl) (mt_X7_unlikeAt _ _ _ _  hP) ?_
        intro r0 s0 hq0; obtain ⟨r27, h0, hs0, hP⟩ := hq0; subst h0; rw [hs0]
        show eX7_mostUnlike 30 [.ref (49), .int (l1), .int (l2), un] [.int (r27)] σ _
        refine E_goto 34 dX7_mostUnlike_30 (by decide) ?_
        refine E_istore_n (ls' := [.ref (49), .int (l1), .int (l2), .int (r27)]) dX7_mostUnlike_34 (by decide) rfl ?_
        refine E_iload_n dX7_mostUnlike_35 rfl ?_
        refine E_iload_n dX7_mostUnlike_36 rfl ?_
        refine E_icmp_le 44 dX7_mostUnlike_37 (by decide) (fun hc => ?_) (fun hc => ?_)
        · replace hP := hP.1 hc
          refine E_iload_n dX7_mostUnlike_44 rfl ?_
          refine E_istore_n (ls' := [.ref (49), .int (l1), .int (l2), .int (r27)]) dX7_mostUnlike_45 (by decide) rfl ?_
          refine E_iinc (ls' := [.ref (49), .int (l1), .int (l2 + 1), .int (r27)]) dX7_mostUnlike_46 rfl rfl (by decide) rfl ?_
          refine E_goto 8 dX7_mostUnlike_49 (by decide) ?_
          refine E_mask [true, true, true, false] rfl ?_
          exact ih (l1) (l2 + 1) _ hP
        · replace hP := hP.2 hc
          refine E_iload_n dX7_mostUnlike_40 rfl ?_
          refine E_goto 45 dX7_mostUnlike_41 (by decide) ?_
          refine E_istore_n (ls' := [.ref (49), .int (r27), .int (l2), .int (r27)]) dX7_mostUnlike_45 (by decide) rfl ?_
          refine E_iinc (ls' := [.ref (49), .int (r27), .int (l2 + 1), .int (r27)]) dX7_mostUnlike_46 rfl rfl (by decide) rfl ?_
          refine E_goto 8 dX7_mostUnlike_49 (by decide) ?_
          refine E_mask [true, true, true, false] rfl ?_
          exact ih (r27) (l2 + 1) _ hP
set_option maxRecDepth 20000 in
theorem mt_X7_mostUnlike  (σ : St) (Q : Int32 → St → Prop)  (hP : P_X7_mostUnlike  σ Q) : Mt yX7_mostUnlike cX7_mostUnlike 4 (some .int) rmX7_mostUnlike [.ref (49)] σ (qI Q) := by
  refine Mt.of (k := 3) (ls := [.ref (49), un, un, un]) (by decide +kernel) rfl (Nat.le_of_ble_eq_true rfl) ?_
  show eX7_mostUnlike 0 [.ref (49), un, un, un] [] σ _
  unfold P_X7_mostUnlike at hP
  refine E_aload_n dX7_mostUnlike_0 rfl ?_
  refine E_callV (As := []) (rest := []) dX7_mostUnlike_1 cl_RX7_113 tw_519 (show kd 49 = 7 by decide) (by decide) rfl tw_520 ⟨rfl, rfl, Nat.le_of_ble_eq_true rfl, Nat.le_of_ble_eq_true rfl⟩ rfl rfl (Nat.le_of_ble_eq_true rfl) (mt_X7_findTops  _ _  hP) ?_
  rintro _ t1 ⟨rfl, hP⟩
  show eX7_mostUnlike 4 [.ref (49), un, un, un] [] t1 _
  refine E_iconst (v := 0) dX7_mostUnlike_4 (by decide) ?_
  refine E_istore_n (ls' := [.ref (49), .int (0), un, un]) dX7_mostUnlike_5 (by decide) rfl ?_
  refine E_iconst (v := 0) dX7_mostUnlike_6 (by decide) ?_
  refine E_istore_n (ls' := [.ref (49), .int (0), .int (0), un]) dX7_mostUnlike_7 (by decide) rfl ?_
  obtain ⟨m8, hP⟩ := hP
  refine ev_X7_mostUnlike_l8   _ Q ?_ m8 _ _ _ hP
  intro k1 t52 hP
  refine E_iload_n dX7_mostUnlike_52 rfl ?_
  exact E_iret dX7_mostUnlike_53 rfl ⟨_, rfl, hP⟩
theorem dX7_now_0 : decode cX7_now 0 = .ok (.iload_n 1, 1) := by decide +kernel
theorem dX7_now_1 : decode cX7_now 1 = .ok (.tableswitch 117 0 7 #[47, 55, 63, 71, 79, 87, 92, 97], 47) := by decide +kernel
theorem dX7_now_48 : decode cX7_now 48 = .ok (.aload_n 0, 1) := by decide +kernel
theorem dX7_now_49 : decode cX7_now 49 = .ok (.getfield 7, 3) := by decide +kernel
theorem dX7_now_52 : decode cX7_now 52 = .ok (.bipush 94, 2) := by decide +kernel
theorem dX7_now_54 : decode cX7_now 54 = .ok (.iaload, 1) := by decide +kernel
theorem dX7_now_55 : decode cX7_now 55 = .ok (.ireturn, 1) := by decide +kernel
theorem dX7_now_56 : decode cX7_now 56 = .ok (.aload_n 0, 1) := by decide +kernel
theorem dX7_now_57 : decode cX7_now 57 = .ok (.getfield 7, 3) := by decide +kernel
theorem dX7_now_60 : decode cX7_now 60 = .ok (.bipush 93, 2) := by decide +kernel
theorem dX7_now_62 : decode cX7_now 62 = .ok (.iaload, 1) := by decide +kernel
theorem dX7_now_63 : decode cX7_now 63 = .ok (.ireturn, 1) := by decide +kernel
theorem dX7_now_64 : decode cX7_now 64 = .ok (.aload_n 0, 1) := by decide +kernel
theorem dX7_now_65 : decode cX7_now 65 = .ok (.getfield 7, 3) := by decide +kernel
theorem dX7_now_68 : decode cX7_now 68 = .ok (.bipush 95, 2) := by decide +kernel
theorem dX7_now_70 : decode cX7_now 70 = .ok (.iaload, 1) := by decide +kernel
theorem dX7_now_71 : decode cX7_now 71 = .ok (.ireturn, 1) := by decide +kernel
theorem dX7_now_72 : decode cX7_now 72 = .ok (.aload_n 0, 1) := by decide +kernel
theorem dX7_now_73 : decode cX7_now 73 = .ok (.getfield 7, 3) := by decide +kernel
theorem dX7_now_76 : decode cX7_now 76 = .ok (.bipush 92, 2) := by decide +kernel
theorem dX7_now_78 : decode cX7_now 78 = .ok (.iaload, 1) := by decide +kernel
theorem dX7_now_79 : decode cX7_now 79 = .ok (.ireturn, 1) := by decide +kernel
theorem dX7_now_80 : decode cX7_now 80 = .ok (.aload_n 0, 1) := by decide +kernel
theorem dX7_now_81 : decode cX7_now 81 = .ok (.invokevirtual 120, 3) := by decide +kernel
theorem dX7_now_84 : decode cX7_now 84 = .ok (.invokestatic 132, 3) := by decide +kernel
theorem dX7_now_87 : decode cX7_now 87 = .ok (.ireturn, 1) := by decide +kernel
theorem dX7_now_88 : decode cX7_now 88 = .ok (.aload_n 0, 1) := by decide +kernel
theorem dX7_now_89 : decode cX7_now 89 = .ok (.invokevirtual 120, 3) := by decide +kernel
theorem dX7_now_92 : decode cX7_now 92 = .ok (.ireturn, 1) := by decide +kernel
theorem dX7_now_93 : decode cX7_now 93 = .ok (.aload_n 0, 1) := by decide +kernel
theorem dX7_now_94 : decode cX7_now 94 = .ok (.invokevirtual 135, 3) := by decide +kernel
theorem dX7_now_97 : decode cX7_now 97 = .ok (.ireturn, 1) := by decide +kernel
theorem dX7_now_98 : decode cX7_now 98 = .ok (.aload_n 0, 1) := by decide +kernel
theorem dX7_now_99 : decode cX7_now 99 = .ok (.invokevirtual 135, 3) := by decide +kernel
theorem dX7_now_102 : decode cX7_now 102 = .ok (.aload_n 0, 1) := by decide +kernel
theorem dX7_now_103 : decode cX7_now 103 = .ok (.getfield 7, 3) := by decide +kernel
theorem dX7_now_106 : decode cX7_now 106 = .ok (.bipush 93, 2) := by decide +kernel
theorem dX7_now_108 : decode cX7_now 108 = .ok (.iaload, 1) := by decide +kernel
theorem dX7_now_109 : decode cX7_now 109 = .ok (.if_icmp .gt 7, 3) := by decide +kernel
theorem dX7_now_112 : decode cX7_now 112 = .ok (.iconst 1, 1) := by decide +kernel
theorem dX7_now_113 : decode cX7_now 113 = .ok (.goto 4, 3) := by decide +kernel
theorem dX7_now_116 : decode cX7_now 116 = .ok (.iconst 0, 1) := by decide +kernel
theorem dX7_now_117 : decode cX7_now 117 = .ok (.ireturn, 1) := by decide +kernel
theorem dX7_now_118 : decode cX7_now 118 = .ok (.aload_n 0, 1) := by decide +kernel
theorem dX7_now_119 : decode cX7_now 119 = .ok (.ldc 57, 2) := by decide +kernel
theorem dX7_now_121 : decode cX7_now 121 = .ok (.invokevirtual 105, 3) := by decide +kernel
theorem dX7_now_124 : decode cX7_now 124 = .ok (.ireturn, 1) := by decide +kernel
def rmX7_now : Room := { frames := 5, cells := 0, slots := 0, locals := 116 }
abbrev eX7_now := Ev cX7_now 2 (some .int) RX7 rmX7_now
set_option maxRecDepth 20000 in
theorem mt_X7_now (p0 : Int32) (σ : St) (Q : Int32 → St → Prop)  (hP : P_X7_now p0 σ Q) : Mt yX7_now cX7_now 2 (some .int) rmX7_now [.ref (49), .int (p0)] σ (qI Q) := by
  refine Mt.of (k := 0) (ls := [.ref (49), .int (p0)]) (by decide +kernel) rfl (Nat.le_of_ble_eq_true rfl) ?_
  show eX7_now 0 [.ref (49), .int (p0)] [] σ _
  unfold P_X7_now at hP
  refine E_iload_n dX7_now_0 rfl ?_
  refine E_tsw [(0, 48), (1, 56), (2, 64), (3, 72), (4, 80), (5, 88), (6, 93), (7, 98)] 118 dX7_now_1 (by decide) (by decide) (by decide +kernel) (by decide +kernel) (List.forall_mem_cons.mpr ⟨fun hc => ?_, (List.forall_mem_cons.mpr ⟨fun hc => ?_, (List.forall_mem_cons.mpr ⟨fun hc => ?_, (List.forall_mem_cons.mpr ⟨fun hc => ?_, (List.forall_mem_cons.mpr ⟨fun hc => ?_, (List.forall_mem_cons.mpr ⟨fun hc => ?_, (List.forall_mem_cons.mpr ⟨fun hc => ?_, (List.forall_mem_cons.mpr ⟨fun hc => ?_, (fun q hq => absurd hq List.not_mem_nil)⟩)⟩)⟩)⟩)⟩)⟩)⟩)⟩) (fun hc => ?_)
  · replace hP := hP.1 hc
    refine E_aload_n dX7_now_48 rfl ?_
    refine E_getR (j := 0) dX7_now_49 (show kd 49 = 7 by decide) (by decide) rfl fd_RX7_7 (by decide) ?_
    refine E_bipush (v := 94) dX7_now_52 (by decide) ?_
    refine E_iald dX7_now_54 (ar_7_1 (show kd 49 = 7 by decide)).1 (ar_7_1 (show kd 49 = 7 by decide)).2 (vp_c (by decide)) ?_
    exact E_iret dX7_now_55 rfl ⟨_, rfl, hP⟩
  · replace hP := hP.2.1 hc
    refine E_aload_n dX7_now_56 rfl ?_
    refine E_getR (j := 0) dX7_now_57 (show kd 49 = 7 by decide) (by decide) rfl fd_RX7_7 (by decide) ?_
    refine E_bipush (v := 93) dX7_now_60 (by decide) ?_
    refine E_iald dX7_now_62 (ar_7_1 (show kd 49 = 7 by decide)).1 (ar_7_1 (show kd 49 = 7 by decide)).2 (vp_c (by decide)) ?_
    exact E_iret dX7_now_63 rfl ⟨_, rfl, hP⟩
  · replace hP := hP.2.2.1 hc
    refine E_aload_n dX7_now_64 rfl ?_
    refine E_getR (j := 0) dX7_now_65 (show kd 49 = 7 by decide) (by decide) rfl fd_RX7_7 (by decide) ?_
    refine E_bipush (v := 95) dX7_now_68 (by decide) ?_
    refine E_iald dX7_now_70 (ar_7_1 (show kd 49 = 7 by decide)).1 (ar_7_1 (show kd 49 = 7 by decide)).2 (vp_c (by decide)) ?_
    exact E_iret dX7_now_71 rfl ⟨_, rfl, hP⟩
  · replace hP := hP.2.2.2.1 hc
    refine E_aload_n dX7_now_72 rfl ?_
    refine E_getR (j := 0) dX7_now_73 (show kd 49 = 7 by decide) (by decide) rfl fd_RX7_7 (by decide) ?_
    refine E_bipush (v := 92) dX7_now_76 (by decide) ?_
    refine E_iald dX7_now_78 (ar_7_1 (show kd 49 = 7 by decide)).1 (ar_7_1 (show kd 49 = 7 by decide)).2 (vp_c (by decide)) ?_
    exact E_iret dX7_now_79 rfl ⟨_, rfl, hP⟩
  · replace hP := hP.2.2.2.2.1 hc
    refine E_aload_n dX7_now_80 rfl ?_
    refine E_callV (As := []) (rest := []) dX7_now_81 cl_RX7_120 tw_523 (show kd 49 = 7 by decide) (by decide) rfl tw_524 ⟨rfl, rfl, Nat.le_of_ble_eq_true rfl, Nat.le_of_ble_eq_true rfl⟩ rfl rfl (Nat.le_of_ble_eq_true rfl) (mt_X7_standNow  _ _  hP) ?_
    intro r0 s0 hq0; obtain ⟨r81, h0, hs0, hP⟩ := hq0; subst h0; rw [hs0]
    show eX7_now 84 [.ref (49), .int (p0)] [.int (r81)] σ _
    refine E_callS (As := [.int (r81)]) (rest := []) dX7_now_84 cl_RX7_132 tw_540 ⟨rfl, rfl, Nat.le_of_ble_eq_true rfl, Nat.le_of_ble_eq_true rfl⟩ rfl rfl (Nat.le_of_ble_eq_true rfl) (mt_X7_stones _ _ _  hP) ?_
    intro r0 s0 hq0; obtain ⟨r84, h0, hs0, hP⟩ := hq0; subst h0; rw [hs0]
    show eX7_now 87 [.ref (49), .int (p0)] [.int (r84)] σ _
    exact E_iret dX7_now_87 rfl ⟨_, rfl, hP⟩
  · replace hP := hP.2.2.2.2.2.1 hc
    refine E_aload_n dX7_now_88 rfl ?_
    refine E_callV (As := []) (rest := []) dX7_now_89 cl_RX7_120 tw_523 (show kd 49 = 7 by decide) (by decide) rfl tw_524 ⟨rfl, rfl, Nat.le_of_ble_eq_true rfl, Nat.le_of_ble_eq_true rfl⟩ rfl rfl (Nat.le_of_ble_eq_true rfl) (mt_X7_standNow  _ _  hP) ?_
    intro r0 s0 hq0; obtain ⟨r89, h0, hs0, hP⟩ := hq0; subst h0; rw [hs0]
    show eX7_now 92 [.ref (49), .int (p0)] [.int (r89)] σ _
    exact E_iret dX7_now_92 rfl ⟨_, rfl, hP⟩
  · replace hP := hP.2.2.2.2.2.2.1 hc
    refine E_aload_n dX7_now_93 rfl ?_
    refine E_callV (As := []) (rest := []) dX7_now_94 cl_RX7_135 tw_543 (show kd 49 = 7 by decide) (by decide) rfl tw_544 ⟨rfl, rfl, Nat.le_of_ble_eq_true rfl, Nat.le_of_ble_eq_true rfl⟩ rfl rfl (Nat.le_of_ble_eq_true rfl) (mt_X7_mostUnlike  _ _  hP) ?_
    rintro _ t94 ⟨r94, rfl, hP⟩
    show eX7_now 97 [.ref (49), .int (p0)] [.int (r94)] t94 _
    exact E_iret dX7_now_97 rfl ⟨_, rfl, hP⟩
  · replace hP := hP.2.2.2.2.2.2.2.1 hc
    refine E_aload_n dX7_now_98 rfl ?_
    refine E_callV (As := []) (rest := []) dX7_now_99 cl_RX7_135 tw_543 (show kd 49 = 7 by decide) (by decide) rfl tw_544 ⟨rfl, rfl, Nat.le_of_ble_eq_true rfl, Nat.le_of_ble_eq_true rfl⟩ rfl rfl (Nat.le_of_ble_eq_true rfl) (mt_X7_mostUnlike  _ _  hP) ?_
    rintro _ t99 ⟨r99, rfl, hP⟩
    show eX7_now 102 [.ref (49), .int (p0)] [.int (r99)] t99 _
    refine E_aload_n dX7_now_102 rfl ?_
    refine E_getR (j := 0) dX7_now_103 (show kd 49 = 7 by decide) (by decide) rfl fd_RX7_7 (by decide) ?_
    refine E_bipush (v := 93) dX7_now_106 (by decide) ?_
    refine E_iald dX7_now_108 (ar_7_1 (show kd 49 = 7 by decide)).1 (ar_7_1 (show kd 49 = 7 by decide)).2 (vp_c (by decide)) ?_
    refine E_icmp_gt 116 dX7_now_109 (by decide) (fun hc => ?_) (fun hc => ?_)
    · replace hP := hP.1 hc
      refine E_iconst (v := 0) dX7_now_116 (by decide) ?_
      exact E_iret dX7_now_117 rfl ⟨_, rfl, hP⟩
    · replace hP := hP.2 hc
      refine E_iconst (v := 1) dX7_now_112 (by decide) ?_
      refine E_goto 117 dX7_now_113 (by decide) ?_
      exact E_iret dX7_now_117 rfl ⟨_, rfl, hP⟩
  · replace hP := hP.2.2.2.2.2.2.2.2 ⟨hc (0, 48) (List.mem_of_getElem? (i := 0) rfl), hc (1, 56) (List.mem_of_getElem? (i := 1) rfl), hc (2, 64) (List.mem_of_getElem? (i := 2) rfl), hc (3, 72) (List.mem_of_getElem? (i := 3) rfl), hc (4, 80) (List.mem_of_getElem? (i := 4) rfl), hc (5, 88) (List.mem_of_getElem? (i := 5) rfl), hc (6, 93) (List.mem_of_getElem? (i := 6) rfl), hc (7, 98) (List.mem_of_getElem? (i := 7) rfl)⟩
    refine E_aload_n dX7_now_118 rfl ?_
    refine E_ldc (v := (-1000000001)) dX7_now_119 tw_452 ?_
    refine E_callV (As := [.int ((-1000000001))]) (rest := []) dX7_now_121 cl_RX7_105 tw_507 (show kd 49 = 7 by decide) (by decide) rfl tw_508 ⟨rfl, rfl, Nat.le_of_ble_eq_true rfl, Nat.le_of_ble_eq_true rfl⟩ rfl rfl (Nat.le_of_ble_eq_true rfl) (mt_X7_finds _ _ _  hP) ?_
    rintro _ t121 ⟨r121, rfl, hP⟩
    show eX7_now 124 [.ref (49), .int (p0)] [.int (r121)] t121 _
    exact E_iret dX7_now_124 rfl ⟨_, rfl, hP⟩
theorem dX7_takeOut_0 : decode cX7_takeOut 0 = .ok (.aload_n 0, 1) := by decide +kernel
theorem dX7_takeOut_1 : decode cX7_takeOut 1 = .ok (.getfield 7, 3) := by decide +kernel
theorem dX7_takeOut_4 : decode cX7_takeOut 4 = .ok (.bipush 95, 2) := by decide +kernel
theorem dX7_takeOut_6 : decode cX7_takeOut 6 = .ok (.iaload, 1) := by decide +kernel
theorem dX7_takeOut_7 : decode cX7_takeOut 7 = .ok (.aload_n 0, 1) := by decide +kernel
theorem dX7_takeOut_8 : decode cX7_takeOut 8 = .ok (.iload_n 1, 1) := by decide +kernel
theorem dX7_takeOut_9 : decode cX7_takeOut 9 = .ok (.iconst 0, 1) := by decide +kernel
theorem dX7_takeOut_10 : decode cX7_takeOut 10 = .ok (.invokevirtual 84, 3) := by decide +kernel
theorem dX7_takeOut_13 : decode cX7_takeOut 13 = .ok (.iadd, 1) := by decide +kernel
theorem dX7_takeOut_14 : decode cX7_takeOut 14 = .ok (.istore_n 2, 1) := by decide +kernel
theorem dX7_takeOut_15 : decode cX7_takeOut 15 = .ok (.aload_n 0, 1) := by decide +kernel
theorem dX7_takeOut_16 : decode cX7_takeOut 16 = .ok (.getfield 7, 3) := by decide +kernel
theorem dX7_takeOut_19 : decode cX7_takeOut 19 = .ok (.bipush 95, 2) := by decide +kernel
theorem dX7_takeOut_21 : decode cX7_takeOut 21 = .ok (.iload_n 2, 1) := by decide +kernel
theorem dX7_takeOut_22 : decode cX7_takeOut 22 = .ok (.ldc 138, 2) := by decide +kernel
theorem dX7_takeOut_24 : decode cX7_takeOut 24 = .ok (.if_icmp .ge 7, 3) := by decide +kernel
theorem dX7_takeOut_27 : decode cX7_takeOut 27 = .ok (.iload_n 2, 1) := by decide +kernel
theorem dX7_takeOut_28 : decode cX7_takeOut 28 = .ok (.goto 5, 3) := by decide +kernel
theorem dX7_takeOut_31 : decode cX7_takeOut 31 = .ok (.ldc 138, 2) := by decide +kernel
theorem dX7_takeOut_33 : decode cX7_takeOut 33 = .ok (.iastore, 1) := by decide +kernel
theorem dX7_takeOut_34 : decode cX7_takeOut 34 = .ok (.aload_n 0, 1) := by decide +kernel
theorem dX7_takeOut_35 : decode cX7_takeOut 35 = .ok (.getfield 7, 3) := by decide +kernel
theorem dX7_takeOut_38 : decode cX7_takeOut 38 = .ok (.bipush 23, 2) := by decide +kernel
theorem dX7_takeOut_40 : decode cX7_takeOut 40 = .ok (.iload_n 1, 1) := by decide +kernel
theorem dX7_takeOut_41 : decode cX7_takeOut 41 = .ok (.imul, 1) := by decide +kernel
theorem dX7_takeOut_42 : decode cX7_takeOut 42 = .ok (.iconst 0, 1) := by decide +kernel
theorem dX7_takeOut_43 : decode cX7_takeOut 43 = .ok (.iadd, 1) := by decide +kernel
theorem dX7_takeOut_44 : decode cX7_takeOut 44 = .ok (.dup2, 1) := by decide +kernel
theorem dX7_takeOut_45 : decode cX7_takeOut 45 = .ok (.iaload, 1) := by decide +kernel
theorem dX7_takeOut_46 : decode cX7_takeOut 46 = .ok (.iconst 1, 1) := by decide +kernel
theorem dX7_takeOut_47 : decode cX7_takeOut 47 = .ok (.isub, 1) := by decide +kernel
theorem dX7_takeOut_48 : decode cX7_takeOut 48 = .ok (.iastore, 1) := by decide +kernel
theorem dX7_takeOut_49 : decode cX7_takeOut 49 = .ok (.iconst 0, 1) := by decide +kernel
theorem dX7_takeOut_50 : decode cX7_takeOut 50 = .ok (.istore_n 3, 1) := by decide +kernel
theorem dX7_takeOut_51 : decode cX7_takeOut 51 = .ok (.iload_n 3, 1) := by decide +kernel
theorem dX7_takeOut_52 : decode cX7_takeOut 52 = .ok (.iconst 3, 1) := by decide +kernel
theorem dX7_takeOut_53 : decode cX7_takeOut 53 = .ok (.aload_n 0, 1) := by decide +kernel
theorem dX7_takeOut_54 : decode cX7_takeOut 54 = .ok (.iload_n 1, 1) := by decide +kernel
theorem dX7_takeOut_55 : decode cX7_takeOut 55 = .ok (.invokevirtual 66, 3) := by decide +kernel
theorem dX7_takeOut_58 : decode cX7_takeOut 58 = .ok (.imul, 1) := by decide +kernel
theorem dX7_takeOut_59 : decode cX7_takeOut 59 = .ok (.if_icmp .ge 37, 3) := by decide +kernel
theorem dX7_takeOut_62 : decode cX7_takeOut 62 = .ok (.aload_n 0, 1) := by decide +kernel
theorem dX7_takeOut_63 : decode cX7_takeOut 63 = .ok (.getfield 7, 3) := by decide +kernel
theorem dX7_takeOut_66 : decode cX7_takeOut 66 = .ok (.bipush 23, 2) := by decide +kernel
theorem dX7_takeOut_68 : decode cX7_takeOut 68 = .ok (.iload_n 1, 1) := by decide +kernel
theorem dX7_takeOut_69 : decode cX7_takeOut 69 = .ok (.imul, 1) := by decide +kernel
theorem dX7_takeOut_70 : decode cX7_takeOut 70 = .ok (.iconst 2, 1) := by decide +kernel
theorem dX7_takeOut_71 : decode cX7_takeOut 71 = .ok (.iadd, 1) := by decide +kernel
theorem dX7_takeOut_72 : decode cX7_takeOut 72 = .ok (.iload_n 3, 1) := by decide +kernel
theorem dX7_takeOut_73 : decode cX7_takeOut 73 = .ok (.iadd, 1) := by decide +kernel
theorem dX7_takeOut_74 : decode cX7_takeOut 74 = .ok (.aload_n 0, 1) := by decide +kernel
theorem dX7_takeOut_75 : decode cX7_takeOut 75 = .ok (.getfield 7, 3) := by decide +kernel
theorem dX7_takeOut_78 : decode cX7_takeOut 78 = .ok (.bipush 23, 2) := by decide +kernel
theorem dX7_takeOut_80 : decode cX7_takeOut 80 = .ok (.iload_n 1, 1) := by decide +kernel
theorem dX7_takeOut_81 : decode cX7_takeOut 81 = .ok (.imul, 1) := by decide +kernel
theorem dX7_takeOut_82 : decode cX7_takeOut 82 = .ok (.iconst 2, 1) := by decide +kernel
theorem dX7_takeOut_83 : decode cX7_takeOut 83 = .ok (.iadd, 1) := by decide +kernel
theorem dX7_takeOut_84 : decode cX7_takeOut 84 = .ok (.iconst 3, 1) := by decide +kernel
theorem dX7_takeOut_85 : decode cX7_takeOut 85 = .ok (.iadd, 1) := by decide +kernel
theorem dX7_takeOut_86 : decode cX7_takeOut 86 = .ok (.iload_n 3, 1) := by decide +kernel
theorem dX7_takeOut_87 : decode cX7_takeOut 87 = .ok (.iadd, 1) := by decide +kernel
theorem dX7_takeOut_88 : decode cX7_takeOut 88 = .ok (.iaload, 1) := by decide +kernel
theorem dX7_takeOut_89 : decode cX7_takeOut 89 = .ok (.iastore, 1) := by decide +kernel
theorem dX7_takeOut_90 : decode cX7_takeOut 90 = .ok (.iinc 3 1, 3) := by decide +kernel
theorem dX7_takeOut_93 : decode cX7_takeOut 93 = .ok (.goto (-42), 3) := by decide +kernel
theorem dX7_takeOut_96 : decode cX7_takeOut 96 = .ok (.return_, 1) := by decide +kernel
def rmX7_takeOut : Room := { frames := 3, cells := 0, slots := 0, locals := 68 }
abbrev eX7_takeOut := Ev cX7_takeOut 4 none RX7 rmX7_takeOut
set_option maxRecDepth 20000 in
theorem ev_X7_takeOut_l51 (l1 : Int32)  (K : St → Prop) (Q : St → Prop) (hK : ∀  s, K  s → eX7_takeOut 96 [un, un, un, un] [] s (qV Q)) : ∀ (n : Nat) (l3 : Int32) (σ : St), P_X7_takeOut_l51 l1 K Q n l3 σ → eX7_takeOut 51 [.ref (49), .int (l1), un, .int (l3)] [] σ (qV Q) := by
  intro n
  induction n with
  | zero => intro l3 σ hP; exact hP.elim
  | succ n ih =>
    intro l3 σ hP
    rw [P_X7_takeOut_l51] at hP
    refine E_iload_n dX7_takeOut_51 rfl ?_
    refine E_iconst (v := 3) dX7_takeOut_52 (by decide) ?_
    refine E_aload_n dX7_takeOut_53 rfl ?_
    refine E_iload_n dX7_takeOut_54 rfl ?_
    refine E_callV (As := [.int (l1)]) (rest := [.int (3), .int (l3)]) dX7_takeOut_55 cl_RX7_66 tw_460 (show kd 49 = 7 by decide) (by decide) rfl tw_461 ⟨rfl, rfl, Nat.le_of_ble_eq_true rfl, Nat.le_of_ble_eq_true rfl⟩ rfl rfl (Nat.le_of_ble_eq_true rfl) (mt_X7_many _ _ _  hP) ?_
    intro r0 s0 hq0; obtain ⟨r55, h0, hs0, hP⟩ := hq0; subst h0; rw [hs0]
    show eX7_takeOut 58 [.ref (49), .int (l1), un, .int (l3)] [.int (r55), .int (3), .int (l3)] σ _
    refine E_imul dX7_takeOut_58 ?_
    refine E_icmp_ge 96 dX7_takeOut_59 (by decide) (fun hc => ?_) (fun hc => ?_)
    · replace hP := hP.1 hc
      refine E_mask [false, false, false, false] rfl ?_
      exact hK  _ hP
    · replace hP := hP.2 hc
      refine E_aload_n dX7_takeOut_62 rfl ?_
      refine E_getR (j := 0) dX7_takeOut_63 (show kd 49 = 7 by decide) (by decide) rfl fd_RX7_7 (by decide) ?_
      refine E_bipush (v := 23) dX7_takeOut_66 (by decide) ?_
      refine E_iload_n dX7_takeOut_68 rfl ?_
      refine E_imul dX7_takeOut_69 ?_
      refine E_iconst (v := 2) dX7_takeOut_70 (by decide) ?_
      refine E_iadd dX7_takeOut_71 ?_
      refine E_iload_n dX7_takeOut_72 rfl ?_
      refine E_iadd dX7_takeOut_73 ?_
      refine E_aload_n dX7_takeOut_74 rfl ?_
      refine E_getR (j := 0) dX7_takeOut_75 (show kd 49 = 7 by decide) (by decide) rfl fd_RX7_7 (by decide) ?_
      refine E_bipush (v := 23) dX7_takeOut_78 (by decide) ?_
      refine E_iload_n dX7_takeOut_80 rfl ?_
      refine E_imul dX7_takeOut_81 ?_
      refine E_iconst (v := 2) dX7_takeOut_82 (by decide) ?_
      refine E_iadd dX7_takeOut_83 ?_
      refine E_iconst (v := 3) dX7_takeOut_84 (by decide) ?_
      refine E_iadd dX7_takeOut_85 ?_
      refine E_iload_n dX7_takeOut_86 rfl ?_
      refine E_iadd dX7_takeOut_87 ?_
      obtain ⟨hb, hP⟩ := hP
      refine E_iald dX7_takeOut_88 (ar_7_1 (show kd 49 = 7 by decide)).1 (ar_7_1 (show kd 49 = 7 by decide)).2 hb ?_
      obtain ⟨hb, hP⟩ := hP
      refine E_iast dX7_takeOut_89 (ar_7_1 (show kd 49 = 7 by decide)).1 (ar_7_1 (show kd 49 = 7 by decide)).2 hb ?_
      refine E_iinc (ls' := [.ref (49), .int (l1), un, .int (l3 + 1)]) dX7_takeOut_90 rfl rfl (by decide) rfl ?_
      refine E_goto 51 dX7_takeOut_93 (by decide) ?_
      exact ih (l3 + 1) _ hP
set_option maxRecDepth 20000 in
theorem mt_X7_takeOut (p0 : Int32) (σ : St) (Q : St → Prop)  (hP : P_X7_takeOut p0 σ Q) : Mt yX7_takeOut cX7_takeOut 4 none rmX7_takeOut [.ref (49), .int (p0)] σ (qV Q) := by
  refine Mt.of (k := 2) (ls := [.ref (49), .int (p0), un, un]) (by decide +kernel) rfl (Nat.le_of_ble_eq_true rfl) ?_
  show eX7_takeOut 0 [.ref (49), .int (p0), un, un] [] σ _
  unfold P_X7_takeOut at hP
  refine E_aload_n dX7_takeOut_0 rfl ?_
  refine E_getR (j := 0) dX7_takeOut_1 (show kd 49 = 7 by decide) (by decide) rfl fd_RX7_7 (by decide) ?_
  refine E_bipush (v := 95) dX7_takeOut_4 (by decide) ?_
  refine E_iald dX7_takeOut_6 (ar_7_1 (show kd 49 = 7 by decide)).1 (ar_7_1 (show kd 49 = 7 by decide)).2 (vp_c (by decide)) ?_
  refine E_aload_n dX7_takeOut_7 rfl ?_
  refine E_iload_n dX7_takeOut_8 rfl ?_
  refine E_iconst (v := 0) dX7_takeOut_9 (by decide) ?_
  refine E_callV (As := [.int (p0), .int (0)]) (rest := [.int (gI σ 50 95)]) dX7_takeOut_10 cl_RX7_84 tw_483 (show kd 49 = 7 by decide) (by decide) rfl tw_484 ⟨rfl, rfl, Nat.le_of_ble_eq_true rfl, Nat.le_of_ble_eq_true rfl⟩ rfl rfl (Nat.le_of_ble_eq_true rfl) (mt_X7_coin _ _ _ _  hP) ?_
  intro r0 s0 hq0; obtain ⟨r10, h0, hs0, hP⟩ := hq0; subst h0; rw [hs0]
  show eX7_takeOut 13 [.ref (49), .int (p0), un, un] [.int (r10), .int (gI σ 50 95)] σ _
  refine E_iadd dX7_takeOut_13 ?_
  refine E_istore_n (ls' := [.ref (49), .int (p0), .int ((gI σ 50 95) + r10), un]) dX7_takeOut_14 (by decide) rfl ?_
  refine E_aload_n dX7_takeOut_15 rfl ?_
  refine E_getR (j := 0) dX7_takeOut_16 (show kd 49 = 7 by decide) (by decide) rfl fd_RX7_7 (by decide) ?_
  refine E_bipush (v := 95) dX7_takeOut_19 (by decide) ?_
  refine E_iload_n dX7_takeOut_21 rfl ?_
  refine E_ldc (v := 999999) dX7_takeOut_22 tw_545 ?_
  refine E_icmp_ge 31 dX7_takeOut_24 (by decide) (fun hc => ?_) (fun hc => ?_)
  · replace hP := hP.1 hc
    refine E_ldc (v := 999999) dX7_takeOut_31 tw_545 ?_
    refine E_iast dX7_takeOut_33 (ar_7_1 (show kd 49 = 7 by decide)).1 (ar_7_1 (show kd 49 = 7 by decide)).2 (vp_c (by decide)) ?_
    refine E_aload_n dX7_takeOut_34 rfl ?_
    refine E_getR (j := 0) dX7_takeOut_35 (show kd 49 = 7 by decide) (by decide) rfl fd_RX7_7 (by decide) ?_
    refine E_bipush (v := 23) dX7_takeOut_38 (by decide) ?_
    refine E_iload_n dX7_takeOut_40 rfl ?_
    refine E_imul dX7_takeOut_41 ?_
    refine E_iconst (v := 0) dX7_takeOut_42 (by decide) ?_
    refine E_iadd dX7_takeOut_43 ?_
    refine E_dup2 dX7_takeOut_44 rfl rfl ?_
    obtain ⟨hb, hP⟩ := hP
    refine E_iald dX7_takeOut_45 (ar_7_1 (show kd 49 = 7 by decide)).1 (ar_7_1 (show kd 49 = 7 by decide)).2 hb ?_
    refine E_iconst (v := 1) dX7_takeOut_46 (by decide) ?_
    refine E_isub dX7_takeOut_47 ?_
    obtain ⟨hb, hP⟩ := hP
    refine E_iast dX7_takeOut_48 (ar_7_1 (show kd 49 = 7 by decide)).1 (ar_7_1 (show kd 49 = 7 by decide)).2 hb ?_
    refine E_iconst (v := 0) dX7_takeOut_49 (by decide) ?_
    refine E_istore_n (ls' := [.ref (49), .int (p0), .int ((gI σ 50 95) + r10), .int (0)]) dX7_takeOut_50 (by decide) rfl ?_
    refine E_mask [true, true, false, true] rfl ?_
    obtain ⟨m51, hP⟩ := hP
    refine ev_X7_takeOut_l51 (p0)  _ Q ?_ m51 _ _ hP
    intro  t96 hP
    exact E_vret dX7_takeOut_96 rfl ⟨rfl, hP⟩
  · replace hP := hP.2 hc
    refine E_iload_n dX7_takeOut_27 rfl ?_
    refine E_goto 33 dX7_takeOut_28 (by decide) ?_
    refine E_iast dX7_takeOut_33 (ar_7_1 (show kd 49 = 7 by decide)).1 (ar_7_1 (show kd 49 = 7 by decide)).2 (vp_c (by decide)) ?_
    refine E_aload_n dX7_takeOut_34 rfl ?_
    refine E_getR (j := 0) dX7_takeOut_35 (show kd 49 = 7 by decide) (by decide) rfl fd_RX7_7 (by decide) ?_
    refine E_bipush (v := 23) dX7_takeOut_38 (by decide) ?_
    refine E_iload_n dX7_takeOut_40 rfl ?_
    refine E_imul dX7_takeOut_41 ?_
    refine E_iconst (v := 0) dX7_takeOut_42 (by decide) ?_
    refine E_iadd dX7_takeOut_43 ?_
    refine E_dup2 dX7_takeOut_44 rfl rfl ?_
    obtain ⟨hb, hP⟩ := hP
    refine E_iald dX7_takeOut_45 (ar_7_1 (show kd 49 = 7 by decide)).1 (ar_7_1 (show kd 49 = 7 by decide)).2 hb ?_
    refine E_iconst (v := 1) dX7_takeOut_46 (by decide) ?_
    refine E_isub dX7_takeOut_47 ?_
    obtain ⟨hb, hP⟩ := hP
    refine E_iast dX7_takeOut_48 (ar_7_1 (show kd 49 = 7 by decide)).1 (ar_7_1 (show kd 49 = 7 by decide)).2 hb ?_
    refine E_iconst (v := 0) dX7_takeOut_49 (by decide) ?_
    refine E_istore_n (ls' := [.ref (49), .int (p0), .int ((gI σ 50 95) + r10), .int (0)]) dX7_takeOut_50 (by decide) rfl ?_
    refine E_mask [true, true, false, true] rfl ?_
    obtain ⟨m51, hP⟩ := hP
    refine ev_X7_takeOut_l51 (p0)  _ Q ?_ m51 _ _ hP
    intro  t96 hP
    exact E_vret dX7_takeOut_96 rfl ⟨rfl, hP⟩
theorem dX7_canPullNow_0 : decode cX7_canPullNow 0 = .ok (.aload_n 0, 1) := by decide +kernel
theorem dX7_canPullNow_1 : decode cX7_canPullNow 1 = .ok (.invokevirtual 113, 3) := by decide +kernel
theorem dX7_canPullNow_4 : decode cX7_canPullNow 4 = .ok (.aload_n 0, 1) := by decide +kernel
theorem dX7_canPullNow_5 : decode cX7_canPullNow 5 = .ok (.aload_n 0, 1) := by decide +kernel
theorem dX7_canPullNow_6 : decode cX7_canPullNow 6 = .ok (.invokevirtual 120, 3) := by decide +kernel
theorem dX7_canPullNow_9 : decode cX7_canPullNow 9 = .ok (.iload_n 1, 1) := by decide +kernel
theorem dX7_canPullNow_10 : decode cX7_canPullNow 10 = .ok (.invokevirtual 139, 3) := by decide +kernel
theorem dX7_canPullNow_13 : decode cX7_canPullNow 13 = .ok (.ireturn, 1) := by decide +kernel
def rmX7_canPullNow : Room := { frames := 5, cells := 0, slots := 0, locals := 112 }
abbrev eX7_canPullNow := Ev cX7_canPullNow 2 (some .boolean) RX7 rmX7_canPullNow
set_option maxRecDepth 20000 in
theorem mt_X7_canPullNow (p0 : Int32) (σ : St) (Q : Bool → St → Prop)  (hP : P_X7_canPullNow p0 σ Q) : Mt yX7_canPullNow cX7_canPullNow 2 (some .boolean) rmX7_canPullNow [.ref (49), .int (p0)] σ (qB Q) := by
  refine Mt.of (k := 0) (ls := [.ref (49), .int (p0)]) (by decide +kernel) rfl (Nat.le_of_ble_eq_true rfl) ?_
  show eX7_canPullNow 0 [.ref (49), .int (p0)] [] σ _
  unfold P_X7_canPullNow at hP
  refine E_aload_n dX7_canPullNow_0 rfl ?_
  refine E_callV (As := []) (rest := []) dX7_canPullNow_1 cl_RX7_113 tw_519 (show kd 49 = 7 by decide) (by decide) rfl tw_520 ⟨rfl, rfl, Nat.le_of_ble_eq_true rfl, Nat.le_of_ble_eq_true rfl⟩ rfl rfl (Nat.le_of_ble_eq_true rfl) (mt_X7_findTops  _ _  hP) ?_
  rintro _ t1 ⟨rfl, hP⟩
  show eX7_canPullNow 4 [.ref (49), .int (p0)] [] t1 _
  refine E_aload_n dX7_canPullNow_4 rfl ?_
  refine E_aload_n dX7_canPullNow_5 rfl ?_
  refine E_callV (As := []) (rest := [.ref (49)]) dX7_canPullNow_6 cl_RX7_120 tw_523 (show kd 49 = 7 by decide) (by decide) rfl tw_524 ⟨rfl, rfl, Nat.le_of_ble_eq_true rfl, Nat.le_of_ble_eq_true rfl⟩ rfl rfl (Nat.le_of_ble_eq_true rfl) (mt_X7_standNow  _ _  hP) ?_
  intro r0 s0 hq0; obtain ⟨r6, h0, hs0, hP⟩ := hq0; subst h0; rw [hs0]
  show eX7_canPullNow 9 [.ref (49), .int (p0)] [.int (r6), .ref (49)] t1 _
  refine E_iload_n dX7_canPullNow_9 rfl ?_
  refine E_callV (As := [.int (r6), .int (p0)]) (rest := []) dX7_canPullNow_10 cl_RX7_139 tw_548 (show kd 49 = 7 by decide) (by decide) rfl tw_549 ⟨rfl, rfl, Nat.le_of_ble_eq_true rfl, Nat.le_of_ble_eq_true rfl⟩ rfl rfl (Nat.le_of_ble_eq_true rfl) (mt_X7_canPull _ _ _ _  hP) ?_
  intro r0 s0 hq0; obtain ⟨r10, h0, hs0, hP⟩ := hq0; subst h0; rw [hs0]
  show eX7_canPullNow 13 [.ref (49), .int (p0)] [.int (bI r10)] t1 _
  exact E_nret dX7_canPullNow_13 rfl (nar_b r10) ⟨r10, rfl, hP⟩
theorem dX7_pull_0 : decode cX7_pull 0 = .ok (.iload_n 1, 1) := by decide +kernel
theorem dX7_pull_1 : decode cX7_pull 1 = .ok (.invokestatic 62, 3) := by decide +kernel
theorem dX7_pull_4 : decode cX7_pull 4 = .ok (.ifCond .ne 10, 3) := by decide +kernel
theorem dX7_pull_7 : decode cX7_pull 7 = .ok (.aload_n 0, 1) := by decide +kernel
theorem dX7_pull_8 : decode cX7_pull 8 = .ok (.ldc 57, 2) := by decide +kernel
theorem dX7_pull_10 : decode cX7_pull 10 = .ok (.invokevirtual 105, 3) := by decide +kernel
theorem dX7_pull_13 : decode cX7_pull 13 = .ok (.ireturn, 1) := by decide +kernel
theorem dX7_pull_14 : decode cX7_pull 14 = .ok (.aload_n 0, 1) := by decide +kernel
theorem dX7_pull_15 : decode cX7_pull 15 = .ok (.iload_n 1, 1) := by decide +kernel
theorem dX7_pull_16 : decode cX7_pull 16 = .ok (.invokevirtual 142, 3) := by decide +kernel
theorem dX7_pull_19 : decode cX7_pull 19 = .ok (.ifCond .ne 10, 3) := by decide +kernel
theorem dX7_pull_22 : decode cX7_pull 22 = .ok (.aload_n 0, 1) := by decide +kernel
theorem dX7_pull_23 : decode cX7_pull 23 = .ok (.ldc 128, 2) := by decide +kernel
theorem dX7_pull_25 : decode cX7_pull 25 = .ok (.invokevirtual 105, 3) := by decide +kernel
theorem dX7_pull_28 : decode cX7_pull 28 = .ok (.ireturn, 1) := by decide +kernel
theorem dX7_pull_29 : decode cX7_pull 29 = .ok (.aload_n 0, 1) := by decide +kernel
theorem dX7_pull_30 : decode cX7_pull 30 = .ok (.iload_n 1, 1) := by decide +kernel
theorem dX7_pull_31 : decode cX7_pull 31 = .ok (.iconst 0, 1) := by decide +kernel
theorem dX7_pull_32 : decode cX7_pull 32 = .ok (.invokevirtual 81, 3) := by decide +kernel
theorem dX7_pull_35 : decode cX7_pull 35 = .ok (.istore_n 2, 1) := by decide +kernel
theorem dX7_pull_36 : decode cX7_pull 36 = .ok (.aload_n 0, 1) := by decide +kernel
theorem dX7_pull_37 : decode cX7_pull 37 = .ok (.iload_n 1, 1) := by decide +kernel
theorem dX7_pull_38 : decode cX7_pull 38 = .ok (.invokevirtual 145, 3) := by decide +kernel
theorem dX7_pull_41 : decode cX7_pull 41 = .ok (.iload_n 2, 1) := by decide +kernel
theorem dX7_pull_42 : decode cX7_pull 42 = .ok (.ireturn, 1) := by decide +kernel
def rmX7_pull : Room := { frames := 6, cells := 0, slots := 0, locals := 133 }
abbrev eX7_pull := Ev cX7_pull 3 (some .int) RX7 rmX7_pull
set_option maxRecDepth 20000 in
theorem mt_X7_pull (p0 : Int32) (σ : St) (Q : Int32 → St → Prop)  (hP : P_X7_pull p0 σ Q) : Mt yX7_pull cX7_pull 3 (some .int) rmX7_pull [.ref (49), .int (p0)] σ (qI Q) := by
  refine Mt.of (k := 1) (ls := [.ref (49), .int (p0), un]) (by decide +kernel) rfl (Nat.le_of_ble_eq_true rfl) ?_
  show eX7_pull 0 [.ref (49), .int (p0), un] [] σ _
  unfold P_X7_pull at hP
  refine E_iload_n dX7_pull_0 rfl ?_
  refine E_callS (As := [.int (p0)]) (rest := []) dX7_pull_1 cl_RX7_62 tw_464 ⟨rfl, rfl, Nat.le_of_ble_eq_true rfl, Nat.le_of_ble_eq_true rfl⟩ rfl rfl (Nat.le_of_ble_eq_true rfl) (mt_X7_isWall _ _ _  hP) ?_
  intro r0 s0 hq0; obtain ⟨r1, h0, hs0, hP⟩ := hq0; subst h0; rw [hs0]
  show eX7_pull 4 [.ref (49), .int (p0), un] [.int (bI r1)] σ _
  refine E_ifz_ne 14 dX7_pull_4 (by decide) (fun hc => ?_) (fun hc => ?_)
  · replace hP := hP.1 hc
    refine E_aload_n dX7_pull_14 rfl ?_
    refine E_iload_n dX7_pull_15 rfl ?_
    refine E_callV (As := [.int (p0)]) (rest := []) dX7_pull_16 cl_RX7_142 tw_556 (show kd 49 = 7 by decide) (by decide) rfl tw_557 ⟨rfl, rfl, Nat.le_of_ble_eq_true rfl, Nat.le_of_ble_eq_true rfl⟩ rfl rfl (Nat.le_of_ble_eq_true rfl) (mt_X7_canPullNow _ _ _  hP) ?_
    rintro _ t16 ⟨r16, rfl, hP⟩
    show eX7_pull 19 [.ref (49), .int (p0), un] [.int (bI r16)] t16 _
    refine E_ifz_ne 29 dX7_pull_19 (by decide) (fun hc => ?_) (fun hc => ?_)
    · replace hP := hP.1 hc
      refine E_aload_n dX7_pull_29 rfl ?_
      refine E_iload_n dX7_pull_30 rfl ?_
      refine E_iconst (v := 0) dX7_pull_31 (by decide) ?_
      refine E_callV (As := [.int (p0), .int (0)]) (rest := []) dX7_pull_32 cl_RX7_81 tw_478 (show kd 49 = 7 by decide) (by decide) rfl tw_479 ⟨rfl, rfl, Nat.le_of_ble_eq_true rfl, Nat.le_of_ble_eq_true rfl⟩ rfl rfl (Nat.le_of_ble_eq_true rfl) (mt_X7_tall _ _ _ _  hP) ?_
      intro r0 s0 hq0; obtain ⟨r32, h0, hs0, hP⟩ := hq0; subst h0; rw [hs0]
      show eX7_pull 35 [.ref (49), .int (p0), un] [.int (r32)] t16 _
      refine E_istore_n (ls' := [.ref (49), .int (p0), .int (r32)]) dX7_pull_35 (by decide) rfl ?_
      refine E_aload_n dX7_pull_36 rfl ?_
      refine E_iload_n dX7_pull_37 rfl ?_
      refine E_callV (As := [.int (p0)]) (rest := []) dX7_pull_38 cl_RX7_145 tw_552 (show kd 49 = 7 by decide) (by decide) rfl tw_553 ⟨rfl, rfl, Nat.le_of_ble_eq_true rfl, Nat.le_of_ble_eq_true rfl⟩ rfl rfl (Nat.le_of_ble_eq_true rfl) (mt_X7_takeOut _ _ _  hP) ?_
      rintro _ t38 ⟨rfl, hP⟩
      show eX7_pull 41 [.ref (49), .int (p0), .int (r32)] [] t38 _
      refine E_iload_n dX7_pull_41 rfl ?_
      exact E_iret dX7_pull_42 rfl ⟨_, rfl, hP⟩
    · replace hP := hP.2 hc
      refine E_aload_n dX7_pull_22 rfl ?_
      refine E_ldc (v := (-1000000005)) dX7_pull_23 tw_537 ?_
      refine E_callV (As := [.int ((-1000000005))]) (rest := []) dX7_pull_25 cl_RX7_105 tw_507 (show kd 49 = 7 by decide) (by decide) rfl tw_508 ⟨rfl, rfl, Nat.le_of_ble_eq_true rfl, Nat.le_of_ble_eq_true rfl⟩ rfl rfl (Nat.le_of_ble_eq_true rfl) (mt_X7_finds _ _ _  hP) ?_
      rintro _ t25 ⟨r25, rfl, hP⟩
      show eX7_pull 28 [.ref (49), .int (p0), un] [.int (r25)] t25 _
      exact E_iret dX7_pull_28 rfl ⟨_, rfl, hP⟩
  · replace hP := hP.2 hc
    refine E_aload_n dX7_pull_7 rfl ?_
    refine E_ldc (v := (-1000000001)) dX7_pull_8 tw_452 ?_
    refine E_callV (As := [.int ((-1000000001))]) (rest := []) dX7_pull_10 cl_RX7_105 tw_507 (show kd 49 = 7 by decide) (by decide) rfl tw_508 ⟨rfl, rfl, Nat.le_of_ble_eq_true rfl, Nat.le_of_ble_eq_true rfl⟩ rfl rfl (Nat.le_of_ble_eq_true rfl) (mt_X7_finds _ _ _  hP) ?_
    rintro _ t10 ⟨r10, rfl, hP⟩
    show eX7_pull 13 [.ref (49), .int (p0), un] [.int (r10)] t10 _
    exact E_iret dX7_pull_13 rfl ⟨_, rfl, hP⟩
theorem dX7_pulls_0 : decode cX7_pulls 0 = .ok (.iconst 0, 1) := by decide +kernel
theorem dX7_pulls_1 : decode cX7_pulls 1 = .ok (.istore_n 1, 1) := by decide +kernel
theorem dX7_pulls_2 : decode cX7_pulls 2 = .ok (.iconst 0, 1) := by decide +kernel
theorem dX7_pulls_3 : decode cX7_pulls 3 = .ok (.istore_n 2, 1) := by decide +kernel
theorem dX7_pulls_4 : decode cX7_pulls 4 = .ok (.iload_n 2, 1) := by decide +kernel
theorem dX7_pulls_5 : decode cX7_pulls 5 = .ok (.iconst 4, 1) := by decide +kernel
theorem dX7_pulls_6 : decode cX7_pulls 6 = .ok (.if_icmp .ge 27, 3) := by decide +kernel
theorem dX7_pulls_9 : decode cX7_pulls 9 = .ok (.iload_n 1, 1) := by decide +kernel
theorem dX7_pulls_10 : decode cX7_pulls 10 = .ok (.aload_n 0, 1) := by decide +kernel
theorem dX7_pulls_11 : decode cX7_pulls 11 = .ok (.iload_n 2, 1) := by decide +kernel
theorem dX7_pulls_12 : decode cX7_pulls 12 = .ok (.invokevirtual 142, 3) := by decide +kernel
theorem dX7_pulls_15 : decode cX7_pulls 15 = .ok (.ifCond .eq 9, 3) := by decide +kernel
theorem dX7_pulls_18 : decode cX7_pulls 18 = .ok (.iconst 1, 1) := by decide +kernel
theorem dX7_pulls_19 : decode cX7_pulls 19 = .ok (.iload_n 2, 1) := by decide +kernel
theorem dX7_pulls_20 : decode cX7_pulls 20 = .ok (.ishl, 1) := by decide +kernel
theorem dX7_pulls_21 : decode cX7_pulls 21 = .ok (.goto 4, 3) := by decide +kernel
theorem dX7_pulls_24 : decode cX7_pulls 24 = .ok (.iconst 0, 1) := by decide +kernel
theorem dX7_pulls_25 : decode cX7_pulls 25 = .ok (.ior, 1) := by decide +kernel
theorem dX7_pulls_26 : decode cX7_pulls 26 = .ok (.istore_n 1, 1) := by decide +kernel
theorem dX7_pulls_27 : decode cX7_pulls 27 = .ok (.iinc 2 1, 3) := by decide +kernel
theorem dX7_pulls_30 : decode cX7_pulls 30 = .ok (.goto (-26), 3) := by decide +kernel
theorem dX7_pulls_33 : decode cX7_pulls 33 = .ok (.iload_n 1, 1) := by decide +kernel
theorem dX7_pulls_34 : decode cX7_pulls 34 = .ok (.ireturn, 1) := by decide +kernel
def rmX7_pulls : Room := { frames := 6, cells := 0, slots := 0, locals := 133 }
abbrev eX7_pulls := Ev cX7_pulls 3 (some .int) RX7 rmX7_pulls
set_option maxRecDepth 20000 in
theorem ev_X7_pulls_l4   (K : Int32 → St → Prop) (Q : Int32 → St → Prop) (hK : ∀ k1 s, K k1 s → eX7_pulls 33 [un, .int (k1), un] [] s (qI Q)) : ∀ (n : Nat) (l1 : Int32) (l2 : Int32) (σ : St), P_X7_pulls_l4  K Q n l1 l2 σ → eX7_pulls 4 [.ref (49), .int (l1), .int (l2)] [] σ (qI Q) := by
  intro n
  induction n with
  | zero => intro l1 l2 σ hP; exact hP.elim
  | succ n ih =>
    intro l1 l2 σ hP
    rw [P_X7_pulls_l4] at hP
    refine E_iload_n dX7_pulls_4 rfl ?_
    refine E_iconst (v := 4) dX7_pulls_5 (by decide) ?_
    refine E_icmp_ge 33 dX7_pulls_6 (by decide) (fun hc => ?_) (fun hc => ?_)
    · replace hP := hP.1 hc
      refine E_mask [false, true, false] rfl ?_
      exact hK (l1) _ hP
    · replace hP := hP.2 hc
      refine E_iload_n dX7_pulls_9 rfl ?_
      refine E_aload_n dX7_pulls_10 rfl ?_
      refine E_iload_n dX7_pulls_11 rfl ?_
      refine E_callV (As := [.int (l2)]) (rest := [.int (l1)]) dX7_pulls_12 cl_RX7_142 tw_556 (show kd 49 = 7 by decide) (by decide) rfl tw_557 ⟨rfl, rfl, Nat.le_of_ble_eq_true rfl, Nat.le_of_ble_eq_true rfl⟩ rfl rfl (Nat.le_of_ble_eq_true rfl) (mt_X7_canPullNow _ _ _  hP) ?_
      rintro _ t12 ⟨r12, rfl, hP⟩
      show eX7_pulls 15 [.ref (49), .int (l1), .int (l2)] [.int (bI r12), .int (l1)] t12 _
      refine E_ifz_eq 24 dX7_pulls_15 (by decide) (fun hc => ?_) (fun hc => ?_)
      · replace hP := hP.1 hc
        refine E_iconst (v := 0) dX7_pulls_24 (by decide) ?_
        refine E_ior dX7_pulls_25 ?_
        refine E_istore_n (ls' := [.ref (49), .int (l1 ||| 0), .int (l2)]) dX7_pulls_26 (by decide) rfl ?_
        refine E_iinc (ls' := [.ref (49), .int (l1 ||| 0), .int (l2 + 1)]) dX7_pulls_27 rfl rfl (by decide) rfl ?_
        refine E_goto 4 dX7_pulls_30 (by decide) ?_
        exact ih (l1 ||| 0) (l2 + 1) _ hP
      · replace hP := hP.2 hc
        refine E_iconst (v := 1) dX7_pulls_18 (by decide) ?_
        refine E_iload_n dX7_pulls_19 rfl ?_
        refine E_ishl dX7_pulls_20 ?_
        refine E_goto 25 dX7_pulls_21 (by decide) ?_
        refine E_ior dX7_pulls_25 ?_
        refine E_istore_n (ls' := [.ref (49), .int (l1 ||| (1 <<< (l2 &&& 31))), .int (l2)]) dX7_pulls_26 (by decide) rfl ?_
        refine E_iinc (ls' := [.ref (49), .int (l1 ||| (1 <<< (l2 &&& 31))), .int (l2 + 1)]) dX7_pulls_27 rfl rfl (by decide) rfl ?_
        refine E_goto 4 dX7_pulls_30 (by decide) ?_
        exact ih (l1 ||| (1 <<< (l2 &&& 31))) (l2 + 1) _ hP
set_option maxRecDepth 20000 in
theorem mt_X7_pulls  (σ : St) (Q : Int32 → St → Prop)  (hP : P_X7_pulls  σ Q) : Mt yX7_pulls cX7_pulls 3 (some .int) rmX7_pulls [.ref (49)] σ (qI Q) := by
  refine Mt.of (k := 2) (ls := [.ref (49), un, un]) (by decide +kernel) rfl (Nat.le_of_ble_eq_true rfl) ?_
  show eX7_pulls 0 [.ref (49), un, un] [] σ _
  unfold P_X7_pulls at hP
  refine E_iconst (v := 0) dX7_pulls_0 (by decide) ?_
  refine E_istore_n (ls' := [.ref (49), .int (0), un]) dX7_pulls_1 (by decide) rfl ?_
  refine E_iconst (v := 0) dX7_pulls_2 (by decide) ?_
  refine E_istore_n (ls' := [.ref (49), .int (0), .int (0)]) dX7_pulls_3 (by decide) rfl ?_
  obtain ⟨m4, hP⟩ := hP
  refine ev_X7_pulls_l4   _ Q ?_ m4 _ _ _ hP
  intro k1 t33 hP
  refine E_iload_n dX7_pulls_33 rfl ?_
  exact E_iret dX7_pulls_34 rfl ⟨_, rfl, hP⟩
theorem dX7_isStand_0 : decode cX7_isStand 0 = .ok (.iload_n 1, 1) := by decide +kernel
theorem dX7_isStand_1 : decode cX7_isStand 1 = .ok (.iconst 0, 1) := by decide +kernel
theorem dX7_isStand_2 : decode cX7_isStand 2 = .ok (.sipush 4095, 3) := by decide +kernel
theorem dX7_isStand_5 : decode cX7_isStand 5 = .ok (.invokestatic 58, 3) := by decide +kernel
theorem dX7_isStand_8 : decode cX7_isStand 8 = .ok (.istore_n 2, 1) := by decide +kernel
theorem dX7_isStand_9 : decode cX7_isStand 9 = .ok (.iconst 0, 1) := by decide +kernel
theorem dX7_isStand_10 : decode cX7_isStand 10 = .ok (.istore_n 3, 1) := by decide +kernel
theorem dX7_isStand_11 : decode cX7_isStand 11 = .ok (.iload_n 3, 1) := by decide +kernel
theorem dX7_isStand_12 : decode cX7_isStand 12 = .ok (.iconst 4, 1) := by decide +kernel
theorem dX7_isStand_13 : decode cX7_isStand 13 = .ok (.if_icmp .ge 32, 3) := by decide +kernel
theorem dX7_isStand_16 : decode cX7_isStand 16 = .ok (.iload_n 2, 1) := by decide +kernel
theorem dX7_isStand_17 : decode cX7_isStand 17 = .ok (.ifCond .eq 20, 3) := by decide +kernel
theorem dX7_isStand_20 : decode cX7_isStand 20 = .ok (.iload_n 1, 1) := by decide +kernel
theorem dX7_isStand_21 : decode cX7_isStand 21 = .ok (.iload_n 3, 1) := by decide +kernel
theorem dX7_isStand_22 : decode cX7_isStand 22 = .ok (.invokestatic 77, 3) := by decide +kernel
theorem dX7_isStand_25 : decode cX7_isStand 25 = .ok (.aload_n 0, 1) := by decide +kernel
theorem dX7_isStand_26 : decode cX7_isStand 26 = .ok (.iload_n 3, 1) := by decide +kernel
theorem dX7_isStand_27 : decode cX7_isStand 27 = .ok (.invokevirtual 66, 3) := by decide +kernel
theorem dX7_isStand_30 : decode cX7_isStand 30 = .ok (.if_icmp .gt 7, 3) := by decide +kernel
theorem dX7_isStand_33 : decode cX7_isStand 33 = .ok (.iconst 1, 1) := by decide +kernel
theorem dX7_isStand_34 : decode cX7_isStand 34 = .ok (.goto 4, 3) := by decide +kernel
theorem dX7_isStand_37 : decode cX7_isStand 37 = .ok (.iconst 0, 1) := by decide +kernel
theorem dX7_isStand_38 : decode cX7_isStand 38 = .ok (.istore_n 2, 1) := by decide +kernel
theorem dX7_isStand_39 : decode cX7_isStand 39 = .ok (.iinc 3 1, 3) := by decide +kernel
theorem dX7_isStand_42 : decode cX7_isStand 42 = .ok (.goto (-31), 3) := by decide +kernel
theorem dX7_isStand_45 : decode cX7_isStand 45 = .ok (.iload_n 2, 1) := by decide +kernel
theorem dX7_isStand_46 : decode cX7_isStand 46 = .ok (.ireturn, 1) := by decide +kernel
def rmX7_isStand : Room := { frames := 1, cells := 0, slots := 0, locals := 22 }
abbrev eX7_isStand := Ev cX7_isStand 4 (some .boolean) RX7 rmX7_isStand
set_option maxRecDepth 20000 in
theorem ev_X7_isStand_l11 (l1 : Int32)  (K : Bool → St → Prop) (Q : Bool → Prop) (σ0 : St) (hK : ∀ k2 s, K k2 s → s = σ0 → eX7_isStand 45 [un, un, .int (bI k2), un] [] s (qB fun x s => s = σ0 ∧ Q x)) : ∀ (n : Nat) (l2 : Bool) (l3 : Int32) (σ : St), σ = σ0 → P_X7_isStand_l11 l1 K Q n l2 l3 σ → eX7_isStand 11 [.ref (49), .int (l1), .int (bI l2), .int (l3)] [] σ (qB fun x s => s = σ0 ∧ Q x) := by
  intro n
  induction n with
  | zero => intro l2 l3 σ hs hP; exact hP.elim
  | succ n ih =>
    intro l2 l3 σ hs hP
    subst hs
    rw [P_X7_isStand_l11] at hP
    refine E_iload_n dX7_isStand_11 rfl ?_
    refine E_iconst (v := 4) dX7_isStand_12 (by decide) ?_
    refine E_icmp_ge 45 dX7_isStand_13 (by decide) (fun hc => ?_) (fun hc => ?_)
    · replace hP := hP.1 hc
      refine E_mask [false, false, true, false] rfl ?_
      exact hK (l2) _ hP rfl
    · replace hP := hP.2 hc
      refine E_iload_n dX7_isStand_16 rfl ?_
      refine E_ifz_eq 37 dX7_isStand_17 (by decide) (fun hc => ?_) (fun hc => ?_)
      · replace hP := hP.1 hc
        refine E_iconst (v := 0) dX7_isStand_37 (by decide) ?_
        refine E_istore_n (ls' := [.ref (49), .int (l1), .int (0), .int (l3)]) dX7_isStand_38 (by decide) rfl ?_
        refine E_iinc (ls' := [.ref (49), .int (l1), .int (0), .int (l3 + 1)]) dX7_isStand_39 rfl rfl (by decide) rfl ?_
        refine E_goto 11 dX7_isStand_42 (by decide) ?_
        exact ih (false) (l3 + 1) _ rfl hP
      · replace hP := hP.2 hc
        refine E_iload_n dX7_isStand_20 rfl ?_
        refine E_iload_n dX7_isStand_21 rfl ?_
        refine E_callS (As := [.int (l1), .int (l3)]) (rest := []) dX7_isStand_22 cl_RX7_77 tw_474 ⟨rfl, rfl, Nat.le_of_ble_eq_true rfl, Nat.le_of_ble_eq_true rfl⟩ rfl rfl (Nat.le_of_ble_eq_true rfl) (mt_X7_left _ _ _ _  hP) ?_
        intro r0 s0 hq0; obtain ⟨r22, h0, hs0, hP⟩ := hq0; subst h0; rw [hs0]
        show eX7_isStand 25 [.ref (49), .int (l1), .int (bI l2), .int (l3)] [.int (r22)] σ _
        refine E_aload_n dX7_isStand_25 rfl ?_
        refine E_iload_n dX7_isStand_26 rfl ?_
        refine E_callV (As := [.int (l3)]) (rest := [.int (r22)]) dX7_isStand_27 cl_RX7_66 tw_460 (show kd 49 = 7 by decide) (by decide) rfl tw_461 ⟨rfl, rfl, Nat.le_of_ble_eq_true rfl, Nat.le_of_ble_eq_true rfl⟩ rfl rfl (Nat.le_of_ble_eq_true rfl) (mt_X7_many _ _ _  hP) ?_
        intro r0 s0 hq0; obtain ⟨r27, h0, hs0, hP⟩ := hq0; subst h0; rw [hs0]
        show eX7_isStand 30 [.ref (49), .int (l1), .int (bI l2), .int (l3)] [.int (r27), .int (r22)] σ _
        refine E_icmp_gt 37 dX7_isStand_30 (by decide) (fun hc => ?_) (fun hc => ?_)
        · replace hP := hP.1 hc
          refine E_iconst (v := 0) dX7_isStand_37 (by decide) ?_
          refine E_istore_n (ls' := [.ref (49), .int (l1), .int (0), .int (l3)]) dX7_isStand_38 (by decide) rfl ?_
          refine E_iinc (ls' := [.ref (49), .int (l1), .int (0), .int (l3 + 1)]) dX7_isStand_39 rfl rfl (by decide) rfl ?_
          refine E_goto 11 dX7_isStand_42 (by decide) ?_
          exact ih (false) (l3 + 1) _ rfl hP
        · replace hP := hP.2 hc
          refine E_iconst (v := 1) dX7_isStand_33 (by decide) ?_
          refine E_goto 38 dX7_isStand_34 (by decide) ?_
          refine E_istore_n (ls' := [.ref (49), .int (l1), .int (1), .int (l3)]) dX7_isStand_38 (by decide) rfl ?_
          refine E_iinc (ls' := [.ref (49), .int (l1), .int (1), .int (l3 + 1)]) dX7_isStand_39 rfl rfl (by decide) rfl ?_
          refine E_goto 11 dX7_isStand_42 (by decide) ?_
          exact ih (true) (l3 + 1) _ rfl hP
set_option maxRecDepth 20000 in
theorem mt_X7_isStand (p0 : Int32) (σ : St) (Q : Bool → Prop)  (hP : P_X7_isStand p0 σ Q) : Mt yX7_isStand cX7_isStand 4 (some .boolean) rmX7_isStand [.ref (49), .int (p0)] σ (qB fun x s => s = σ ∧ Q x) := by
  refine Mt.of (k := 2) (ls := [.ref (49), .int (p0), un, un]) (by decide +kernel) rfl (Nat.le_of_ble_eq_true rfl) ?_
  show eX7_isStand 0 [.ref (49), .int (p0), un, un] [] σ _
  unfold P_X7_isStand at hP
  refine E_iload_n dX7_isStand_0 rfl ?_
  refine E_iconst (v := 0) dX7_isStand_1 (by decide) ?_
  refine E_sipush (v := 4095) dX7_isStand_2 (by decide) ?_
  refine E_callS (As := [.int (p0), .int (0), .int (4095)]) (rest := []) dX7_isStand_5 cl_RX7_58 tw_456 ⟨rfl, rfl, Nat.le_of_ble_eq_true rfl, Nat.le_of_ble_eq_true rfl⟩ rfl rfl (Nat.le_of_ble_eq_true rfl) (mt_X7_in _ _ _ _ _  hP) ?_
  intro r0 s0 hq0; obtain ⟨r5, h0, hs0, hP⟩ := hq0; subst h0; rw [hs0]
  show eX7_isStand 8 [.ref (49), .int (p0), un, un] [.int (bI r5)] σ _
  refine E_istore_n (ls' := [.ref (49), .int (p0), .int (bI r5), un]) dX7_isStand_8 (by decide) rfl ?_
  refine E_iconst (v := 0) dX7_isStand_9 (by decide) ?_
  refine E_istore_n (ls' := [.ref (49), .int (p0), .int (bI r5), .int (0)]) dX7_isStand_10 (by decide) rfl ?_
  obtain ⟨m11, hP⟩ := hP
  refine ev_X7_isStand_l11 (p0)  _ Q σ ?_ m11 _ _ _ rfl hP
  intro k2 t45 hP hs
  rw [hs]
  refine E_iload_n dX7_isStand_45 rfl ?_
  exact E_nret dX7_isStand_46 rfl (nar_b k2) ⟨k2, rfl, rfl, hP⟩
theorem dX7_findGoes_0 : decode cX7_findGoes 0 = .ok (.iconst 0, 1) := by decide +kernel
theorem dX7_findGoes_1 : decode cX7_findGoes 1 = .ok (.istore_n 1, 1) := by decide +kernel
theorem dX7_findGoes_2 : decode cX7_findGoes 2 = .ok (.iload_n 1, 1) := by decide +kernel
theorem dX7_findGoes_3 : decode cX7_findGoes 3 = .ok (.aload_n 0, 1) := by decide +kernel
theorem dX7_findGoes_4 : decode cX7_findGoes 4 = .ok (.invokevirtual 120, 3) := by decide +kernel
theorem dX7_findGoes_7 : decode cX7_findGoes 7 = .ok (.if_icmp .gt 79, 3) := by decide +kernel
theorem dX7_findGoes_10 : decode cX7_findGoes 10 = .ok (.aload_n 0, 1) := by decide +kernel
theorem dX7_findGoes_11 : decode cX7_findGoes 11 = .ok (.getfield 26, 3) := by decide +kernel
theorem dX7_findGoes_14 : decode cX7_findGoes 14 = .ok (.iload_n 1, 1) := by decide +kernel
theorem dX7_findGoes_15 : decode cX7_findGoes 15 = .ok (.iconst 0, 1) := by decide +kernel
theorem dX7_findGoes_16 : decode cX7_findGoes 16 = .ok (.iastore, 1) := by decide +kernel
theorem dX7_findGoes_17 : decode cX7_findGoes 17 = .ok (.iconst 0, 1) := by decide +kernel
theorem dX7_findGoes_18 : decode cX7_findGoes 18 = .ok (.istore_n 2, 1) := by decide +kernel
theorem dX7_findGoes_19 : decode cX7_findGoes 19 = .ok (.iload_n 2, 1) := by decide +kernel
theorem dX7_findGoes_20 : decode cX7_findGoes 20 = .ok (.iconst 4, 1) := by decide +kernel
theorem dX7_findGoes_21 : decode cX7_findGoes 21 = .ok (.if_icmp .ge 59, 3) := by decide +kernel
theorem dX7_findGoes_24 : decode cX7_findGoes 24 = .ok (.aload_n 0, 1) := by decide +kernel
theorem dX7_findGoes_25 : decode cX7_findGoes 25 = .ok (.iload_n 1, 1) := by decide +kernel
theorem dX7_findGoes_26 : decode cX7_findGoes 26 = .ok (.invokevirtual 149, 3) := by decide +kernel
theorem dX7_findGoes_29 : decode cX7_findGoes 29 = .ok (.ifCond .eq 51, 3) := by decide +kernel
theorem dX7_findGoes_32 : decode cX7_findGoes 32 = .ok (.iload_n 1, 1) := by decide +kernel
theorem dX7_findGoes_33 : decode cX7_findGoes 33 = .ok (.iload_n 2, 1) := by decide +kernel
theorem dX7_findGoes_34 : decode cX7_findGoes 34 = .ok (.invokestatic 77, 3) := by decide +kernel
theorem dX7_findGoes_37 : decode cX7_findGoes 37 = .ok (.istore_n 3, 1) := by decide +kernel
theorem dX7_findGoes_38 : decode cX7_findGoes 38 = .ok (.aload_n 0, 1) := by decide +kernel
theorem dX7_findGoes_39 : decode cX7_findGoes 39 = .ok (.getfield 26, 3) := by decide +kernel
theorem dX7_findGoes_42 : decode cX7_findGoes 42 = .ok (.iload_n 1, 1) := by decide +kernel
theorem dX7_findGoes_43 : decode cX7_findGoes 43 = .ok (.dup2, 1) := by decide +kernel
theorem dX7_findGoes_44 : decode cX7_findGoes 44 = .ok (.iaload, 1) := by decide +kernel
theorem dX7_findGoes_45 : decode cX7_findGoes 45 = .ok (.iload_n 3, 1) := by decide +kernel
theorem dX7_findGoes_46 : decode cX7_findGoes 46 = .ok (.ifCond .le 25, 3) := by decide +kernel
theorem dX7_findGoes_49 : decode cX7_findGoes 49 = .ok (.aload_n 0, 1) := by decide +kernel
theorem dX7_findGoes_50 : decode cX7_findGoes 50 = .ok (.iload_n 2, 1) := by decide +kernel
theorem dX7_findGoes_51 : decode cX7_findGoes 51 = .ok (.aload_n 0, 1) := by decide +kernel
theorem dX7_findGoes_52 : decode cX7_findGoes 52 = .ok (.iload_n 2, 1) := by decide +kernel
theorem dX7_findGoes_53 : decode cX7_findGoes 53 = .ok (.invokevirtual 66, 3) := by decide +kernel
theorem dX7_findGoes_56 : decode cX7_findGoes 56 = .ok (.iload_n 3, 1) := by decide +kernel
theorem dX7_findGoes_57 : decode cX7_findGoes 57 = .ok (.isub, 1) := by decide +kernel
theorem dX7_findGoes_58 : decode cX7_findGoes 58 = .ok (.iload_n 1, 1) := by decide +kernel
theorem dX7_findGoes_59 : decode cX7_findGoes 59 = .ok (.invokevirtual 96, 3) := by decide +kernel
theorem dX7_findGoes_62 : decode cX7_findGoes 62 = .ok (.ifCond .eq 9, 3) := by decide +kernel
theorem dX7_findGoes_65 : decode cX7_findGoes 65 = .ok (.iconst 1, 1) := by decide +kernel
theorem dX7_findGoes_66 : decode cX7_findGoes 66 = .ok (.iload_n 2, 1) := by decide +kernel
theorem dX7_findGoes_67 : decode cX7_findGoes 67 = .ok (.ishl, 1) := by decide +kernel
theorem dX7_findGoes_68 : decode cX7_findGoes 68 = .ok (.goto 4, 3) := by decide +kernel
theorem dX7_findGoes_71 : decode cX7_findGoes 71 = .ok (.iconst 0, 1) := by decide +kernel
theorem dX7_findGoes_72 : decode cX7_findGoes 72 = .ok (.ior, 1) := by decide +kernel
theorem dX7_findGoes_73 : decode cX7_findGoes 73 = .ok (.iastore, 1) := by decide +kernel
theorem dX7_findGoes_74 : decode cX7_findGoes 74 = .ok (.iinc 2 1, 3) := by decide +kernel
theorem dX7_findGoes_77 : decode cX7_findGoes 77 = .ok (.goto (-58), 3) := by decide +kernel
theorem dX7_findGoes_80 : decode cX7_findGoes 80 = .ok (.iinc 1 1, 3) := by decide +kernel
theorem dX7_findGoes_83 : decode cX7_findGoes 83 = .ok (.goto (-81), 3) := by decide +kernel
theorem dX7_findGoes_86 : decode cX7_findGoes 86 = .ok (.return_, 1) := by decide +kernel
def rmX7_findGoes : Room := { frames := 3, cells := 0, slots := 0, locals := 72 }
abbrev eX7_findGoes := Ev cX7_findGoes 4 none RX7 rmX7_findGoes
set_option maxRecDepth 20000 in
theorem ev_X7_findGoes_l19 (l1 : Int32)  (K : St → Prop) (Q : St → Prop) (hK : ∀  s, K  s → eX7_findGoes 80 [.ref (49), .int (l1), un, un] [] s (qV Q)) : ∀ (n : Nat) (l2 : Int32) (σ : St), P_X7_findGoes_l19 l1 K Q n l2 σ → eX7_findGoes 19 [.ref (49), .int (l1), .int (l2), un] [] σ (qV Q) := by
  intro n
  induction n with
  | zero => intro l2 σ hP; exact hP.elim
  | succ n ih =>
    intro l2 σ hP
    rw [P_X7_findGoes_l19] at hP
    refine E_iload_n dX7_findGoes_19 rfl ?_
    refine E_iconst (v := 4) dX7_findGoes_20 (by decide) ?_
    refine E_icmp_ge 80 dX7_findGoes_21 (by decide) (fun hc => ?_) (fun hc => ?_)
    · replace hP := hP.1 hc
      refine E_mask [true, true, false, false] rfl ?_
      exact hK  _ hP
    · replace hP := hP.2 hc
      refine E_aload_n dX7_findGoes_24 rfl ?_
      refine E_iload_n dX7_findGoes_25 rfl ?_
      refine E_callV (As := [.int (l1)]) (rest := []) dX7_findGoes_26 cl_RX7_149 tw_561 (show kd 49 = 7 by decide) (by decide) rfl tw_562 ⟨rfl, rfl, Nat.le_of_ble_eq_true rfl, Nat.le_of_ble_eq_true rfl⟩ rfl rfl (Nat.le_of_ble_eq_true rfl) (mt_X7_isStand _ _ _  hP) ?_
      intro r0 s0 hq0; obtain ⟨r26, h0, hs0, hP⟩ := hq0; subst h0; rw [hs0]
      show eX7_findGoes 29 [.ref (49), .int (l1), .int (l2), un] [.int (bI r26)] σ _
      refine E_ifz_eq 80 dX7_findGoes_29 (by decide) (fun hc => ?_) (fun hc => ?_)
      · replace hP := hP.1 hc
        refine E_mask [true, true, false, false] rfl ?_
        exact hK  _ hP
      · replace hP := hP.2 hc
        refine E_iload_n dX7_findGoes_32 rfl ?_
        refine E_iload_n dX7_findGoes_33 rfl ?_
        refine E_callS (As := [.int (l1), .int (l2)]) (rest := []) dX7_findGoes_34 cl_RX7_77 tw_474 ⟨rfl, rfl, Nat.le_of_ble_eq_true rfl, Nat.le_of_ble_eq_true rfl⟩ rfl rfl (Nat.le_of_ble_eq_true rfl) (mt_X7_left _ _ _ _  hP) ?_
        intro r0 s0 hq0; obtain ⟨r34, h0, hs0, hP⟩ := hq0; subst h0; rw [hs0]
        show eX7_findGoes 37 [.ref (49), .int (l1), .int (l2), un] [.int (r34)] σ _
        refine E_istore_n (ls' := [.ref (49), .int (l1), .int (l2), .int (r34)]) dX7_findGoes_37 (by decide) rfl ?_
        refine E_aload_n dX7_findGoes_38 rfl ?_
        refine E_getR (j := 5) dX7_findGoes_39 (show kd 49 = 7 by decide) (by decide) rfl fd_RX7_26 (by decide) ?_
        refine E_iload_n dX7_findGoes_42 rfl ?_
        refine E_dup2 dX7_findGoes_43 rfl rfl ?_
        obtain ⟨hb, hP⟩ := hP
        refine E_iald dX7_findGoes_44 (ar_7_6 (show kd 49 = 7 by decide)).1 (ar_7_6 (show kd 49 = 7 by decide)).2 hb ?_
        refine E_iload_n dX7_findGoes_45 rfl ?_
        refine E_if_le 71 dX7_findGoes_46 (by decide) (fun hc => ?_) (fun hc => ?_)
        · replace hP := hP.1 hc
          refine E_iconst (v := 0) dX7_findGoes_71 (by decide) ?_
          refine E_ior dX7_findGoes_72 ?_
          obtain ⟨hb, hP⟩ := hP
          refine E_iast dX7_findGoes_73 (ar_7_6 (show kd 49 = 7 by decide)).1 (ar_7_6 (show kd 49 = 7 by decide)).2 hb ?_
          refine E_iinc (ls' := [.ref (49), .int (l1), .int (l2 + 1), .int (r34)]) dX7_findGoes_74 rfl rfl (by decide) rfl ?_
          refine E_goto 19 dX7_findGoes_77 (by decide) ?_
          refine E_mask [true, true, true, false] rfl ?_
          exact ih (l2 + 1) _ hP
        · replace hP := hP.2 hc
          refine E_aload_n dX7_findGoes_49 rfl ?_
          refine E_iload_n dX7_findGoes_50 rfl ?_
          refine E_aload_n dX7_findGoes_51 rfl ?_
          refine E_iload_n dX7_findGoes_52 rfl ?_
          refine E_callV (As := [.int (l2)]) (rest := [.int (l2), .ref (49), .int (gI σ 55 l1.toNatClampNeg), .int (l1), .ref (55)]) dX7_findGoes_53 cl_RX7_66 tw_460 (show kd 49 = 7 by decide) (by decide) rfl tw_461 ⟨rfl, rfl, Nat.le_of_ble_eq_true rfl, Nat.le_of_ble_eq_true rfl⟩ rfl rfl (Nat.le_of_ble_eq_true rfl) (mt_X7_many _ _ _  hP) ?_
          intro r0 s0 hq0; obtain ⟨r53, h0, hs0, hP⟩ := hq0; subst h0; rw [hs0]
          show eX7_findGoes 56 [.ref (49), .int (l1), .int (l2), .int (r34)] [.int (r53), .int (l2), .ref (49), .int (gI σ 55 l1.toNatClampNeg), .int (l1), .ref (55)] σ _
          refine E_iload_n dX7_findGoes_56 rfl ?_
          refine E_isub dX7_findGoes_57 ?_
          refine E_iload_n dX7_findGoes_58 rfl ?_
          refine E_callV (As := [.int (l2), .int (r53 - r34), .int (l1)]) (rest := [.int (gI σ 55 l1.toNatClampNeg), .int (l1), .ref (55)]) dX7_findGoes_59 cl_RX7_96 tw_503 (show kd 49 = 7 by decide) (by decide) rfl tw_504 ⟨rfl, rfl, Nat.le_of_ble_eq_true rfl, Nat.le_of_ble_eq_true rfl⟩ rfl rfl (Nat.le_of_ble_eq_true rfl) (mt_X7_mayGo _ _ _ _ _  hP) ?_
          intro r0 s0 hq0; obtain ⟨r59, h0, hs0, hP⟩ := hq0; subst h0; rw [hs0]
          show eX7_findGoes 62 [.ref (49), .int (l1), .int (l2), .int (r34)] [.int (bI r59), .int (gI σ 55 l1.toNatClampNeg), .int (l1), .ref (55)] σ _
          refine E_ifz_eq 71 dX7_findGoes_62 (by decide) (fun hc => ?_) (fun hc => ?_)
          · replace hP := hP.1 hc
            refine E_iconst (v := 0) dX7_findGoes_71 (by decide) ?_
            refine E_ior dX7_findGoes_72 ?_
            obtain ⟨hb, hP⟩ := hP
            refine E_iast dX7_findGoes_73 (ar_7_6 (show kd 49 = 7 by decide)).1 (ar_7_6 (show kd 49 = 7 by decide)).2 hb ?_
            refine E_iinc (ls' := [.ref (49), .int (l1), .int (l2 + 1), .int (r34)]) dX7_findGoes_74 rfl rfl (by decide) rfl ?_
            refine E_goto 19 dX7_findGoes_77 (by decide) ?_
            refine E_mask [true, true, true, false] rfl ?_
            exact ih (l2 + 1) _ hP
          · replace hP := hP.2 hc
            refine E_iconst (v := 1) dX7_findGoes_65 (by decide) ?_
            refine E_iload_n dX7_findGoes_66 rfl ?_
            refine E_ishl dX7_findGoes_67 ?_
            refine E_goto 72 dX7_findGoes_68 (by decide) ?_
            refine E_ior dX7_findGoes_72 ?_
            obtain ⟨hb, hP⟩ := hP
            refine E_iast dX7_findGoes_73 (ar_7_6 (show kd 49 = 7 by decide)).1 (ar_7_6 (show kd 49 = 7 by decide)).2 hb ?_
            refine E_iinc (ls' := [.ref (49), .int (l1), .int (l2 + 1), .int (r34)]) dX7_findGoes_74 rfl rfl (by decide) rfl ?_
            refine E_goto 19 dX7_findGoes_77 (by decide) ?_
            refine E_mask [true, true, true, false] rfl ?_
            exact ih (l2 + 1) _ hP
set_option maxRecDepth 20000 in
theorem ev_X7_findGoes_l2   (K : St → Prop) (Q : St → Prop) (hK : ∀  s, K  s → eX7_findGoes 86 [un, un, un, un] [] s (qV Q)) : ∀ (n : Nat) (l1 : Int32) (σ : St), P_X7_findGoes_l2  K Q n l1 σ → eX7_findGoes 2 [.ref (49), .int (l1), un, un] [] σ (qV Q) := by
  intro n
  induction n with
  | zero => intro l1 σ hP; exact hP.elim
  | succ n ih =>
    intro l1 σ hP
    rw [P_X7_findGoes_l2] at hP
    refine E_iload_n dX7_findGoes_2 rfl ?_
    refine E_aload_n dX7_findGoes_3 rfl ?_
    refine E_callV (As := []) (rest := [.int (l1)]) dX7_findGoes_4 cl_RX7_120 tw_523 (show kd 49 = 7 by decide) (by decide) rfl tw_524 ⟨rfl, rfl, Nat.le_of_ble_eq_true rfl, Nat.le_of_ble_eq_true rfl⟩ rfl rfl (Nat.le_of_ble_eq_true rfl) (mt_X7_standNow  _ _  hP) ?_
    intro r0 s0 hq0; obtain ⟨r4, h0, hs0, hP⟩ := hq0; subst h0; rw [hs0]
    show eX7_findGoes 7 [.ref (49), .int (l1), un, un] [.int (r4), .int (l1)] σ _
    refine E_icmp_gt 86 dX7_findGoes_7 (by decide) (fun hc => ?_) (fun hc => ?_)
    · replace hP := hP.1 hc
      refine E_mask [false, false, false, false] rfl ?_
      exact hK  _ hP
    · replace hP := hP.2 hc
      refine E_aload_n dX7_findGoes_10 rfl ?_
      refine E_getR (j := 5) dX7_findGoes_11 (show kd 49 = 7 by decide) (by decide) rfl fd_RX7_26 (by decide) ?_
      refine E_iload_n dX7_findGoes_14 rfl ?_
      refine E_iconst (v := 0) dX7_findGoes_15 (by decide) ?_
      obtain ⟨hb, hP⟩ := hP
      refine E_iast dX7_findGoes_16 (ar_7_6 (show kd 49 = 7 by decide)).1 (ar_7_6 (show kd 49 = 7 by decide)).2 hb ?_
      refine E_iconst (v := 0) dX7_findGoes_17 (by decide) ?_
      refine E_istore_n (ls' := [.ref (49), .int (l1), .int (0), un]) dX7_findGoes_18 (by decide) rfl ?_
      obtain ⟨m19, hP⟩ := hP
      refine ev_X7_findGoes_l19 (l1)  _ Q ?_ m19 _ _ hP
      intro  t80 hP
      refine E_iinc (ls' := [.ref (49), .int (l1 + 1), un, un]) dX7_findGoes_80 rfl rfl (by decide) rfl ?_
      refine E_goto 2 dX7_findGoes_83 (by decide) ?_
      exact ih (l1 + 1) _ hP
set_option maxRecDepth 20000 in
theorem mt_X7_findGoes  (σ : St) (Q : St → Prop)  (hP : P_X7_findGoes  σ Q) : Mt yX7_findGoes cX7_findGoes 4 none rmX7_findGoes [.ref (49)] σ (qV Q) := by
  refine Mt.of (k := 3) (ls := [.ref (49), un, un, un]) (by decide +kernel) rfl (Nat.le_of_ble_eq_true rfl) ?_
  show eX7_findGoes 0 [.ref (49), un, un, un] [] σ _
  unfold P_X7_findGoes at hP
  refine E_iconst (v := 0) dX7_findGoes_0 (by decide) ?_
  refine E_istore_n (ls' := [.ref (49), .int (0), un, un]) dX7_findGoes_1 (by decide) rfl ?_
  obtain ⟨m2, hP⟩ := hP
  refine ev_X7_findGoes_l2   _ Q ?_ m2 _ _ hP
  intro  t86 hP
  exact E_vret dX7_findGoes_86 rfl ⟨rfl, hP⟩
