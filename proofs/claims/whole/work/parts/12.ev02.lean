theorem dX3_coinAt_0 : decode cX3_coinAt 0 = .ok (.iconst 0, 1) := by decide +kernel
theorem dX3_coinAt_1 : decode cX3_coinAt 1 = .ok (.istore_n 2, 1) := by decide +kernel
theorem dX3_coinAt_2 : decode cX3_coinAt 2 = .ok (.iconst 0, 1) := by decide +kernel
theorem dX3_coinAt_3 : decode cX3_coinAt 3 = .ok (.istore_n 3, 1) := by decide +kernel
theorem dX3_coinAt_4 : decode cX3_coinAt 4 = .ok (.iload_n 3, 1) := by decide +kernel
theorem dX3_coinAt_5 : decode cX3_coinAt 5 = .ok (.iconst 4, 1) := by decide +kernel
theorem dX3_coinAt_6 : decode cX3_coinAt 6 = .ok (.if_icmp .ge 27, 3) := by decide +kernel
theorem dX3_coinAt_9 : decode cX3_coinAt 9 = .ok (.iload_n 2, 1) := by decide +kernel
theorem dX3_coinAt_10 : decode cX3_coinAt 10 = .ok (.aload_n 0, 1) := by decide +kernel
theorem dX3_coinAt_11 : decode cX3_coinAt 11 = .ok (.getfield 15, 3) := by decide +kernel
theorem dX3_coinAt_14 : decode cX3_coinAt 14 = .ok (.iload_n 3, 1) := by decide +kernel
theorem dX3_coinAt_15 : decode cX3_coinAt 15 = .ok (.bipush 8, 2) := by decide +kernel
theorem dX3_coinAt_17 : decode cX3_coinAt 17 = .ok (.imul, 1) := by decide +kernel
theorem dX3_coinAt_18 : decode cX3_coinAt 18 = .ok (.iload_n 1, 1) := by decide +kernel
theorem dX3_coinAt_19 : decode cX3_coinAt 19 = .ok (.iload_n 3, 1) := by decide +kernel
theorem dX3_coinAt_20 : decode cX3_coinAt 20 = .ok (.invokestatic 21, 3) := by decide +kernel
theorem dX3_coinAt_23 : decode cX3_coinAt 23 = .ok (.iadd, 1) := by decide +kernel
theorem dX3_coinAt_24 : decode cX3_coinAt 24 = .ok (.iaload, 1) := by decide +kernel
theorem dX3_coinAt_25 : decode cX3_coinAt 25 = .ok (.iadd, 1) := by decide +kernel
theorem dX3_coinAt_26 : decode cX3_coinAt 26 = .ok (.istore_n 2, 1) := by decide +kernel
theorem dX3_coinAt_27 : decode cX3_coinAt 27 = .ok (.iinc 3 1, 3) := by decide +kernel
theorem dX3_coinAt_30 : decode cX3_coinAt 30 = .ok (.goto (-26), 3) := by decide +kernel
theorem dX3_coinAt_33 : decode cX3_coinAt 33 = .ok (.iload_n 2, 1) := by decide +kernel
theorem dX3_coinAt_34 : decode cX3_coinAt 34 = .ok (.ireturn, 1) := by decide +kernel
def rmX3_coinAt : Room := { frames := 1, cells := 0, slots := 0, locals := 21 }
abbrev eX3_coinAt := Ev cX3_coinAt 4 (some .int) RX3 rmX3_coinAt
set_option maxRecDepth 20000 in
theorem ev_X3_coinAt_l4 (l0 : Nat) (l1 : Int32) (o_l0 : kd (l0) = 3) (K : Int32 → St → Prop) (Q : Int32 → Prop) (σ0 : St) (hK : ∀ k2 s, K k2 s → s = σ0 → eX3_coinAt 33 [un, un, .int (k2), un] [] s (qI fun x s => s = σ0 ∧ Q x)) : ∀ (n : Nat) (l2 : Int32) (l3 : Int32) (σ : St), σ = σ0 → P_X3_coinAt_l4 l0 l1 K Q n l2 l3 σ → eX3_coinAt 4 [.ref (l0), .int (l1), .int (l2), .int (l3)] [] σ (qI fun x s => s = σ0 ∧ Q x) := by
  intro n
  induction n with
  | zero => intro l2 l3 σ hs hP; exact hP.elim
  | succ n ih =>
    intro l2 l3 σ hs hP
    subst hs
    rw [P_X3_coinAt_l4] at hP
    refine E_iload_n dX3_coinAt_4 rfl ?_
    refine E_iconst (v := 4) dX3_coinAt_5 (by decide) ?_
    refine E_icmp_ge 33 dX3_coinAt_6 (by decide) (fun hc => ?_) (fun hc => ?_)
    · replace hP := hP.1 hc
      refine E_mask [false, false, true, false] rfl ?_
      exact hK (l2) _ hP rfl
    · replace hP := hP.2 hc
      refine E_iload_n dX3_coinAt_9 rfl ?_
      refine E_aload_n dX3_coinAt_10 rfl ?_
      refine E_getR (j := 1) dX3_coinAt_11 o_l0 (by decide) rfl fd_RX3_15 (by decide) ?_
      refine E_iload_n dX3_coinAt_14 rfl ?_
      refine E_bipush (v := 8) dX3_coinAt_15 (by decide) ?_
      refine E_imul dX3_coinAt_17 ?_
      refine E_iload_n dX3_coinAt_18 rfl ?_
      refine E_iload_n dX3_coinAt_19 rfl ?_
      refine E_callS (As := [.int (l1), .int (l3)]) (rest := [.int (l3 * 8), .ref (l0 + 2), .int (l2)]) dX3_coinAt_20 cl_RX3_21 tw_47 ⟨rfl, rfl, Nat.le_of_ble_eq_true rfl, Nat.le_of_ble_eq_true rfl⟩ rfl rfl (Nat.le_of_ble_eq_true rfl) (mt_X3_leftAt _ _ _ _  hP) ?_
      intro r0 s0 hq0; obtain ⟨r20, h0, hs0, hP⟩ := hq0; subst h0; rw [hs0]
      show eX3_coinAt 23 [.ref (l0), .int (l1), .int (l2), .int (l3)] [.int (r20), .int (l3 * 8), .ref (l0 + 2), .int (l2)] σ _
      refine E_iadd dX3_coinAt_23 ?_
      obtain ⟨hb, hP⟩ := hP
      refine E_iald dX3_coinAt_24 (ar_3_2 o_l0).1 (ar_3_2 o_l0).2 hb ?_
      refine E_iadd dX3_coinAt_25 ?_
      refine E_istore_n (ls' := [.ref (l0), .int (l1), .int (l2 + (gI σ (l0 + 2) ((l3 * 8) + r20).toNatClampNeg)), .int (l3)]) dX3_coinAt_26 (by decide) rfl ?_
      refine E_iinc (ls' := [.ref (l0), .int (l1), .int (l2 + (gI σ (l0 + 2) ((l3 * 8) + r20).toNatClampNeg)), .int (l3 + 1)]) dX3_coinAt_27 rfl rfl (by decide) rfl ?_
      refine E_goto 4 dX3_coinAt_30 (by decide) ?_
      exact ih (l2 + (gI σ (l0 + 2) ((l3 * 8) + r20).toNatClampNeg)) (l3 + 1) _ rfl hP
set_option maxRecDepth 20000 in
theorem mt_X3_coinAt (a0 : Nat) (p0 : Int32) (σ : St) (Q : Int32 → Prop) (o_a0 : kd a0 = 3) (hP : P_X3_coinAt a0 p0 σ Q) : Mt yX3_coinAt cX3_coinAt 4 (some .int) rmX3_coinAt [.ref (a0), .int (p0)] σ (qI fun x s => s = σ ∧ Q x) := by
  refine Mt.of (k := 2) (ls := [.ref (a0), .int (p0), un, un]) (by decide +kernel) rfl (Nat.le_of_ble_eq_true rfl) ?_
  show eX3_coinAt 0 [.ref (a0), .int (p0), un, un] [] σ _
  unfold P_X3_coinAt at hP
  refine E_iconst (v := 0) dX3_coinAt_0 (by decide) ?_
  refine E_istore_n (ls' := [.ref (a0), .int (p0), .int (0), un]) dX3_coinAt_1 (by decide) rfl ?_
  refine E_iconst (v := 0) dX3_coinAt_2 (by decide) ?_
  refine E_istore_n (ls' := [.ref (a0), .int (p0), .int (0), .int (0)]) dX3_coinAt_3 (by decide) rfl ?_
  obtain ⟨m4, hP⟩ := hP
  refine ev_X3_coinAt_l4 (a0) (p0) o_a0 _ Q σ ?_ m4 _ _ _ rfl hP
  intro k2 t33 hP hs
  rw [hs]
  refine E_iload_n dX3_coinAt_33 rfl ?_
  exact E_iret dX3_coinAt_34 rfl ⟨_, rfl, rfl, hP⟩
theorem dX1_rank_0 : decode cX1_rank 0 = .ok (.aload_n 0, 1) := by decide +kernel
theorem dX1_rank_1 : decode cX1_rank 1 = .ok (.getfield 17, 3) := by decide +kernel
theorem dX1_rank_4 : decode cX1_rank 4 = .ok (.iconst (-1), 1) := by decide +kernel
theorem dX1_rank_5 : decode cX1_rank 5 = .ok (.invokestatic 78, 3) := by decide +kernel
theorem dX1_rank_8 : decode cX1_rank 8 = .ok (.iconst 0, 1) := by decide +kernel
theorem dX1_rank_9 : decode cX1_rank 9 = .ok (.istore_n 2, 1) := by decide +kernel
theorem dX1_rank_10 : decode cX1_rank 10 = .ok (.iload_n 2, 1) := by decide +kernel
theorem dX1_rank_11 : decode cX1_rank 11 = .ok (.aload_n 1, 1) := by decide +kernel
theorem dX1_rank_12 : decode cX1_rank 12 = .ok (.getfield 21, 3) := by decide +kernel
theorem dX1_rank_15 : decode cX1_rank 15 = .ok (.if_icmp .gt 60, 3) := by decide +kernel
theorem dX1_rank_18 : decode cX1_rank 18 = .ok (.aload_n 0, 1) := by decide +kernel
theorem dX1_rank_19 : decode cX1_rank 19 = .ok (.getfield 11, 3) := by decide +kernel
theorem dX1_rank_22 : decode cX1_rank 22 = .ok (.iload_n 2, 1) := by decide +kernel
theorem dX1_rank_23 : decode cX1_rank 23 = .ok (.laload, 1) := by decide +kernel
theorem dX1_rank_24 : decode cX1_rank 24 = .ok (.lconst 0, 1) := by decide +kernel
theorem dX1_rank_25 : decode cX1_rank 25 = .ok (.lcmp, 1) := by decide +kernel
theorem dX1_rank_26 : decode cX1_rank 26 = .ok (.ifCond .le 43, 3) := by decide +kernel
theorem dX1_rank_29 : decode cX1_rank 29 = .ok (.aload_n 1, 1) := by decide +kernel
theorem dX1_rank_30 : decode cX1_rank 30 = .ok (.iload_n 2, 1) := by decide +kernel
theorem dX1_rank_31 : decode cX1_rank 31 = .ok (.invokevirtual 42, 3) := by decide +kernel
theorem dX1_rank_34 : decode cX1_rank 34 = .ok (.istore_n 3, 1) := by decide +kernel
theorem dX1_rank_35 : decode cX1_rank 35 = .ok (.aload_n 0, 1) := by decide +kernel
theorem dX1_rank_36 : decode cX1_rank 36 = .ok (.getfield 17, 3) := by decide +kernel
theorem dX1_rank_39 : decode cX1_rank 39 = .ok (.iload_n 3, 1) := by decide +kernel
theorem dX1_rank_40 : decode cX1_rank 40 = .ok (.iaload, 1) := by decide +kernel
theorem dX1_rank_41 : decode cX1_rank 41 = .ok (.ifCond .lt 21, 3) := by decide +kernel
theorem dX1_rank_44 : decode cX1_rank 44 = .ok (.aload_n 1, 1) := by decide +kernel
theorem dX1_rank_45 : decode cX1_rank 45 = .ok (.iload_n 2, 1) := by decide +kernel
theorem dX1_rank_46 : decode cX1_rank 46 = .ok (.invokevirtual 81, 3) := by decide +kernel
theorem dX1_rank_49 : decode cX1_rank 49 = .ok (.aload_n 1, 1) := by decide +kernel
theorem dX1_rank_50 : decode cX1_rank 50 = .ok (.aload_n 0, 1) := by decide +kernel
theorem dX1_rank_51 : decode cX1_rank 51 = .ok (.getfield 17, 3) := by decide +kernel
theorem dX1_rank_54 : decode cX1_rank 54 = .ok (.iload_n 3, 1) := by decide +kernel
theorem dX1_rank_55 : decode cX1_rank 55 = .ok (.iaload, 1) := by decide +kernel
theorem dX1_rank_56 : decode cX1_rank 56 = .ok (.invokevirtual 81, 3) := by decide +kernel
theorem dX1_rank_59 : decode cX1_rank 59 = .ok (.if_icmp .le 10, 3) := by decide +kernel
theorem dX1_rank_62 : decode cX1_rank 62 = .ok (.aload_n 0, 1) := by decide +kernel
theorem dX1_rank_63 : decode cX1_rank 63 = .ok (.getfield 17, 3) := by decide +kernel
theorem dX1_rank_66 : decode cX1_rank 66 = .ok (.iload_n 3, 1) := by decide +kernel
theorem dX1_rank_67 : decode cX1_rank 67 = .ok (.iload_n 2, 1) := by decide +kernel
theorem dX1_rank_68 : decode cX1_rank 68 = .ok (.iastore, 1) := by decide +kernel
theorem dX1_rank_69 : decode cX1_rank 69 = .ok (.iinc 2 1, 3) := by decide +kernel
theorem dX1_rank_72 : decode cX1_rank 72 = .ok (.goto (-62), 3) := by decide +kernel
theorem dX1_rank_75 : decode cX1_rank 75 = .ok (.return_, 1) := by decide +kernel
def rmX1_rank : Room := { frames := 3, cells := 0, slots := 0, locals := 62 }
abbrev eX1_rank := Ev cX1_rank 4 none RX1 rmX1_rank
set_option maxRecDepth 20000 in
theorem ev_X1_rank_l10 (l1 : Nat) (o_l1 : kd (l1) = 3) (K : St → Prop) (Q : St → Prop) (hK : ∀  s, K  s → eX1_rank 75 [un, un, un, un] [] s (qV Q)) : ∀ (n : Nat) (l2 : Int32) (σ : St), P_X1_rank_l10 l1 K Q n l2 σ → eX1_rank 10 [.ref (23), .ref (l1), .int (l2), un] [] σ (qV Q) := by
  intro n
  induction n with
  | zero => intro l2 σ hP; exact hP.elim
  | succ n ih =>
    intro l2 σ hP
    rw [P_X1_rank_l10] at hP
    refine E_iload_n dX1_rank_10 rfl ?_
    refine E_aload_n dX1_rank_11 rfl ?_
    refine E_getI (j := 3) dX1_rank_12 o_l1 (by decide) rfl fd_RX1_21 ?_
    refine E_icmp_gt 75 dX1_rank_15 (by decide) (fun hc => ?_) (fun hc => ?_)
    · replace hP := hP.1 hc
      refine E_mask [false, false, false, false] rfl ?_
      exact hK  _ hP
    · replace hP := hP.2 hc
      refine E_aload_n dX1_rank_18 rfl ?_
      refine E_getR (j := 0) dX1_rank_19 (show kd 23 = 1 by decide) (by decide) rfl fd_RX1_11 (by decide) ?_
      refine E_iload_n dX1_rank_22 rfl ?_
      obtain ⟨hb, hP⟩ := hP
      refine E_lald dX1_rank_23 (ar_1_1 (show kd 23 = 1 by decide)).1 (ar_1_1 (show kd 23 = 1 by decide)).2 hb ?_
      refine E_lconst (v := 0) dX1_rank_24 (by decide) ?_
      refine E_lcmp dX1_rank_25 ?_
      refine E_if_le 69 dX1_rank_26 (by decide) (fun hc => ?_) (fun hc => ?_)
      · replace hP := hP.1 hc
        refine E_iinc (ls' := [.ref (23), .ref (l1), .int (l2 + 1), un]) dX1_rank_69 rfl rfl (by decide) rfl ?_
        refine E_goto 10 dX1_rank_72 (by decide) ?_
        exact ih (l2 + 1) _ hP
      · replace hP := hP.2 hc
        refine E_aload_n dX1_rank_29 rfl ?_
        refine E_iload_n dX1_rank_30 rfl ?_
        refine E_callV (As := [.int (l2)]) (rest := []) dX1_rank_31 cl_RX1_42 tw_85 o_l1 (by decide) rfl tw_86 ⟨rfl, rfl, Nat.le_of_ble_eq_true rfl, Nat.le_of_ble_eq_true rfl⟩ rfl rfl (Nat.le_of_ble_eq_true rfl) (mt_X3_pulledAt _ _ _ _ o_l1 hP) ?_
        intro r0 s0 hq0; obtain ⟨r31, h0, hs0, hP⟩ := hq0; subst h0; rw [hs0]
        show eX1_rank 34 [.ref (23), .ref (l1), .int (l2), un] [.int (r31)] σ _
        refine E_istore_n (ls' := [.ref (23), .ref (l1), .int (l2), .int (r31)]) dX1_rank_34 (by decide) rfl ?_
        refine E_aload_n dX1_rank_35 rfl ?_
        refine E_getR (j := 1) dX1_rank_36 (show kd 23 = 1 by decide) (by decide) rfl fd_RX1_17 (by decide) ?_
        refine E_iload_n dX1_rank_39 rfl ?_
        obtain ⟨hb, hP⟩ := hP
        refine E_iald dX1_rank_40 (ar_1_2 (show kd 23 = 1 by decide)).1 (ar_1_2 (show kd 23 = 1 by decide)).2 hb ?_
        refine E_if_lt 62 dX1_rank_41 (by decide) (fun hc => ?_) (fun hc => ?_)
        · replace hP := hP.1 hc
          refine E_aload_n dX1_rank_62 rfl ?_
          refine E_getR (j := 1) dX1_rank_63 (show kd 23 = 1 by decide) (by decide) rfl fd_RX1_17 (by decide) ?_
          refine E_iload_n dX1_rank_66 rfl ?_
          refine E_iload_n dX1_rank_67 rfl ?_
          obtain ⟨hb, hP⟩ := hP
          refine E_iast dX1_rank_68 (ar_1_2 (show kd 23 = 1 by decide)).1 (ar_1_2 (show kd 23 = 1 by decide)).2 hb ?_
          refine E_iinc (ls' := [.ref (23), .ref (l1), .int (l2 + 1), .int (r31)]) dX1_rank_69 rfl rfl (by decide) rfl ?_
          refine E_goto 10 dX1_rank_72 (by decide) ?_
          refine E_mask [true, true, true, false] rfl ?_
          exact ih (l2 + 1) _ hP
        · replace hP := hP.2 hc
          refine E_aload_n dX1_rank_44 rfl ?_
          refine E_iload_n dX1_rank_45 rfl ?_
          refine E_callV (As := [.int (l2)]) (rest := []) dX1_rank_46 cl_RX1_81 tw_121 o_l1 (by decide) rfl tw_122 ⟨rfl, rfl, Nat.le_of_ble_eq_true rfl, Nat.le_of_ble_eq_true rfl⟩ rfl rfl (Nat.le_of_ble_eq_true rfl) (mt_X3_coinAt _ _ _ _ o_l1 hP) ?_
          intro r0 s0 hq0; obtain ⟨r46, h0, hs0, hP⟩ := hq0; subst h0; rw [hs0]
          show eX1_rank 49 [.ref (23), .ref (l1), .int (l2), .int (r31)] [.int (r46)] σ _
          refine E_aload_n dX1_rank_49 rfl ?_
          refine E_aload_n dX1_rank_50 rfl ?_
          refine E_getR (j := 1) dX1_rank_51 (show kd 23 = 1 by decide) (by decide) rfl fd_RX1_17 (by decide) ?_
          refine E_iload_n dX1_rank_54 rfl ?_
          obtain ⟨hb, hP⟩ := hP
          refine E_iald dX1_rank_55 (ar_1_2 (show kd 23 = 1 by decide)).1 (ar_1_2 (show kd 23 = 1 by decide)).2 hb ?_
          refine E_callV (As := [.int (gI σ 25 r31.toNatClampNeg)]) (rest := [.int (r46)]) dX1_rank_56 cl_RX1_81 tw_121 o_l1 (by decide) rfl tw_122 ⟨rfl, rfl, Nat.le_of_ble_eq_true rfl, Nat.le_of_ble_eq_true rfl⟩ rfl rfl (Nat.le_of_ble_eq_true rfl) (mt_X3_coinAt _ _ _ _ o_l1 hP) ?_
          intro r0 s0 hq0; obtain ⟨r56, h0, hs0, hP⟩ := hq0; subst h0; rw [hs0]
          show eX1_rank 59 [.ref (23), .ref (l1), .int (l2), .int (r31)] [.int (r56), .int (r46)] σ _
          refine E_icmp_le 69 dX1_rank_59 (by decide) (fun hc => ?_) (fun hc => ?_)
          · replace hP := hP.1 hc
            refine E_iinc (ls' := [.ref (23), .ref (l1), .int (l2 + 1), .int (r31)]) dX1_rank_69 rfl rfl (by decide) rfl ?_
            refine E_goto 10 dX1_rank_72 (by decide) ?_
            refine E_mask [true, true, true, false] rfl ?_
            exact ih (l2 + 1) _ hP
          · replace hP := hP.2 hc
            refine E_aload_n dX1_rank_62 rfl ?_
            refine E_getR (j := 1) dX1_rank_63 (show kd 23 = 1 by decide) (by decide) rfl fd_RX1_17 (by decide) ?_
            refine E_iload_n dX1_rank_66 rfl ?_
            refine E_iload_n dX1_rank_67 rfl ?_
            obtain ⟨hb, hP⟩ := hP
            refine E_iast dX1_rank_68 (ar_1_2 (show kd 23 = 1 by decide)).1 (ar_1_2 (show kd 23 = 1 by decide)).2 hb ?_
            refine E_iinc (ls' := [.ref (23), .ref (l1), .int (l2 + 1), .int (r31)]) dX1_rank_69 rfl rfl (by decide) rfl ?_
            refine E_goto 10 dX1_rank_72 (by decide) ?_
            refine E_mask [true, true, true, false] rfl ?_
            exact ih (l2 + 1) _ hP
set_option maxRecDepth 20000 in
theorem mt_X1_rank (p0 : Nat) (σ : St) (Q : St → Prop) (o_p0 : kd p0 = 3) (hP : P_X1_rank p0 σ Q) : Mt yX1_rank cX1_rank 4 none rmX1_rank [.ref (23), .ref (p0)] σ (qV Q) := by
  refine Mt.of (k := 2) (ls := [.ref (23), .ref (p0), un, un]) (by decide +kernel) rfl (Nat.le_of_ble_eq_true rfl) ?_
  show eX1_rank 0 [.ref (23), .ref (p0), un, un] [] σ _
  unfold P_X1_rank at hP
  refine E_aload_n dX1_rank_0 rfl ?_
  refine E_getR (j := 1) dX1_rank_1 (show kd 23 = 1 by decide) (by decide) rfl fd_RX1_17 (by decide) ?_
  refine E_iconst (v := (-1)) dX1_rank_4 (by decide) ?_
  refine E_callS (As := [.ref (25), .int ((-1))]) (rest := []) dX1_rank_5 cl_RX1_78 tw_125 ⟨rfl, rfl, Nat.le_of_ble_eq_true rfl, Nat.le_of_ble_eq_true rfl⟩ rfl rfl (Nat.le_of_ble_eq_true rfl) (mt_J7_fill_53178 _ _ _ _ (ar_1_2 (show kd 23 = 1 by decide)).1 hP) ?_
  rintro _ t5 ⟨rfl, hP⟩
  show eX1_rank 8 [.ref (23), .ref (p0), un, un] [] t5 _
  refine E_iconst (v := 0) dX1_rank_8 (by decide) ?_
  refine E_istore_n (ls' := [.ref (23), .ref (p0), .int (0), un]) dX1_rank_9 (by decide) rfl ?_
  obtain ⟨m10, hP⟩ := hP
  refine ev_X1_rank_l10 (p0) o_p0 _ Q ?_ m10 _ _ hP
  intro  t75 hP
  exact E_vret dX1_rank_75 rfl ⟨rfl, hP⟩
theorem dX1_bestUpTo_0 : decode cX1_bestUpTo 0 = .ok (.aload_n 1, 1) := by decide +kernel
theorem dX1_bestUpTo_1 : decode cX1_bestUpTo 1 = .ok (.getfield 21, 3) := by decide +kernel
theorem dX1_bestUpTo_4 : decode cX1_bestUpTo 4 = .ok (.istore_n 3, 1) := by decide +kernel
theorem dX1_bestUpTo_5 : decode cX1_bestUpTo 5 = .ok (.iconst 1, 1) := by decide +kernel
theorem dX1_bestUpTo_6 : decode cX1_bestUpTo 6 = .ok (.istore 4, 2) := by decide +kernel
theorem dX1_bestUpTo_8 : decode cX1_bestUpTo 8 = .ok (.iload 4, 2) := by decide +kernel
theorem dX1_bestUpTo_10 : decode cX1_bestUpTo 10 = .ok (.iload_n 2, 1) := by decide +kernel
theorem dX1_bestUpTo_11 : decode cX1_bestUpTo 11 = .ok (.if_icmp .gt 40, 3) := by decide +kernel
theorem dX1_bestUpTo_14 : decode cX1_bestUpTo 14 = .ok (.aload_n 0, 1) := by decide +kernel
theorem dX1_bestUpTo_15 : decode cX1_bestUpTo 15 = .ok (.getfield 17, 3) := by decide +kernel
theorem dX1_bestUpTo_18 : decode cX1_bestUpTo 18 = .ok (.iload 4, 2) := by decide +kernel
theorem dX1_bestUpTo_20 : decode cX1_bestUpTo 20 = .ok (.iaload, 1) := by decide +kernel
theorem dX1_bestUpTo_21 : decode cX1_bestUpTo 21 = .ok (.istore 5, 2) := by decide +kernel
theorem dX1_bestUpTo_23 : decode cX1_bestUpTo 23 = .ok (.iload 5, 2) := by decide +kernel
theorem dX1_bestUpTo_25 : decode cX1_bestUpTo 25 = .ok (.ifCond .lt 20, 3) := by decide +kernel
theorem dX1_bestUpTo_28 : decode cX1_bestUpTo 28 = .ok (.aload_n 1, 1) := by decide +kernel
theorem dX1_bestUpTo_29 : decode cX1_bestUpTo 29 = .ok (.iload 5, 2) := by decide +kernel
theorem dX1_bestUpTo_31 : decode cX1_bestUpTo 31 = .ok (.invokevirtual 81, 3) := by decide +kernel
theorem dX1_bestUpTo_34 : decode cX1_bestUpTo 34 = .ok (.aload_n 1, 1) := by decide +kernel
theorem dX1_bestUpTo_35 : decode cX1_bestUpTo 35 = .ok (.iload_n 3, 1) := by decide +kernel
theorem dX1_bestUpTo_36 : decode cX1_bestUpTo 36 = .ok (.invokevirtual 81, 3) := by decide +kernel
theorem dX1_bestUpTo_39 : decode cX1_bestUpTo 39 = .ok (.if_icmp .le 6, 3) := by decide +kernel
theorem dX1_bestUpTo_42 : decode cX1_bestUpTo 42 = .ok (.iload 5, 2) := by decide +kernel
theorem dX1_bestUpTo_44 : decode cX1_bestUpTo 44 = .ok (.istore_n 3, 1) := by decide +kernel
theorem dX1_bestUpTo_45 : decode cX1_bestUpTo 45 = .ok (.iinc 4 1, 3) := by decide +kernel
theorem dX1_bestUpTo_48 : decode cX1_bestUpTo 48 = .ok (.goto (-40), 3) := by decide +kernel
theorem dX1_bestUpTo_51 : decode cX1_bestUpTo 51 = .ok (.iload_n 3, 1) := by decide +kernel
theorem dX1_bestUpTo_52 : decode cX1_bestUpTo 52 = .ok (.ireturn, 1) := by decide +kernel
def rmX1_bestUpTo : Room := { frames := 2, cells := 0, slots := 0, locals := 44 }
abbrev eX1_bestUpTo := Ev cX1_bestUpTo 6 (some .int) RX1 rmX1_bestUpTo
set_option maxRecDepth 20000 in
theorem ev_X1_bestUpTo_l8 (l1 : Nat) (l2 : Int32) (o_l1 : kd (l1) = 3) (K : Int32 → St → Prop) (Q : Int32 → Prop) (σ0 : St) (hK : ∀ k3 s, K k3 s → s = σ0 → eX1_bestUpTo 51 [un, un, un, .int (k3), un, un] [] s (qI fun x s => s = σ0 ∧ Q x)) : ∀ (n : Nat) (l3 : Int32) (l4 : Int32) (σ : St), σ = σ0 → P_X1_bestUpTo_l8 l1 l2 K Q n l3 l4 σ → eX1_bestUpTo 8 [.ref (23), .ref (l1), .int (l2), .int (l3), .int (l4), un] [] σ (qI fun x s => s = σ0 ∧ Q x) := by
  intro n
  induction n with
  | zero => intro l3 l4 σ hs hP; exact hP.elim
  | succ n ih =>
    intro l3 l4 σ hs hP
    subst hs
    rw [P_X1_bestUpTo_l8] at hP
    refine E_iload dX1_bestUpTo_8 rfl ?_
    refine E_iload_n dX1_bestUpTo_10 rfl ?_
    refine E_icmp_gt 51 dX1_bestUpTo_11 (by decide) (fun hc => ?_) (fun hc => ?_)
    · replace hP := hP.1 hc
      refine E_mask [false, false, false, true, false, false] rfl ?_
      exact hK (l3) _ hP rfl
    · replace hP := hP.2 hc
      refine E_aload_n dX1_bestUpTo_14 rfl ?_
      refine E_getR (j := 1) dX1_bestUpTo_15 (show kd 23 = 1 by decide) (by decide) rfl fd_RX1_17 (by decide) ?_
      refine E_iload dX1_bestUpTo_18 rfl ?_
      obtain ⟨hb, hP⟩ := hP
      refine E_iald dX1_bestUpTo_20 (ar_1_2 (show kd 23 = 1 by decide)).1 (ar_1_2 (show kd 23 = 1 by decide)).2 hb ?_
      refine E_istore (ls' := [.ref (23), .ref (l1), .int (l2), .int (l3), .int (l4), .int (gI σ 25 l4.toNatClampNeg)]) dX1_bestUpTo_21 (by decide) rfl ?_
      refine E_iload dX1_bestUpTo_23 rfl ?_
      refine E_if_lt 45 dX1_bestUpTo_25 (by decide) (fun hc => ?_) (fun hc => ?_)
      · replace hP := hP.1 hc
        refine E_iinc (ls' := [.ref (23), .ref (l1), .int (l2), .int (l3), .int (l4 + 1), .int (gI σ 25 l4.toNatClampNeg)]) dX1_bestUpTo_45 rfl rfl (by decide) rfl ?_
        refine E_goto 8 dX1_bestUpTo_48 (by decide) ?_
        refine E_mask [true, true, true, true, true, false] rfl ?_
        exact ih (l3) (l4 + 1) _ rfl hP
      · replace hP := hP.2 hc
        refine E_aload_n dX1_bestUpTo_28 rfl ?_
        refine E_iload dX1_bestUpTo_29 rfl ?_
        refine E_callV (As := [.int (gI σ 25 l4.toNatClampNeg)]) (rest := []) dX1_bestUpTo_31 cl_RX1_81 tw_121 o_l1 (by decide) rfl tw_122 ⟨rfl, rfl, Nat.le_of_ble_eq_true rfl, Nat.le_of_ble_eq_true rfl⟩ rfl rfl (Nat.le_of_ble_eq_true rfl) (mt_X3_coinAt _ _ _ _ o_l1 hP) ?_
        intro r0 s0 hq0; obtain ⟨r31, h0, hs0, hP⟩ := hq0; subst h0; rw [hs0]
        show eX1_bestUpTo 34 [.ref (23), .ref (l1), .int (l2), .int (l3), .int (l4), .int (gI σ 25 l4.toNatClampNeg)] [.int (r31)] σ _
        refine E_aload_n dX1_bestUpTo_34 rfl ?_
        refine E_iload_n dX1_bestUpTo_35 rfl ?_
        refine E_callV (As := [.int (l3)]) (rest := [.int (r31)]) dX1_bestUpTo_36 cl_RX1_81 tw_121 o_l1 (by decide) rfl tw_122 ⟨rfl, rfl, Nat.le_of_ble_eq_true rfl, Nat.le_of_ble_eq_true rfl⟩ rfl rfl (Nat.le_of_ble_eq_true rfl) (mt_X3_coinAt _ _ _ _ o_l1 hP) ?_
        intro r0 s0 hq0; obtain ⟨r36, h0, hs0, hP⟩ := hq0; subst h0; rw [hs0]
        show eX1_bestUpTo 39 [.ref (23), .ref (l1), .int (l2), .int (l3), .int (l4), .int (gI σ 25 l4.toNatClampNeg)] [.int (r36), .int (r31)] σ _
        refine E_icmp_le 45 dX1_bestUpTo_39 (by decide) (fun hc => ?_) (fun hc => ?_)
        · replace hP := hP.1 hc
          refine E_iinc (ls' := [.ref (23), .ref (l1), .int (l2), .int (l3), .int (l4 + 1), .int (gI σ 25 l4.toNatClampNeg)]) dX1_bestUpTo_45 rfl rfl (by decide) rfl ?_
          refine E_goto 8 dX1_bestUpTo_48 (by decide) ?_
          refine E_mask [true, true, true, true, true, false] rfl ?_
          exact ih (l3) (l4 + 1) _ rfl hP
        · replace hP := hP.2 hc
          refine E_iload dX1_bestUpTo_42 rfl ?_
          refine E_istore_n (ls' := [.ref (23), .ref (l1), .int (l2), .int (gI σ 25 l4.toNatClampNeg), .int (l4), .int (gI σ 25 l4.toNatClampNeg)]) dX1_bestUpTo_44 (by decide) rfl ?_
          refine E_iinc (ls' := [.ref (23), .ref (l1), .int (l2), .int (gI σ 25 l4.toNatClampNeg), .int (l4 + 1), .int (gI σ 25 l4.toNatClampNeg)]) dX1_bestUpTo_45 rfl rfl (by decide) rfl ?_
          refine E_goto 8 dX1_bestUpTo_48 (by decide) ?_
          refine E_mask [true, true, true, true, true, false] rfl ?_
          exact ih (gI σ 25 l4.toNatClampNeg) (l4 + 1) _ rfl hP
set_option maxRecDepth 20000 in
theorem mt_X1_bestUpTo (p0 : Nat) (p1 : Int32) (σ : St) (Q : Int32 → Prop) (o_p0 : kd p0 = 3) (hP : P_X1_bestUpTo p0 p1 σ Q) : Mt yX1_bestUpTo cX1_bestUpTo 6 (some .int) rmX1_bestUpTo [.ref (23), .ref (p0), .int (p1)] σ (qI fun x s => s = σ ∧ Q x) := by
  refine Mt.of (k := 3) (ls := [.ref (23), .ref (p0), .int (p1), un, un, un]) (by decide +kernel) rfl (Nat.le_of_ble_eq_true rfl) ?_
  show eX1_bestUpTo 0 [.ref (23), .ref (p0), .int (p1), un, un, un] [] σ _
  unfold P_X1_bestUpTo at hP
  refine E_aload_n dX1_bestUpTo_0 rfl ?_
  refine E_getI (j := 3) dX1_bestUpTo_1 o_p0 (by decide) rfl fd_RX1_21 ?_
  refine E_istore_n (ls' := [.ref (23), .ref (p0), .int (p1), .int (gI σ p0 3), un, un]) dX1_bestUpTo_4 (by decide) rfl ?_
  refine E_iconst (v := 1) dX1_bestUpTo_5 (by decide) ?_
  refine E_istore (ls' := [.ref (23), .ref (p0), .int (p1), .int (gI σ p0 3), .int (1), un]) dX1_bestUpTo_6 (by decide) rfl ?_
  obtain ⟨m8, hP⟩ := hP
  refine ev_X1_bestUpTo_l8 (p0) (p1) o_p0 _ Q σ ?_ m8 _ _ _ rfl hP
  intro k3 t51 hP hs
  rw [hs]
  refine E_iload_n dX1_bestUpTo_51 rfl ?_
  exact E_iret dX1_bestUpTo_52 rfl ⟨_, rfl, rfl, hP⟩
theorem dX1_waysBy_0 : decode cX1_waysBy 0 = .ok (.lconst 0, 1) := by decide +kernel
theorem dX1_waysBy_1 : decode cX1_waysBy 1 = .ok (.lstore_n 3, 1) := by decide +kernel
theorem dX1_waysBy_2 : decode cX1_waysBy 2 = .ok (.iconst 0, 1) := by decide +kernel
theorem dX1_waysBy_3 : decode cX1_waysBy 3 = .ok (.istore 5, 2) := by decide +kernel
theorem dX1_waysBy_5 : decode cX1_waysBy 5 = .ok (.iload 5, 2) := by decide +kernel
theorem dX1_waysBy_7 : decode cX1_waysBy 7 = .ok (.aload_n 1, 1) := by decide +kernel
theorem dX1_waysBy_8 : decode cX1_waysBy 8 = .ok (.getfield 21, 3) := by decide +kernel
theorem dX1_waysBy_11 : decode cX1_waysBy 11 = .ok (.if_icmp .gt 41, 3) := by decide +kernel
theorem dX1_waysBy_14 : decode cX1_waysBy 14 = .ok (.aload_n 0, 1) := by decide +kernel
theorem dX1_waysBy_15 : decode cX1_waysBy 15 = .ok (.getfield 11, 3) := by decide +kernel
theorem dX1_waysBy_18 : decode cX1_waysBy 18 = .ok (.iload 5, 2) := by decide +kernel
theorem dX1_waysBy_20 : decode cX1_waysBy 20 = .ok (.laload, 1) := by decide +kernel
theorem dX1_waysBy_21 : decode cX1_waysBy 21 = .ok (.lconst 0, 1) := by decide +kernel
theorem dX1_waysBy_22 : decode cX1_waysBy 22 = .ok (.lcmp, 1) := by decide +kernel
theorem dX1_waysBy_23 : decode cX1_waysBy 23 = .ok (.ifCond .le 23, 3) := by decide +kernel
theorem dX1_waysBy_26 : decode cX1_waysBy 26 = .ok (.aload_n 1, 1) := by decide +kernel
theorem dX1_waysBy_27 : decode cX1_waysBy 27 = .ok (.iload 5, 2) := by decide +kernel
theorem dX1_waysBy_29 : decode cX1_waysBy 29 = .ok (.invokevirtual 42, 3) := by decide +kernel
theorem dX1_waysBy_32 : decode cX1_waysBy 32 = .ok (.iload_n 2, 1) := by decide +kernel
theorem dX1_waysBy_33 : decode cX1_waysBy 33 = .ok (.if_icmp .ne 13, 3) := by decide +kernel
theorem dX1_waysBy_36 : decode cX1_waysBy 36 = .ok (.lload_n 3, 1) := by decide +kernel
theorem dX1_waysBy_37 : decode cX1_waysBy 37 = .ok (.aload_n 0, 1) := by decide +kernel
theorem dX1_waysBy_38 : decode cX1_waysBy 38 = .ok (.getfield 11, 3) := by decide +kernel
theorem dX1_waysBy_41 : decode cX1_waysBy 41 = .ok (.iload 5, 2) := by decide +kernel
theorem dX1_waysBy_43 : decode cX1_waysBy 43 = .ok (.laload, 1) := by decide +kernel
theorem dX1_waysBy_44 : decode cX1_waysBy 44 = .ok (.ladd, 1) := by decide +kernel
theorem dX1_waysBy_45 : decode cX1_waysBy 45 = .ok (.lstore_n 3, 1) := by decide +kernel
theorem dX1_waysBy_46 : decode cX1_waysBy 46 = .ok (.iinc 5 1, 3) := by decide +kernel
theorem dX1_waysBy_49 : decode cX1_waysBy 49 = .ok (.goto (-44), 3) := by decide +kernel
theorem dX1_waysBy_52 : decode cX1_waysBy 52 = .ok (.lload_n 3, 1) := by decide +kernel
theorem dX1_waysBy_53 : decode cX1_waysBy 53 = .ok (.lreturn, 1) := by decide +kernel
def rmX1_waysBy : Room := { frames := 3, cells := 0, slots := 0, locals := 62 }
abbrev eX1_waysBy := Ev cX1_waysBy 6 (some .long) RX1 rmX1_waysBy
set_option maxRecDepth 20000 in
theorem ev_X1_waysBy_l5 (l1 : Nat) (l2 : Int32) (o_l1 : kd (l1) = 3) (K : Int64 → St → Prop) (Q : Int64 → Prop) (σ0 : St) (hK : ∀ k3 s, K k3 s → s = σ0 → eX1_waysBy 52 [un, un, un, .long (k3), un, un] [] s (qL fun x s => s = σ0 ∧ Q x)) : ∀ (n : Nat) (l3 : Int64) (l5 : Int32) (σ : St), σ = σ0 → P_X1_waysBy_l5 l1 l2 K Q n l3 l5 σ → eX1_waysBy 5 [.ref (23), .ref (l1), .int (l2), .long (l3), un, .int (l5)] [] σ (qL fun x s => s = σ0 ∧ Q x) := by
  intro n
  induction n with
  | zero => intro l3 l5 σ hs hP; exact hP.elim
  | succ n ih =>
    intro l3 l5 σ hs hP
    subst hs
    rw [P_X1_waysBy_l5] at hP
    refine E_iload dX1_waysBy_5 rfl ?_
    refine E_aload_n dX1_waysBy_7 rfl ?_
    refine E_getI (j := 3) dX1_waysBy_8 o_l1 (by decide) rfl fd_RX1_21 ?_
    refine E_icmp_gt 52 dX1_waysBy_11 (by decide) (fun hc => ?_) (fun hc => ?_)
    · replace hP := hP.1 hc
      refine E_mask [false, false, false, true, false, false] rfl ?_
      exact hK (l3) _ hP rfl
    · replace hP := hP.2 hc
      refine E_aload_n dX1_waysBy_14 rfl ?_
      refine E_getR (j := 0) dX1_waysBy_15 (show kd 23 = 1 by decide) (by decide) rfl fd_RX1_11 (by decide) ?_
      refine E_iload dX1_waysBy_18 rfl ?_
      obtain ⟨hb, hP⟩ := hP
      refine E_lald dX1_waysBy_20 (ar_1_1 (show kd 23 = 1 by decide)).1 (ar_1_1 (show kd 23 = 1 by decide)).2 hb ?_
      refine E_lconst (v := 0) dX1_waysBy_21 (by decide) ?_
      refine E_lcmp dX1_waysBy_22 ?_
      refine E_if_le 46 dX1_waysBy_23 (by decide) (fun hc => ?_) (fun hc => ?_)
      · replace hP := hP.1 hc
        refine E_iinc (ls' := [.ref (23), .ref (l1), .int (l2), .long (l3), un, .int (l5 + 1)]) dX1_waysBy_46 rfl rfl (by decide) rfl ?_
        refine E_goto 5 dX1_waysBy_49 (by decide) ?_
        exact ih (l3) (l5 + 1) _ rfl hP
      · replace hP := hP.2 hc
        refine E_aload_n dX1_waysBy_26 rfl ?_
        refine E_iload dX1_waysBy_27 rfl ?_
        refine E_callV (As := [.int (l5)]) (rest := []) dX1_waysBy_29 cl_RX1_42 tw_85 o_l1 (by decide) rfl tw_86 ⟨rfl, rfl, Nat.le_of_ble_eq_true rfl, Nat.le_of_ble_eq_true rfl⟩ rfl rfl (Nat.le_of_ble_eq_true rfl) (mt_X3_pulledAt _ _ _ _ o_l1 hP) ?_
        intro r0 s0 hq0; obtain ⟨r29, h0, hs0, hP⟩ := hq0; subst h0; rw [hs0]
        show eX1_waysBy 32 [.ref (23), .ref (l1), .int (l2), .long (l3), un, .int (l5)] [.int (r29)] σ _
        refine E_iload_n dX1_waysBy_32 rfl ?_
        refine E_icmp_ne 46 dX1_waysBy_33 (by decide) (fun hc => ?_) (fun hc => ?_)
        · replace hP := hP.1 hc
          refine E_iinc (ls' := [.ref (23), .ref (l1), .int (l2), .long (l3), un, .int (l5 + 1)]) dX1_waysBy_46 rfl rfl (by decide) rfl ?_
          refine E_goto 5 dX1_waysBy_49 (by decide) ?_
          exact ih (l3) (l5 + 1) _ rfl hP
        · replace hP := hP.2 hc
          refine E_lload_n dX1_waysBy_36 rfl ?_
          refine E_aload_n dX1_waysBy_37 rfl ?_
          refine E_getR (j := 0) dX1_waysBy_38 (show kd 23 = 1 by decide) (by decide) rfl fd_RX1_11 (by decide) ?_
          refine E_iload dX1_waysBy_41 rfl ?_
          obtain ⟨hb, hP⟩ := hP
          refine E_lald dX1_waysBy_43 (ar_1_1 (show kd 23 = 1 by decide)).1 (ar_1_1 (show kd 23 = 1 by decide)).2 hb ?_
          refine E_ladd dX1_waysBy_44 ?_
          refine E_lstore_n (ls' := [.ref (23), .ref (l1), .int (l2), .long (l3 + (gL σ 24 l5.toNatClampNeg)), un, .int (l5)]) dX1_waysBy_45 (by decide) rfl ?_
          refine E_iinc (ls' := [.ref (23), .ref (l1), .int (l2), .long (l3 + (gL σ 24 l5.toNatClampNeg)), un, .int (l5 + 1)]) dX1_waysBy_46 rfl rfl (by decide) rfl ?_
          refine E_goto 5 dX1_waysBy_49 (by decide) ?_
          exact ih (l3 + (gL σ 24 l5.toNatClampNeg)) (l5 + 1) _ rfl hP
set_option maxRecDepth 20000 in
theorem mt_X1_waysBy (p0 : Nat) (p1 : Int32) (σ : St) (Q : Int64 → Prop) (o_p0 : kd p0 = 3) (hP : P_X1_waysBy p0 p1 σ Q) : Mt yX1_waysBy cX1_waysBy 6 (some .long) rmX1_waysBy [.ref (23), .ref (p0), .int (p1)] σ (qL fun x s => s = σ ∧ Q x) := by
  refine Mt.of (k := 3) (ls := [.ref (23), .ref (p0), .int (p1), un, un, un]) (by decide +kernel) rfl (Nat.le_of_ble_eq_true rfl) ?_
  show eX1_waysBy 0 [.ref (23), .ref (p0), .int (p1), un, un, un] [] σ _
  unfold P_X1_waysBy at hP
  refine E_lconst (v := 0) dX1_waysBy_0 (by decide) ?_
  refine E_lstore_n (ls' := [.ref (23), .ref (p0), .int (p1), .long (0), un, un]) dX1_waysBy_1 (by decide) rfl ?_
  refine E_iconst (v := 0) dX1_waysBy_2 (by decide) ?_
  refine E_istore (ls' := [.ref (23), .ref (p0), .int (p1), .long (0), un, .int (0)]) dX1_waysBy_3 (by decide) rfl ?_
  obtain ⟨m5, hP⟩ := hP
  refine ev_X1_waysBy_l5 (p0) (p1) o_p0 _ Q σ ?_ m5 _ _ _ rfl hP
  intro k3 t52 hP hs
  rw [hs]
  refine E_lload_n dX1_waysBy_52 rfl ?_
  exact E_lret dX1_waysBy_53 rfl ⟨_, rfl, rfl, hP⟩
theorem dJ7_fill_d0a16_0 : decode cJ7_fill_d0a16 0 = .ok (.iconst 0, 1) := by decide +kernel
theorem dJ7_fill_d0a16_1 : decode cJ7_fill_d0a16 1 = .ok (.istore_n 3, 1) := by decide +kernel
theorem dJ7_fill_d0a16_2 : decode cJ7_fill_d0a16 2 = .ok (.aload_n 0, 1) := by decide +kernel
theorem dJ7_fill_d0a16_3 : decode cJ7_fill_d0a16 3 = .ok (.arraylength, 1) := by decide +kernel
theorem dJ7_fill_d0a16_4 : decode cJ7_fill_d0a16 4 = .ok (.istore 4, 2) := by decide +kernel
theorem dJ7_fill_d0a16_6 : decode cJ7_fill_d0a16 6 = .ok (.iload_n 3, 1) := by decide +kernel
theorem dJ7_fill_d0a16_7 : decode cJ7_fill_d0a16 7 = .ok (.iload 4, 2) := by decide +kernel
theorem dJ7_fill_d0a16_9 : decode cJ7_fill_d0a16 9 = .ok (.if_icmp .ge 13, 3) := by decide +kernel
theorem dJ7_fill_d0a16_12 : decode cJ7_fill_d0a16 12 = .ok (.aload_n 0, 1) := by decide +kernel
theorem dJ7_fill_d0a16_13 : decode cJ7_fill_d0a16 13 = .ok (.iload_n 3, 1) := by decide +kernel
theorem dJ7_fill_d0a16_14 : decode cJ7_fill_d0a16 14 = .ok (.lload_n 1, 1) := by decide +kernel
theorem dJ7_fill_d0a16_15 : decode cJ7_fill_d0a16 15 = .ok (.lastore, 1) := by decide +kernel
theorem dJ7_fill_d0a16_16 : decode cJ7_fill_d0a16 16 = .ok (.iinc 3 1, 3) := by decide +kernel
theorem dJ7_fill_d0a16_19 : decode cJ7_fill_d0a16 19 = .ok (.goto (-13), 3) := by decide +kernel
theorem dJ7_fill_d0a16_22 : decode cJ7_fill_d0a16 22 = .ok (.return_, 1) := by decide +kernel
def rmJ7_fill_d0a16 : Room := { frames := 0, cells := 0, slots := 0, locals := 0 }
abbrev eJ7_fill_d0a16 := Ev cJ7_fill_d0a16 5 none RJ7 rmJ7_fill_d0a16
set_option maxRecDepth 20000 in
theorem ev_J7_fill_d0a16_l6 (l0 : Nat) (l1 : Int64) (l4 : Int32) (o_l0 : kd (l0) = 9) (K : St → Prop) (Q : St → Prop) (hK : ∀  s, K  s → eJ7_fill_d0a16 22 [un, un, un, un, un] [] s (qV Q)) : ∀ (n : Nat) (l3 : Int32) (σ : St), P_J7_fill_d0a16_l6 l0 l1 l4 K Q n l3 σ → eJ7_fill_d0a16 6 [.ref (l0), .long (l1), un, .int (l3), .int (l4)] [] σ (qV Q) := by
  intro n
  induction n with
  | zero => intro l3 σ hP; exact hP.elim
  | succ n ih =>
    intro l3 σ hP
    rw [P_J7_fill_d0a16_l6] at hP
    refine E_iload_n dJ7_fill_d0a16_6 rfl ?_
    refine E_iload dJ7_fill_d0a16_7 rfl ?_
    refine E_icmp_ge 22 dJ7_fill_d0a16_9 (by decide) (fun hc => ?_) (fun hc => ?_)
    · replace hP := hP.1 hc
      refine E_mask [false, false, false, false, false] rfl ?_
      exact hK  _ hP
    · replace hP := hP.2 hc
      refine E_aload_n dJ7_fill_d0a16_12 rfl ?_
      refine E_iload_n dJ7_fill_d0a16_13 rfl ?_
      refine E_lload_n dJ7_fill_d0a16_14 rfl ?_
      obtain ⟨hb, hP⟩ := hP
      refine E_last dJ7_fill_d0a16_15 o_l0 rfl hb ?_
      refine E_iinc (ls' := [.ref (l0), .long (l1), un, .int (l3 + 1), .int (l4)]) dJ7_fill_d0a16_16 rfl rfl (by decide) rfl ?_
      refine E_goto 6 dJ7_fill_d0a16_19 (by decide) ?_
      exact ih (l3 + 1) _ hP
set_option maxRecDepth 20000 in
theorem mt_J7_fill_d0a16 (p0 : Nat) (p1 : Int64) (σ : St) (Q : St → Prop) (o_p0 : kd p0 = 9) (hP : P_J7_fill_d0a16 p0 p1 σ Q) : Mt yJ7_fill_d0a16 cJ7_fill_d0a16 5 none rmJ7_fill_d0a16 [.ref (p0), .long (p1)] σ (qV Q) := by
  refine Mt.of (k := 2) (ls := [.ref (p0), .long (p1), un, un, un]) (by decide +kernel) rfl (Nat.le_of_ble_eq_true rfl) ?_
  show eJ7_fill_d0a16 0 [.ref (p0), .long (p1), un, un, un] [] σ _
  unfold P_J7_fill_d0a16 at hP
  refine E_iconst (v := 0) dJ7_fill_d0a16_0 (by decide) ?_
  refine E_istore_n (ls' := [.ref (p0), .long (p1), un, .int (0), un]) dJ7_fill_d0a16_1 (by decide) rfl ?_
  refine E_aload_n dJ7_fill_d0a16_2 rfl ?_
  refine E_alenL (v := Int32.ofNat (ln p0)) dJ7_fill_d0a16_3 o_p0 rfl rfl ?_
  refine E_istore (ls' := [.ref (p0), .long (p1), un, .int (0), .int (Int32.ofNat (ln p0))]) dJ7_fill_d0a16_4 (by decide) rfl ?_
  obtain ⟨m6, hP⟩ := hP
  refine ev_J7_fill_d0a16_l6 (p0) (p1) (Int32.ofNat (ln p0)) o_p0 _ Q ?_ m6 _ _ hP
  intro  t22 hP
  exact E_vret dJ7_fill_d0a16_22 rfl ⟨rfl, hP⟩
theorem dX2_layOut_0 : decode cX2_layOut 0 = .ok (.aload_n 0, 1) := by decide +kernel
theorem dX2_layOut_1 : decode cX2_layOut 1 = .ok (.iload_n 1, 1) := by decide +kernel
theorem dX2_layOut_2 : decode cX2_layOut 2 = .ok (.putfield 15, 3) := by decide +kernel
theorem dX2_layOut_5 : decode cX2_layOut 5 = .ok (.aload_n 0, 1) := by decide +kernel
theorem dX2_layOut_6 : decode cX2_layOut 6 = .ok (.iload_n 1, 1) := by decide +kernel
theorem dX2_layOut_7 : decode cX2_layOut 7 = .ok (.ifCond .ne 7, 3) := by decide +kernel
theorem dX2_layOut_10 : decode cX2_layOut 10 = .ok (.iconst 0, 1) := by decide +kernel
theorem dX2_layOut_11 : decode cX2_layOut 11 = .ok (.goto 4, 3) := by decide +kernel
theorem dX2_layOut_14 : decode cX2_layOut 14 = .ok (.iload_n 2, 1) := by decide +kernel
theorem dX2_layOut_15 : decode cX2_layOut 15 = .ok (.putfield 19, 3) := by decide +kernel
theorem dX2_layOut_18 : decode cX2_layOut 18 = .ok (.aload_n 0, 1) := by decide +kernel
theorem dX2_layOut_19 : decode cX2_layOut 19 = .ok (.getfield 9, 3) := by decide +kernel
theorem dX2_layOut_22 : decode cX2_layOut 22 = .ok (.lconst 0, 1) := by decide +kernel
theorem dX2_layOut_23 : decode cX2_layOut 23 = .ok (.invokestatic 22, 3) := by decide +kernel
theorem dX2_layOut_26 : decode cX2_layOut 26 = .ok (.return_, 1) := by decide +kernel
def rmX2_layOut : Room := { frames := 1, cells := 0, slots := 0, locals := 24 }
abbrev eX2_layOut := Ev cX2_layOut 3 none RX2 rmX2_layOut
set_option maxRecDepth 20000 in
theorem mt_X2_layOut (a0 : Nat) (p0 : Int32) (p1 : Int32) (σ : St) (Q : St → Prop) (o_a0 : kd a0 = 2) (hP : P_X2_layOut a0 p0 p1 σ Q) : Mt yX2_layOut cX2_layOut 3 none rmX2_layOut [.ref (a0), .int (p0), .int (p1)] σ (qV Q) := by
  refine Mt.of (k := 0) (ls := [.ref (a0), .int (p0), .int (p1)]) (by decide +kernel) rfl (Nat.le_of_ble_eq_true rfl) ?_
  show eX2_layOut 0 [.ref (a0), .int (p0), .int (p1)] [] σ _
  unfold P_X2_layOut at hP
  refine E_aload_n dX2_layOut_0 rfl ?_
  refine E_iload_n dX2_layOut_1 rfl ?_
  refine E_putI (j := 1) dX2_layOut_2 o_a0 (by decide) rfl fd_RX2_15 fp_2_1 ?_
  refine E_aload_n dX2_layOut_5 rfl ?_
  refine E_iload_n dX2_layOut_6 rfl ?_
  refine E_if_ne 14 dX2_layOut_7 (by decide) (fun hc => ?_) (fun hc => ?_)
  · replace hP := hP.1 hc
    refine E_iload_n dX2_layOut_14 rfl ?_
    refine E_putI (j := 2) dX2_layOut_15 o_a0 (by decide) rfl fd_RX2_19 fp_2_2 ?_
    refine E_aload_n dX2_layOut_18 rfl ?_
    refine E_getR (j := 0) dX2_layOut_19 o_a0 (by decide) rfl fd_RX2_9 (by decide) ?_
    refine E_lconst (v := 0) dX2_layOut_22 (by decide) ?_
    refine E_callS (As := [.ref (a0 + 1), .long (0)]) (rest := []) dX2_layOut_23 cl_RX2_22 tw_129 ⟨rfl, rfl, Nat.le_of_ble_eq_true rfl, Nat.le_of_ble_eq_true rfl⟩ rfl rfl (Nat.le_of_ble_eq_true rfl) (mt_J7_fill_d0a16 _ _ _ _ (ar_2_1 o_a0).1 hP) ?_
    rintro _ t23 ⟨rfl, hP⟩
    show eX2_layOut 26 [.ref (a0), .int (p0), .int (p1)] [] t23 _
    exact E_vret dX2_layOut_26 rfl ⟨rfl, hP⟩
  · replace hP := hP.2 hc
    refine E_iconst (v := 0) dX2_layOut_10 (by decide) ?_
    refine E_goto 15 dX2_layOut_11 (by decide) ?_
    refine E_putI (j := 2) dX2_layOut_15 o_a0 (by decide) rfl fd_RX2_19 fp_2_2 ?_
    refine E_aload_n dX2_layOut_18 rfl ?_
    refine E_getR (j := 0) dX2_layOut_19 o_a0 (by decide) rfl fd_RX2_9 (by decide) ?_
    refine E_lconst (v := 0) dX2_layOut_22 (by decide) ?_
    refine E_callS (As := [.ref (a0 + 1), .long (0)]) (rest := []) dX2_layOut_23 cl_RX2_22 tw_129 ⟨rfl, rfl, Nat.le_of_ble_eq_true rfl, Nat.le_of_ble_eq_true rfl⟩ rfl rfl (Nat.le_of_ble_eq_true rfl) (mt_J7_fill_d0a16 _ _ _ _ (ar_2_1 o_a0).1 hP) ?_
    rintro _ t23 ⟨rfl, hP⟩
    show eX2_layOut 26 [.ref (a0), .int (p0), .int (p1)] [] t23 _
    exact E_vret dX2_layOut_26 rfl ⟨rfl, hP⟩
theorem dX2_put_0 : decode cX2_put 0 = .ok (.bipush 64, 2) := by decide +kernel
theorem dX2_put_2 : decode cX2_put 2 = .ok (.aload_n 0, 1) := by decide +kernel
theorem dX2_put_3 : decode cX2_put 3 = .ok (.getfield 15, 3) := by decide +kernel
theorem dX2_put_6 : decode cX2_put 6 = .ok (.isub, 1) := by decide +kernel
theorem dX2_put_7 : decode cX2_put 7 = .ok (.istore 4, 2) := by decide +kernel
theorem dX2_put_9 : decode cX2_put 9 = .ok (.aload_n 0, 1) := by decide +kernel
theorem dX2_put_10 : decode cX2_put 10 = .ok (.getfield 9, 3) := by decide +kernel
theorem dX2_put_13 : decode cX2_put 13 = .ok (.iload_n 1, 1) := by decide +kernel
theorem dX2_put_14 : decode cX2_put 14 = .ok (.lload_n 2, 1) := by decide +kernel
theorem dX2_put_15 : decode cX2_put 15 = .ok (.iload 4, 2) := by decide +kernel
theorem dX2_put_17 : decode cX2_put 17 = .ok (.lshl, 1) := by decide +kernel
theorem dX2_put_18 : decode cX2_put 18 = .ok (.iload 4, 2) := by decide +kernel
theorem dX2_put_20 : decode cX2_put 20 = .ok (.lshr, 1) := by decide +kernel
theorem dX2_put_21 : decode cX2_put 21 = .ok (.lastore, 1) := by decide +kernel
theorem dX2_put_22 : decode cX2_put 22 = .ok (.return_, 1) := by decide +kernel
def rmX2_put : Room := { frames := 0, cells := 0, slots := 0, locals := 0 }
abbrev eX2_put := Ev cX2_put 5 none RX2 rmX2_put
set_option maxRecDepth 20000 in
theorem mt_X2_put (a0 : Nat) (p0 : Int32) (p1 : Int64) (σ : St) (Q : St → Prop) (o_a0 : kd a0 = 2) (hP : P_X2_put a0 p0 p1 σ Q) : Mt yX2_put cX2_put 5 none rmX2_put [.ref (a0), .int (p0), .long (p1)] σ (qV Q) := by
  refine Mt.of (k := 1) (ls := [.ref (a0), .int (p0), .long (p1), un, un]) (by decide +kernel) rfl (Nat.le_of_ble_eq_true rfl) ?_
  show eX2_put 0 [.ref (a0), .int (p0), .long (p1), un, un] [] σ _
  unfold P_X2_put at hP
  refine E_bipush (v := 64) dX2_put_0 (by decide) ?_
  refine E_aload_n dX2_put_2 rfl ?_
  refine E_getI (j := 1) dX2_put_3 o_a0 (by decide) rfl fd_RX2_15 ?_
  refine E_isub dX2_put_6 ?_
  refine E_istore (ls' := [.ref (a0), .int (p0), .long (p1), un, .int (64 - (gI σ a0 1))]) dX2_put_7 (by decide) rfl ?_
  refine E_aload_n dX2_put_9 rfl ?_
  refine E_getR (j := 0) dX2_put_10 o_a0 (by decide) rfl fd_RX2_9 (by decide) ?_
  refine E_iload_n dX2_put_13 rfl ?_
  refine E_lload_n dX2_put_14 rfl ?_
  refine E_iload dX2_put_15 rfl ?_
  refine E_lshl dX2_put_17 ?_
  refine E_iload dX2_put_18 rfl ?_
  refine E_lshr dX2_put_20 ?_
  obtain ⟨hb, hP⟩ := hP
  refine E_last dX2_put_21 (ar_2_1 o_a0).1 (ar_2_1 o_a0).2 hb ?_
  exact E_vret dX2_put_22 rfl ⟨rfl, hP⟩
theorem dX2_hasPart_0 : decode cX2_hasPart 0 = .ok (.iload_n 1, 1) := by decide +kernel
theorem dX2_hasPart_1 : decode cX2_hasPart 1 = .ok (.ifCond .lt 29, 3) := by decide +kernel
theorem dX2_hasPart_4 : decode cX2_hasPart 4 = .ok (.iload_n 2, 1) := by decide +kernel
theorem dX2_hasPart_5 : decode cX2_hasPart 5 = .ok (.ifCond .lt 25, 3) := by decide +kernel
theorem dX2_hasPart_8 : decode cX2_hasPart 8 = .ok (.iload_n 2, 1) := by decide +kernel
theorem dX2_hasPart_9 : decode cX2_hasPart 9 = .ok (.aload_n 0, 1) := by decide +kernel
theorem dX2_hasPart_10 : decode cX2_hasPart 10 = .ok (.getfield 19, 3) := by decide +kernel
theorem dX2_hasPart_13 : decode cX2_hasPart 13 = .ok (.if_icmp .gt 17, 3) := by decide +kernel
theorem dX2_hasPart_16 : decode cX2_hasPart 16 = .ok (.iload_n 1, 1) := by decide +kernel
theorem dX2_hasPart_17 : decode cX2_hasPart 17 = .ok (.aload_n 0, 1) := by decide +kernel
theorem dX2_hasPart_18 : decode cX2_hasPart 18 = .ok (.getfield 19, 3) := by decide +kernel
theorem dX2_hasPart_21 : decode cX2_hasPart 21 = .ok (.iload_n 2, 1) := by decide +kernel
theorem dX2_hasPart_22 : decode cX2_hasPart 22 = .ok (.isub, 1) := by decide +kernel
theorem dX2_hasPart_23 : decode cX2_hasPart 23 = .ok (.if_icmp .gt 7, 3) := by decide +kernel
theorem dX2_hasPart_26 : decode cX2_hasPart 26 = .ok (.iconst 1, 1) := by decide +kernel
theorem dX2_hasPart_27 : decode cX2_hasPart 27 = .ok (.goto 4, 3) := by decide +kernel
theorem dX2_hasPart_30 : decode cX2_hasPart 30 = .ok (.iconst 0, 1) := by decide +kernel
theorem dX2_hasPart_31 : decode cX2_hasPart 31 = .ok (.ireturn, 1) := by decide +kernel
def rmX2_hasPart : Room := { frames := 0, cells := 0, slots := 0, locals := 0 }
abbrev eX2_hasPart := Ev cX2_hasPart 3 (some .boolean) RX2 rmX2_hasPart
set_option maxRecDepth 20000 in
theorem mt_X2_hasPart (a0 : Nat) (p0 : Int32) (p1 : Int32) (σ : St) (Q : Bool → Prop) (o_a0 : kd a0 = 2) (hP : P_X2_hasPart a0 p0 p1 σ Q) : Mt yX2_hasPart cX2_hasPart 3 (some .boolean) rmX2_hasPart [.ref (a0), .int (p0), .int (p1)] σ (qB fun x s => s = σ ∧ Q x) := by
  refine Mt.of (k := 0) (ls := [.ref (a0), .int (p0), .int (p1)]) (by decide +kernel) rfl (Nat.le_of_ble_eq_true rfl) ?_
  show eX2_hasPart 0 [.ref (a0), .int (p0), .int (p1)] [] σ _
  unfold P_X2_hasPart at hP
  refine E_iload_n dX2_hasPart_0 rfl ?_
  refine E_if_lt 30 dX2_hasPart_1 (by decide) (fun hc => ?_) (fun hc => ?_)
  · replace hP := hP.1 hc
    refine E_iconst (v := 0) dX2_hasPart_30 (by decide) ?_
    exact E_nret dX2_hasPart_31 rfl (nar_b false) ⟨false, rfl, rfl, hP⟩
  · replace hP := hP.2 hc
    refine E_iload_n dX2_hasPart_4 rfl ?_
    refine E_if_lt 30 dX2_hasPart_5 (by decide) (fun hc => ?_) (fun hc => ?_)
    · replace hP := hP.1 hc
      refine E_iconst (v := 0) dX2_hasPart_30 (by decide) ?_
      exact E_nret dX2_hasPart_31 rfl (nar_b false) ⟨false, rfl, rfl, hP⟩
    · replace hP := hP.2 hc
      refine E_iload_n dX2_hasPart_8 rfl ?_
      refine E_aload_n dX2_hasPart_9 rfl ?_
      refine E_getI (j := 2) dX2_hasPart_10 o_a0 (by decide) rfl fd_RX2_19 ?_
      refine E_icmp_gt 30 dX2_hasPart_13 (by decide) (fun hc => ?_) (fun hc => ?_)
      · replace hP := hP.1 hc
        refine E_iconst (v := 0) dX2_hasPart_30 (by decide) ?_
        exact E_nret dX2_hasPart_31 rfl (nar_b false) ⟨false, rfl, rfl, hP⟩
      · replace hP := hP.2 hc
        refine E_iload_n dX2_hasPart_16 rfl ?_
        refine E_aload_n dX2_hasPart_17 rfl ?_
        refine E_getI (j := 2) dX2_hasPart_18 o_a0 (by decide) rfl fd_RX2_19 ?_
        refine E_iload_n dX2_hasPart_21 rfl ?_
        refine E_isub dX2_hasPart_22 ?_
        refine E_icmp_gt 30 dX2_hasPart_23 (by decide) (fun hc => ?_) (fun hc => ?_)
        · replace hP := hP.1 hc
          refine E_iconst (v := 0) dX2_hasPart_30 (by decide) ?_
          exact E_nret dX2_hasPart_31 rfl (nar_b false) ⟨false, rfl, rfl, hP⟩
        · replace hP := hP.2 hc
          refine E_iconst (v := 1) dX2_hasPart_26 (by decide) ?_
          refine E_goto 31 dX2_hasPart_27 (by decide) ?_
          exact E_nret dX2_hasPart_31 rfl (nar_b true) ⟨true, rfl, rfl, hP⟩
theorem dX3_measure_0 : decode cX3_measure 0 = .ok (.aload_n 0, 1) := by decide +kernel
theorem dX3_measure_1 : decode cX3_measure 1 = .ok (.aload_n 1, 1) := by decide +kernel
theorem dX3_measure_2 : decode cX3_measure 2 = .ok (.invokevirtual 25, 3) := by decide +kernel
theorem dX3_measure_5 : decode cX3_measure 5 = .ok (.putfield 31, 3) := by decide +kernel
theorem dX3_measure_8 : decode cX3_measure 8 = .ok (.aload_n 0, 1) := by decide +kernel
theorem dX3_measure_9 : decode cX3_measure 9 = .ok (.aload_n 1, 1) := by decide +kernel
theorem dX3_measure_10 : decode cX3_measure 10 = .ok (.getfield 35, 3) := by decide +kernel
theorem dX3_measure_13 : decode cX3_measure 13 = .ok (.putfield 38, 3) := by decide +kernel
theorem dX3_measure_16 : decode cX3_measure 16 = .ok (.aload_n 0, 1) := by decide +kernel
theorem dX3_measure_17 : decode cX3_measure 17 = .ok (.aload_n 1, 1) := by decide +kernel
theorem dX3_measure_18 : decode cX3_measure 18 = .ok (.getfield 39, 3) := by decide +kernel
theorem dX3_measure_21 : decode cX3_measure 21 = .ok (.putfield 42, 3) := by decide +kernel
theorem dX3_measure_24 : decode cX3_measure 24 = .ok (.iconst 0, 1) := by decide +kernel
theorem dX3_measure_25 : decode cX3_measure 25 = .ok (.istore_n 2, 1) := by decide +kernel
theorem dX3_measure_26 : decode cX3_measure 26 = .ok (.iload_n 2, 1) := by decide +kernel
theorem dX3_measure_27 : decode cX3_measure 27 = .ok (.iconst 4, 1) := by decide +kernel
theorem dX3_measure_28 : decode cX3_measure 28 = .ok (.if_icmp .ge 161, 3) := by decide +kernel
theorem dX3_measure_31 : decode cX3_measure 31 = .ok (.aload_n 1, 1) := by decide +kernel
theorem dX3_measure_32 : decode cX3_measure 32 = .ok (.getfield 43, 3) := by decide +kernel
theorem dX3_measure_35 : decode cX3_measure 35 = .ok (.iload_n 2, 1) := by decide +kernel
theorem dX3_measure_36 : decode cX3_measure 36 = .ok (.iaload, 1) := by decide +kernel
theorem dX3_measure_37 : decode cX3_measure 37 = .ok (.istore_n 3, 1) := by decide +kernel
theorem dX3_measure_38 : decode cX3_measure 38 = .ok (.iload_n 2, 1) := by decide +kernel
theorem dX3_measure_39 : decode cX3_measure 39 = .ok (.bipush 8, 2) := by decide +kernel
theorem dX3_measure_41 : decode cX3_measure 41 = .ok (.imul, 1) := by decide +kernel
theorem dX3_measure_42 : decode cX3_measure 42 = .ok (.istore 4, 2) := by decide +kernel
theorem dX3_measure_44 : decode cX3_measure 44 = .ok (.aload_n 0, 1) := by decide +kernel
theorem dX3_measure_45 : decode cX3_measure 45 = .ok (.getfield 11, 3) := by decide +kernel
theorem dX3_measure_48 : decode cX3_measure 48 = .ok (.iload 4, 2) := by decide +kernel
theorem dX3_measure_50 : decode cX3_measure 50 = .ok (.aload_n 1, 1) := by decide +kernel
theorem dX3_measure_51 : decode cX3_measure 51 = .ok (.getfield 46, 3) := by decide +kernel
theorem dX3_measure_54 : decode cX3_measure 54 = .ok (.iload_n 2, 1) := by decide +kernel
theorem dX3_measure_55 : decode cX3_measure 55 = .ok (.iaload, 1) := by decide +kernel
theorem dX3_measure_56 : decode cX3_measure 56 = .ok (.iastore, 1) := by decide +kernel
theorem dX3_measure_57 : decode cX3_measure 57 = .ok (.aload_n 0, 1) := by decide +kernel
theorem dX3_measure_58 : decode cX3_measure 58 = .ok (.getfield 15, 3) := by decide +kernel
theorem dX3_measure_61 : decode cX3_measure 61 = .ok (.iload 4, 2) := by decide +kernel
theorem dX3_measure_63 : decode cX3_measure 63 = .ok (.iload_n 3, 1) := by decide +kernel
theorem dX3_measure_64 : decode cX3_measure 64 = .ok (.iadd, 1) := by decide +kernel
theorem dX3_measure_65 : decode cX3_measure 65 = .ok (.iconst 0, 1) := by decide +kernel
theorem dX3_measure_66 : decode cX3_measure 66 = .ok (.iastore, 1) := by decide +kernel
theorem dX3_measure_67 : decode cX3_measure 67 = .ok (.iconst 1, 1) := by decide +kernel
theorem dX3_measure_68 : decode cX3_measure 68 = .ok (.istore 5, 2) := by decide +kernel
theorem dX3_measure_70 : decode cX3_measure 70 = .ok (.iload 5, 2) := by decide +kernel
theorem dX3_measure_72 : decode cX3_measure 72 = .ok (.iload_n 3, 1) := by decide +kernel
theorem dX3_measure_73 : decode cX3_measure 73 = .ok (.if_icmp .gt 64, 3) := by decide +kernel
theorem dX3_measure_76 : decode cX3_measure 76 = .ok (.aload_n 0, 1) := by decide +kernel
theorem dX3_measure_77 : decode cX3_measure 77 = .ok (.getfield 11, 3) := by decide +kernel
theorem dX3_measure_80 : decode cX3_measure 80 = .ok (.iload 4, 2) := by decide +kernel
theorem dX3_measure_82 : decode cX3_measure 82 = .ok (.iload 5, 2) := by decide +kernel
theorem dX3_measure_84 : decode cX3_measure 84 = .ok (.iadd, 1) := by decide +kernel
theorem dX3_measure_85 : decode cX3_measure 85 = .ok (.aload_n 0, 1) := by decide +kernel
theorem dX3_measure_86 : decode cX3_measure 86 = .ok (.getfield 11, 3) := by decide +kernel
theorem dX3_measure_89 : decode cX3_measure 89 = .ok (.iload 4, 2) := by decide +kernel
theorem dX3_measure_91 : decode cX3_measure 91 = .ok (.iload 5, 2) := by decide +kernel
theorem dX3_measure_93 : decode cX3_measure 93 = .ok (.iadd, 1) := by decide +kernel
theorem dX3_measure_94 : decode cX3_measure 94 = .ok (.iconst 1, 1) := by decide +kernel
theorem dX3_measure_95 : decode cX3_measure 95 = .ok (.isub, 1) := by decide +kernel
theorem dX3_measure_96 : decode cX3_measure 96 = .ok (.iaload, 1) := by decide +kernel
theorem dX3_measure_97 : decode cX3_measure 97 = .ok (.aload_n 1, 1) := by decide +kernel
theorem dX3_measure_98 : decode cX3_measure 98 = .ok (.iload_n 2, 1) := by decide +kernel
theorem dX3_measure_99 : decode cX3_measure 99 = .ok (.iload_n 3, 1) := by decide +kernel
theorem dX3_measure_100 : decode cX3_measure 100 = .ok (.iload 5, 2) := by decide +kernel
theorem dX3_measure_102 : decode cX3_measure 102 = .ok (.isub, 1) := by decide +kernel
theorem dX3_measure_103 : decode cX3_measure 103 = .ok (.invokevirtual 49, 3) := by decide +kernel
theorem dX3_measure_106 : decode cX3_measure 106 = .ok (.iadd, 1) := by decide +kernel
theorem dX3_measure_107 : decode cX3_measure 107 = .ok (.iastore, 1) := by decide +kernel
theorem dX3_measure_108 : decode cX3_measure 108 = .ok (.aload_n 0, 1) := by decide +kernel
theorem dX3_measure_109 : decode cX3_measure 109 = .ok (.getfield 18, 3) := by decide +kernel
theorem dX3_measure_112 : decode cX3_measure 112 = .ok (.iload 4, 2) := by decide +kernel
theorem dX3_measure_114 : decode cX3_measure 114 = .ok (.iload 5, 2) := by decide +kernel
theorem dX3_measure_116 : decode cX3_measure 116 = .ok (.iadd, 1) := by decide +kernel
theorem dX3_measure_117 : decode cX3_measure 117 = .ok (.aload_n 1, 1) := by decide +kernel
theorem dX3_measure_118 : decode cX3_measure 118 = .ok (.getfield 52, 3) := by decide +kernel
theorem dX3_measure_121 : decode cX3_measure 121 = .ok (.iload_n 2, 1) := by decide +kernel
theorem dX3_measure_122 : decode cX3_measure 122 = .ok (.iload_n 3, 1) := by decide +kernel
theorem dX3_measure_123 : decode cX3_measure 123 = .ok (.iload 5, 2) := by decide +kernel
theorem dX3_measure_125 : decode cX3_measure 125 = .ok (.isub, 1) := by decide +kernel
theorem dX3_measure_126 : decode cX3_measure 126 = .ok (.invokestatic 55, 3) := by decide +kernel
theorem dX3_measure_129 : decode cX3_measure 129 = .ok (.iaload, 1) := by decide +kernel
theorem dX3_measure_130 : decode cX3_measure 130 = .ok (.iastore, 1) := by decide +kernel
theorem dX3_measure_131 : decode cX3_measure 131 = .ok (.iinc 5 1, 3) := by decide +kernel
theorem dX3_measure_134 : decode cX3_measure 134 = .ok (.goto (-64), 3) := by decide +kernel
theorem dX3_measure_137 : decode cX3_measure 137 = .ok (.iload_n 3, 1) := by decide +kernel
theorem dX3_measure_138 : decode cX3_measure 138 = .ok (.istore 5, 2) := by decide +kernel
theorem dX3_measure_140 : decode cX3_measure 140 = .ok (.iload 5, 2) := by decide +kernel
theorem dX3_measure_142 : decode cX3_measure 142 = .ok (.ifCond .le 41, 3) := by decide +kernel
theorem dX3_measure_145 : decode cX3_measure 145 = .ok (.aload_n 0, 1) := by decide +kernel
theorem dX3_measure_146 : decode cX3_measure 146 = .ok (.getfield 15, 3) := by decide +kernel
theorem dX3_measure_149 : decode cX3_measure 149 = .ok (.iload 4, 2) := by decide +kernel
theorem dX3_measure_151 : decode cX3_measure 151 = .ok (.iload 5, 2) := by decide +kernel
theorem dX3_measure_153 : decode cX3_measure 153 = .ok (.iadd, 1) := by decide +kernel
theorem dX3_measure_154 : decode cX3_measure 154 = .ok (.iconst 1, 1) := by decide +kernel
theorem dX3_measure_155 : decode cX3_measure 155 = .ok (.isub, 1) := by decide +kernel
theorem dX3_measure_156 : decode cX3_measure 156 = .ok (.aload_n 0, 1) := by decide +kernel
theorem dX3_measure_157 : decode cX3_measure 157 = .ok (.getfield 15, 3) := by decide +kernel
theorem dX3_measure_160 : decode cX3_measure 160 = .ok (.iload 4, 2) := by decide +kernel
theorem dX3_measure_162 : decode cX3_measure 162 = .ok (.iload 5, 2) := by decide +kernel
theorem dX3_measure_164 : decode cX3_measure 164 = .ok (.iadd, 1) := by decide +kernel
theorem dX3_measure_165 : decode cX3_measure 165 = .ok (.iaload, 1) := by decide +kernel
theorem dX3_measure_166 : decode cX3_measure 166 = .ok (.aload_n 1, 1) := by decide +kernel
theorem dX3_measure_167 : decode cX3_measure 167 = .ok (.iload_n 2, 1) := by decide +kernel
theorem dX3_measure_168 : decode cX3_measure 168 = .ok (.iload_n 3, 1) := by decide +kernel
theorem dX3_measure_169 : decode cX3_measure 169 = .ok (.iload 5, 2) := by decide +kernel
theorem dX3_measure_171 : decode cX3_measure 171 = .ok (.isub, 1) := by decide +kernel
theorem dX3_measure_172 : decode cX3_measure 172 = .ok (.invokevirtual 58, 3) := by decide +kernel
theorem dX3_measure_175 : decode cX3_measure 175 = .ok (.iadd, 1) := by decide +kernel
theorem dX3_measure_176 : decode cX3_measure 176 = .ok (.iastore, 1) := by decide +kernel
theorem dX3_measure_177 : decode cX3_measure 177 = .ok (.iinc 5 (-1), 3) := by decide +kernel
theorem dX3_measure_180 : decode cX3_measure 180 = .ok (.goto (-40), 3) := by decide +kernel
theorem dX3_measure_183 : decode cX3_measure 183 = .ok (.iinc 2 1, 3) := by decide +kernel
theorem dX3_measure_186 : decode cX3_measure 186 = .ok (.goto (-160), 3) := by decide +kernel
theorem dX3_measure_189 : decode cX3_measure 189 = .ok (.return_, 1) := by decide +kernel
def rmX3_measure : Room := { frames := 2, cells := 0, slots := 0, locals := 50 }
abbrev eX3_measure := Ev cX3_measure 6 none RX3 rmX3_measure
set_option maxRecDepth 20000 in
theorem ev_X3_measure_l70 (l0 : Nat) (l1 : Nat) (l2 : Int32) (l3 : Int32) (l4 : Int32) (o_l0 : kd (l0) = 3) (o_l1 : kd (l1) = 0) (K : St → Prop) (Q : St → Prop) (hK : ∀  s, K  s → eX3_measure 137 [.ref (l0), .ref (l1), .int (l2), .int (l3), .int (l4), un] [] s (qV Q)) : ∀ (n : Nat) (l5 : Int32) (σ : St), P_X3_measure_l70 l0 l1 l2 l3 l4 K Q n l5 σ → eX3_measure 70 [.ref (l0), .ref (l1), .int (l2), .int (l3), .int (l4), .int (l5)] [] σ (qV Q) := by
  intro n
  induction n with
  | zero => intro l5 σ hP; exact hP.elim
  | succ n ih =>
    intro l5 σ hP
    rw [P_X3_measure_l70] at hP
    refine E_iload dX3_measure_70 rfl ?_
    refine E_iload_n dX3_measure_72 rfl ?_
    refine E_icmp_gt 137 dX3_measure_73 (by decide) (fun hc => ?_) (fun hc => ?_)
    · replace hP := hP.1 hc
      refine E_mask [true, true, true, true, true, false] rfl ?_
      exact hK  _ hP
    · replace hP := hP.2 hc
      refine E_aload_n dX3_measure_76 rfl ?_
      refine E_getR (j := 0) dX3_measure_77 o_l0 (by decide) rfl fd_RX3_11 (by decide) ?_
      refine E_iload dX3_measure_80 rfl ?_
      refine E_iload dX3_measure_82 rfl ?_
      refine E_iadd dX3_measure_84 ?_
      refine E_aload_n dX3_measure_85 rfl ?_
      refine E_getR (j := 0) dX3_measure_86 o_l0 (by decide) rfl fd_RX3_11 (by decide) ?_
      refine E_iload dX3_measure_89 rfl ?_
      refine E_iload dX3_measure_91 rfl ?_
      refine E_iadd dX3_measure_93 ?_
      refine E_iconst (v := 1) dX3_measure_94 (by decide) ?_
      refine E_isub dX3_measure_95 ?_
      obtain ⟨hb, hP⟩ := hP
      refine E_iald dX3_measure_96 (ar_3_1 o_l0).1 (ar_3_1 o_l0).2 hb ?_
      refine E_aload_n dX3_measure_97 rfl ?_
      refine E_iload_n dX3_measure_98 rfl ?_
      refine E_iload_n dX3_measure_99 rfl ?_
      refine E_iload dX3_measure_100 rfl ?_
      refine E_isub dX3_measure_102 ?_
      refine E_callV (As := [.int (l2), .int (l3 - l5)]) (rest := [.int (gI σ (l0 + 1) ((l4 + l5) - 1).toNatClampNeg), .int (l4 + l5), .ref (l0 + 1)]) dX3_measure_103 cl_RX3_49 tw_31 o_l1 (by decide) rfl tw_32 ⟨rfl, rfl, Nat.le_of_ble_eq_true rfl, Nat.le_of_ble_eq_true rfl⟩ rfl rfl (Nat.le_of_ble_eq_true rfl) (mt_X0_tallOf _ _ _ _ _ o_l1 hP) ?_
      intro r0 s0 hq0; obtain ⟨r103, h0, hs0, hP⟩ := hq0; subst h0; rw [hs0]
      show eX3_measure 106 [.ref (l0), .ref (l1), .int (l2), .int (l3), .int (l4), .int (l5)] [.int (r103), .int (gI σ (l0 + 1) ((l4 + l5) - 1).toNatClampNeg), .int (l4 + l5), .ref (l0 + 1)] σ _
      refine E_iadd dX3_measure_106 ?_
      obtain ⟨hb, hP⟩ := hP
      refine E_iast dX3_measure_107 (ar_3_1 o_l0).1 (ar_3_1 o_l0).2 hb ?_
      refine E_nm (fun s107 hs107 => ?_)
      replace hP := hP s107 hs107
      refine E_aload_n dX3_measure_108 rfl ?_
      refine E_getR (j := 2) dX3_measure_109 o_l0 (by decide) rfl fd_RX3_18 (by decide) ?_
      refine E_iload dX3_measure_112 rfl ?_
      refine E_iload dX3_measure_114 rfl ?_
      refine E_iadd dX3_measure_116 ?_
      refine E_aload_n dX3_measure_117 rfl ?_
      refine E_getR (j := 0) dX3_measure_118 o_l1 (by decide) rfl fd_RX3_52 (by decide) ?_
      refine E_iload_n dX3_measure_121 rfl ?_
      refine E_iload_n dX3_measure_122 rfl ?_
      refine E_iload dX3_measure_123 rfl ?_
      refine E_isub dX3_measure_125 ?_
      refine E_callS (As := [.int (l2), .int (l3 - l5)]) (rest := [.ref (l1 + 1), .int (l4 + l5), .ref (l0 + 3)]) dX3_measure_126 cl_RX3_55 tw_16 ⟨rfl, rfl, Nat.le_of_ble_eq_true rfl, Nat.le_of_ble_eq_true rfl⟩ rfl rfl (Nat.le_of_ble_eq_true rfl) (mt_X0_place _ _ _ _  hP) ?_
      intro r0 s0 hq0; obtain ⟨r126, h0, hs0, hP⟩ := hq0; subst h0; rw [hs0]
      show eX3_measure 129 [.ref (l0), .ref (l1), .int (l2), .int (l3), .int (l4), .int (l5)] [.int (r126), .ref (l1 + 1), .int (l4 + l5), .ref (l0 + 3)] s107 _
      obtain ⟨hb, hP⟩ := hP
      refine E_iald dX3_measure_129 (ar_0_1 o_l1).1 (ar_0_1 o_l1).2 hb ?_
      obtain ⟨hb, hP⟩ := hP
      refine E_iast dX3_measure_130 (ar_3_3 o_l0).1 (ar_3_3 o_l0).2 hb ?_
      refine E_iinc (ls' := [.ref (l0), .ref (l1), .int (l2), .int (l3), .int (l4), .int (l5 + 1)]) dX3_measure_131 rfl rfl (by decide) rfl ?_
      refine E_goto 70 dX3_measure_134 (by decide) ?_
      exact ih (l5 + 1) _ hP
set_option maxRecDepth 20000 in
theorem ev_X3_measure_l140 (l0 : Nat) (l1 : Nat) (l2 : Int32) (l3 : Int32) (l4 : Int32) (o_l0 : kd (l0) = 3) (o_l1 : kd (l1) = 0) (K : St → Prop) (Q : St → Prop) (hK : ∀  s, K  s → eX3_measure 183 [.ref (l0), .ref (l1), .int (l2), un, un, un] [] s (qV Q)) : ∀ (n : Nat) (l5 : Int32) (σ : St), P_X3_measure_l140 l0 l1 l2 l3 l4 K Q n l5 σ → eX3_measure 140 [.ref (l0), .ref (l1), .int (l2), .int (l3), .int (l4), .int (l5)] [] σ (qV Q) := by
  intro n
  induction n with
  | zero => intro l5 σ hP; exact hP.elim
  | succ n ih =>
    intro l5 σ hP
    rw [P_X3_measure_l140] at hP
    refine E_iload dX3_measure_140 rfl ?_
    refine E_if_le 183 dX3_measure_142 (by decide) (fun hc => ?_) (fun hc => ?_)
    · replace hP := hP.1 hc
      refine E_mask [true, true, true, false, false, false] rfl ?_
      exact hK  _ hP
    · replace hP := hP.2 hc
      refine E_aload_n dX3_measure_145 rfl ?_
      refine E_getR (j := 1) dX3_measure_146 o_l0 (by decide) rfl fd_RX3_15 (by decide) ?_
      refine E_iload dX3_measure_149 rfl ?_
      refine E_iload dX3_measure_151 rfl ?_
      refine E_iadd dX3_measure_153 ?_
      refine E_iconst (v := 1) dX3_measure_154 (by decide) ?_
      refine E_isub dX3_measure_155 ?_
      refine E_aload_n dX3_measure_156 rfl ?_
      refine E_getR (j := 1) dX3_measure_157 o_l0 (by decide) rfl fd_RX3_15 (by decide) ?_
      refine E_iload dX3_measure_160 rfl ?_
      refine E_iload dX3_measure_162 rfl ?_
      refine E_iadd dX3_measure_164 ?_
      obtain ⟨hb, hP⟩ := hP
      refine E_iald dX3_measure_165 (ar_3_2 o_l0).1 (ar_3_2 o_l0).2 hb ?_
      refine E_aload_n dX3_measure_166 rfl ?_
      refine E_iload_n dX3_measure_167 rfl ?_
      refine E_iload_n dX3_measure_168 rfl ?_
      refine E_iload dX3_measure_169 rfl ?_
      refine E_isub dX3_measure_171 ?_
      refine E_callV (As := [.int (l2), .int (l3 - l5)]) (rest := [.int (gI σ (l0 + 2) (l4 + l5).toNatClampNeg), .int ((l4 + l5) - 1), .ref (l0 + 2)]) dX3_measure_172 cl_RX3_58 tw_24 o_l1 (by decide) rfl tw_25 ⟨rfl, rfl, Nat.le_of_ble_eq_true rfl, Nat.le_of_ble_eq_true rfl⟩ rfl rfl (Nat.le_of_ble_eq_true rfl) (mt_X0_coinOf _ _ _ _ _ o_l1 hP) ?_
      intro r0 s0 hq0; obtain ⟨r172, h0, hs0, hP⟩ := hq0; subst h0; rw [hs0]
      show eX3_measure 175 [.ref (l0), .ref (l1), .int (l2), .int (l3), .int (l4), .int (l5)] [.int (r172), .int (gI σ (l0 + 2) (l4 + l5).toNatClampNeg), .int ((l4 + l5) - 1), .ref (l0 + 2)] σ _
      refine E_iadd dX3_measure_175 ?_
      obtain ⟨hb, hP⟩ := hP
      refine E_iast dX3_measure_176 (ar_3_2 o_l0).1 (ar_3_2 o_l0).2 hb ?_
      refine E_iinc (ls' := [.ref (l0), .ref (l1), .int (l2), .int (l3), .int (l4), .int (l5 + (-1))]) dX3_measure_177 rfl rfl (by decide) rfl ?_
      refine E_goto 140 dX3_measure_180 (by decide) ?_
      exact ih (l5 + (-1)) _ hP
set_option maxRecDepth 20000 in
theorem ev_X3_measure_l26 (l0 : Nat) (l1 : Nat) (o_l0 : kd (l0) = 3) (o_l1 : kd (l1) = 0) (K : St → Prop) (Q : St → Prop) (hK : ∀  s, K  s → eX3_measure 189 [un, un, un, un, un, un] [] s (qV Q)) : ∀ (n : Nat) (l2 : Int32) (σ : St), P_X3_measure_l26 l0 l1 K Q n l2 σ → eX3_measure 26 [.ref (l0), .ref (l1), .int (l2), un, un, un] [] σ (qV Q) := by
  intro n
  induction n with
  | zero => intro l2 σ hP; exact hP.elim
  | succ n ih =>
    intro l2 σ hP
    rw [P_X3_measure_l26] at hP
    refine E_iload_n dX3_measure_26 rfl ?_
    refine E_iconst (v := 4) dX3_measure_27 (by decide) ?_
    refine E_icmp_ge 189 dX3_measure_28 (by decide) (fun hc => ?_) (fun hc => ?_)
    · replace hP := hP.1 hc
      refine E_mask [false, false, false, false, false, false] rfl ?_
      exact hK  _ hP
    · replace hP := hP.2 hc
      refine E_aload_n dX3_measure_31 rfl ?_
      refine E_getR (j := 3) dX3_measure_32 o_l1 (by decide) rfl fd_RX3_43 (by decide) ?_
      refine E_iload_n dX3_measure_35 rfl ?_
      obtain ⟨hb, hP⟩ := hP
      refine E_iald dX3_measure_36 (ar_0_4 o_l1).1 (ar_0_4 o_l1).2 hb ?_
      refine E_istore_n (ls' := [.ref (l0), .ref (l1), .int (l2), .int (gI σ (l1 + 4) l2.toNatClampNeg), un, un]) dX3_measure_37 (by decide) rfl ?_
      refine E_iload_n dX3_measure_38 rfl ?_
      refine E_bipush (v := 8) dX3_measure_39 (by decide) ?_
      refine E_imul dX3_measure_41 ?_
      refine E_istore (ls' := [.ref (l0), .ref (l1), .int (l2), .int (gI σ (l1 + 4) l2.toNatClampNeg), .int (l2 * 8), un]) dX3_measure_42 (by decide) rfl ?_
      refine E_aload_n dX3_measure_44 rfl ?_
      refine E_getR (j := 0) dX3_measure_45 o_l0 (by decide) rfl fd_RX3_11 (by decide) ?_
      refine E_iload dX3_measure_48 rfl ?_
      refine E_aload_n dX3_measure_50 rfl ?_
      refine E_getR (j := 4) dX3_measure_51 o_l1 (by decide) rfl fd_RX3_46 (by decide) ?_
      refine E_iload_n dX3_measure_54 rfl ?_
      obtain ⟨hb, hP⟩ := hP
      refine E_iald dX3_measure_55 (ar_0_5 o_l1).1 (ar_0_5 o_l1).2 hb ?_
      obtain ⟨hb, hP⟩ := hP
      refine E_iast dX3_measure_56 (ar_3_1 o_l0).1 (ar_3_1 o_l0).2 hb ?_
      refine E_aload_n dX3_measure_57 rfl ?_
      refine E_getR (j := 1) dX3_measure_58 o_l0 (by decide) rfl fd_RX3_15 (by decide) ?_
      refine E_iload dX3_measure_61 rfl ?_
      refine E_iload_n dX3_measure_63 rfl ?_
      refine E_iadd dX3_measure_64 ?_
      refine E_iconst (v := 0) dX3_measure_65 (by decide) ?_
      obtain ⟨hb, hP⟩ := hP
      refine E_iast dX3_measure_66 (ar_3_2 o_l0).1 (ar_3_2 o_l0).2 hb ?_
      refine E_iconst (v := 1) dX3_measure_67 (by decide) ?_
      refine E_istore (ls' := [.ref (l0), .ref (l1), .int (l2), .int (gI σ (l1 + 4) l2.toNatClampNeg), .int (l2 * 8), .int (1)]) dX3_measure_68 (by decide) rfl ?_
      obtain ⟨m70, hP⟩ := hP
      refine ev_X3_measure_l70 (l0) (l1) (l2) (gI σ (l1 + 4) l2.toNatClampNeg) (l2 * 8) o_l0 o_l1 _ Q ?_ m70 _ _ hP
      intro  t137 hP
      refine E_iload_n dX3_measure_137 rfl ?_
      refine E_istore (ls' := [.ref (l0), .ref (l1), .int (l2), .int (gI σ (l1 + 4) l2.toNatClampNeg), .int (l2 * 8), .int (gI σ (l1 + 4) l2.toNatClampNeg)]) dX3_measure_138 (by decide) rfl ?_
      obtain ⟨m140, hP⟩ := hP
      refine ev_X3_measure_l140 (l0) (l1) (l2) (gI σ (l1 + 4) l2.toNatClampNeg) (l2 * 8) o_l0 o_l1 _ Q ?_ m140 _ _ hP
      intro  t183 hP
      refine E_iinc (ls' := [.ref (l0), .ref (l1), .int (l2 + 1), un, un, un]) dX3_measure_183 rfl rfl (by decide) rfl ?_
      refine E_goto 26 dX3_measure_186 (by decide) ?_
      exact ih (l2 + 1) _ hP
set_option maxRecDepth 20000 in
theorem mt_X3_measure (a0 : Nat) (p0 : Nat) (σ : St) (Q : St → Prop) (o_a0 : kd a0 = 3) (o_p0 : kd p0 = 0) (hP : P_X3_measure a0 p0 σ Q) : Mt yX3_measure cX3_measure 6 none rmX3_measure [.ref (a0), .ref (p0)] σ (qV Q) := by
  refine Mt.of (k := 4) (ls := [.ref (a0), .ref (p0), un, un, un, un]) (by decide +kernel) rfl (Nat.le_of_ble_eq_true rfl) ?_
  show eX3_measure 0 [.ref (a0), .ref (p0), un, un, un, un] [] σ _
  unfold P_X3_measure at hP
  refine E_aload_n dX3_measure_0 rfl ?_
  refine E_aload_n dX3_measure_1 rfl ?_
  refine E_callV (As := []) (rest := [.ref (a0)]) dX3_measure_2 cl_RX3_25 tw_53 o_p0 (by decide) rfl tw_54 ⟨rfl, rfl, Nat.le_of_ble_eq_true rfl, Nat.le_of_ble_eq_true rfl⟩ rfl rfl (Nat.le_of_ble_eq_true rfl) (mt_X0_standNow _ _ _ o_p0 hP) ?_
  intro r0 s0 hq0; obtain ⟨r2, h0, hs0, hP⟩ := hq0; subst h0; rw [hs0]
  show eX3_measure 5 [.ref (a0), .ref (p0), un, un, un, un] [.int (r2), .ref (a0)] σ _
  refine E_putI (j := 3) dX3_measure_5 o_a0 (by decide) rfl fd_RX3_31 fp_3_3 ?_
  refine E_nm (fun s5 hs5 => ?_)
  replace hP := hP s5 hs5
  refine E_aload_n dX3_measure_8 rfl ?_
  refine E_aload_n dX3_measure_9 rfl ?_
  refine E_getI (j := 5) dX3_measure_10 o_p0 (by decide) rfl fd_RX3_35 ?_
  refine E_putI (j := 4) dX3_measure_13 o_a0 (by decide) rfl fd_RX3_38 fp_3_4 ?_
  refine E_aload_n dX3_measure_16 rfl ?_
  refine E_aload_n dX3_measure_17 rfl ?_
  refine E_getI (j := 6) dX3_measure_18 o_p0 (by decide) rfl fd_RX3_39 ?_
  refine E_putI (j := 5) dX3_measure_21 o_a0 (by decide) rfl fd_RX3_42 fp_3_5 ?_
  refine E_iconst (v := 0) dX3_measure_24 (by decide) ?_
  refine E_istore_n (ls' := [.ref (a0), .ref (p0), .int (0), un, un, un]) dX3_measure_25 (by decide) rfl ?_
  obtain ⟨m26, hP⟩ := hP
  refine ev_X3_measure_l26 (a0) (p0) o_a0 o_p0 _ Q ?_ m26 _ _ hP
  intro  t189 hP
  exact E_vret dX3_measure_189 rfl ⟨rfl, hP⟩
theorem dX4_append_0 : decode cX4_append 0 = .ok (.aload_n 0, 1) := by decide +kernel
theorem dX4_append_1 : decode cX4_append 1 = .ok (.getfield 9, 3) := by decide +kernel
theorem dX4_append_4 : decode cX4_append 4 = .ok (.aload_n 0, 1) := by decide +kernel
theorem dX4_append_5 : decode cX4_append 5 = .ok (.getfield 15, 3) := by decide +kernel
theorem dX4_append_8 : decode cX4_append 8 = .ok (.iload_n 1, 1) := by decide +kernel
theorem dX4_append_9 : decode cX4_append 9 = .ok (.iastore, 1) := by decide +kernel
theorem dX4_append_10 : decode cX4_append 10 = .ok (.aload_n 0, 1) := by decide +kernel
theorem dX4_append_11 : decode cX4_append 11 = .ok (.dup, 1) := by decide +kernel
theorem dX4_append_12 : decode cX4_append 12 = .ok (.getfield 15, 3) := by decide +kernel
theorem dX4_append_15 : decode cX4_append 15 = .ok (.iconst 1, 1) := by decide +kernel
theorem dX4_append_16 : decode cX4_append 16 = .ok (.iadd, 1) := by decide +kernel
theorem dX4_append_17 : decode cX4_append 17 = .ok (.putfield 15, 3) := by decide +kernel
theorem dX4_append_20 : decode cX4_append 20 = .ok (.return_, 1) := by decide +kernel
def rmX4_append : Room := { frames := 0, cells := 0, slots := 0, locals := 0 }
abbrev eX4_append := Ev cX4_append 2 none RX4 rmX4_append
set_option maxRecDepth 20000 in
theorem mt_X4_append (p0 : Int32) (σ : St) (Q : St → Prop)  (hP : P_X4_append p0 σ Q) : Mt yX4_append cX4_append 2 none rmX4_append [.ref (27), .int (p0)] σ (qV Q) := by
  refine Mt.of (k := 0) (ls := [.ref (27), .int (p0)]) (by decide +kernel) rfl (Nat.le_of_ble_eq_true rfl) ?_
  show eX4_append 0 [.ref (27), .int (p0)] [] σ _
  unfold P_X4_append at hP
  refine E_aload_n dX4_append_0 rfl ?_
  refine E_getR (j := 0) dX4_append_1 (show kd 27 = 4 by decide) (by decide) rfl fd_RX4_9 (by decide) ?_
  refine E_aload_n dX4_append_4 rfl ?_
  refine E_getI (j := 1) dX4_append_5 (show kd 27 = 4 by decide) (by decide) rfl fd_RX4_15 ?_
  refine E_iload_n dX4_append_8 rfl ?_
  obtain ⟨hb, hP⟩ := hP
  refine E_iast dX4_append_9 (ar_4_1 (show kd 27 = 4 by decide)).1 (ar_4_1 (show kd 27 = 4 by decide)).2 hb ?_
  refine E_aload_n dX4_append_10 rfl ?_
  refine E_dup dX4_append_11 rfl ?_
  refine E_getI (j := 1) dX4_append_12 (show kd 27 = 4 by decide) (by decide) rfl fd_RX4_15 ?_
  refine E_iconst (v := 1) dX4_append_15 (by decide) ?_
  refine E_iadd dX4_append_16 ?_
  refine E_putI (j := 1) dX4_append_17 (show kd 27 = 4 by decide) (by decide) rfl fd_RX4_15 fp_4_1 ?_
  exact E_vret dX4_append_20 rfl ⟨rfl, hP⟩
theorem dX6_isWithin_0 : decode cX6_isWithin 0 = .ok (.iload_n 0, 1) := by decide +kernel
theorem dX6_isWithin_1 : decode cX6_isWithin 1 = .ok (.iload_n 1, 1) := by decide +kernel
theorem dX6_isWithin_2 : decode cX6_isWithin 2 = .ok (.if_icmp .lt 12, 3) := by decide +kernel
theorem dX6_isWithin_5 : decode cX6_isWithin 5 = .ok (.iload_n 0, 1) := by decide +kernel
theorem dX6_isWithin_6 : decode cX6_isWithin 6 = .ok (.iload_n 2, 1) := by decide +kernel
theorem dX6_isWithin_7 : decode cX6_isWithin 7 = .ok (.if_icmp .gt 7, 3) := by decide +kernel
theorem dX6_isWithin_10 : decode cX6_isWithin 10 = .ok (.iconst 1, 1) := by decide +kernel
theorem dX6_isWithin_11 : decode cX6_isWithin 11 = .ok (.goto 4, 3) := by decide +kernel
theorem dX6_isWithin_14 : decode cX6_isWithin 14 = .ok (.iconst 0, 1) := by decide +kernel
theorem dX6_isWithin_15 : decode cX6_isWithin 15 = .ok (.ireturn, 1) := by decide +kernel
def rmX6_isWithin : Room := { frames := 0, cells := 0, slots := 0, locals := 0 }
abbrev eX6_isWithin := Ev cX6_isWithin 3 (some .boolean) RX6 rmX6_isWithin
set_option maxRecDepth 20000 in
theorem mt_X6_isWithin (p0 : Int32) (p1 : Int32) (p2 : Int32) (σ : St) (Q : Bool → Prop)  (hP : P_X6_isWithin p0 p1 p2 σ Q) : Mt yX6_isWithin cX6_isWithin 3 (some .boolean) rmX6_isWithin [.int (p0), .int (p1), .int (p2)] σ (qB fun x s => s = σ ∧ Q x) := by
  refine Mt.of (k := 0) (ls := [.int (p0), .int (p1), .int (p2)]) (by decide +kernel) rfl (Nat.le_of_ble_eq_true rfl) ?_
  show eX6_isWithin 0 [.int (p0), .int (p1), .int (p2)] [] σ _
  unfold P_X6_isWithin at hP
  refine E_iload_n dX6_isWithin_0 rfl ?_
  refine E_iload_n dX6_isWithin_1 rfl ?_
  refine E_icmp_lt 14 dX6_isWithin_2 (by decide) (fun hc => ?_) (fun hc => ?_)
  · replace hP := hP.1 hc
    refine E_iconst (v := 0) dX6_isWithin_14 (by decide) ?_
    exact E_nret dX6_isWithin_15 rfl (nar_b false) ⟨false, rfl, rfl, hP⟩
  · replace hP := hP.2 hc
    refine E_iload_n dX6_isWithin_5 rfl ?_
    refine E_iload_n dX6_isWithin_6 rfl ?_
    refine E_icmp_gt 14 dX6_isWithin_7 (by decide) (fun hc => ?_) (fun hc => ?_)
    · replace hP := hP.1 hc
      refine E_iconst (v := 0) dX6_isWithin_14 (by decide) ?_
      exact E_nret dX6_isWithin_15 rfl (nar_b false) ⟨false, rfl, rfl, hP⟩
    · replace hP := hP.2 hc
      refine E_iconst (v := 1) dX6_isWithin_10 (by decide) ?_
      refine E_goto 15 dX6_isWithin_11 (by decide) ?_
      exact E_nret dX6_isWithin_15 rfl (nar_b true) ⟨true, rfl, rfl, hP⟩
theorem dX4_isDigit_0 : decode cX4_isDigit 0 = .ok (.aload_n 0, 1) := by decide +kernel
theorem dX4_isDigit_1 : decode cX4_isDigit 1 = .ok (.getfield 9, 3) := by decide +kernel
theorem dX4_isDigit_4 : decode cX4_isDigit 4 = .ok (.iload_n 1, 1) := by decide +kernel
theorem dX4_isDigit_5 : decode cX4_isDigit 5 = .ok (.iaload, 1) := by decide +kernel
theorem dX4_isDigit_6 : decode cX4_isDigit 6 = .ok (.bipush 48, 2) := by decide +kernel
theorem dX4_isDigit_8 : decode cX4_isDigit 8 = .ok (.bipush 57, 2) := by decide +kernel
theorem dX4_isDigit_10 : decode cX4_isDigit 10 = .ok (.invokestatic 53, 3) := by decide +kernel
theorem dX4_isDigit_13 : decode cX4_isDigit 13 = .ok (.ireturn, 1) := by decide +kernel
def rmX4_isDigit : Room := { frames := 1, cells := 0, slots := 0, locals := 22 }
abbrev eX4_isDigit := Ev cX4_isDigit 2 (some .boolean) RX4 rmX4_isDigit
set_option maxRecDepth 20000 in
theorem mt_X4_isDigit (p0 : Int32) (σ : St) (Q : Bool → Prop)  (hP : P_X4_isDigit p0 σ Q) : Mt yX4_isDigit cX4_isDigit 2 (some .boolean) rmX4_isDigit [.ref (27), .int (p0)] σ (qB fun x s => s = σ ∧ Q x) := by
  refine Mt.of (k := 0) (ls := [.ref (27), .int (p0)]) (by decide +kernel) rfl (Nat.le_of_ble_eq_true rfl) ?_
  show eX4_isDigit 0 [.ref (27), .int (p0)] [] σ _
  unfold P_X4_isDigit at hP
  refine E_aload_n dX4_isDigit_0 rfl ?_
  refine E_getR (j := 0) dX4_isDigit_1 (show kd 27 = 4 by decide) (by decide) rfl fd_RX4_9 (by decide) ?_
  refine E_iload_n dX4_isDigit_4 rfl ?_
  obtain ⟨hb, hP⟩ := hP
  refine E_iald dX4_isDigit_5 (ar_4_1 (show kd 27 = 4 by decide)).1 (ar_4_1 (show kd 27 = 4 by decide)).2 hb ?_
  refine E_bipush (v := 48) dX4_isDigit_6 (by decide) ?_
  refine E_bipush (v := 57) dX4_isDigit_8 (by decide) ?_
  refine E_callN (n := 3) (As := [.int (gI σ 28 p0.toNatClampNeg), .int (48), .int (57)]) (rest := []) rfl dX4_isDigit_10 tw_141 tw_142 (by decide +kernel) tw_143 ⟨rfl, rfl, Nat.le_of_ble_eq_true rfl, Nat.le_of_ble_eq_true rfl⟩ rfl rfl (Nat.le_of_ble_eq_true rfl) (mt_X6_isWithin _ _ _ _ _  hP) ?_
  intro r0 s0 hq0; obtain ⟨r10, h0, hs0, hP⟩ := hq0; subst h0; rw [hs0]
  show eX4_isDigit 13 [.ref (27), .int (p0)] [.int (bI r10)] σ _
  exact E_nret dX4_isDigit_13 rfl (nar_b r10) ⟨r10, rfl, rfl, hP⟩
theorem dX4_isLetter_0 : decode cX4_isLetter 0 = .ok (.aload_n 0, 1) := by decide +kernel
theorem dX4_isLetter_1 : decode cX4_isLetter 1 = .ok (.getfield 9, 3) := by decide +kernel
theorem dX4_isLetter_4 : decode cX4_isLetter 4 = .ok (.iload_n 1, 1) := by decide +kernel
theorem dX4_isLetter_5 : decode cX4_isLetter 5 = .ok (.iaload, 1) := by decide +kernel
theorem dX4_isLetter_6 : decode cX4_isLetter 6 = .ok (.bipush 97, 2) := by decide +kernel
theorem dX4_isLetter_8 : decode cX4_isLetter 8 = .ok (.bipush 122, 2) := by decide +kernel
theorem dX4_isLetter_10 : decode cX4_isLetter 10 = .ok (.invokestatic 53, 3) := by decide +kernel
theorem dX4_isLetter_13 : decode cX4_isLetter 13 = .ok (.ireturn, 1) := by decide +kernel
def rmX4_isLetter : Room := { frames := 1, cells := 0, slots := 0, locals := 22 }
abbrev eX4_isLetter := Ev cX4_isLetter 2 (some .boolean) RX4 rmX4_isLetter
set_option maxRecDepth 20000 in
theorem mt_X4_isLetter (p0 : Int32) (σ : St) (Q : Bool → Prop)  (hP : P_X4_isLetter p0 σ Q) : Mt yX4_isLetter cX4_isLetter 2 (some .boolean) rmX4_isLetter [.ref (27), .int (p0)] σ (qB fun x s => s = σ ∧ Q x) := by
  refine Mt.of (k := 0) (ls := [.ref (27), .int (p0)]) (by decide +kernel) rfl (Nat.le_of_ble_eq_true rfl) ?_
  show eX4_isLetter 0 [.ref (27), .int (p0)] [] σ _
  unfold P_X4_isLetter at hP
  refine E_aload_n dX4_isLetter_0 rfl ?_
  refine E_getR (j := 0) dX4_isLetter_1 (show kd 27 = 4 by decide) (by decide) rfl fd_RX4_9 (by decide) ?_
  refine E_iload_n dX4_isLetter_4 rfl ?_
  obtain ⟨hb, hP⟩ := hP
  refine E_iald dX4_isLetter_5 (ar_4_1 (show kd 27 = 4 by decide)).1 (ar_4_1 (show kd 27 = 4 by decide)).2 hb ?_
  refine E_bipush (v := 97) dX4_isLetter_6 (by decide) ?_
  refine E_bipush (v := 122) dX4_isLetter_8 (by decide) ?_
  refine E_callN (n := 3) (As := [.int (gI σ 28 p0.toNatClampNeg), .int (97), .int (122)]) (rest := []) rfl dX4_isLetter_10 tw_141 tw_142 (by decide +kernel) tw_143 ⟨rfl, rfl, Nat.le_of_ble_eq_true rfl, Nat.le_of_ble_eq_true rfl⟩ rfl rfl (Nat.le_of_ble_eq_true rfl) (mt_X6_isWithin _ _ _ _ _  hP) ?_
  intro r0 s0 hq0; obtain ⟨r10, h0, hs0, hP⟩ := hq0; subst h0; rw [hs0]
  show eX4_isLetter 13 [.ref (27), .int (p0)] [.int (bI r10)] σ _
  exact E_nret dX4_isLetter_13 rfl (nar_b r10) ⟨r10, rfl, rfl, hP⟩
theorem dX4_skipDigits_0 : decode cX4_skipDigits 0 = .ok (.aload_n 0, 1) := by decide +kernel
theorem dX4_skipDigits_1 : decode cX4_skipDigits 1 = .ok (.iconst 0, 1) := by decide +kernel
theorem dX4_skipDigits_2 : decode cX4_skipDigits 2 = .ok (.putfield 44, 3) := by decide +kernel
theorem dX4_skipDigits_5 : decode cX4_skipDigits 5 = .ok (.aload_n 0, 1) := by decide +kernel
theorem dX4_skipDigits_6 : decode cX4_skipDigits 6 = .ok (.getfield 19, 3) := by decide +kernel
theorem dX4_skipDigits_9 : decode cX4_skipDigits 9 = .ok (.aload_n 0, 1) := by decide +kernel
theorem dX4_skipDigits_10 : decode cX4_skipDigits 10 = .ok (.getfield 15, 3) := by decide +kernel
theorem dX4_skipDigits_13 : decode cX4_skipDigits 13 = .ok (.if_icmp .ge 57, 3) := by decide +kernel
theorem dX4_skipDigits_16 : decode cX4_skipDigits 16 = .ok (.aload_n 0, 1) := by decide +kernel
theorem dX4_skipDigits_17 : decode cX4_skipDigits 17 = .ok (.aload_n 0, 1) := by decide +kernel
theorem dX4_skipDigits_18 : decode cX4_skipDigits 18 = .ok (.getfield 19, 3) := by decide +kernel
theorem dX4_skipDigits_21 : decode cX4_skipDigits 21 = .ok (.invokevirtual 38, 3) := by decide +kernel
theorem dX4_skipDigits_24 : decode cX4_skipDigits 24 = .ok (.ifCond .eq 46, 3) := by decide +kernel
theorem dX4_skipDigits_27 : decode cX4_skipDigits 27 = .ok (.aload_n 0, 1) := by decide +kernel
theorem dX4_skipDigits_28 : decode cX4_skipDigits 28 = .ok (.sipush 1000, 3) := by decide +kernel
theorem dX4_skipDigits_31 : decode cX4_skipDigits 31 = .ok (.bipush 10, 2) := by decide +kernel
theorem dX4_skipDigits_33 : decode cX4_skipDigits 33 = .ok (.aload_n 0, 1) := by decide +kernel
theorem dX4_skipDigits_34 : decode cX4_skipDigits 34 = .ok (.getfield 44, 3) := by decide +kernel
theorem dX4_skipDigits_37 : decode cX4_skipDigits 37 = .ok (.imul, 1) := by decide +kernel
theorem dX4_skipDigits_38 : decode cX4_skipDigits 38 = .ok (.aload_n 0, 1) := by decide +kernel
theorem dX4_skipDigits_39 : decode cX4_skipDigits 39 = .ok (.getfield 9, 3) := by decide +kernel
theorem dX4_skipDigits_42 : decode cX4_skipDigits 42 = .ok (.aload_n 0, 1) := by decide +kernel
theorem dX4_skipDigits_43 : decode cX4_skipDigits 43 = .ok (.getfield 19, 3) := by decide +kernel
theorem dX4_skipDigits_46 : decode cX4_skipDigits 46 = .ok (.iaload, 1) := by decide +kernel
theorem dX4_skipDigits_47 : decode cX4_skipDigits 47 = .ok (.iadd, 1) := by decide +kernel
theorem dX4_skipDigits_48 : decode cX4_skipDigits 48 = .ok (.bipush 48, 2) := by decide +kernel
theorem dX4_skipDigits_50 : decode cX4_skipDigits 50 = .ok (.isub, 1) := by decide +kernel
theorem dX4_skipDigits_51 : decode cX4_skipDigits 51 = .ok (.invokestatic 47, 3) := by decide +kernel
theorem dX4_skipDigits_54 : decode cX4_skipDigits 54 = .ok (.putfield 44, 3) := by decide +kernel
theorem dX4_skipDigits_57 : decode cX4_skipDigits 57 = .ok (.aload_n 0, 1) := by decide +kernel
theorem dX4_skipDigits_58 : decode cX4_skipDigits 58 = .ok (.dup, 1) := by decide +kernel
theorem dX4_skipDigits_59 : decode cX4_skipDigits 59 = .ok (.getfield 19, 3) := by decide +kernel
theorem dX4_skipDigits_62 : decode cX4_skipDigits 62 = .ok (.iconst 1, 1) := by decide +kernel
theorem dX4_skipDigits_63 : decode cX4_skipDigits 63 = .ok (.iadd, 1) := by decide +kernel
theorem dX4_skipDigits_64 : decode cX4_skipDigits 64 = .ok (.putfield 19, 3) := by decide +kernel
theorem dX4_skipDigits_67 : decode cX4_skipDigits 67 = .ok (.goto (-62), 3) := by decide +kernel
theorem dX4_skipDigits_70 : decode cX4_skipDigits 70 = .ok (.return_, 1) := by decide +kernel
def rmX4_skipDigits : Room := { frames := 2, cells := 0, slots := 0, locals := 43 }
abbrev eX4_skipDigits := Ev cX4_skipDigits 1 none RX4 rmX4_skipDigits
set_option maxRecDepth 20000 in
theorem ev_X4_skipDigits_l5   (K : St → Prop) (Q : St → Prop) (hK : ∀  s, K  s → eX4_skipDigits 70 [un] [] s (qV Q)) : ∀ (n : Nat)  (σ : St), P_X4_skipDigits_l5  K Q n  σ → eX4_skipDigits 5 [.ref (27)] [] σ (qV Q) := by
  intro n
  induction n with
  | zero => intro  σ hP; exact hP.elim
  | succ n ih =>
    intro  σ hP
    rw [P_X4_skipDigits_l5] at hP
    refine E_aload_n dX4_skipDigits_5 rfl ?_
    refine E_getI (j := 5) dX4_skipDigits_6 (show kd 27 = 4 by decide) (by decide) rfl fd_RX4_19 ?_
    refine E_aload_n dX4_skipDigits_9 rfl ?_
    refine E_getI (j := 1) dX4_skipDigits_10 (show kd 27 = 4 by decide) (by decide) rfl fd_RX4_15 ?_
    refine E_icmp_ge 70 dX4_skipDigits_13 (by decide) (fun hc => ?_) (fun hc => ?_)
    · replace hP := hP.1 hc
      refine E_mask [false] rfl ?_
      exact hK  _ hP
    · replace hP := hP.2 hc
      refine E_aload_n dX4_skipDigits_16 rfl ?_
      refine E_aload_n dX4_skipDigits_17 rfl ?_
      refine E_getI (j := 5) dX4_skipDigits_18 (show kd 27 = 4 by decide) (by decide) rfl fd_RX4_19 ?_
      refine E_callV (As := [.int (gI σ 27 5)]) (rest := []) dX4_skipDigits_21 cl_RX4_38 tw_150 (show kd 27 = 4 by decide) (by decide) rfl tw_151 ⟨rfl, rfl, Nat.le_of_ble_eq_true rfl, Nat.le_of_ble_eq_true rfl⟩ rfl rfl (Nat.le_of_ble_eq_true rfl) (mt_X4_isDigit _ _ _  hP) ?_
      intro r0 s0 hq0; obtain ⟨r21, h0, hs0, hP⟩ := hq0; subst h0; rw [hs0]
      show eX4_skipDigits 24 [.ref (27)] [.int (bI r21)] σ _
      refine E_ifz_eq 70 dX4_skipDigits_24 (by decide) (fun hc => ?_) (fun hc => ?_)
      · replace hP := hP.1 hc
        refine E_mask [false] rfl ?_
        exact hK  _ hP
      · replace hP := hP.2 hc
        refine E_aload_n dX4_skipDigits_27 rfl ?_
        refine E_sipush (v := 1000) dX4_skipDigits_28 (by decide) ?_
        refine E_bipush (v := 10) dX4_skipDigits_31 (by decide) ?_
        refine E_aload_n dX4_skipDigits_33 rfl ?_
        refine E_getI (j := 4) dX4_skipDigits_34 (show kd 27 = 4 by decide) (by decide) rfl fd_RX4_44 ?_
        refine E_imul dX4_skipDigits_37 ?_
        refine E_aload_n dX4_skipDigits_38 rfl ?_
        refine E_getR (j := 0) dX4_skipDigits_39 (show kd 27 = 4 by decide) (by decide) rfl fd_RX4_9 (by decide) ?_
        refine E_aload_n dX4_skipDigits_42 rfl ?_
        refine E_getI (j := 5) dX4_skipDigits_43 (show kd 27 = 4 by decide) (by decide) rfl fd_RX4_19 ?_
        obtain ⟨hb, hP⟩ := hP
        refine E_iald dX4_skipDigits_46 (ar_4_1 (show kd 27 = 4 by decide)).1 (ar_4_1 (show kd 27 = 4 by decide)).2 hb ?_
        refine E_iadd dX4_skipDigits_47 ?_
        refine E_bipush (v := 48) dX4_skipDigits_48 (by decide) ?_
        refine E_isub dX4_skipDigits_50 ?_
        refine E_min dX4_skipDigits_51 tw_146 tw_19 tw_20 tw_21 ⟨Nat.le_of_ble_eq_true rfl, Nat.le_of_ble_eq_true rfl⟩ ?_
        refine E_putI (j := 4) dX4_skipDigits_54 (show kd 27 = 4 by decide) (by decide) rfl fd_RX4_44 fp_4_4 ?_
        refine E_aload_n dX4_skipDigits_57 rfl ?_
        refine E_dup dX4_skipDigits_58 rfl ?_
        refine E_getI (j := 5) dX4_skipDigits_59 (show kd 27 = 4 by decide) (by decide) rfl fd_RX4_19 ?_
        refine E_iconst (v := 1) dX4_skipDigits_62 (by decide) ?_
        refine E_iadd dX4_skipDigits_63 ?_
        refine E_putI (j := 5) dX4_skipDigits_64 (show kd 27 = 4 by decide) (by decide) rfl fd_RX4_19 fp_4_5 ?_
        refine E_goto 5 dX4_skipDigits_67 (by decide) ?_
        exact ih  _ hP
set_option maxRecDepth 20000 in
theorem mt_X4_skipDigits  (σ : St) (Q : St → Prop)  (hP : P_X4_skipDigits  σ Q) : Mt yX4_skipDigits cX4_skipDigits 1 none rmX4_skipDigits [.ref (27)] σ (qV Q) := by
  refine Mt.of (k := 0) (ls := [.ref (27)]) (by decide +kernel) rfl (Nat.le_of_ble_eq_true rfl) ?_
  show eX4_skipDigits 0 [.ref (27)] [] σ _
  unfold P_X4_skipDigits at hP
  refine E_aload_n dX4_skipDigits_0 rfl ?_
  refine E_iconst (v := 0) dX4_skipDigits_1 (by decide) ?_
  refine E_putI (j := 4) dX4_skipDigits_2 (show kd 27 = 4 by decide) (by decide) rfl fd_RX4_44 fp_4_4 ?_
  obtain ⟨m5, hP⟩ := hP
  refine ev_X4_skipDigits_l5   _ Q ?_ m5  _ hP
  intro  t70 hP
  exact E_vret dX4_skipDigits_70 rfl ⟨rfl, hP⟩
theorem dX4_skipLetters_0 : decode cX4_skipLetters 0 = .ok (.aload_n 0, 1) := by decide +kernel
theorem dX4_skipLetters_1 : decode cX4_skipLetters 1 = .ok (.getfield 19, 3) := by decide +kernel
theorem dX4_skipLetters_4 : decode cX4_skipLetters 4 = .ok (.aload_n 0, 1) := by decide +kernel
theorem dX4_skipLetters_5 : decode cX4_skipLetters 5 = .ok (.getfield 15, 3) := by decide +kernel
theorem dX4_skipLetters_8 : decode cX4_skipLetters 8 = .ok (.if_icmp .ge 27, 3) := by decide +kernel
theorem dX4_skipLetters_11 : decode cX4_skipLetters 11 = .ok (.aload_n 0, 1) := by decide +kernel
theorem dX4_skipLetters_12 : decode cX4_skipLetters 12 = .ok (.aload_n 0, 1) := by decide +kernel
theorem dX4_skipLetters_13 : decode cX4_skipLetters 13 = .ok (.getfield 19, 3) := by decide +kernel
theorem dX4_skipLetters_16 : decode cX4_skipLetters 16 = .ok (.invokevirtual 31, 3) := by decide +kernel
theorem dX4_skipLetters_19 : decode cX4_skipLetters 19 = .ok (.ifCond .eq 16, 3) := by decide +kernel
theorem dX4_skipLetters_22 : decode cX4_skipLetters 22 = .ok (.aload_n 0, 1) := by decide +kernel
theorem dX4_skipLetters_23 : decode cX4_skipLetters 23 = .ok (.dup, 1) := by decide +kernel
theorem dX4_skipLetters_24 : decode cX4_skipLetters 24 = .ok (.getfield 19, 3) := by decide +kernel
theorem dX4_skipLetters_27 : decode cX4_skipLetters 27 = .ok (.iconst 1, 1) := by decide +kernel
theorem dX4_skipLetters_28 : decode cX4_skipLetters 28 = .ok (.iadd, 1) := by decide +kernel
theorem dX4_skipLetters_29 : decode cX4_skipLetters 29 = .ok (.putfield 19, 3) := by decide +kernel
theorem dX4_skipLetters_32 : decode cX4_skipLetters 32 = .ok (.goto (-32), 3) := by decide +kernel
theorem dX4_skipLetters_35 : decode cX4_skipLetters 35 = .ok (.return_, 1) := by decide +kernel
def rmX4_skipLetters : Room := { frames := 2, cells := 0, slots := 0, locals := 43 }
abbrev eX4_skipLetters := Ev cX4_skipLetters 1 none RX4 rmX4_skipLetters
set_option maxRecDepth 20000 in
theorem ev_X4_skipLetters_l0   (K : St → Prop) (Q : St → Prop) (hK : ∀  s, K  s → eX4_skipLetters 35 [un] [] s (qV Q)) : ∀ (n : Nat)  (σ : St), P_X4_skipLetters_l0  K Q n  σ → eX4_skipLetters 0 [.ref (27)] [] σ (qV Q) := by
  intro n
  induction n with
  | zero => intro  σ hP; exact hP.elim
  | succ n ih =>
    intro  σ hP
    rw [P_X4_skipLetters_l0] at hP
    refine E_aload_n dX4_skipLetters_0 rfl ?_
    refine E_getI (j := 5) dX4_skipLetters_1 (show kd 27 = 4 by decide) (by decide) rfl fd_RX4_19 ?_
    refine E_aload_n dX4_skipLetters_4 rfl ?_
    refine E_getI (j := 1) dX4_skipLetters_5 (show kd 27 = 4 by decide) (by decide) rfl fd_RX4_15 ?_
    refine E_icmp_ge 35 dX4_skipLetters_8 (by decide) (fun hc => ?_) (fun hc => ?_)
    · replace hP := hP.1 hc
      refine E_mask [false] rfl ?_
      exact hK  _ hP
    · replace hP := hP.2 hc
      refine E_aload_n dX4_skipLetters_11 rfl ?_
      refine E_aload_n dX4_skipLetters_12 rfl ?_
      refine E_getI (j := 5) dX4_skipLetters_13 (show kd 27 = 4 by decide) (by decide) rfl fd_RX4_19 ?_
      refine E_callV (As := [.int (gI σ 27 5)]) (rest := []) dX4_skipLetters_16 cl_RX4_31 tw_154 (show kd 27 = 4 by decide) (by decide) rfl tw_155 ⟨rfl, rfl, Nat.le_of_ble_eq_true rfl, Nat.le_of_ble_eq_true rfl⟩ rfl rfl (Nat.le_of_ble_eq_true rfl) (mt_X4_isLetter _ _ _  hP) ?_
      intro r0 s0 hq0; obtain ⟨r16, h0, hs0, hP⟩ := hq0; subst h0; rw [hs0]
      show eX4_skipLetters 19 [.ref (27)] [.int (bI r16)] σ _
      refine E_ifz_eq 35 dX4_skipLetters_19 (by decide) (fun hc => ?_) (fun hc => ?_)
      · replace hP := hP.1 hc
        refine E_mask [false] rfl ?_
        exact hK  _ hP
      · replace hP := hP.2 hc
        refine E_aload_n dX4_skipLetters_22 rfl ?_
        refine E_dup dX4_skipLetters_23 rfl ?_
        refine E_getI (j := 5) dX4_skipLetters_24 (show kd 27 = 4 by decide) (by decide) rfl fd_RX4_19 ?_
        refine E_iconst (v := 1) dX4_skipLetters_27 (by decide) ?_
        refine E_iadd dX4_skipLetters_28 ?_
        refine E_putI (j := 5) dX4_skipLetters_29 (show kd 27 = 4 by decide) (by decide) rfl fd_RX4_19 fp_4_5 ?_
        refine E_goto 0 dX4_skipLetters_32 (by decide) ?_
        exact ih  _ hP
set_option maxRecDepth 20000 in
theorem mt_X4_skipLetters  (σ : St) (Q : St → Prop)  (hP : P_X4_skipLetters  σ Q) : Mt yX4_skipLetters cX4_skipLetters 1 none rmX4_skipLetters [.ref (27)] σ (qV Q) := by
  refine Mt.of (k := 0) (ls := [.ref (27)]) (by decide +kernel) rfl (Nat.le_of_ble_eq_true rfl) ?_
  show eX4_skipLetters 0 [.ref (27)] [] σ _
  unfold P_X4_skipLetters at hP
  obtain ⟨m0, hP⟩ := hP
  refine ev_X4_skipLetters_l0   _ Q ?_ m0  _ hP
  intro  t35 hP
  exact E_vret dX4_skipLetters_35 rfl ⟨rfl, hP⟩
